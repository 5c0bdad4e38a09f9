/-! the reference's advice -/
def mAdvB (V : fTn) (j k : Nat) : Bool := eStands (tE V j) && (decide (tH V k 3 = 1) && decide (aDist (tE V j 0) (tH V k 0) ≤ 6))
def mAdvV (U : fTn) (j N : Nat) : Nat → fTn
  | 0 => U
  | k + 1 => if mAdvB (mAdvV U j N k) j k = true then backT (goU (aimT (mAdvV U j N k) j k) N).1 U else mAdvV U j N k
def fallM (U : fTn) (j N k : Nat) : Int32 := cntH (tH (goU (aimT (mAdvV U j N k) j k) N).1) 3 (tHn (goU (aimT (mAdvV U j N k) j k) N).1)
def mAdvF (U : fTn) (j N : Nat) : Nat → Int32 × Int32
  | 0 => (-1, 31)
  | k + 1 => if mAdvB (mAdvV U j N k) j k = true then (if fallM U j N k < (mAdvF U j N k).2 then (nI k, fallM U j N k) else mAdvF U j N k) else mAdvF U j N k
theorem mAdvV_yes {U : fTn} {j N k : Nat} (h : mAdvB (mAdvV U j N k) j k = true) : mAdvV U j N (k + 1) = backT (goU (aimT (mAdvV U j N k) j k) N).1 U := if_pos h
theorem mAdvV_no {U : fTn} {j N k : Nat} (h : mAdvB (mAdvV U j N k) j k = false) : mAdvV U j N (k + 1) = mAdvV U j N k := if_neg (f_false h)
theorem mAdvF_no {U : fTn} {j N k : Nat} (h : mAdvB (mAdvV U j N k) j k = false) : mAdvF U j N (k + 1) = mAdvF U j N k := if_neg (f_false h)
theorem mAdvF_new {U : fTn} {j N k : Nat} (h : mAdvB (mAdvV U j N k) j k = true) (h2 : fallM U j N k < (mAdvF U j N k).2) : mAdvF U j N (k + 1) = (nI k, fallM U j N k) := (if_pos h).trans (if_pos h2)
theorem mAdvF_keep {U : fTn} {j N k : Nat} (h : mAdvB (mAdvV U j N k) j k = true) (h2 : ¬ fallM U j N k < (mAdvF U j N k).2) : mAdvF U j N (k + 1) = mAdvF U j N k := (if_pos h).trans (if_neg h2)
theorem mAdvV_n (U : fTn) (j N k : Nat) : tHn (mAdvV U j N k) = tHn U ∧ tPn (mAdvV U j N k) = tPn U ∧ tEn (mAdvV U j N k) = tEn U := by
  induction k with
  | zero => exact ⟨rfl, rfl, rfl⟩
  | succ k ih =>
    unfold mAdvV
    split
    · obtain ⟨a, b, c⟩ := goU_n (aimT (mAdvV U j N k) j k) N
      exact ⟨a.trans ih.1, b.trans ih.2.1, c.trans ih.2.2⟩
    · exact ih
theorem okHz_back {X U : fTn} (h : okHz U) (e1 : tHn X = tHn U) (e3 : tEn X = tEn U) : okHz (backT X U) := by
  intro i hi
  have hi : i < tEn X := hi
  rw [e3] at hi
  show tE U i 7 = -1 ∨ (∃ q, q < tEn X ∧ tE U i 7 = nI q) ∨ (∃ q, q < tHn X ∧ tE U i 7 = nI (100 + q))
  rw [e1, e3]
  exact h i hi
theorem mAdv_ok {U : fTn} {j N : Nat} (h : okHz U) (k : Nat) : okHz (mAdvV U j N k) := by
  induction k with
  | zero => exact h
  | succ k ih =>
    unfold mAdvV
    split
    · obtain ⟨a, b, c⟩ := goU_n (aimT (mAdvV U j N k) j k) N
      obtain ⟨a2, b2, c2⟩ := mAdvV_n U j N k
      exact okHz_back h (a.trans a2) (c.trans c2)
    · exact ih
theorem okHz_aim {U : fTn} {j k : Nat} (h : okHz U) (hk : k < tHn U) : okHz (aimT U j k) := by
  intro i hi
  have hi : i < tEn U := hi
  rw [show tE (aimT U j k) i 7 = if i = j then 100 + nI k else tE U i 7 from tE_at]
  by_cases q : i = j
  · rw [if_pos q]
    exact Or.inr (Or.inr ⟨k, hk, by rw [show (100 : Int32) = nI 100 from rfl, nI_add]⟩)
  · rw [if_neg q]; exact h i hi
theorem mAdv_end {U : fTn} {j N k : Nat} (h : eStands (tE (mAdvV U j N k) j) = false) (n : Nat) : mAdvV U j N (k + n) = mAdvV U j N k ∧ mAdvF U j N (k + n) = mAdvF U j N k := by
  induction n with
  | zero => exact ⟨rfl, rfl⟩
  | succ n ih =>
    have hB : mAdvB (mAdvV U j N (k + n)) j (k + n) = false := by unfold mAdvB; rw [ih.1, h, Bool.false_and]
    exact ⟨(mAdvV_no hB).trans ih.1, (mAdvF_no hB).trans ih.2⟩
theorem isKp_bk {g : fG} {ad ad1 : Nat → Nat} {M M1 : fM} {K : fTn} (h : isKp g ad M K) (hr : ∀ l, l ≠ 25 → l ≠ 4090 → ad1 l = ad l ∧ (¬ (5 ≤ l ∧ l < 15) → M1 l = M l)) : isKp g ad1 M1 K := by
  obtain ⟨ko, wa, ht, et, mi, a0, ⟨k0, k1, k2, k3⟩, a1, a2, a3, a4, a5⟩ := h
  exact ⟨ko, wa, ht, et, mi, ((hr 20 (by omega) (by omega)).2 (by omega)).trans a0, ⟨by rw [(hr 21 (by omega) (by omega)).1]; exact k0, by rw [(hr 22 (by omega) (by omega)).1]; exact k1, by rw [(hr 23 (by omega) (by omega)).1]; exact k2, by rw [(hr 24 (by omega) (by omega)).1]; exact k3⟩,
    ((hr 21 (by omega) (by omega)).2 (by omega)).trans a1, ((hr 22 (by omega) (by omega)).2 (by omega)).trans a2, ((hr 23 (by omega) (by omega)).2 (by omega)).trans a3, ((hr 24 (by omega) (by omega)).2 (by omega)).trans a4, a5⟩
set_option maxHeartbeats 4000000 in
set_option maxRecDepth 100000 in
theorem x_m_advise_1 (l : Launch) (g : fG) (ad : Nat → Nat) (M : fM) {th : Int32} {U : fTn} {sp ca : Nat → Int32} (hM : isMo g ad M th U sp ca) {x mm : Int32} (h1 : isIx (tEn U) x = false) : fCi l g yX6_advise cX6_advise 8 ((some .int)) 7 170 0 0 ad M [.ref (ad 5), .int x, .int mm] (fMi g ad M 1 U sp ca 0) := by
  refine f_body (own := RX6) (by decide +kernel) rfl (Nat.le_of_ble_eq_true rfl) ?_
  intro p e s m args below meth c ls X hw hin hl
  have hx := X.1
  have hb := X.2.1
  have hl : lv_has ls 8 [(0, .ref (ad 5)), (1, .int x), (2, .int mm)] := hl
  obtain ⟨pcs, wa, ht, et, mi, co, as, hMo, ⟨hm6, hm7, hm8, hm9, hm10, hm11, hm12, hm13, hm14⟩, hRel, hCnt⟩ := id hM
  obtain ⟨hn1, hn2, hn3⟩ := id hCnt
  have hn1 : tHn U ≤ 30 := hn1
  have hn2 : tPn U ≤ 6 := hn2
  have hn3 : tEn U ≤ 6 := hn3
  have hMo : M 5 = some (.inr (7, [.int th, .int (nI (tHn U)), .int (nI (tPn U)), .int (nI (tEn U)), .ref (ad 6), .ref (ad 7), .ref (ad 8), .ref (ad 9), .ref (ad 10), .ref (ad 11), .ref (ad 12), .ref (ad 13), .ref (ad 14)])) := hMo
  obtain ⟨rH, rP, rE, rM⟩ := id hRel
  obtain ⟨Mo, hMq⟩ : ∃ z, z = M := ⟨_, rfl⟩
  have hrA : fReg 5 15 ad Mo ad M := by rw [hMq]; exact fReg_rf
  obtain ⟨Q9, hQ9⟩ : ∃ z, z = MQ below (fQi g (fMi g ad M 1 U sp ca 0)) args s 0 0 (fA g) := ⟨_, rfl⟩
  show W p l e (fR 7 170 0 0) s m args below meth c _ _ 0 0 (MQ below (fQi g (fMi g ad M 1 U sp ca 0)) args s 0 0 (fA g)) (F0 m 0 ls [])
  rw [← hQ9]
  refine lv_aload_n hx hb dX6_advise_0 rfl (lv_at hl 0 rfl) ?_
  refine lv_iconst (v := 0) hx hb dX6_advise_1 (by decide) ?_
  refine f_put X hw hMo fc7 0 (by decide) wq794 rfl rfl (v := .int 0) rfl rfl (Nat.le_of_ble_eq_true rfl) dX6_advise_2 (fun H locs hw => ?_)
  have hw : fw g ad (fU M 5 (.inr (7, [.int 0, .int (nI (tHn U)), .int (nI (tPn U)), .int (nI (tEn U)), .ref (ad 6), .ref (ad 7), .ref (ad 8), .ref (ad 9), .ref (ad 10), .ref (ad 11), .ref (ad 12), .ref (ad 13), .ref (ad 14)]))) s H locs := hw
  have hMo : (fU M 5 (.inr (7, [.int 0, .int (nI (tHn U)), .int (nI (tPn U)), .int (nI (tEn U)), .ref (ad 6), .ref (ad 7), .ref (ad 8), .ref (ad 9), .ref (ad 10), .ref (ad 11), .ref (ad 12), .ref (ad 13), .ref (ad 14)]))) 5 = some (.inr (7, [.int 0, .int (nI (tHn U)), .int (nI (tPn U)), .int (nI (tEn U)), .ref (ad 6), .ref (ad 7), .ref (ad 8), .ref (ad 9), .ref (ad 10), .ref (ad 11), .ref (ad 12), .ref (ad 13), .ref (ad 14)])) := fU_s
  have hm6 : (fU M 5 (.inr (7, [.int 0, .int (nI (tHn U)), .int (nI (tPn U)), .int (nI (tEn U)), .ref (ad 6), .ref (ad 7), .ref (ad 8), .ref (ad 9), .ref (ad 10), .ref (ad 11), .ref (ad 12), .ref (ad 13), .ref (ad 14)]))) 6 = _ := (fU_n (by omega)).trans hm6
  have hm7 : (fU M 5 (.inr (7, [.int 0, .int (nI (tHn U)), .int (nI (tPn U)), .int (nI (tEn U)), .ref (ad 6), .ref (ad 7), .ref (ad 8), .ref (ad 9), .ref (ad 10), .ref (ad 11), .ref (ad 12), .ref (ad 13), .ref (ad 14)]))) 7 = _ := (fU_n (by omega)).trans hm7
  have hm8 : (fU M 5 (.inr (7, [.int 0, .int (nI (tHn U)), .int (nI (tPn U)), .int (nI (tEn U)), .ref (ad 6), .ref (ad 7), .ref (ad 8), .ref (ad 9), .ref (ad 10), .ref (ad 11), .ref (ad 12), .ref (ad 13), .ref (ad 14)]))) 8 = _ := (fU_n (by omega)).trans hm8
  have hm9 : (fU M 5 (.inr (7, [.int 0, .int (nI (tHn U)), .int (nI (tPn U)), .int (nI (tEn U)), .ref (ad 6), .ref (ad 7), .ref (ad 8), .ref (ad 9), .ref (ad 10), .ref (ad 11), .ref (ad 12), .ref (ad 13), .ref (ad 14)]))) 9 = _ := (fU_n (by omega)).trans hm9
  have hm10 : (fU M 5 (.inr (7, [.int 0, .int (nI (tHn U)), .int (nI (tPn U)), .int (nI (tEn U)), .ref (ad 6), .ref (ad 7), .ref (ad 8), .ref (ad 9), .ref (ad 10), .ref (ad 11), .ref (ad 12), .ref (ad 13), .ref (ad 14)]))) 10 = _ := (fU_n (by omega)).trans hm10
  have hm11 : (fU M 5 (.inr (7, [.int 0, .int (nI (tHn U)), .int (nI (tPn U)), .int (nI (tEn U)), .ref (ad 6), .ref (ad 7), .ref (ad 8), .ref (ad 9), .ref (ad 10), .ref (ad 11), .ref (ad 12), .ref (ad 13), .ref (ad 14)]))) 11 = _ := (fU_n (by omega)).trans hm11
  have hm12 : (fU M 5 (.inr (7, [.int 0, .int (nI (tHn U)), .int (nI (tPn U)), .int (nI (tEn U)), .ref (ad 6), .ref (ad 7), .ref (ad 8), .ref (ad 9), .ref (ad 10), .ref (ad 11), .ref (ad 12), .ref (ad 13), .ref (ad 14)]))) 12 = _ := (fU_n (by omega)).trans hm12
  have hm13 : (fU M 5 (.inr (7, [.int 0, .int (nI (tHn U)), .int (nI (tPn U)), .int (nI (tEn U)), .ref (ad 6), .ref (ad 7), .ref (ad 8), .ref (ad 9), .ref (ad 10), .ref (ad 11), .ref (ad 12), .ref (ad 13), .ref (ad 14)]))) 13 = _ := (fU_n (by omega)).trans hm13
  have hm14 : (fU M 5 (.inr (7, [.int 0, .int (nI (tHn U)), .int (nI (tPn U)), .int (nI (tEn U)), .ref (ad 6), .ref (ad 7), .ref (ad 8), .ref (ad 9), .ref (ad 10), .ref (ad 11), .ref (ad 12), .ref (ad 13), .ref (ad 14)]))) 14 = _ := (fU_n (by omega)).trans hm14
  have hM : isMo g ad (fU M 5 (.inr (7, [.int 0, .int (nI (tHn U)), .int (nI (tPn U)), .int (nI (tEn U)), .ref (ad 6), .ref (ad 7), .ref (ad 8), .ref (ad 9), .ref (ad 10), .ref (ad 11), .ref (ad 12), .ref (ad 13), .ref (ad 14)]))) 0 U sp ca := ⟨pcs, wa, ht, et, mi, co, as, hMo, ⟨hm6, hm7, hm8, hm9, hm10, hm11, hm12, hm13, hm14⟩, hRel, hCnt⟩
  have hrA : fReg 5 15 ad Mo ad (fU M 5 (.inr (7, [.int 0, .int (nI (tHn U)), .int (nI (tPn U)), .int (nI (tEn U)), .ref (ad 6), .ref (ad 7), .ref (ad 8), .ref (ad 9), .ref (ad 10), .ref (ad 11), .ref (ad 12), .ref (ad 13), .ref (ad 14)]))) := fReg_U hrA (by omega)
  obtain ⟨M11, eM11⟩ : ∃ z, z = (fU M 5 (.inr (7, [.int 0, .int (nI (tHn U)), .int (nI (tPn U)), .int (nI (tEn U)), .ref (ad 6), .ref (ad 7), .ref (ad 8), .ref (ad 9), .ref (ad 10), .ref (ad 11), .ref (ad 12), .ref (ad 13), .ref (ad 14)]))) := ⟨_, rfl⟩
  rw [← eM11] at hM hw hrA
  obtain ⟨pcs, wa, ht, et, mi, co, as, hMo, ⟨hm6, hm7, hm8, hm9, hm10, hm11, hm12, hm13, hm14⟩, hRel, hCnt⟩ := id hM
  obtain ⟨hn1, hn2, hn3⟩ := id hCnt
  have hn1 : tHn U ≤ 30 := hn1
  have hn2 : tPn U ≤ 6 := hn2
  have hn3 : tEn U ≤ 6 := hn3
  have hMo : M11 5 = some (.inr (7, [.int 0, .int (nI (tHn U)), .int (nI (tPn U)), .int (nI (tEn U)), .ref (ad 6), .ref (ad 7), .ref (ad 8), .ref (ad 9), .ref (ad 10), .ref (ad 11), .ref (ad 12), .ref (ad 13), .ref (ad 14)])) := hMo
  obtain ⟨rH, rP, rE, rM⟩ := id hRel
  refine lv_aload_n hx hb dX6_advise_5 rfl (lv_at hl 0 rfl) ?_
  refine lv_iload_n hx hb dX6_advise_6 rfl (lv_at hl 1 rfl) ?_
  refine fk_di (fcV X hw (c_m_isEngine l g ad M11 hM (x)) hMo rfl wq928 kVX6_isEngine ⟨(Nat.le_of_ble_eq_true rfl), (Nat.le_of_ble_eq_true rfl)⟩ rfl hl.1 rfl (Nat.le_of_ble_eq_true rfl) dX6_advise_7 ⟨Nat.le_refl _, Nat.le_refl _⟩) hw (fun H locs hw => ?_)
  refine lv_if_ne (tgt := 19) hx hb dX6_advise_10 (by decide) (fun c_1 => absurd (bI_nf.mp c_1) (f_false h1)) (fun c_1 => ?_)
  have c_1 := bI_f.mp c_1
  refine lv_aload_n hx hb dX6_advise_13 rfl (lv_at hl 0 rfl) ?_
  refine lv_iconst (v := 1) hx hb dX6_advise_14 (by decide) ?_
  refine fk_mi (fcV X hw (c_fail l g ad M11 hM 1) hMo rfl wq849 kVX6_fail ⟨(Nat.le_of_ble_eq_true rfl), (Nat.le_of_ble_eq_true rfl)⟩ rfl hl.1 rfl (Nat.le_of_ble_eq_true rfl) dX6_advise_15 ⟨Nat.le_refl _, Nat.le_refl _⟩) hw (fun M12 H locs hM hr12 hw => ?_)
  have hrA := fReg_tr hrA hr12
  rw [hQ9, ← hMq]
  exact f_iret X hw ⟨rfl, hM, hrA, rfl⟩ (Nat.le_refl _) (Nat.le_refl _) dX6_advise_18
set_option maxHeartbeats 4000000 in
set_option maxRecDepth 100000 in
theorem x_m_advise_2 (l : Launch) (g : fG) (ad : Nat → Nat) (M : fM) {th : Int32} {U : fTn} {sp ca : Nat → Int32} (hM : isMo g ad M th U sp ca) {j : Nat} {mm : Int32} (hj : j < tEn U) (h2 : inR mm 1 50 = false) : fCi l g yX6_advise cX6_advise 8 ((some .int)) 7 170 0 0 ad M [.ref (ad 5), .int (nI j), .int mm] (fMi g ad M 2 U sp ca 0) := by
  refine f_body (own := RX6) (by decide +kernel) rfl (Nat.le_of_ble_eq_true rfl) ?_
  intro p e s m args below meth c ls X hw hin hl
  have hx := X.1
  have hb := X.2.1
  have hl : lv_has ls 8 [(0, .ref (ad 5)), (1, .int (nI j)), (2, .int mm)] := hl
  obtain ⟨pcs, wa, ht, et, mi, co, as, hMo, ⟨hm6, hm7, hm8, hm9, hm10, hm11, hm12, hm13, hm14⟩, hRel, hCnt⟩ := id hM
  obtain ⟨hn1, hn2, hn3⟩ := id hCnt
  have hn1 : tHn U ≤ 30 := hn1
  have hn2 : tPn U ≤ 6 := hn2
  have hn3 : tEn U ≤ 6 := hn3
  have hMo : M 5 = some (.inr (7, [.int th, .int (nI (tHn U)), .int (nI (tPn U)), .int (nI (tEn U)), .ref (ad 6), .ref (ad 7), .ref (ad 8), .ref (ad 9), .ref (ad 10), .ref (ad 11), .ref (ad 12), .ref (ad 13), .ref (ad 14)])) := hMo
  obtain ⟨rH, rP, rE, rM⟩ := id hRel
  have hxj : isIx (tEn U) (nI j) = true := isIx_nI hj (by omega)
  obtain ⟨Mo, hMq⟩ : ∃ z, z = M := ⟨_, rfl⟩
  have hrA : fReg 5 15 ad Mo ad M := by rw [hMq]; exact fReg_rf
  obtain ⟨Q9, hQ9⟩ : ∃ z, z = MQ below (fQi g (fMi g ad M 2 U sp ca 0)) args s 0 0 (fA g) := ⟨_, rfl⟩
  show W p l e (fR 7 170 0 0) s m args below meth c _ _ 0 0 (MQ below (fQi g (fMi g ad M 2 U sp ca 0)) args s 0 0 (fA g)) (F0 m 0 ls [])
  rw [← hQ9]
  refine lv_aload_n hx hb dX6_advise_0 rfl (lv_at hl 0 rfl) ?_
  refine lv_iconst (v := 0) hx hb dX6_advise_1 (by decide) ?_
  refine f_put X hw hMo fc7 0 (by decide) wq794 rfl rfl (v := .int 0) rfl rfl (Nat.le_of_ble_eq_true rfl) dX6_advise_2 (fun H locs hw => ?_)
  have hw : fw g ad (fU M 5 (.inr (7, [.int 0, .int (nI (tHn U)), .int (nI (tPn U)), .int (nI (tEn U)), .ref (ad 6), .ref (ad 7), .ref (ad 8), .ref (ad 9), .ref (ad 10), .ref (ad 11), .ref (ad 12), .ref (ad 13), .ref (ad 14)]))) s H locs := hw
  have hMo : (fU M 5 (.inr (7, [.int 0, .int (nI (tHn U)), .int (nI (tPn U)), .int (nI (tEn U)), .ref (ad 6), .ref (ad 7), .ref (ad 8), .ref (ad 9), .ref (ad 10), .ref (ad 11), .ref (ad 12), .ref (ad 13), .ref (ad 14)]))) 5 = some (.inr (7, [.int 0, .int (nI (tHn U)), .int (nI (tPn U)), .int (nI (tEn U)), .ref (ad 6), .ref (ad 7), .ref (ad 8), .ref (ad 9), .ref (ad 10), .ref (ad 11), .ref (ad 12), .ref (ad 13), .ref (ad 14)])) := fU_s
  have hm6 : (fU M 5 (.inr (7, [.int 0, .int (nI (tHn U)), .int (nI (tPn U)), .int (nI (tEn U)), .ref (ad 6), .ref (ad 7), .ref (ad 8), .ref (ad 9), .ref (ad 10), .ref (ad 11), .ref (ad 12), .ref (ad 13), .ref (ad 14)]))) 6 = _ := (fU_n (by omega)).trans hm6
  have hm7 : (fU M 5 (.inr (7, [.int 0, .int (nI (tHn U)), .int (nI (tPn U)), .int (nI (tEn U)), .ref (ad 6), .ref (ad 7), .ref (ad 8), .ref (ad 9), .ref (ad 10), .ref (ad 11), .ref (ad 12), .ref (ad 13), .ref (ad 14)]))) 7 = _ := (fU_n (by omega)).trans hm7
  have hm8 : (fU M 5 (.inr (7, [.int 0, .int (nI (tHn U)), .int (nI (tPn U)), .int (nI (tEn U)), .ref (ad 6), .ref (ad 7), .ref (ad 8), .ref (ad 9), .ref (ad 10), .ref (ad 11), .ref (ad 12), .ref (ad 13), .ref (ad 14)]))) 8 = _ := (fU_n (by omega)).trans hm8
  have hm9 : (fU M 5 (.inr (7, [.int 0, .int (nI (tHn U)), .int (nI (tPn U)), .int (nI (tEn U)), .ref (ad 6), .ref (ad 7), .ref (ad 8), .ref (ad 9), .ref (ad 10), .ref (ad 11), .ref (ad 12), .ref (ad 13), .ref (ad 14)]))) 9 = _ := (fU_n (by omega)).trans hm9
  have hm10 : (fU M 5 (.inr (7, [.int 0, .int (nI (tHn U)), .int (nI (tPn U)), .int (nI (tEn U)), .ref (ad 6), .ref (ad 7), .ref (ad 8), .ref (ad 9), .ref (ad 10), .ref (ad 11), .ref (ad 12), .ref (ad 13), .ref (ad 14)]))) 10 = _ := (fU_n (by omega)).trans hm10
  have hm11 : (fU M 5 (.inr (7, [.int 0, .int (nI (tHn U)), .int (nI (tPn U)), .int (nI (tEn U)), .ref (ad 6), .ref (ad 7), .ref (ad 8), .ref (ad 9), .ref (ad 10), .ref (ad 11), .ref (ad 12), .ref (ad 13), .ref (ad 14)]))) 11 = _ := (fU_n (by omega)).trans hm11
  have hm12 : (fU M 5 (.inr (7, [.int 0, .int (nI (tHn U)), .int (nI (tPn U)), .int (nI (tEn U)), .ref (ad 6), .ref (ad 7), .ref (ad 8), .ref (ad 9), .ref (ad 10), .ref (ad 11), .ref (ad 12), .ref (ad 13), .ref (ad 14)]))) 12 = _ := (fU_n (by omega)).trans hm12
  have hm13 : (fU M 5 (.inr (7, [.int 0, .int (nI (tHn U)), .int (nI (tPn U)), .int (nI (tEn U)), .ref (ad 6), .ref (ad 7), .ref (ad 8), .ref (ad 9), .ref (ad 10), .ref (ad 11), .ref (ad 12), .ref (ad 13), .ref (ad 14)]))) 13 = _ := (fU_n (by omega)).trans hm13
  have hm14 : (fU M 5 (.inr (7, [.int 0, .int (nI (tHn U)), .int (nI (tPn U)), .int (nI (tEn U)), .ref (ad 6), .ref (ad 7), .ref (ad 8), .ref (ad 9), .ref (ad 10), .ref (ad 11), .ref (ad 12), .ref (ad 13), .ref (ad 14)]))) 14 = _ := (fU_n (by omega)).trans hm14
  have hM : isMo g ad (fU M 5 (.inr (7, [.int 0, .int (nI (tHn U)), .int (nI (tPn U)), .int (nI (tEn U)), .ref (ad 6), .ref (ad 7), .ref (ad 8), .ref (ad 9), .ref (ad 10), .ref (ad 11), .ref (ad 12), .ref (ad 13), .ref (ad 14)]))) 0 U sp ca := ⟨pcs, wa, ht, et, mi, co, as, hMo, ⟨hm6, hm7, hm8, hm9, hm10, hm11, hm12, hm13, hm14⟩, hRel, hCnt⟩
  have hrA : fReg 5 15 ad Mo ad (fU M 5 (.inr (7, [.int 0, .int (nI (tHn U)), .int (nI (tPn U)), .int (nI (tEn U)), .ref (ad 6), .ref (ad 7), .ref (ad 8), .ref (ad 9), .ref (ad 10), .ref (ad 11), .ref (ad 12), .ref (ad 13), .ref (ad 14)]))) := fReg_U hrA (by omega)
  obtain ⟨M13, eM13⟩ : ∃ z, z = (fU M 5 (.inr (7, [.int 0, .int (nI (tHn U)), .int (nI (tPn U)), .int (nI (tEn U)), .ref (ad 6), .ref (ad 7), .ref (ad 8), .ref (ad 9), .ref (ad 10), .ref (ad 11), .ref (ad 12), .ref (ad 13), .ref (ad 14)]))) := ⟨_, rfl⟩
  rw [← eM13] at hM hw hrA
  obtain ⟨pcs, wa, ht, et, mi, co, as, hMo, ⟨hm6, hm7, hm8, hm9, hm10, hm11, hm12, hm13, hm14⟩, hRel, hCnt⟩ := id hM
  obtain ⟨hn1, hn2, hn3⟩ := id hCnt
  have hn1 : tHn U ≤ 30 := hn1
  have hn2 : tPn U ≤ 6 := hn2
  have hn3 : tEn U ≤ 6 := hn3
  have hMo : M13 5 = some (.inr (7, [.int 0, .int (nI (tHn U)), .int (nI (tPn U)), .int (nI (tEn U)), .ref (ad 6), .ref (ad 7), .ref (ad 8), .ref (ad 9), .ref (ad 10), .ref (ad 11), .ref (ad 12), .ref (ad 13), .ref (ad 14)])) := hMo
  obtain ⟨rH, rP, rE, rM⟩ := id hRel
  refine lv_aload_n hx hb dX6_advise_5 rfl (lv_at hl 0 rfl) ?_
  refine lv_iload_n hx hb dX6_advise_6 rfl (lv_at hl 1 rfl) ?_
  refine fk_di (fcV X hw (c_m_isEngine l g ad M13 hM (nI j)) hMo rfl wq928 kVX6_isEngine ⟨(Nat.le_of_ble_eq_true rfl), (Nat.le_of_ble_eq_true rfl)⟩ rfl hl.1 rfl (Nat.le_of_ble_eq_true rfl) dX6_advise_7 ⟨Nat.le_refl _, Nat.le_refl _⟩) hw (fun H locs hw => ?_)
  refine lv_if_ne (tgt := 19) hx hb dX6_advise_10 (by decide) (fun c_1 => ?_) (fun c_1 => absurd (bI_f.mp c_1) (by rw [hxj]; decide))
  have c_1 := bI_nf.mp c_1
  refine lv_iload_n hx hb dX6_advise_19 rfl (lv_at hl 2 rfl) ?_
  refine lv_iconst (v := 1) hx hb dX6_advise_20 (by decide) ?_
  refine lv_bipush (v := 50) hx hb dX6_advise_21 (by decide) ?_
  refine fk_di (fcS X hw (c_isIn l g ad M13 (mm) 1 50) wq846 kSX6_isIn ⟨(Nat.le_of_ble_eq_true rfl), (Nat.le_of_ble_eq_true rfl)⟩ rfl hl.1 rfl (Nat.le_of_ble_eq_true rfl) dX6_advise_23 ⟨Nat.le_refl _, Nat.le_refl _⟩) hw (fun H locs hw => ?_)
  refine lv_if_ne (tgt := 35) hx hb dX6_advise_26 (by decide) (fun c_2 => absurd (bI_nf.mp c_2) (f_false h2)) (fun c_2 => ?_)
  have c_2 := bI_f.mp c_2
  refine lv_aload_n hx hb dX6_advise_29 rfl (lv_at hl 0 rfl) ?_
  refine lv_iconst (v := 2) hx hb dX6_advise_30 (by decide) ?_
  refine fk_mi (fcV X hw (c_fail l g ad M13 hM 2) hMo rfl wq849 kVX6_fail ⟨(Nat.le_of_ble_eq_true rfl), (Nat.le_of_ble_eq_true rfl)⟩ rfl hl.1 rfl (Nat.le_of_ble_eq_true rfl) dX6_advise_31 ⟨Nat.le_refl _, Nat.le_refl _⟩) hw (fun M14 H locs hM hr14 hw => ?_)
  have hrA := fReg_tr hrA hr14
  rw [hQ9, ← hMq]
  exact f_iret X hw ⟨rfl, hM, hrA, rfl⟩ (Nat.le_refl _) (Nat.le_refl _) dX6_advise_34
set_option maxHeartbeats 4000000 in
set_option maxRecDepth 100000 in
theorem c_m_advise (l : Launch) (g : fG) (ad : Nat → Nat) (M : fM) {th : Int32} {U : fTn} {sp ca : Nat → Int32} (hM : isMo g ad M th U sp ca) {j N : Nat} (hj : j < tEn U) (h2 : inR (nI N) 1 50 = true) (hN : N < 1000) (hOk : okHz U) : fCi l g yX6_advise cX6_advise 8 ((some .int)) 8 190 35 395 ad M [.ref (ad 5), .int (nI j), .int (nI N)] (fMa g ad M (mAdvV U j N (tHn U)) sp (mAdvF U j N (tHn U)).1) := by
  refine f_body (own := RX6) (by decide +kernel) rfl (Nat.le_of_ble_eq_true rfl) ?_
  intro p e s m args below meth c ls X hw hin hl
  have hx := X.1
  have hb := X.2.1
  have hl : lv_has ls 8 [(0, .ref (ad 5)), (1, .int (nI j)), (2, .int (nI N))] := hl
  obtain ⟨pcs, wa, ht, et, mi, co, as, hMo, ⟨hm6, hm7, hm8, hm9, hm10, hm11, hm12, hm13, hm14⟩, hRel, hCnt⟩ := id hM
  obtain ⟨hn1, hn2, hn3⟩ := id hCnt
  have hn1 : tHn U ≤ 30 := hn1
  have hn2 : tPn U ≤ 6 := hn2
  have hn3 : tEn U ≤ 6 := hn3
  have hMo : M 5 = some (.inr (7, [.int th, .int (nI (tHn U)), .int (nI (tPn U)), .int (nI (tEn U)), .ref (ad 6), .ref (ad 7), .ref (ad 8), .ref (ad 9), .ref (ad 10), .ref (ad 11), .ref (ad 12), .ref (ad 13), .ref (ad 14)])) := hMo
  obtain ⟨rH, rP, rE, rM⟩ := id hRel
  have hxj : isIx (tEn U) (nI j) = true := isIx_nI hj (by omega)
  obtain ⟨ado, hado⟩ : ∃ z, z = ad := ⟨_, rfl⟩
  obtain ⟨Mo, hMq⟩ : ∃ z, z = M := ⟨_, rfl⟩
  have hrA : fReg 5 15 ad Mo ad M := by rw [hMq]; exact fReg_rf
  obtain ⟨Q9, hQ9⟩ : ∃ z, z = MQ below (fQi g (fMa g ad M (mAdvV U j N (tHn U)) sp (mAdvF U j N (tHn U)).1)) args s 35 395 (fA g) := ⟨_, rfl⟩
  show W p l e (fR 8 190 35 395) s m args below meth c _ _ 0 0 (MQ below (fQi g (fMa g ad M (mAdvV U j N (tHn U)) sp (mAdvF U j N (tHn U)).1)) args s 35 395 (fA g)) (F0 m 0 ls [])
  rw [← hQ9]
  refine lv_aload_n hx hb dX6_advise_0 rfl (lv_at hl 0 rfl) ?_
  refine lv_iconst (v := 0) hx hb dX6_advise_1 (by decide) ?_
  refine f_put X hw hMo fc7 0 (by decide) wq794 rfl rfl (v := .int 0) rfl rfl (Nat.le_of_ble_eq_true rfl) dX6_advise_2 (fun H locs hw => ?_)
  have hw : fw g ad (fU M 5 (.inr (7, [.int 0, .int (nI (tHn U)), .int (nI (tPn U)), .int (nI (tEn U)), .ref (ad 6), .ref (ad 7), .ref (ad 8), .ref (ad 9), .ref (ad 10), .ref (ad 11), .ref (ad 12), .ref (ad 13), .ref (ad 14)]))) s H locs := hw
  have hMo : (fU M 5 (.inr (7, [.int 0, .int (nI (tHn U)), .int (nI (tPn U)), .int (nI (tEn U)), .ref (ad 6), .ref (ad 7), .ref (ad 8), .ref (ad 9), .ref (ad 10), .ref (ad 11), .ref (ad 12), .ref (ad 13), .ref (ad 14)]))) 5 = some (.inr (7, [.int 0, .int (nI (tHn U)), .int (nI (tPn U)), .int (nI (tEn U)), .ref (ad 6), .ref (ad 7), .ref (ad 8), .ref (ad 9), .ref (ad 10), .ref (ad 11), .ref (ad 12), .ref (ad 13), .ref (ad 14)])) := fU_s
  have hm6 : (fU M 5 (.inr (7, [.int 0, .int (nI (tHn U)), .int (nI (tPn U)), .int (nI (tEn U)), .ref (ad 6), .ref (ad 7), .ref (ad 8), .ref (ad 9), .ref (ad 10), .ref (ad 11), .ref (ad 12), .ref (ad 13), .ref (ad 14)]))) 6 = _ := (fU_n (by omega)).trans hm6
  have hm7 : (fU M 5 (.inr (7, [.int 0, .int (nI (tHn U)), .int (nI (tPn U)), .int (nI (tEn U)), .ref (ad 6), .ref (ad 7), .ref (ad 8), .ref (ad 9), .ref (ad 10), .ref (ad 11), .ref (ad 12), .ref (ad 13), .ref (ad 14)]))) 7 = _ := (fU_n (by omega)).trans hm7
  have hm8 : (fU M 5 (.inr (7, [.int 0, .int (nI (tHn U)), .int (nI (tPn U)), .int (nI (tEn U)), .ref (ad 6), .ref (ad 7), .ref (ad 8), .ref (ad 9), .ref (ad 10), .ref (ad 11), .ref (ad 12), .ref (ad 13), .ref (ad 14)]))) 8 = _ := (fU_n (by omega)).trans hm8
  have hm9 : (fU M 5 (.inr (7, [.int 0, .int (nI (tHn U)), .int (nI (tPn U)), .int (nI (tEn U)), .ref (ad 6), .ref (ad 7), .ref (ad 8), .ref (ad 9), .ref (ad 10), .ref (ad 11), .ref (ad 12), .ref (ad 13), .ref (ad 14)]))) 9 = _ := (fU_n (by omega)).trans hm9
  have hm10 : (fU M 5 (.inr (7, [.int 0, .int (nI (tHn U)), .int (nI (tPn U)), .int (nI (tEn U)), .ref (ad 6), .ref (ad 7), .ref (ad 8), .ref (ad 9), .ref (ad 10), .ref (ad 11), .ref (ad 12), .ref (ad 13), .ref (ad 14)]))) 10 = _ := (fU_n (by omega)).trans hm10
  have hm11 : (fU M 5 (.inr (7, [.int 0, .int (nI (tHn U)), .int (nI (tPn U)), .int (nI (tEn U)), .ref (ad 6), .ref (ad 7), .ref (ad 8), .ref (ad 9), .ref (ad 10), .ref (ad 11), .ref (ad 12), .ref (ad 13), .ref (ad 14)]))) 11 = _ := (fU_n (by omega)).trans hm11
  have hm12 : (fU M 5 (.inr (7, [.int 0, .int (nI (tHn U)), .int (nI (tPn U)), .int (nI (tEn U)), .ref (ad 6), .ref (ad 7), .ref (ad 8), .ref (ad 9), .ref (ad 10), .ref (ad 11), .ref (ad 12), .ref (ad 13), .ref (ad 14)]))) 12 = _ := (fU_n (by omega)).trans hm12
  have hm13 : (fU M 5 (.inr (7, [.int 0, .int (nI (tHn U)), .int (nI (tPn U)), .int (nI (tEn U)), .ref (ad 6), .ref (ad 7), .ref (ad 8), .ref (ad 9), .ref (ad 10), .ref (ad 11), .ref (ad 12), .ref (ad 13), .ref (ad 14)]))) 13 = _ := (fU_n (by omega)).trans hm13
  have hm14 : (fU M 5 (.inr (7, [.int 0, .int (nI (tHn U)), .int (nI (tPn U)), .int (nI (tEn U)), .ref (ad 6), .ref (ad 7), .ref (ad 8), .ref (ad 9), .ref (ad 10), .ref (ad 11), .ref (ad 12), .ref (ad 13), .ref (ad 14)]))) 14 = _ := (fU_n (by omega)).trans hm14
  have hM : isMo g ad (fU M 5 (.inr (7, [.int 0, .int (nI (tHn U)), .int (nI (tPn U)), .int (nI (tEn U)), .ref (ad 6), .ref (ad 7), .ref (ad 8), .ref (ad 9), .ref (ad 10), .ref (ad 11), .ref (ad 12), .ref (ad 13), .ref (ad 14)]))) 0 U sp ca := ⟨pcs, wa, ht, et, mi, co, as, hMo, ⟨hm6, hm7, hm8, hm9, hm10, hm11, hm12, hm13, hm14⟩, hRel, hCnt⟩
  have hrA : fReg 5 15 ad Mo ad (fU M 5 (.inr (7, [.int 0, .int (nI (tHn U)), .int (nI (tPn U)), .int (nI (tEn U)), .ref (ad 6), .ref (ad 7), .ref (ad 8), .ref (ad 9), .ref (ad 10), .ref (ad 11), .ref (ad 12), .ref (ad 13), .ref (ad 14)]))) := fReg_U hrA (by omega)
  obtain ⟨M15, eM15⟩ : ∃ z, z = (fU M 5 (.inr (7, [.int 0, .int (nI (tHn U)), .int (nI (tPn U)), .int (nI (tEn U)), .ref (ad 6), .ref (ad 7), .ref (ad 8), .ref (ad 9), .ref (ad 10), .ref (ad 11), .ref (ad 12), .ref (ad 13), .ref (ad 14)]))) := ⟨_, rfl⟩
  rw [← eM15] at hM hw hrA
  obtain ⟨pcs, wa, ht, et, mi, co, as, hMo, ⟨hm6, hm7, hm8, hm9, hm10, hm11, hm12, hm13, hm14⟩, hRel, hCnt⟩ := id hM
  obtain ⟨hn1, hn2, hn3⟩ := id hCnt
  have hn1 : tHn U ≤ 30 := hn1
  have hn2 : tPn U ≤ 6 := hn2
  have hn3 : tEn U ≤ 6 := hn3
  have hMo : M15 5 = some (.inr (7, [.int 0, .int (nI (tHn U)), .int (nI (tPn U)), .int (nI (tEn U)), .ref (ad 6), .ref (ad 7), .ref (ad 8), .ref (ad 9), .ref (ad 10), .ref (ad 11), .ref (ad 12), .ref (ad 13), .ref (ad 14)])) := hMo
  obtain ⟨rH, rP, rE, rM⟩ := id hRel
  refine lv_aload_n hx hb dX6_advise_5 rfl (lv_at hl 0 rfl) ?_
  refine lv_iload_n hx hb dX6_advise_6 rfl (lv_at hl 1 rfl) ?_
  refine fk_di (fcV X hw (c_m_isEngine l g ad M15 hM (nI j)) hMo rfl wq928 kVX6_isEngine ⟨(Nat.le_of_ble_eq_true rfl), (Nat.le_of_ble_eq_true rfl)⟩ rfl hl.1 rfl (Nat.le_of_ble_eq_true rfl) dX6_advise_7 ⟨(by dsimp only [fR]; omega), (by dsimp only [fR]; omega)⟩) hw (fun H locs hw => ?_)
  refine lv_if_ne (tgt := 19) hx hb dX6_advise_10 (by decide) (fun c_1 => ?_) (fun c_1 => absurd (bI_f.mp c_1) (by rw [hxj]; decide))
  have c_1 := bI_nf.mp c_1
  refine lv_iload_n hx hb dX6_advise_19 rfl (lv_at hl 2 rfl) ?_
  refine lv_iconst (v := 1) hx hb dX6_advise_20 (by decide) ?_
  refine lv_bipush (v := 50) hx hb dX6_advise_21 (by decide) ?_
  refine fk_di (fcS X hw (c_isIn l g ad M15 (nI N) 1 50) wq846 kSX6_isIn ⟨(Nat.le_of_ble_eq_true rfl), (Nat.le_of_ble_eq_true rfl)⟩ rfl hl.1 rfl (Nat.le_of_ble_eq_true rfl) dX6_advise_23 ⟨(by dsimp only [fR]; omega), (by dsimp only [fR]; omega)⟩) hw (fun H locs hw => ?_)
  refine lv_if_ne (tgt := 35) hx hb dX6_advise_26 (by decide) (fun c_2 => ?_) (fun c_2 => absurd (bI_f.mp c_2) (by rw [h2]; decide))
  have c_2 := bI_nf.mp c_2
  refine lv_iconst (v := (-1)) hx hb dX6_advise_35 (by decide) ?_
  refine lv_istore_n (lv' := [(3, .int (-1)), (0, .ref (ad 5)), (1, .int (nI j)), (2, .int (nI N))]) hx hb dX6_advise_36 rfl hl (by decide) rfl (fun ls hl => ?_)
  refine lv_bipush (v := 31) hx hb dX6_advise_37 (by decide) ?_
  refine lv_istore (lv' := [(4, .int 31), (3, .int (-1)), (0, .ref (ad 5)), (1, .int (nI j)), (2, .int (nI N))]) hx hb dX6_advise_39 hl (by decide) rfl (fun ls hl => ?_)
  refine lv_aload_n hx hb dX6_advise_41 rfl (lv_at hl 2 rfl) ?_
  refine fk_r (fcV X hw (c_m_kept l g ad M15 hM) hMo rfl wq1025 kVX6_kept ⟨(Nat.le_of_ble_eq_true rfl), (Nat.le_of_ble_eq_true rfl)⟩ rfl hl.1 rfl (Nat.le_of_ble_eq_true rfl) dX6_advise_42 ⟨(by dsimp only [fR]; omega), (by dsimp only [fR]; omega)⟩) hw (fun q ad1 M1 H locs hp hw => ?_)
  obtain ⟨hq, hK1, hr1⟩ := hp
  refine f_adr (ad := ad1) (lb := 20) hq ?_
  rw [← (hr1 5 (by omega) (by omega)).1] at hl
  have hM1 := isMo_reg hM hr1 (Or.inl (by omega))
  have seg : ∀ (ad : Nat → Nat) (M : fM) (hM : isMo g ad M 0 U sp ca) (hK : isKp g ad M U) (hrB : fReg 5 25 ado Mo ad M) (hA5 : ∀ l, l < 20 → ad l = ado l) (ls : Array Slot) (H : Heap) (locs : List Loc), fw g ad M s H locs → lv_has ls 8 [(4, .int 31), (3, .int (-1)), (0, .ref (ad 5)), (1, .int (nI j)), (2, .int (nI N))] → W p l e (fR 8 190 35 395) s m args below meth c H locs (0 + 5) (0 + 275) Q9 (F0 m 45 ls [.ref (ad 20)]) := by
    intro ad M hM hK hrB hA5 ls H locs hw hl
    obtain ⟨Mn, hMn⟩ : ∃ z, z = Mo := ⟨_, rfl⟩
    obtain ⟨Mo, hMo2⟩ : ∃ z, z = M := ⟨_, rfl⟩
    have hrA : fReg 5 15 ad Mo ad M := by rw [hMo2]; exact fReg_rf
    have hK : isKp g ad Mo U := by rw [hMo2]; exact hK
    rw [← hMn, ← hMo2] at hrB
    obtain ⟨pcs, wa, ht, et, mi, co, as, hMo, ⟨hm6, hm7, hm8, hm9, hm10, hm11, hm12, hm13, hm14⟩, hRel, hCnt⟩ := id hM
    obtain ⟨hn1, hn2, hn3⟩ := id hCnt
    have hn1 : tHn U ≤ 30 := hn1
    have hn2 : tPn U ≤ 6 := hn2
    have hn3 : tEn U ≤ 6 := hn3
    have hMo : M 5 = some (.inr (7, [.int 0, .int (nI (tHn U)), .int (nI (tPn U)), .int (nI (tEn U)), .ref (ad 6), .ref (ad 7), .ref (ad 8), .ref (ad 9), .ref (ad 10), .ref (ad 11), .ref (ad 12), .ref (ad 13), .ref (ad 14)])) := hMo
    obtain ⟨rH, rP, rE, rM⟩ := id hRel
    refine lv_astore (lv' := [(5, .ref (ad 20)), (4, .int 31), (3, .int (-1)), (0, .ref (ad 5)), (1, .int (nI j)), (2, .int (nI N))]) hx hb dX6_advise_45 hl (by decide) rfl (fun ls hl => ?_)
    refine lv_iconst (v := 0) hx hb dX6_advise_47 (by decide) ?_
    refine lv_istore (lv' := [(6, .int 0), (5, .ref (ad 20)), (4, .int 31), (3, .int (-1)), (0, .ref (ad 5)), (1, .int (nI j)), (2, .int (nI N))]) hx hb dX6_advise_48 hl (by decide) rfl (fun ls hl => ?_)
    have loop50 : ∀ (n k : Nat), k ≤ tHn U → tHn U < k + n → ∀ (ad : Nat → Nat) (M : fM) (ca : Nat → Int32) (hM : isMo g ad M 0 (mAdvV U j N k) sp ca) (hK : isKp g ad M U) (hrB : fReg 5 26 ado Mn ad M) (hA5 : ∀ l, l < 20 → ad l = ado l) (ls : Array Slot) (H : Heap) (locs : List Loc), fw g ad M s H locs → lv_has ls 8 [(3, .int ((mAdvF U j N k).1)), (4, .int ((mAdvF U j N k).2)), (6, .int (nI k)), (0, .ref (ad 5)), (1, .int (nI j)), (2, .int (nI N)), (5, .ref (ad 20))] → W p l e (fR 8 190 35 395) s m args below meth c H locs (5 + k) (275 + 4 * k) Q9 (F0 m 50 ls []) := by
      intro n
      induction n with
      | zero => intro k h1 h2; omega
      | succ n ih =>
        intro k hk_ hn_ ad M ca hM hK hrB hA5 ls H locs hw hl
        obtain ⟨Mo, hMo2⟩ : ∃ z, z = M := ⟨_, rfl⟩
        have hrA : fReg 5 15 ad Mo ad M := by rw [hMo2]; exact fReg_rf
        have hK : isKp g ad Mo U := by rw [hMo2]; exact hK
        rw [← hMo2] at hrB
        obtain ⟨V, hV⟩ : ∃ z, z = mAdvV U j N k := ⟨_, rfl⟩
        have nV := mAdvV_n U j N k
        rw [← hV] at hM nV
        obtain ⟨nV1, nV2, nV3⟩ := id nV
        have hOkV : okHz V := by rw [hV]; exact mAdv_ok hOk k
        have hjV : j < tEn V := by omega
        obtain ⟨pcs, wa, ht, et, mi, co, as, hMo, ⟨hm6, hm7, hm8, hm9, hm10, hm11, hm12, hm13, hm14⟩, hRel, hCnt⟩ := id hM
        obtain ⟨hn1, hn2, hn3⟩ := id hCnt
        have hn1 : tHn V ≤ 30 := hn1
        have hn2 : tPn V ≤ 6 := hn2
        have hn3 : tEn V ≤ 6 := hn3
        have hMo : M 5 = some (.inr (7, [.int 0, .int (nI (tHn V)), .int (nI (tPn V)), .int (nI (tEn V)), .ref (ad 6), .ref (ad 7), .ref (ad 8), .ref (ad 9), .ref (ad 10), .ref (ad 11), .ref (ad 12), .ref (ad 13), .ref (ad 14)])) := hMo
        obtain ⟨rH, rP, rE, rM⟩ := id hRel
        refine lv_iload hx hb dX6_advise_50 (lv_at hl 2 rfl) ?_
        refine lv_aload_n hx hb dX6_advise_52 rfl (lv_at hl 3 rfl) ?_
        refine f_get X hw hMo fc7 1 (by decide) wq795 rfl (v := .int (nI (tHn V))) rfl dX6_advise_53 ?_
        refine lv_icmp_ge (tgt := 170) hx hb dX6_advise_56 (by decide) (fun c_3 => ?_) (fun c_3 => ?_)
        · have c_3 := nI_le' (a := (tHn V)) (b := k) c_3 (by omega) (by omega)
          refine lv_iload_n hx hb dX6_advise_170 rfl (lv_at hl 0 rfl) ?_
          rw [hQ9, ← hMq]
          have e9 : mAdvV U j N (tHn U) = V ∧ mAdvF U j N (tHn U) = mAdvF U j N k := by rw [show tHn U = k by omega]; exact ⟨hV.symm, rfl⟩
          rw [hado] at hA5 hrB
          rw [hMn, hMo2] at hrB
          exact f_iret X hw ⟨⟨_, by rw [e9.1]; exact hM⟩, hrB, hA5, by rw [e9.2]⟩ (by omega) (by omega) dX6_advise_171
        · have c_3 := nI_nle' (a := (tHn V)) (b := k) c_3 (by omega) (by omega)
          refine lv_aload_n hx hb dX6_advise_59 rfl (lv_at hl 3 rfl) ?_
          refine lv_iload_n hx hb dX6_advise_60 rfl (lv_at hl 4 rfl) ?_
          refine fk_di (fcV X hw (c_m_stands l g ad M hM (e0 := j) hjV) hMo rfl wq951 kVX6_stands ⟨(Nat.le_of_ble_eq_true rfl), (Nat.le_of_ble_eq_true rfl)⟩ rfl hl.1 rfl (Nat.le_of_ble_eq_true rfl) dX6_advise_61 ⟨(by dsimp only [fR]; omega), (by dsimp only [fR]; omega)⟩) hw (fun H locs hw => ?_)
          refine lv_if_eq (tgt := 170) hx hb dX6_advise_64 (by decide) (fun c_4 => ?_) (fun c_4 => ?_)
          · have c_4 := bI_f.mp c_4
            refine lv_iload_n hx hb dX6_advise_170 rfl (lv_at hl 0 rfl) ?_
            rw [hQ9, ← hMq]
            have e9 : mAdvV U j N (tHn U) = V ∧ mAdvF U j N (tHn U) = mAdvF U j N k := by have := mAdv_end (U := U) (j := j) (N := N) (k := k) (by rw [← hV]; exact c_4) (tHn U - k); rw [show k + (tHn U - k) = tHn U by omega, ← hV] at this; exact this
            rw [hado] at hA5 hrB
            rw [hMn, hMo2] at hrB
            exact f_iret X hw ⟨⟨_, by rw [e9.1]; exact hM⟩, hrB, hA5, by rw [e9.2]⟩ (by omega) (by omega) dX6_advise_171
          · have c_4 := bI_nf.mp c_4
            refine lv_aload_n hx hb dX6_advise_67 rfl (lv_at hl 3 rfl) ?_
            refine lv_iload hx hb dX6_advise_68 (lv_at hl 2 rfl) ?_
            refine lv_iconst (v := 3) hx hb dX6_advise_70 (by decide) ?_
            refine fk_di (fcV X hw (c_ho l g ad M hM (h0 := k) (k := 3) (show k < tHn V by omega) rfl (by omega)) hMo rfl wq865 kVX6_ho ⟨(Nat.le_of_ble_eq_true rfl), (Nat.le_of_ble_eq_true rfl)⟩ rfl hl.1 rfl (Nat.le_of_ble_eq_true rfl) dX6_advise_71 ⟨(by dsimp only [fR]; omega), (by dsimp only [fR]; omega)⟩) hw (fun H locs hw => ?_)
            refine lv_iconst (v := 1) hx hb dX6_advise_74 (by decide) ?_
            refine lv_icmp_ne (tgt := 164) hx hb dX6_advise_75 (by decide) (fun c_5 => ?_) (fun c_5 => ?_)
            · refine lv_iinc (v := nI (k + 1)) (lv' := [(6, .int (nI (k + 1))), (3, .int ((mAdvF U j N k).1)), (4, .int ((mAdvF U j N k).2)), (0, .ref (ad 5)), (1, .int (nI j)), (2, .int (nI N)), (5, .ref (ad 20))]) hx hb dX6_advise_164 hl (k := 2) rfl (nI_1 k) (by decide) rfl (fun ls hl => ?_)
              refine lv_goto (tgt := 50) hx hb dX6_advise_167 (by decide) ?_
              refine W.widen (k := (5 + (k + 1))) (n := (275 + 4 * (k + 1))) (by omega) (by omega) ?_
              have hB : mAdvB (mAdvV U j N k) j k = false := by rw [← hV]; simp [mAdvB, c_3, c_4, c_5]
              have eF := mAdvF_no hB
              exact ih (k + 1) (by omega) (by omega) ad M ca (by rw [mAdvV_no hB, ← hV]; exact hM) (by rw [← hMo2]; exact hK) (by rw [← hMo2]; exact hrB) hA5 ls _ _ hw (by rw [show ((mAdvF U j N (k + 1)).1) = ((mAdvF U j N k).1) from (by rw [eF]), show ((mAdvF U j N (k + 1)).2) = ((mAdvF U j N k).2) from (by rw [eF])]; exact lv_sub hl [1, 2, 0, 3, 4, 5, 6] rfl)
            · refine lv_aload_n hx hb dX6_advise_78 rfl (lv_at hl 3 rfl) ?_
              refine lv_iload_n hx hb dX6_advise_79 rfl (lv_at hl 4 rfl) ?_
              refine lv_iconst (v := 0) hx hb dX6_advise_80 (by decide) ?_
              refine fk_di (fcV X hw (c_en l g ad M hM (e0 := j) (k := 0) hjV rfl (by omega)) hMo rfl wq873 kVX6_en ⟨(Nat.le_of_ble_eq_true rfl), (Nat.le_of_ble_eq_true rfl)⟩ rfl hl.1 rfl (Nat.le_of_ble_eq_true rfl) dX6_advise_81 ⟨(by dsimp only [fR]; omega), (by dsimp only [fR]; omega)⟩) hw (fun H locs hw => ?_)
              refine lv_aload_n hx hb dX6_advise_84 rfl (lv_at hl 3 rfl) ?_
              refine lv_iload hx hb dX6_advise_85 (lv_at hl 2 rfl) ?_
              refine lv_iconst (v := 0) hx hb dX6_advise_87 (by decide) ?_
              refine fk_di (fcV X hw (c_ho l g ad M hM (h0 := k) (k := 0) (show k < tHn V by omega) rfl (by omega)) hMo rfl wq865 kVX6_ho ⟨(Nat.le_of_ble_eq_true rfl), (Nat.le_of_ble_eq_true rfl)⟩ rfl hl.1 rfl (Nat.le_of_ble_eq_true rfl) dX6_advise_88 ⟨(by dsimp only [fR]; omega), (by dsimp only [fR]; omega)⟩) hw (fun H locs hw => ?_)
              refine fk_di (fcS X hw (c_far l g ad M (tE V j 0) (tH V k 0)) wq948 kSX6_far ⟨(Nat.le_of_ble_eq_true rfl), (Nat.le_of_ble_eq_true rfl)⟩ rfl hl.1 rfl (Nat.le_of_ble_eq_true rfl) dX6_advise_91 ⟨(by dsimp only [fR]; omega), (by dsimp only [fR]; omega)⟩) hw (fun H locs hw => ?_)
              refine lv_bipush (v := 6) hx hb dX6_advise_94 (by decide) ?_
              refine lv_icmp_le (tgt := 102) hx hb dX6_advise_96 (by decide) (fun c_6 => ?_) (fun c_6 => ?_)
              · refine lv_aload_n hx hb dX6_advise_102 rfl (lv_at hl 3 rfl) ?_
                refine lv_iload_n hx hb dX6_advise_103 rfl (lv_at hl 4 rfl) ?_
                refine lv_bipush (v := 7) hx hb dX6_advise_104 (by decide) ?_
                refine lv_bipush (v := 100) hx hb dX6_advise_106 (by decide) ?_
                refine lv_iload hx hb dX6_advise_108 (lv_at hl 2 rfl) ?_
                refine lv_iadd hx hb dX6_advise_110 ?_
                refine fk_mv (fcV X hw (c_setEn l g ad M hM (e0 := j) (k := 7) hjV rfl (by omega) (100 + nI k)) hMo rfl wq932 kVX6_setEn ⟨(Nat.le_of_ble_eq_true rfl), (Nat.le_of_ble_eq_true rfl)⟩ rfl hl.1 rfl (Nat.le_of_ble_eq_true rfl) dX6_advise_111 ⟨(by dsimp only [fR]; omega), (by dsimp only [fR]; omega)⟩) hw (fun M17 H locs hM hr17 hw => ?_)
                have hrA := fReg_tr hrA hr17
                obtain ⟨V2, hV2⟩ : ∃ z, z = aimT V j k := ⟨_, rfl⟩
                have hM : isMo g ad M17 0 V2 sp ca := by rw [hV2]; exact hM
                have hOk2 : okHz V2 := by rw [hV2]; exact okHz_aim hOkV (by omega)
                have nA1 : tHn V2 = tHn U := by rw [hV2]; exact nV.1
                have nA2 : tPn V2 = tPn U := by rw [hV2]; exact nV.2.1
                have nA3 : tEn V2 = tEn U := by rw [hV2]; exact nV.2.2
                obtain ⟨pcs, wa, ht, et, mi, co, as, hMo, ⟨hm6, hm7, hm8, hm9, hm10, hm11, hm12, hm13, hm14⟩, hRel, hCnt⟩ := id hM
                obtain ⟨hn1, hn2, hn3⟩ := id hCnt
                have hn1 : tHn V2 ≤ 30 := hn1
                have hn2 : tPn V2 ≤ 6 := hn2
                have hn3 : tEn V2 ≤ 6 := hn3
                have hMo : M17 5 = some (.inr (7, [.int 0, .int (nI (tHn V2)), .int (nI (tPn V2)), .int (nI (tEn V2)), .ref (ad 6), .ref (ad 7), .ref (ad 8), .ref (ad 9), .ref (ad 10), .ref (ad 11), .ref (ad 12), .ref (ad 13), .ref (ad 14)])) := hMo
                obtain ⟨rH, rP, rE, rM⟩ := id hRel
                refine lv_iconst (v := 0) hx hb dX6_advise_114 (by decide) ?_
                refine lv_istore (lv' := [(7, .int 0), (3, .int ((mAdvF U j N k).1)), (4, .int ((mAdvF U j N k).2)), (6, .int (nI k)), (0, .ref (ad 5)), (1, .int (nI j)), (2, .int (nI N)), (5, .ref (ad 20))]) hx hb dX6_advise_115 hl (by decide) rfl (fun ls hl => ?_)
                have loop117 : ∀ (n117 k2 : Nat), k2 ≤ N → N < k2 + n117 → ∀ (M : fM) (ca : Nat → Int32) (hM : isMo g ad M 0 ((goU V2 k2).1) sp ca) (hrA : fReg 5 15 ad Mo ad M) (ls : Array Slot) (H : Heap) (locs : List Loc), fw g ad M s H locs → lv_has ls 8 [(7, .int (nI k2)), (3, .int ((mAdvF U j N k).1)), (4, .int ((mAdvF U j N k).2)), (6, .int (nI k)), (0, .ref (ad 5)), (1, .int (nI j)), (2, .int (nI N)), (5, .ref (ad 20))] → W p l e (fR 8 190 35 395) s m args below meth c H locs (5 + k) (275 + 4 * k) Q9 (F0 m 117 ls []) := by
                  intro n117
                  induction n117 with
                  | zero => intro k2 h1 h2; omega
                  | succ n117 ih117 =>
                    intro k2 hk_k2 hn_k2 M ca hM hrA ls H locs hw hl
                    obtain ⟨pcs, wa, ht, et, mi, co, as, hMo, ⟨hm6, hm7, hm8, hm9, hm10, hm11, hm12, hm13, hm14⟩, hRel, hCnt⟩ := id hM
                    obtain ⟨hn1, hn2, hn3⟩ := id hCnt
                    have hn1 : tHn ((goU V2 k2).1) ≤ 30 := hn1
                    have hn2 : tPn ((goU V2 k2).1) ≤ 6 := hn2
                    have hn3 : tEn ((goU V2 k2).1) ≤ 6 := hn3
                    have hMo : M 5 = some (.inr (7, [.int 0, .int (nI (tHn ((goU V2 k2).1))), .int (nI (tPn ((goU V2 k2).1))), .int (nI (tEn ((goU V2 k2).1))), .ref (ad 6), .ref (ad 7), .ref (ad 8), .ref (ad 9), .ref (ad 10), .ref (ad 11), .ref (ad 12), .ref (ad 13), .ref (ad 14)])) := hMo
                    obtain ⟨rH, rP, rE, rM⟩ := id hRel
                    refine lv_iload hx hb dX6_advise_117 (lv_at hl 0 rfl) ?_
                    refine lv_iload_n hx hb dX6_advise_119 rfl (lv_at hl 6 rfl) ?_
                    refine lv_icmp_ge (tgt := 134) hx hb dX6_advise_120 (by decide) (fun c_7 => ?_) (fun c_7 => ?_)
                    · have c_7 := nI_le' (a := N) (b := k2) c_7 (by omega) (by omega)
                      refine lv_aload_n hx hb dX6_advise_134 rfl (lv_at hl 4 rfl) ?_
                      refine lv_iconst (v := 3) hx hb dX6_advise_135 (by decide) ?_
                      have hM : isMo g ad M 0 (goU V2 N).1 sp ca := by rw [← show k2 = N by omega]; exact hM
                      refine fk_di (fcV X hw (c_m_with l g ad M hM 3) hMo rfl wq894 kVX6_with ⟨(Nat.le_of_ble_eq_true rfl), (Nat.le_of_ble_eq_true rfl)⟩ rfl hl.1 rfl (Nat.le_of_ble_eq_true rfl) dX6_advise_136 ⟨(by dsimp only [fR]; omega), (by dsimp only [fR]; omega)⟩) hw (fun H locs hw => ?_)
                      refine lv_istore (lv' := [(7, .int (cntH (tH (goU V2 N).1) 3 (tHn (goU V2 N).1))), (3, .int ((mAdvF U j N k).1)), (4, .int ((mAdvF U j N k).2)), (6, .int (nI k)), (0, .ref (ad 5)), (1, .int (nI j)), (2, .int (nI N)), (5, .ref (ad 20))]) hx hb dX6_advise_139 hl (by decide) rfl (fun ls hl => ?_)
                      refine lv_aload_n hx hb dX6_advise_141 rfl (lv_at hl 4 rfl) ?_
                      refine lv_aload hx hb dX6_advise_142 (lv_at hl 7 rfl) ?_
                      refine fk_v (fcV X hw (c_m_back l g ad M hM (K := U) (isKp_reg hK hrA (Or.inr (by omega))) ((goU_n V2 N).1.trans nA1) ((goU_n V2 N).2.1.trans nA2) ((goU_n V2 N).2.2.trans nA3)) hMo rfl wq1037 kVX6_bringBack ⟨(Nat.le_of_ble_eq_true rfl), (Nat.le_of_ble_eq_true rfl)⟩ rfl hl.1 rfl (Nat.le_of_ble_eq_true rfl) dX6_advise_144 ⟨(by dsimp only [fR]; omega), (by dsimp only [fR]; omega)⟩) hw (fun ad2 M2 H locs hp hw => ?_)
                      obtain ⟨hM2, hr2⟩ := hp
                      have hK2 := isKp_bk (isKp_reg hK hrA (Or.inr (by omega))) hr2
                      rw [← (hr2 5 (by omega) (by omega)).1, ← (hr2 20 (by omega) (by omega)).1] at hl
                      refine lv_iload hx hb dX6_advise_147 (lv_at hl 0 rfl) ?_
                      refine lv_iload hx hb dX6_advise_149 (lv_at hl 2 rfl) ?_
                      refine lv_icmp_lt (tgt := 157) hx hb dX6_advise_151 (by decide) (fun c_8 => ?_) (fun c_8 => ?_)
                      · refine lv_iload hx hb dX6_advise_157 (lv_at hl 3 rfl) ?_
                        refine lv_istore_n (lv' := [(3, .int (nI k)), (7, .int (cntH (tH (goU V2 N).1) 3 (tHn (goU V2 N).1))), (4, .int ((mAdvF U j N k).2)), (6, .int (nI k)), (0, .ref (ad2 5)), (1, .int (nI j)), (2, .int (nI N)), (5, .ref (ad2 20))]) hx hb dX6_advise_159 rfl hl (by decide) rfl (fun ls hl => ?_)
                        refine lv_iload hx hb dX6_advise_160 (lv_at hl 1 rfl) ?_
                        refine lv_istore (lv' := [(4, .int (cntH (tH (goU V2 N).1) 3 (tHn (goU V2 N).1))), (3, .int (nI k)), (7, .int (cntH (tH (goU V2 N).1) 3 (tHn (goU V2 N).1))), (6, .int (nI k)), (0, .ref (ad2 5)), (1, .int (nI j)), (2, .int (nI N)), (5, .ref (ad2 20))]) hx hb dX6_advise_162 hl (by decide) rfl (fun ls hl => ?_)
                        refine lv_iinc (v := nI (k + 1)) (lv' := [(6, .int (nI (k + 1))), (4, .int (cntH (tH (goU V2 N).1) 3 (tHn (goU V2 N).1))), (3, .int (nI k)), (7, .int (cntH (tH (goU V2 N).1) 3 (tHn (goU V2 N).1))), (0, .ref (ad2 5)), (1, .int (nI j)), (2, .int (nI N)), (5, .ref (ad2 20))]) hx hb dX6_advise_164 hl (k := 3) rfl (nI_1 k) (by decide) rfl (fun ls hl => ?_)
                        refine lv_goto (tgt := 50) hx hb dX6_advise_167 (by decide) ?_
                        refine W.widen (k := (5 + (k + 1))) (n := (275 + 4 * (k + 1))) (by omega) (by omega) ?_
                        have hB : mAdvB (mAdvV U j N k) j k = true := by rw [← hV]; simp [mAdvB, c_3, c_4, c_5, c_6]
                        have eC : fallM U j N k = cntH (tH (goU V2 N).1) 3 (tHn (goU V2 N).1) := by unfold fallM; rw [← hV, ← hV2]
                        have eF := mAdvF_new hB (by rw [eC]; exact c_8)
                        exact ih (k + 1) (by omega) (by omega) ad2 M2 _ (by rw [mAdvV_yes hB, ← hV, ← hV2]; exact hM2) hK2 (fun l a b => ⟨(hr2 l (by omega) b).1.trans ((hrA l (by omega) b).1.trans (hrB l a b).1), ((hr2 l (by omega) b).2 (by omega)).trans ((hrA l (by omega) b).2.trans (hrB l a b).2)⟩) (fun l a => (hr2 l (by omega) (by omega)).1.trans (hA5 l a)) ls _ _ hw (by rw [show ((mAdvF U j N (k + 1)).1) = (nI k) from (by rw [eF]), show ((mAdvF U j N (k + 1)).2) = (cntH (tH (goU V2 N).1) 3 (tHn (goU V2 N).1)) from (by rw [eF]; show fallM U j N k = _; unfold fallM; rw [← hV, ← hV2])]; exact lv_sub hl [2, 1, 0, 4, 5, 6, 7] rfl)
                      · refine lv_goto (tgt := 164) hx hb dX6_advise_154 (by decide) ?_
                        refine lv_iinc (v := nI (k + 1)) (lv' := [(6, .int (nI (k + 1))), (7, .int (cntH (tH (goU V2 N).1) 3 (tHn (goU V2 N).1))), (3, .int ((mAdvF U j N k).1)), (4, .int ((mAdvF U j N k).2)), (0, .ref (ad2 5)), (1, .int (nI j)), (2, .int (nI N)), (5, .ref (ad2 20))]) hx hb dX6_advise_164 hl (k := 3) rfl (nI_1 k) (by decide) rfl (fun ls hl => ?_)
                        refine lv_goto (tgt := 50) hx hb dX6_advise_167 (by decide) ?_
                        refine W.widen (k := (5 + (k + 1))) (n := (275 + 4 * (k + 1))) (by omega) (by omega) ?_
                        have hB : mAdvB (mAdvV U j N k) j k = true := by rw [← hV]; simp [mAdvB, c_3, c_4, c_5, c_6]
                        have eC : fallM U j N k = cntH (tH (goU V2 N).1) 3 (tHn (goU V2 N).1) := by unfold fallM; rw [← hV, ← hV2]
                        have eF := mAdvF_keep hB (by rw [eC]; exact c_8)
                        exact ih (k + 1) (by omega) (by omega) ad2 M2 _ (by rw [mAdvV_yes hB, ← hV, ← hV2]; exact hM2) hK2 (fun l a b => ⟨(hr2 l (by omega) b).1.trans ((hrA l (by omega) b).1.trans (hrB l a b).1), ((hr2 l (by omega) b).2 (by omega)).trans ((hrA l (by omega) b).2.trans (hrB l a b).2)⟩) (fun l a => (hr2 l (by omega) (by omega)).1.trans (hA5 l a)) ls _ _ hw (by rw [show ((mAdvF U j N (k + 1)).1) = ((mAdvF U j N k).1) from (by rw [eF]), show ((mAdvF U j N (k + 1)).2) = ((mAdvF U j N k).2) from (by rw [eF])]; exact lv_sub hl [2, 3, 0, 4, 5, 6, 7] rfl)
                    · have c_7 := nI_nle' (a := N) (b := k2) c_7 (by omega) (by omega)
                      refine lv_aload_n hx hb dX6_advise_123 rfl (lv_at hl 4 rfl) ?_
                      refine fk_mx (fcV X hw (c_m_minute l g ad M hM (okHz_go hOk2 k2)) hMo rfl wq991 kVX6_minuteOn ⟨(Nat.le_of_ble_eq_true rfl), (Nat.le_of_ble_eq_true rfl)⟩ rfl hl.1 rfl (Nat.le_of_ble_eq_true rfl) dX6_advise_124 ⟨(by dsimp only [fR]; omega), (by dsimp only [fR]; omega)⟩) hw (fun M18 ca H locs hM hr18 hw => ?_)
                      have hrA := fReg_tr hrA hr18
                      refine lv_pop hx hb dX6_advise_127 rfl ?_
                      refine lv_iinc (v := nI (k2 + 1)) (lv' := [(7, .int (nI (k2 + 1))), (3, .int ((mAdvF U j N k).1)), (4, .int ((mAdvF U j N k).2)), (6, .int (nI k)), (0, .ref (ad 5)), (1, .int (nI j)), (2, .int (nI N)), (5, .ref (ad 20))]) hx hb dX6_advise_128 hl (k := 0) rfl (nI_1 k2) (by decide) rfl (fun ls hl => ?_)
                      refine lv_goto (tgt := 117) hx hb dX6_advise_131 (by decide) ?_
                      exact ih117 (k2 + 1) (by omega) (by omega) M18 _ hM hrA ls _ _ hw (lv_sub hl [0, 1, 2, 3, 4, 5, 6, 7] rfl)
                exact loop117 (N + 1) 0 (by omega) (by omega) M17 _ hM hrA ls _ _ hw (lv_sub hl [0, 1, 2, 3, 4, 5, 6, 7] rfl)
              · refine lv_goto (tgt := 164) hx hb dX6_advise_99 (by decide) ?_
                refine lv_iinc (v := nI (k + 1)) (lv' := [(6, .int (nI (k + 1))), (3, .int ((mAdvF U j N k).1)), (4, .int ((mAdvF U j N k).2)), (0, .ref (ad 5)), (1, .int (nI j)), (2, .int (nI N)), (5, .ref (ad 20))]) hx hb dX6_advise_164 hl (k := 2) rfl (nI_1 k) (by decide) rfl (fun ls hl => ?_)
                refine lv_goto (tgt := 50) hx hb dX6_advise_167 (by decide) ?_
                refine W.widen (k := (5 + (k + 1))) (n := (275 + 4 * (k + 1))) (by omega) (by omega) ?_
                have hB : mAdvB (mAdvV U j N k) j k = false := by rw [← hV]; simp [mAdvB, c_3, c_4, c_5, c_6]
                have eF := mAdvF_no hB
                exact ih (k + 1) (by omega) (by omega) ad M ca (by rw [mAdvV_no hB, ← hV]; exact hM) (by rw [← hMo2]; exact hK) (by rw [← hMo2]; exact hrB) hA5 ls _ _ hw (by rw [show ((mAdvF U j N (k + 1)).1) = ((mAdvF U j N k).1) from (by rw [eF]), show ((mAdvF U j N (k + 1)).2) = ((mAdvF U j N k).2) from (by rw [eF])]; exact lv_sub hl [1, 2, 0, 3, 4, 5, 6] rfl)
    refine W.widen (k := (5 + 0)) (n := (275 + 4 * 0)) (by omega) (by omega) ?_
    exact loop50 (tHn U + 1) 0 (by omega) (by omega) ad M ca hM (by rw [← hMo2]; exact hK) (by rw [← hMo2]; exact fReg_w hrB (by omega) (by omega)) hA5 ls _ _ hw (lv_sub hl [3, 2, 0, 4, 5, 6, 1] rfl)
  exact seg ad1 M1 hM1 hK1 (by rw [hado]; exact fReg_tr (fReg_w hrA (by omega) (by omega)) (fReg_w hr1 (by omega) (by omega))) (fun l a => by rw [hado]; exact (hr1 l (by omega) (by omega)).1) ls _ _ hw hl
