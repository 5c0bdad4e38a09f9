theorem ix7 {h k : Nat} {what : Int32} (hk : what = nI k) : 7 * nI h + what = nI (7 * h + k) := by rw [hk, show (7 : Int32) = nI 7 from rfl, pk_mul, nI_add]
theorem ix9 {h k : Nat} {what : Int32} (hk : what = nI k) : 9 * nI h + what = nI (9 * h + k) := by rw [hk, show (9 : Int32) = nI 9 from rfl, pk_mul, nI_add]
def hAt (U : fTn) (c : Int32) : Int32 := jFirst (fun i => decide (tH U i 0 = c)) (tHn U)
def pAt (U : fTn) (c : Int32) : Int32 := jFirst (fun i => decide (tP U i 0 = c)) (tPn U)
def mSt (U : fTn) (c : Int32) : Bool := decide (hAt U c = -1) && decide (pAt U c = -1)
def frF (U : fTn) (c : Int32) : Nat → Bool
  | 0 => mSt U c
  | k + 1 => frF U c k && (decide (¬ tE U k 0 = c) && (decide (tE U k 5 = 0) || decide (¬ tE U k 6 = c)))
def mHeat (f : Nat → Nat → Int32) (w : Int32) : Nat → Int32
  | 0 => 0
  | k + 1 => mHeat f w k + (if mNear (f k 0) w = true then f k 4 else 0)
def mSrc (U : fTn) (f : Nat → Int32) : Int32 := jFirst (fun i => eStands f && mNear (tP U i 0) (f 0)) (tPn U)
def mTell (U : fTn) (f : Nat → Int32) (k : Nat) : Int32 := if k = 6 then f 7 else if k = 7 then mSrc U f else if k = 8 then f 9 else if k = 9 then ePump f else f k
set_option maxHeartbeats 4000000 in
set_option maxRecDepth 100000 in
theorem c_isIn (l : Launch) (g : fG) (ad : Nat → Nat) (M : fM) (x y z : Int32) : fCi l g yX6_isIn cX6_isIn 3 ((some .boolean)) 0 0 0 0 ad M [.int x, .int y, .int z] (fDi ad M (bI (inR x y z))) := by
  refine f_body (own := RX6) (by decide +kernel) rfl (Nat.le_of_ble_eq_true rfl) ?_
  intro p e s m args below meth c ls X hw hin hl
  have hx := X.1
  have hb := X.2.1
  have hl : lv_has ls 3 [(0, .int x), (1, .int y), (2, .int z)] := hl
  refine lv_iload_n hx hb dX6_isIn_0 rfl (lv_at hl 0 rfl) ?_
  refine lv_iload_n hx hb dX6_isIn_1 rfl (lv_at hl 1 rfl) ?_
  refine lv_icmp_lt (tgt := 14) hx hb dX6_isIn_2 (by decide) (fun c_1 => ?_) (fun c_1 => ?_)
  · refine lv_iconst (v := 0) hx hb dX6_isIn_14 (by decide) ?_
    exact f_zret X hw rfl ⟨rfl, rfl, by simp [inR, bI, c_1]⟩ (Nat.le_refl _) (Nat.le_refl _) dX6_isIn_15
  · refine lv_iload_n hx hb dX6_isIn_5 rfl (lv_at hl 0 rfl) ?_
    refine lv_iload_n hx hb dX6_isIn_6 rfl (lv_at hl 2 rfl) ?_
    refine lv_icmp_gt (tgt := 14) hx hb dX6_isIn_7 (by decide) (fun c_2 => ?_) (fun c_2 => ?_)
    · refine lv_iconst (v := 0) hx hb dX6_isIn_14 (by decide) ?_
      exact f_zret X hw rfl ⟨rfl, rfl, by simp [inR, bI, c_1, c_2]⟩ (Nat.le_refl _) (Nat.le_refl _) dX6_isIn_15
    · refine lv_iconst (v := 1) hx hb dX6_isIn_10 (by decide) ?_
      refine lv_goto (tgt := 15) hx hb dX6_isIn_11 (by decide) ?_
      exact f_zret X hw rfl ⟨rfl, rfl, by simp [inR, bI, c_1, c_2]⟩ (Nat.le_refl _) (Nat.le_refl _) dX6_isIn_15
set_option maxHeartbeats 4000000 in
set_option maxRecDepth 100000 in
theorem c_isCell (l : Launch) (g : fG) (ad : Nat → Nat) (M : fM) (x y : Int32) : fCi l g yX6_isCell cX6_isCell 2 ((some .boolean)) 1 22 0 0 ad M [.int x, .int y] (fDi ad M (bI (aOn x y))) := by
  refine f_body (own := RX6) (by decide +kernel) rfl (Nat.le_of_ble_eq_true rfl) ?_
  intro p e s m args below meth c ls X hw hin hl
  have hx := X.1
  have hb := X.2.1
  have hl : lv_has ls 2 [(0, .int x), (1, .int y)] := hl
  refine lv_iload_n hx hb dX6_isCell_0 rfl (lv_at hl 0 rfl) ?_
  refine lv_iconst (v := 0) hx hb dX6_isCell_1 (by decide) ?_
  refine lv_bipush (v := 13) hx hb dX6_isCell_2 (by decide) ?_
  refine fk_di (fcS X hw (c_isIn l g ad M x 0 13) wq846 kSX6_isIn ⟨(Nat.le_of_ble_eq_true rfl), (Nat.le_of_ble_eq_true rfl)⟩ rfl hl.1 rfl (Nat.le_of_ble_eq_true rfl) dX6_isCell_4 ⟨Nat.le_refl _, Nat.le_refl _⟩) hw (fun H locs hw => ?_)
  refine lv_if_eq (tgt := 24) hx hb dX6_isCell_7 (by decide) (fun c_1 => ?_) (fun c_1 => ?_)
  · have c_1 := bI_f.mp c_1
    refine lv_iconst (v := 0) hx hb dX6_isCell_24 (by decide) ?_
    exact f_zret X hw rfl ⟨rfl, rfl, by rw [← inR_cell]; simp [bI, c_1]⟩ (Nat.le_refl _) (Nat.le_refl _) dX6_isCell_25
  · have c_1 := bI_nf.mp c_1
    refine lv_iload_n hx hb dX6_isCell_10 rfl (lv_at hl 1 rfl) ?_
    refine lv_iconst (v := 0) hx hb dX6_isCell_11 (by decide) ?_
    refine lv_bipush (v := 9) hx hb dX6_isCell_12 (by decide) ?_
    refine fk_di (fcS X hw (c_isIn l g ad M y 0 9) wq846 kSX6_isIn ⟨(Nat.le_of_ble_eq_true rfl), (Nat.le_of_ble_eq_true rfl)⟩ rfl hl.1 rfl (Nat.le_of_ble_eq_true rfl) dX6_isCell_14 ⟨Nat.le_refl _, Nat.le_refl _⟩) hw (fun H locs hw => ?_)
    refine lv_if_eq (tgt := 24) hx hb dX6_isCell_17 (by decide) (fun c_2 => ?_) (fun c_2 => ?_)
    · have c_2 := bI_f.mp c_2
      refine lv_iconst (v := 0) hx hb dX6_isCell_24 (by decide) ?_
      exact f_zret X hw rfl ⟨rfl, rfl, by rw [← inR_cell]; simp [bI, c_1, c_2]⟩ (Nat.le_refl _) (Nat.le_refl _) dX6_isCell_25
    · have c_2 := bI_nf.mp c_2
      refine lv_iconst (v := 1) hx hb dX6_isCell_20 (by decide) ?_
      refine lv_goto (tgt := 25) hx hb dX6_isCell_21 (by decide) ?_
      exact f_zret X hw rfl ⟨rfl, rfl, by rw [← inR_cell]; simp [bI, c_1, c_2]⟩ (Nat.le_refl _) (Nat.le_refl _) dX6_isCell_25
set_option maxHeartbeats 4000000 in
set_option maxRecDepth 100000 in
theorem c_columns (l : Launch) (g : fG) (ad : Nat → Nat) (M : fM) (a b : Int32) : fCi l g yX6_columns cX6_columns 2 ((some .int)) 1 14 0 0 ad M [.int a, .int b] (fDi ad M (iAbs (iMod a - iMod b))) := by
  refine f_body (own := RX6) (by decide +kernel) rfl (Nat.le_of_ble_eq_true rfl) ?_
  intro p e s m args below meth c ls X hw hin hl
  have hx := X.1
  have hb := X.2.1
  have hl : lv_has ls 2 [(0, .int a), (1, .int b)] := hl
  refine lv_iload_n hx hb dX6_columns_0 rfl (lv_at hl 0 rfl) ?_
  refine lv_bipush (v := 14) hx hb dX6_columns_1 (by decide) ?_
  refine lv_irem hx hb dX6_columns_3 (by decide) ?_
  refine lv_iload_n hx hb dX6_columns_4 rfl (lv_at hl 1 rfl) ?_
  refine lv_bipush (v := 14) hx hb dX6_columns_5 (by decide) ?_
  refine lv_irem hx hb dX6_columns_7 (by decide) ?_
  refine lv_isub hx hb dX6_columns_8 ?_
  refine va_mabs hx hb (X.2.2.1.trans hl.1.symm) X.2.2.2.1 (X.2.2.2.2.1 _ wq912) (X.2.2.2.2.1 _ wq382) (X.2.2.2.2.1 _ wq18) (X.2.2.2.2.1 _ wq383) (Nat.le_of_ble_eq_true rfl) (Nat.le_of_ble_eq_true rfl) (Nat.zero_le _) (Nat.zero_le _) dX6_columns_9 ?_
  exact f_iret X hw ⟨rfl, rfl, rfl⟩ (Nat.le_refl _) (Nat.le_refl _) dX6_columns_12
set_option maxHeartbeats 4000000 in
set_option maxRecDepth 100000 in
theorem c_rows (l : Launch) (g : fG) (ad : Nat → Nat) (M : fM) (a b : Int32) : fCi l g yX6_rows cX6_rows 2 ((some .int)) 1 14 0 0 ad M [.int a, .int b] (fDi ad M (iAbs (a / 14 - b / 14))) := by
  refine f_body (own := RX6) (by decide +kernel) rfl (Nat.le_of_ble_eq_true rfl) ?_
  intro p e s m args below meth c ls X hw hin hl
  have hx := X.1
  have hb := X.2.1
  have hl : lv_has ls 2 [(0, .int a), (1, .int b)] := hl
  refine lv_iload_n hx hb dX6_rows_0 rfl (lv_at hl 0 rfl) ?_
  refine lv_bipush (v := 14) hx hb dX6_rows_1 (by decide) ?_
  refine lv_idiv hx hb dX6_rows_3 (by decide) ?_
  refine lv_iload_n hx hb dX6_rows_4 rfl (lv_at hl 1 rfl) ?_
  refine lv_bipush (v := 14) hx hb dX6_rows_5 (by decide) ?_
  refine lv_idiv hx hb dX6_rows_7 (by decide) ?_
  refine lv_isub hx hb dX6_rows_8 ?_
  refine va_mabs hx hb (X.2.2.1.trans hl.1.symm) X.2.2.2.1 (X.2.2.2.2.1 _ wq912) (X.2.2.2.2.1 _ wq382) (X.2.2.2.2.1 _ wq18) (X.2.2.2.2.1 _ wq383) (Nat.le_of_ble_eq_true rfl) (Nat.le_of_ble_eq_true rfl) (Nat.zero_le _) (Nat.zero_le _) dX6_rows_9 ?_
  exact f_iret X hw ⟨rfl, rfl, rfl⟩ (Nat.le_refl _) (Nat.le_refl _) dX6_rows_12
set_option maxHeartbeats 4000000 in
set_option maxRecDepth 100000 in
theorem c_isNear (l : Launch) (g : fG) (ad : Nat → Nat) (M : fM) (a b : Int32) : fCi l g yX6_isNear cX6_isNear 2 ((some .boolean)) 2 36 0 0 ad M [.int a, .int b] (fDi ad M (bI (mNear a b))) := by
  refine f_body (own := RX6) (by decide +kernel) rfl (Nat.le_of_ble_eq_true rfl) ?_
  intro p e s m args below meth c ls X hw hin hl
  have hx := X.1
  have hb := X.2.1
  have hl : lv_has ls 2 [(0, .int a), (1, .int b)] := hl
  refine lv_iload_n hx hb dX6_isNear_0 rfl (lv_at hl 0 rfl) ?_
  refine lv_iload_n hx hb dX6_isNear_1 rfl (lv_at hl 1 rfl) ?_
  refine lv_icmp_eq (tgt := 27) hx hb dX6_isNear_2 (by decide) (fun c_1 => ?_) (fun c_1 => ?_)
  · refine lv_iconst (v := 0) hx hb dX6_isNear_27 (by decide) ?_
    exact f_zret X hw rfl ⟨rfl, rfl, by simp [mNear, bI, c_1]⟩ (Nat.le_refl _) (Nat.le_refl _) dX6_isNear_28
  · refine lv_iload_n hx hb dX6_isNear_5 rfl (lv_at hl 0 rfl) ?_
    refine lv_iload_n hx hb dX6_isNear_6 rfl (lv_at hl 1 rfl) ?_
    refine fk_di (fcS X hw (c_columns l g ad M a b) wq909 kSX6_columns ⟨(Nat.le_of_ble_eq_true rfl), (Nat.le_of_ble_eq_true rfl)⟩ rfl hl.1 rfl (Nat.le_of_ble_eq_true rfl) dX6_isNear_7 ⟨Nat.le_refl _, Nat.le_refl _⟩) hw (fun H locs hw => ?_)
    refine lv_iconst (v := 1) hx hb dX6_isNear_10 (by decide) ?_
    refine lv_icmp_gt (tgt := 27) hx hb dX6_isNear_11 (by decide) (fun c_2 => ?_) (fun c_2 => ?_)
    · refine lv_iconst (v := 0) hx hb dX6_isNear_27 (by decide) ?_
      exact f_zret X hw rfl ⟨rfl, rfl, by simp [mNear, bI, c_1, c_2]⟩ (Nat.le_refl _) (Nat.le_refl _) dX6_isNear_28
    · refine lv_iload_n hx hb dX6_isNear_14 rfl (lv_at hl 0 rfl) ?_
      refine lv_iload_n hx hb dX6_isNear_15 rfl (lv_at hl 1 rfl) ?_
      refine fk_di (fcS X hw (c_rows l g ad M a b) wq913 kSX6_rows ⟨(Nat.le_of_ble_eq_true rfl), (Nat.le_of_ble_eq_true rfl)⟩ rfl hl.1 rfl (Nat.le_of_ble_eq_true rfl) dX6_isNear_16 ⟨Nat.le_refl _, Nat.le_refl _⟩) hw (fun H locs hw => ?_)
      refine lv_iconst (v := 1) hx hb dX6_isNear_19 (by decide) ?_
      refine lv_icmp_gt (tgt := 27) hx hb dX6_isNear_20 (by decide) (fun c_3 => ?_) (fun c_3 => ?_)
      · refine lv_iconst (v := 0) hx hb dX6_isNear_27 (by decide) ?_
        exact f_zret X hw rfl ⟨rfl, rfl, by simp [mNear, bI, c_1, c_2, c_3]⟩ (Nat.le_refl _) (Nat.le_refl _) dX6_isNear_28
      · refine lv_iconst (v := 1) hx hb dX6_isNear_23 (by decide) ?_
        refine lv_goto (tgt := 28) hx hb dX6_isNear_24 (by decide) ?_
        exact f_zret X hw rfl ⟨rfl, rfl, by simp [mNear, bI, c_1, c_2, c_3]⟩ (Nat.le_refl _) (Nat.le_refl _) dX6_isNear_28
set_option maxHeartbeats 4000000 in
set_option maxRecDepth 100000 in
theorem c_far (l : Launch) (g : fG) (ad : Nat → Nat) (M : fM) (a b : Int32) : fCi l g yX6_far cX6_far 2 ((some .int)) 2 36 0 0 ad M [.int a, .int b] (fDi ad M (aDist a b)) := by
  refine f_body (own := RX6) (by decide +kernel) rfl (Nat.le_of_ble_eq_true rfl) ?_
  intro p e s m args below meth c ls X hw hin hl
  have hx := X.1
  have hb := X.2.1
  have hl : lv_has ls 2 [(0, .int a), (1, .int b)] := hl
  refine lv_iload_n hx hb dX6_far_0 rfl (lv_at hl 0 rfl) ?_
  refine lv_iload_n hx hb dX6_far_1 rfl (lv_at hl 1 rfl) ?_
  refine fk_di (fcS X hw (c_columns l g ad M a b) wq909 kSX6_columns ⟨(Nat.le_of_ble_eq_true rfl), (Nat.le_of_ble_eq_true rfl)⟩ rfl hl.1 rfl (Nat.le_of_ble_eq_true rfl) dX6_far_2 ⟨Nat.le_refl _, Nat.le_refl _⟩) hw (fun H locs hw => ?_)
  refine lv_iload_n hx hb dX6_far_5 rfl (lv_at hl 0 rfl) ?_
  refine lv_iload_n hx hb dX6_far_6 rfl (lv_at hl 1 rfl) ?_
  refine fk_di (fcS X hw (c_rows l g ad M a b) wq913 kSX6_rows ⟨(Nat.le_of_ble_eq_true rfl), (Nat.le_of_ble_eq_true rfl)⟩ rfl hl.1 rfl (Nat.le_of_ble_eq_true rfl) dX6_far_7 ⟨Nat.le_refl _, Nat.le_refl _⟩) hw (fun H locs hw => ?_)
  refine lv_iadd hx hb dX6_far_10 ?_
  exact f_iret X hw ⟨rfl, rfl, rfl⟩ (Nat.le_refl _) (Nat.le_refl _) dX6_far_11
set_option maxHeartbeats 4000000 in
set_option maxRecDepth 100000 in
theorem c_thrown (l : Launch) (g : fG) (ad : Nat → Nat) (M : fM) {th : Int32} {U : fTn} {sp ca : Nat → Int32} (hM : isMo g ad M th U sp ca) : fCi l g yX6_thrown cX6_thrown 1 ((some .int)) 0 0 0 0 ad M [.ref (ad 5)] (fDi ad M th) := by
  refine f_body (own := RX6) (by decide +kernel) rfl (Nat.le_of_ble_eq_true rfl) ?_
  intro p e s m args below meth c ls X hw hin hl
  have hx := X.1
  have hb := X.2.1
  have hl : lv_has ls 1 [(0, .ref (ad 5))] := hl
  obtain ⟨pcs, wa, ht, et, mi, co, as, hMo, ⟨hm6, hm7, hm8, hm9, hm10, hm11, hm12, hm13, hm14⟩, hRel, hCnt⟩ := id hM
  obtain ⟨hn1, hn2, hn3⟩ := id hCnt
  have hn1 : tHn U ≤ 30 := hn1
  have hn2 : tPn U ≤ 6 := hn2
  have hn3 : tEn U ≤ 6 := hn3
  have hMo : M 5 = some (.inr (7, [.int th, .int (nI (tHn U)), .int (nI (tPn U)), .int (nI (tEn U)), .ref (ad 6), .ref (ad 7), .ref (ad 8), .ref (ad 9), .ref (ad 10), .ref (ad 11), .ref (ad 12), .ref (ad 13), .ref (ad 14)])) := hMo
  obtain ⟨rH, rP, rE, rM⟩ := id hRel
  refine lv_aload_n hx hb dX6_thrown_0 rfl (lv_at hl 0 rfl) ?_
  refine f_get X hw hMo fc7 0 (by decide) wq794 rfl (v := .int th) rfl dX6_thrown_1 ?_
  exact f_iret X hw ⟨rfl, rfl, rfl⟩ (Nat.le_refl _) (Nat.le_refl _) dX6_thrown_4
set_option maxHeartbeats 4000000 in
set_option maxRecDepth 100000 in
theorem c_fail (l : Launch) (g : fG) (ad : Nat → Nat) (M : fM) {th : Int32} {U : fTn} {sp ca : Nat → Int32} (hM : isMo g ad M th U sp ca) (x : Int32) : fCi l g yX6_fail cX6_fail 2 ((some .int)) 0 0 0 0 ad M [.ref (ad 5), .int x] (fMi g ad M x U sp ca 0) := by
  refine f_body (own := RX6) (by decide +kernel) rfl (Nat.le_of_ble_eq_true rfl) ?_
  intro p e s m args below meth c ls X hw hin hl
  have hx := X.1
  have hb := X.2.1
  have hl : lv_has ls 2 [(0, .ref (ad 5)), (1, .int x)] := hl
  obtain ⟨pcs, wa, ht, et, mi, co, as, hMo, ⟨hm6, hm7, hm8, hm9, hm10, hm11, hm12, hm13, hm14⟩, hRel, hCnt⟩ := id hM
  obtain ⟨hn1, hn2, hn3⟩ := id hCnt
  have hn1 : tHn U ≤ 30 := hn1
  have hn2 : tPn U ≤ 6 := hn2
  have hn3 : tEn U ≤ 6 := hn3
  have hMo : M 5 = some (.inr (7, [.int th, .int (nI (tHn U)), .int (nI (tPn U)), .int (nI (tEn U)), .ref (ad 6), .ref (ad 7), .ref (ad 8), .ref (ad 9), .ref (ad 10), .ref (ad 11), .ref (ad 12), .ref (ad 13), .ref (ad 14)])) := hMo
  obtain ⟨rH, rP, rE, rM⟩ := id hRel
  refine lv_aload_n hx hb dX6_fail_0 rfl (lv_at hl 0 rfl) ?_
  refine lv_iload_n hx hb dX6_fail_1 rfl (lv_at hl 1 rfl) ?_
  refine f_put X hw hMo fc7 0 (by decide) wq794 rfl rfl (v := .int x) rfl rfl (Nat.le_of_ble_eq_true rfl) dX6_fail_2 (fun H locs hw => ?_)
  have hw : fw g ad (fU M 5 (.inr (7, [.int x, .int (nI (tHn U)), .int (nI (tPn U)), .int (nI (tEn U)), .ref (ad 6), .ref (ad 7), .ref (ad 8), .ref (ad 9), .ref (ad 10), .ref (ad 11), .ref (ad 12), .ref (ad 13), .ref (ad 14)]))) s H locs := hw
  have hm6 : (fU M 5 (.inr (7, [.int x, .int (nI (tHn U)), .int (nI (tPn U)), .int (nI (tEn U)), .ref (ad 6), .ref (ad 7), .ref (ad 8), .ref (ad 9), .ref (ad 10), .ref (ad 11), .ref (ad 12), .ref (ad 13), .ref (ad 14)]))) 6 = some (.inl (gI g, 6, .inl pcs)) := (fU_n (by omega)).trans hm6
  have hm7 : (fU M 5 (.inr (7, [.int x, .int (nI (tHn U)), .int (nI (tPn U)), .int (nI (tEn U)), .ref (ad 6), .ref (ad 7), .ref (ad 8), .ref (ad 9), .ref (ad 10), .ref (ad 11), .ref (ad 12), .ref (ad 13), .ref (ad 14)]))) 7 = some (.inl (gI g, 6, .inl wa)) := (fU_n (by omega)).trans hm7
  have hm8 : (fU M 5 (.inr (7, [.int x, .int (nI (tHn U)), .int (nI (tPn U)), .int (nI (tEn U)), .ref (ad 6), .ref (ad 7), .ref (ad 8), .ref (ad 9), .ref (ad 10), .ref (ad 11), .ref (ad 12), .ref (ad 13), .ref (ad 14)]))) 8 = some (.inl (gI g, 210, .inl ht)) := (fU_n (by omega)).trans hm8
  have hm9 : (fU M 5 (.inr (7, [.int x, .int (nI (tHn U)), .int (nI (tPn U)), .int (nI (tEn U)), .ref (ad 6), .ref (ad 7), .ref (ad 8), .ref (ad 9), .ref (ad 10), .ref (ad 11), .ref (ad 12), .ref (ad 13), .ref (ad 14)]))) 9 = some (.inl (gI g, 54, .inl et)) := (fU_n (by omega)).trans hm9
  have hm10 : (fU M 5 (.inr (7, [.int x, .int (nI (tHn U)), .int (nI (tPn U)), .int (nI (tEn U)), .ref (ad 6), .ref (ad 7), .ref (ad 8), .ref (ad 9), .ref (ad 10), .ref (ad 11), .ref (ad 12), .ref (ad 13), .ref (ad 14)]))) 10 = some (.inl (gI g, 1, .inl mi)) := (fU_n (by omega)).trans hm10
  have hm11 : (fU M 5 (.inr (7, [.int x, .int (nI (tHn U)), .int (nI (tPn U)), .int (nI (tEn U)), .ref (ad 6), .ref (ad 7), .ref (ad 8), .ref (ad 9), .ref (ad 10), .ref (ad 11), .ref (ad 12), .ref (ad 13), .ref (ad 14)]))) 11 = some (.inl (gI g, 6, .inl co)) := (fU_n (by omega)).trans hm11
  have hm12 : (fU M 5 (.inr (7, [.int x, .int (nI (tHn U)), .int (nI (tPn U)), .int (nI (tEn U)), .ref (ad 6), .ref (ad 7), .ref (ad 8), .ref (ad 9), .ref (ad 10), .ref (ad 11), .ref (ad 12), .ref (ad 13), .ref (ad 14)]))) 12 = some (.inl (gZ g, 6, .inl as)) := (fU_n (by omega)).trans hm12
  have hm13 : (fU M 5 (.inr (7, [.int x, .int (nI (tHn U)), .int (nI (tPn U)), .int (nI (tEn U)), .ref (ad 6), .ref (ad 7), .ref (ad 8), .ref (ad 9), .ref (ad 10), .ref (ad 11), .ref (ad 12), .ref (ad 13), .ref (ad 14)]))) 13 = some (.inl (gI g, 140, .inl sp)) := (fU_n (by omega)).trans hm13
  have hm14 : (fU M 5 (.inr (7, [.int x, .int (nI (tHn U)), .int (nI (tPn U)), .int (nI (tEn U)), .ref (ad 6), .ref (ad 7), .ref (ad 8), .ref (ad 9), .ref (ad 10), .ref (ad 11), .ref (ad 12), .ref (ad 13), .ref (ad 14)]))) 14 = some (.inl (gZ g, 30, .inl ca)) := (fU_n (by omega)).trans hm14
  have hMo : (fU M 5 (.inr (7, [.int x, .int (nI (tHn U)), .int (nI (tPn U)), .int (nI (tEn U)), .ref (ad 6), .ref (ad 7), .ref (ad 8), .ref (ad 9), .ref (ad 10), .ref (ad 11), .ref (ad 12), .ref (ad 13), .ref (ad 14)]))) 5 = some (.inr (7, [.int x, .int (nI (tHn U)), .int (nI (tPn U)), .int (nI (tEn U)), .ref (ad 6), .ref (ad 7), .ref (ad 8), .ref (ad 9), .ref (ad 10), .ref (ad 11), .ref (ad 12), .ref (ad 13), .ref (ad 14)])) := fU_s
  refine lv_iconst (v := 0) hx hb dX6_fail_5 (by decide) ?_
  exact f_iret X hw ⟨rfl, ⟨_, _, _, _, _, _, _, fU_s, ⟨(fU_n (by omega)).trans (hm6), (fU_n (by omega)).trans (hm7), (fU_n (by omega)).trans (hm8), (fU_n (by omega)).trans (hm9), (fU_n (by omega)).trans (hm10), (fU_n (by omega)).trans (hm11), (fU_n (by omega)).trans (hm12), (fU_n (by omega)).trans (hm13), (fU_n (by omega)).trans (hm14)⟩, hRel, hCnt⟩, fReg_U fReg_rf (by omega), rfl⟩ (Nat.le_refl _) (Nat.le_refl _) dX6_fail_6
set_option maxHeartbeats 4000000 in
set_option maxRecDepth 100000 in
theorem c_m_isHouse (l : Launch) (g : fG) (ad : Nat → Nat) (M : fM) {th : Int32} {U : fTn} {sp ca : Nat → Int32} (hM : isMo g ad M th U sp ca) (x : Int32) : fCi l g yX6_isHouse cX6_isHouse 2 ((some .boolean)) 1 22 0 0 ad M [.ref (ad 5), .int x] (fDi ad M (bI (isIx (tHn U) x))) := by
  refine f_body (own := RX6) (by decide +kernel) rfl (Nat.le_of_ble_eq_true rfl) ?_
  intro p e s m args below meth c ls X hw hin hl
  have hx := X.1
  have hb := X.2.1
  have hl : lv_has ls 2 [(0, .ref (ad 5)), (1, .int x)] := hl
  obtain ⟨pcs, wa, ht, et, mi, co, as, hMo, ⟨hm6, hm7, hm8, hm9, hm10, hm11, hm12, hm13, hm14⟩, hRel, hCnt⟩ := id hM
  obtain ⟨hn1, hn2, hn3⟩ := id hCnt
  have hn1 : tHn U ≤ 30 := hn1
  have hn2 : tPn U ≤ 6 := hn2
  have hn3 : tEn U ≤ 6 := hn3
  have hMo : M 5 = some (.inr (7, [.int th, .int (nI (tHn U)), .int (nI (tPn U)), .int (nI (tEn U)), .ref (ad 6), .ref (ad 7), .ref (ad 8), .ref (ad 9), .ref (ad 10), .ref (ad 11), .ref (ad 12), .ref (ad 13), .ref (ad 14)])) := hMo
  obtain ⟨rH, rP, rE, rM⟩ := id hRel
  refine lv_iload_n hx hb dX6_isHouse_0 rfl (lv_at hl 1 rfl) ?_
  refine lv_iconst (v := 0) hx hb dX6_isHouse_1 (by decide) ?_
  refine lv_aload_n hx hb dX6_isHouse_2 rfl (lv_at hl 0 rfl) ?_
  refine f_get X hw hMo fc7 1 (by decide) wq795 rfl (v := .int (nI (tHn U))) rfl dX6_isHouse_3 ?_
  refine lv_iconst (v := 1) hx hb dX6_isHouse_6 (by decide) ?_
  refine lv_isub hx hb dX6_isHouse_7 ?_
  refine fk_di (fcS X hw (c_isIn l g ad M x 0 (nI (tHn U) - 1)) wq846 kSX6_isIn ⟨(Nat.le_of_ble_eq_true rfl), (Nat.le_of_ble_eq_true rfl)⟩ rfl hl.1 rfl (Nat.le_of_ble_eq_true rfl) dX6_isHouse_8 ⟨Nat.le_refl _, Nat.le_refl _⟩) hw (fun H locs hw => ?_)
  exact f_zret X hw (bI_nar _) ⟨rfl, rfl, by rw [inR_ix (by omega)]⟩ (Nat.le_refl _) (Nat.le_refl _) dX6_isHouse_11
set_option maxHeartbeats 4000000 in
set_option maxRecDepth 100000 in
theorem c_m_isEngine (l : Launch) (g : fG) (ad : Nat → Nat) (M : fM) {th : Int32} {U : fTn} {sp ca : Nat → Int32} (hM : isMo g ad M th U sp ca) (x : Int32) : fCi l g yX6_isEngine cX6_isEngine 2 ((some .boolean)) 1 22 0 0 ad M [.ref (ad 5), .int x] (fDi ad M (bI (isIx (tEn U) x))) := by
  refine f_body (own := RX6) (by decide +kernel) rfl (Nat.le_of_ble_eq_true rfl) ?_
  intro p e s m args below meth c ls X hw hin hl
  have hx := X.1
  have hb := X.2.1
  have hl : lv_has ls 2 [(0, .ref (ad 5)), (1, .int x)] := hl
  obtain ⟨pcs, wa, ht, et, mi, co, as, hMo, ⟨hm6, hm7, hm8, hm9, hm10, hm11, hm12, hm13, hm14⟩, hRel, hCnt⟩ := id hM
  obtain ⟨hn1, hn2, hn3⟩ := id hCnt
  have hn1 : tHn U ≤ 30 := hn1
  have hn2 : tPn U ≤ 6 := hn2
  have hn3 : tEn U ≤ 6 := hn3
  have hMo : M 5 = some (.inr (7, [.int th, .int (nI (tHn U)), .int (nI (tPn U)), .int (nI (tEn U)), .ref (ad 6), .ref (ad 7), .ref (ad 8), .ref (ad 9), .ref (ad 10), .ref (ad 11), .ref (ad 12), .ref (ad 13), .ref (ad 14)])) := hMo
  obtain ⟨rH, rP, rE, rM⟩ := id hRel
  refine lv_iload_n hx hb dX6_isEngine_0 rfl (lv_at hl 1 rfl) ?_
  refine lv_iconst (v := 0) hx hb dX6_isEngine_1 (by decide) ?_
  refine lv_aload_n hx hb dX6_isEngine_2 rfl (lv_at hl 0 rfl) ?_
  refine f_get X hw hMo fc7 3 (by decide) wq797 rfl (v := .int (nI (tEn U))) rfl dX6_isEngine_3 ?_
  refine lv_iconst (v := 1) hx hb dX6_isEngine_6 (by decide) ?_
  refine lv_isub hx hb dX6_isEngine_7 ?_
  refine fk_di (fcS X hw (c_isIn l g ad M x 0 (nI (tEn U) - 1)) wq846 kSX6_isIn ⟨(Nat.le_of_ble_eq_true rfl), (Nat.le_of_ble_eq_true rfl)⟩ rfl hl.1 rfl (Nat.le_of_ble_eq_true rfl) dX6_isEngine_8 ⟨Nat.le_refl _, Nat.le_refl _⟩) hw (fun H locs hw => ?_)
  exact f_zret X hw (bI_nar _) ⟨rfl, rfl, by rw [inR_ix (by omega)]⟩ (Nat.le_refl _) (Nat.le_refl _) dX6_isEngine_11
set_option maxHeartbeats 4000000 in
set_option maxRecDepth 100000 in
theorem c_ho (l : Launch) (g : fG) (ad : Nat → Nat) (M : fM) {th : Int32} {U : fTn} {sp ca : Nat → Int32} (hM : isMo g ad M th U sp ca) {h0 k : Nat} {what : Int32} (hh : h0 < tHn U) (hk : what = nI k) (hk7 : k < 7) : fCi l g yX6_ho cX6_ho 3 ((some .int)) 0 0 0 0 ad M [.ref (ad 5), .int (nI h0), .int what] (fDi ad M (tH U h0 k)) := by
  refine f_body (own := RX6) (by decide +kernel) rfl (Nat.le_of_ble_eq_true rfl) ?_
  intro p e s m args below meth c ls X hw hin hl
  have hx := X.1
  have hb := X.2.1
  have hl : lv_has ls 3 [(0, .ref (ad 5)), (1, .int (nI h0)), (2, .int what)] := hl
  obtain ⟨pcs, wa, ht, et, mi, co, as, hMo, ⟨hm6, hm7, hm8, hm9, hm10, hm11, hm12, hm13, hm14⟩, hRel, hCnt⟩ := id hM
  obtain ⟨hn1, hn2, hn3⟩ := id hCnt
  have hn1 : tHn U ≤ 30 := hn1
  have hn2 : tPn U ≤ 6 := hn2
  have hn3 : tEn U ≤ 6 := hn3
  have hMo : M 5 = some (.inr (7, [.int th, .int (nI (tHn U)), .int (nI (tPn U)), .int (nI (tEn U)), .ref (ad 6), .ref (ad 7), .ref (ad 8), .ref (ad 9), .ref (ad 10), .ref (ad 11), .ref (ad 12), .ref (ad 13), .ref (ad 14)])) := hMo
  obtain ⟨rH, rP, rE, rM⟩ := id hRel
  refine lv_aload_n hx hb dX6_ho_0 rfl (lv_at hl 0 rfl) ?_
  refine f_get X hw hMo fc7 6 (by decide) wq800 rfl (v := .ref (ad 8)) rfl dX6_ho_1 ?_
  refine lv_bipush (v := 7) hx hb dX6_ho_4 (by decide) ?_
  refine lv_iload_n hx hb dX6_ho_6 rfl (lv_at hl 1 rfl) ?_
  refine lv_imul hx hb dX6_ho_7 ?_
  refine lv_iload_n hx hb dX6_ho_8 rfl (lv_at hl 2 rfl) ?_
  refine lv_iadd hx hb dX6_ho_9 ?_
  refine f_top (y := nI (7 * h0 + k)) (ix7 hk) ?_
  refine f_iald X hw hm8 (vp_in_nI (n := (7 * h0 + k)) (by omega) (by omega)) dX6_ho_10 ?_
  rw [nI_clamp (n := (7 * h0 + k)) (by omega)]
  exact f_iret X hw ⟨rfl, rfl, rH h0 hh k hk7⟩ (Nat.le_refl _) (Nat.le_refl _) dX6_ho_11
set_option maxHeartbeats 4000000 in
set_option maxRecDepth 100000 in
theorem c_setHo (l : Launch) (g : fG) (ad : Nat → Nat) (M : fM) {th : Int32} {U : fTn} {sp ca : Nat → Int32} (hM : isMo g ad M th U sp ca) {h0 k : Nat} {what : Int32} (hh : h0 < tHn U) (hk : what = nI k) (hk7 : k < 7) (v : Int32) : fCv l g yX6_setHo cX6_setHo 4 0 0 0 0 ad M [.ref (ad 5), .int (nI h0), .int what, .int v] (fMw g ad M th (sH U h0 (upd (tH U h0) k v)) sp ca) := by
  refine f_body (own := RX6) (by decide +kernel) rfl (Nat.le_of_ble_eq_true rfl) ?_
  intro p e s m args below meth c ls X hw hin hl
  have hx := X.1
  have hb := X.2.1
  have hl : lv_has ls 4 [(0, .ref (ad 5)), (1, .int (nI h0)), (2, .int what), (3, .int v)] := hl
  obtain ⟨pcs, wa, ht, et, mi, co, as, hMo, ⟨hm6, hm7, hm8, hm9, hm10, hm11, hm12, hm13, hm14⟩, hRel, hCnt⟩ := id hM
  obtain ⟨hn1, hn2, hn3⟩ := id hCnt
  have hn1 : tHn U ≤ 30 := hn1
  have hn2 : tPn U ≤ 6 := hn2
  have hn3 : tEn U ≤ 6 := hn3
  have hMo : M 5 = some (.inr (7, [.int th, .int (nI (tHn U)), .int (nI (tPn U)), .int (nI (tEn U)), .ref (ad 6), .ref (ad 7), .ref (ad 8), .ref (ad 9), .ref (ad 10), .ref (ad 11), .ref (ad 12), .ref (ad 13), .ref (ad 14)])) := hMo
  obtain ⟨rH, rP, rE, rM⟩ := id hRel
  refine lv_aload_n hx hb dX6_setHo_0 rfl (lv_at hl 0 rfl) ?_
  refine f_get X hw hMo fc7 6 (by decide) wq800 rfl (v := .ref (ad 8)) rfl dX6_setHo_1 ?_
  refine lv_bipush (v := 7) hx hb dX6_setHo_4 (by decide) ?_
  refine lv_iload_n hx hb dX6_setHo_6 rfl (lv_at hl 1 rfl) ?_
  refine lv_imul hx hb dX6_setHo_7 ?_
  refine lv_iload_n hx hb dX6_setHo_8 rfl (lv_at hl 2 rfl) ?_
  refine lv_iadd hx hb dX6_setHo_9 ?_
  refine lv_iload_n hx hb dX6_setHo_10 rfl (lv_at hl 3 rfl) ?_
  refine f_top2 (y := nI (7 * h0 + k)) (ix7 hk) ?_
  refine f_iast X hw hm8 (vp_in_nI (n := (7 * h0 + k)) (by omega) (by omega)) dX6_setHo_11 (fun H locs hw => ?_)
  rw [nI_clamp (n := (7 * h0 + k)) (by omega)] at hw
  have hw : fw g ad (fU M 8 (.inl (gI g, 210, .inl (upd ht (7 * h0 + k) v)))) s H locs := hw
  have hMo : (fU M 8 (.inl (gI g, 210, .inl (upd ht (7 * h0 + k) v)))) 5 = some (.inr (7, [.int th, .int (nI (tHn U)), .int (nI (tPn U)), .int (nI (tEn U)), .ref (ad 6), .ref (ad 7), .ref (ad 8), .ref (ad 9), .ref (ad 10), .ref (ad 11), .ref (ad 12), .ref (ad 13), .ref (ad 14)])) := (fU_n (by omega)).trans hMo
  have hm6 : (fU M 8 (.inl (gI g, 210, .inl (upd ht (7 * h0 + k) v)))) 6 = some (.inl (gI g, 6, .inl pcs)) := (fU_n (by omega)).trans hm6
  have hm7 : (fU M 8 (.inl (gI g, 210, .inl (upd ht (7 * h0 + k) v)))) 7 = some (.inl (gI g, 6, .inl wa)) := (fU_n (by omega)).trans hm7
  have hm9 : (fU M 8 (.inl (gI g, 210, .inl (upd ht (7 * h0 + k) v)))) 9 = some (.inl (gI g, 54, .inl et)) := (fU_n (by omega)).trans hm9
  have hm10 : (fU M 8 (.inl (gI g, 210, .inl (upd ht (7 * h0 + k) v)))) 10 = some (.inl (gI g, 1, .inl mi)) := (fU_n (by omega)).trans hm10
  have hm11 : (fU M 8 (.inl (gI g, 210, .inl (upd ht (7 * h0 + k) v)))) 11 = some (.inl (gI g, 6, .inl co)) := (fU_n (by omega)).trans hm11
  have hm12 : (fU M 8 (.inl (gI g, 210, .inl (upd ht (7 * h0 + k) v)))) 12 = some (.inl (gZ g, 6, .inl as)) := (fU_n (by omega)).trans hm12
  have hm13 : (fU M 8 (.inl (gI g, 210, .inl (upd ht (7 * h0 + k) v)))) 13 = some (.inl (gI g, 140, .inl sp)) := (fU_n (by omega)).trans hm13
  have hm14 : (fU M 8 (.inl (gI g, 210, .inl (upd ht (7 * h0 + k) v)))) 14 = some (.inl (gZ g, 30, .inl ca)) := (fU_n (by omega)).trans hm14
  have hm8 : (fU M 8 (.inl (gI g, 210, .inl (upd ht (7 * h0 + k) v)))) 8 = some (.inl (gI g, 210, .inl (upd ht (7 * h0 + k) v))) := fU_s
  exact f_vret X hw ⟨rfl, ⟨_, _, _, _, _, _, _, (fU_n (by omega)).trans (hMo), ⟨(fU_n (by omega)).trans (hm6), (fU_n (by omega)).trans (hm7), fU_s, (fU_n (by omega)).trans (hm9), (fU_n (by omega)).trans (hm10), (fU_n (by omega)).trans (hm11), (fU_n (by omega)).trans (hm12), (fU_n (by omega)).trans (hm13), (fU_n (by omega)).trans (hm14)⟩, mRel_H hRel hh hk7, hCnt⟩, fReg_U fReg_rf (by omega)⟩ (Nat.le_refl _) (Nat.le_refl _) dX6_setHo_12
set_option maxHeartbeats 4000000 in
set_option maxRecDepth 100000 in
theorem c_en (l : Launch) (g : fG) (ad : Nat → Nat) (M : fM) {th : Int32} {U : fTn} {sp ca : Nat → Int32} (hM : isMo g ad M th U sp ca) {e0 k : Nat} {what : Int32} (he : e0 < tEn U) (hk : what = nI k) (hk8 : k < 8) : fCi l g yX6_en cX6_en 3 ((some .int)) 0 0 0 0 ad M [.ref (ad 5), .int (nI e0), .int what] (fDi ad M (tE U e0 k)) := by
  refine f_body (own := RX6) (by decide +kernel) rfl (Nat.le_of_ble_eq_true rfl) ?_
  intro p e s m args below meth c ls X hw hin hl
  have hx := X.1
  have hb := X.2.1
  have hl : lv_has ls 3 [(0, .ref (ad 5)), (1, .int (nI e0)), (2, .int what)] := hl
  obtain ⟨pcs, wa, ht, et, mi, co, as, hMo, ⟨hm6, hm7, hm8, hm9, hm10, hm11, hm12, hm13, hm14⟩, hRel, hCnt⟩ := id hM
  obtain ⟨hn1, hn2, hn3⟩ := id hCnt
  have hn1 : tHn U ≤ 30 := hn1
  have hn2 : tPn U ≤ 6 := hn2
  have hn3 : tEn U ≤ 6 := hn3
  have hMo : M 5 = some (.inr (7, [.int th, .int (nI (tHn U)), .int (nI (tPn U)), .int (nI (tEn U)), .ref (ad 6), .ref (ad 7), .ref (ad 8), .ref (ad 9), .ref (ad 10), .ref (ad 11), .ref (ad 12), .ref (ad 13), .ref (ad 14)])) := hMo
  obtain ⟨rH, rP, rE, rM⟩ := id hRel
  refine lv_aload_n hx hb dX6_en_0 rfl (lv_at hl 0 rfl) ?_
  refine f_get X hw hMo fc7 7 (by decide) wq801 rfl (v := .ref (ad 9)) rfl dX6_en_1 ?_
  refine lv_bipush (v := 9) hx hb dX6_en_4 (by decide) ?_
  refine lv_iload_n hx hb dX6_en_6 rfl (lv_at hl 1 rfl) ?_
  refine lv_imul hx hb dX6_en_7 ?_
  refine lv_iload_n hx hb dX6_en_8 rfl (lv_at hl 2 rfl) ?_
  refine lv_iadd hx hb dX6_en_9 ?_
  refine f_top (y := nI (9 * e0 + k)) (ix9 hk) ?_
  refine f_iald X hw hm9 (vp_in_nI (n := (9 * e0 + k)) (by omega) (by omega)) dX6_en_10 ?_
  rw [nI_clamp (n := (9 * e0 + k)) (by omega)]
  exact f_iret X hw ⟨rfl, rfl, (rE e0 he).1 k hk8⟩ (Nat.le_refl _) (Nat.le_refl _) dX6_en_11
set_option maxHeartbeats 4000000 in
set_option maxRecDepth 100000 in
theorem c_en8 (l : Launch) (g : fG) (ad : Nat → Nat) (M : fM) {th : Int32} {U : fTn} {sp ca : Nat → Int32} (hM : isMo g ad M th U sp ca) {e0 : Nat} (he : e0 < tEn U) : fCi l g yX6_en cX6_en 3 ((some .int)) 0 0 0 0 ad M [.ref (ad 5), .int (nI e0), .int 8] (fDi ad M (tE U e0 9)) := by
  refine f_body (own := RX6) (by decide +kernel) rfl (Nat.le_of_ble_eq_true rfl) ?_
  intro p e s m args below meth c ls X hw hin hl
  have hx := X.1
  have hb := X.2.1
  have hl : lv_has ls 3 [(0, .ref (ad 5)), (1, .int (nI e0)), (2, .int 8)] := hl
  obtain ⟨pcs, wa, ht, et, mi, co, as, hMo, ⟨hm6, hm7, hm8, hm9, hm10, hm11, hm12, hm13, hm14⟩, hRel, hCnt⟩ := id hM
  obtain ⟨hn1, hn2, hn3⟩ := id hCnt
  have hn1 : tHn U ≤ 30 := hn1
  have hn2 : tPn U ≤ 6 := hn2
  have hn3 : tEn U ≤ 6 := hn3
  have hMo : M 5 = some (.inr (7, [.int th, .int (nI (tHn U)), .int (nI (tPn U)), .int (nI (tEn U)), .ref (ad 6), .ref (ad 7), .ref (ad 8), .ref (ad 9), .ref (ad 10), .ref (ad 11), .ref (ad 12), .ref (ad 13), .ref (ad 14)])) := hMo
  obtain ⟨rH, rP, rE, rM⟩ := id hRel
  refine lv_aload_n hx hb dX6_en_0 rfl (lv_at hl 0 rfl) ?_
  refine f_get X hw hMo fc7 7 (by decide) wq801 rfl (v := .ref (ad 9)) rfl dX6_en_1 ?_
  refine lv_bipush (v := 9) hx hb dX6_en_4 (by decide) ?_
  refine lv_iload_n hx hb dX6_en_6 rfl (lv_at hl 1 rfl) ?_
  refine lv_imul hx hb dX6_en_7 ?_
  refine lv_iload_n hx hb dX6_en_8 rfl (lv_at hl 2 rfl) ?_
  refine lv_iadd hx hb dX6_en_9 ?_
  refine f_top (y := nI (9 * e0 + 8)) (ix9 (k := 8) rfl) ?_
  refine f_iald X hw hm9 (vp_in_nI (n := (9 * e0 + 8)) (by omega) (by omega)) dX6_en_10 ?_
  rw [nI_clamp (n := (9 * e0 + 8)) (by omega)]
  exact f_iret X hw ⟨rfl, rfl, (rE e0 he).2.1⟩ (Nat.le_refl _) (Nat.le_refl _) dX6_en_11
set_option maxHeartbeats 4000000 in
set_option maxRecDepth 100000 in
theorem c_setEn (l : Launch) (g : fG) (ad : Nat → Nat) (M : fM) {th : Int32} {U : fTn} {sp ca : Nat → Int32} (hM : isMo g ad M th U sp ca) {e0 k : Nat} {what : Int32} (he : e0 < tEn U) (hk : what = nI k) (hk8 : k < 8) (v : Int32) : fCv l g yX6_setEn cX6_setEn 4 0 0 0 0 ad M [.ref (ad 5), .int (nI e0), .int what, .int v] (fMw g ad M th (sE U e0 (upd (tE U e0) k v)) sp ca) := by
  refine f_body (own := RX6) (by decide +kernel) rfl (Nat.le_of_ble_eq_true rfl) ?_
  intro p e s m args below meth c ls X hw hin hl
  have hx := X.1
  have hb := X.2.1
  have hl : lv_has ls 4 [(0, .ref (ad 5)), (1, .int (nI e0)), (2, .int what), (3, .int v)] := hl
  obtain ⟨pcs, wa, ht, et, mi, co, as, hMo, ⟨hm6, hm7, hm8, hm9, hm10, hm11, hm12, hm13, hm14⟩, hRel, hCnt⟩ := id hM
  obtain ⟨hn1, hn2, hn3⟩ := id hCnt
  have hn1 : tHn U ≤ 30 := hn1
  have hn2 : tPn U ≤ 6 := hn2
  have hn3 : tEn U ≤ 6 := hn3
  have hMo : M 5 = some (.inr (7, [.int th, .int (nI (tHn U)), .int (nI (tPn U)), .int (nI (tEn U)), .ref (ad 6), .ref (ad 7), .ref (ad 8), .ref (ad 9), .ref (ad 10), .ref (ad 11), .ref (ad 12), .ref (ad 13), .ref (ad 14)])) := hMo
  obtain ⟨rH, rP, rE, rM⟩ := id hRel
  refine lv_aload_n hx hb dX6_setEn_0 rfl (lv_at hl 0 rfl) ?_
  refine f_get X hw hMo fc7 7 (by decide) wq801 rfl (v := .ref (ad 9)) rfl dX6_setEn_1 ?_
  refine lv_bipush (v := 9) hx hb dX6_setEn_4 (by decide) ?_
  refine lv_iload_n hx hb dX6_setEn_6 rfl (lv_at hl 1 rfl) ?_
  refine lv_imul hx hb dX6_setEn_7 ?_
  refine lv_iload_n hx hb dX6_setEn_8 rfl (lv_at hl 2 rfl) ?_
  refine lv_iadd hx hb dX6_setEn_9 ?_
  refine lv_iload_n hx hb dX6_setEn_10 rfl (lv_at hl 3 rfl) ?_
  refine f_top2 (y := nI (9 * e0 + k)) (ix9 hk) ?_
  refine f_iast X hw hm9 (vp_in_nI (n := (9 * e0 + k)) (by omega) (by omega)) dX6_setEn_11 (fun H locs hw => ?_)
  rw [nI_clamp (n := (9 * e0 + k)) (by omega)] at hw
  have hw : fw g ad (fU M 9 (.inl (gI g, 54, .inl (upd et (9 * e0 + k) v)))) s H locs := hw
  have hMo : (fU M 9 (.inl (gI g, 54, .inl (upd et (9 * e0 + k) v)))) 5 = some (.inr (7, [.int th, .int (nI (tHn U)), .int (nI (tPn U)), .int (nI (tEn U)), .ref (ad 6), .ref (ad 7), .ref (ad 8), .ref (ad 9), .ref (ad 10), .ref (ad 11), .ref (ad 12), .ref (ad 13), .ref (ad 14)])) := (fU_n (by omega)).trans hMo
  have hm6 : (fU M 9 (.inl (gI g, 54, .inl (upd et (9 * e0 + k) v)))) 6 = some (.inl (gI g, 6, .inl pcs)) := (fU_n (by omega)).trans hm6
  have hm7 : (fU M 9 (.inl (gI g, 54, .inl (upd et (9 * e0 + k) v)))) 7 = some (.inl (gI g, 6, .inl wa)) := (fU_n (by omega)).trans hm7
  have hm8 : (fU M 9 (.inl (gI g, 54, .inl (upd et (9 * e0 + k) v)))) 8 = some (.inl (gI g, 210, .inl ht)) := (fU_n (by omega)).trans hm8
  have hm10 : (fU M 9 (.inl (gI g, 54, .inl (upd et (9 * e0 + k) v)))) 10 = some (.inl (gI g, 1, .inl mi)) := (fU_n (by omega)).trans hm10
  have hm11 : (fU M 9 (.inl (gI g, 54, .inl (upd et (9 * e0 + k) v)))) 11 = some (.inl (gI g, 6, .inl co)) := (fU_n (by omega)).trans hm11
  have hm12 : (fU M 9 (.inl (gI g, 54, .inl (upd et (9 * e0 + k) v)))) 12 = some (.inl (gZ g, 6, .inl as)) := (fU_n (by omega)).trans hm12
  have hm13 : (fU M 9 (.inl (gI g, 54, .inl (upd et (9 * e0 + k) v)))) 13 = some (.inl (gI g, 140, .inl sp)) := (fU_n (by omega)).trans hm13
  have hm14 : (fU M 9 (.inl (gI g, 54, .inl (upd et (9 * e0 + k) v)))) 14 = some (.inl (gZ g, 30, .inl ca)) := (fU_n (by omega)).trans hm14
  have hm9 : (fU M 9 (.inl (gI g, 54, .inl (upd et (9 * e0 + k) v)))) 9 = some (.inl (gI g, 54, .inl (upd et (9 * e0 + k) v))) := fU_s
  exact f_vret X hw ⟨rfl, ⟨_, _, _, _, _, _, _, (fU_n (by omega)).trans (hMo), ⟨(fU_n (by omega)).trans (hm6), (fU_n (by omega)).trans (hm7), (fU_n (by omega)).trans (hm8), fU_s, (fU_n (by omega)).trans (hm10), (fU_n (by omega)).trans (hm11), (fU_n (by omega)).trans (hm12), (fU_n (by omega)).trans (hm13), (fU_n (by omega)).trans (hm14)⟩, mRel_E hRel he hk8, hCnt⟩, fReg_U fReg_rf (by omega)⟩ (Nat.le_refl _) (Nat.le_refl _) dX6_setEn_12
set_option maxHeartbeats 4000000 in
set_option maxRecDepth 100000 in
theorem c_setEn8 (l : Launch) (g : fG) (ad : Nat → Nat) (M : fM) {th : Int32} {U : fTn} {sp ca : Nat → Int32} (hM : isMo g ad M th U sp ca) {e0 : Nat} (he : e0 < tEn U) (v : Int32) : fCv l g yX6_setEn cX6_setEn 4 0 0 0 0 ad M [.ref (ad 5), .int (nI e0), .int 8, .int v] (fMw g ad M th (sE U e0 (upd (tE U e0) 9 v)) sp ca) := by
  refine f_body (own := RX6) (by decide +kernel) rfl (Nat.le_of_ble_eq_true rfl) ?_
  intro p e s m args below meth c ls X hw hin hl
  have hx := X.1
  have hb := X.2.1
  have hl : lv_has ls 4 [(0, .ref (ad 5)), (1, .int (nI e0)), (2, .int 8), (3, .int v)] := hl
  obtain ⟨pcs, wa, ht, et, mi, co, as, hMo, ⟨hm6, hm7, hm8, hm9, hm10, hm11, hm12, hm13, hm14⟩, hRel, hCnt⟩ := id hM
  obtain ⟨hn1, hn2, hn3⟩ := id hCnt
  have hn1 : tHn U ≤ 30 := hn1
  have hn2 : tPn U ≤ 6 := hn2
  have hn3 : tEn U ≤ 6 := hn3
  have hMo : M 5 = some (.inr (7, [.int th, .int (nI (tHn U)), .int (nI (tPn U)), .int (nI (tEn U)), .ref (ad 6), .ref (ad 7), .ref (ad 8), .ref (ad 9), .ref (ad 10), .ref (ad 11), .ref (ad 12), .ref (ad 13), .ref (ad 14)])) := hMo
  obtain ⟨rH, rP, rE, rM⟩ := id hRel
  refine lv_aload_n hx hb dX6_setEn_0 rfl (lv_at hl 0 rfl) ?_
  refine f_get X hw hMo fc7 7 (by decide) wq801 rfl (v := .ref (ad 9)) rfl dX6_setEn_1 ?_
  refine lv_bipush (v := 9) hx hb dX6_setEn_4 (by decide) ?_
  refine lv_iload_n hx hb dX6_setEn_6 rfl (lv_at hl 1 rfl) ?_
  refine lv_imul hx hb dX6_setEn_7 ?_
  refine lv_iload_n hx hb dX6_setEn_8 rfl (lv_at hl 2 rfl) ?_
  refine lv_iadd hx hb dX6_setEn_9 ?_
  refine lv_iload_n hx hb dX6_setEn_10 rfl (lv_at hl 3 rfl) ?_
  refine f_top2 (y := nI (9 * e0 + 8)) (ix9 (k := 8) rfl) ?_
  refine f_iast X hw hm9 (vp_in_nI (n := (9 * e0 + 8)) (by omega) (by omega)) dX6_setEn_11 (fun H locs hw => ?_)
  rw [nI_clamp (n := (9 * e0 + 8)) (by omega)] at hw
  have hw : fw g ad (fU M 9 (.inl (gI g, 54, .inl (upd et (9 * e0 + 8) v)))) s H locs := hw
  have hMo : (fU M 9 (.inl (gI g, 54, .inl (upd et (9 * e0 + 8) v)))) 5 = some (.inr (7, [.int th, .int (nI (tHn U)), .int (nI (tPn U)), .int (nI (tEn U)), .ref (ad 6), .ref (ad 7), .ref (ad 8), .ref (ad 9), .ref (ad 10), .ref (ad 11), .ref (ad 12), .ref (ad 13), .ref (ad 14)])) := (fU_n (by omega)).trans hMo
  have hm6 : (fU M 9 (.inl (gI g, 54, .inl (upd et (9 * e0 + 8) v)))) 6 = some (.inl (gI g, 6, .inl pcs)) := (fU_n (by omega)).trans hm6
  have hm7 : (fU M 9 (.inl (gI g, 54, .inl (upd et (9 * e0 + 8) v)))) 7 = some (.inl (gI g, 6, .inl wa)) := (fU_n (by omega)).trans hm7
  have hm8 : (fU M 9 (.inl (gI g, 54, .inl (upd et (9 * e0 + 8) v)))) 8 = some (.inl (gI g, 210, .inl ht)) := (fU_n (by omega)).trans hm8
  have hm10 : (fU M 9 (.inl (gI g, 54, .inl (upd et (9 * e0 + 8) v)))) 10 = some (.inl (gI g, 1, .inl mi)) := (fU_n (by omega)).trans hm10
  have hm11 : (fU M 9 (.inl (gI g, 54, .inl (upd et (9 * e0 + 8) v)))) 11 = some (.inl (gI g, 6, .inl co)) := (fU_n (by omega)).trans hm11
  have hm12 : (fU M 9 (.inl (gI g, 54, .inl (upd et (9 * e0 + 8) v)))) 12 = some (.inl (gZ g, 6, .inl as)) := (fU_n (by omega)).trans hm12
  have hm13 : (fU M 9 (.inl (gI g, 54, .inl (upd et (9 * e0 + 8) v)))) 13 = some (.inl (gI g, 140, .inl sp)) := (fU_n (by omega)).trans hm13
  have hm14 : (fU M 9 (.inl (gI g, 54, .inl (upd et (9 * e0 + 8) v)))) 14 = some (.inl (gZ g, 30, .inl ca)) := (fU_n (by omega)).trans hm14
  have hm9 : (fU M 9 (.inl (gI g, 54, .inl (upd et (9 * e0 + 8) v)))) 9 = some (.inl (gI g, 54, .inl (upd et (9 * e0 + 8) v))) := fU_s
  exact f_vret X hw ⟨rfl, ⟨_, _, _, _, _, _, _, (fU_n (by omega)).trans (hMo), ⟨(fU_n (by omega)).trans (hm6), (fU_n (by omega)).trans (hm7), (fU_n (by omega)).trans (hm8), fU_s, (fU_n (by omega)).trans (hm10), (fU_n (by omega)).trans (hm11), (fU_n (by omega)).trans (hm12), (fU_n (by omega)).trans (hm13), (fU_n (by omega)).trans (hm14)⟩, mRel_E8 hRel he, hCnt⟩, fReg_U fReg_rf (by omega)⟩ (Nat.le_refl _) (Nat.le_refl _) dX6_setEn_12
set_option maxHeartbeats 4000000 in
set_option maxRecDepth 100000 in
theorem c_m_houseAt (l : Launch) (g : fG) (ad : Nat → Nat) (M : fM) {th : Int32} {U : fTn} {sp ca : Nat → Int32} (hM : isMo g ad M th U sp ca) (c0 : Int32) : fCi l g yX6_houseAt cX6_houseAt 3 ((some .int)) 1 22 0 0 ad M [.ref (ad 5), .int c0] (fDi ad M (hAt U c0)) := by
  refine f_body (own := RX6) (by decide +kernel) rfl (Nat.le_of_ble_eq_true rfl) ?_
  intro p e s m args below meth c ls X hw hin hl
  have hx := X.1
  have hb := X.2.1
  have hl : lv_has ls 3 [(0, .ref (ad 5)), (1, .int c0)] := hl
  obtain ⟨pcs, wa, ht, et, mi, co, as, hMo, ⟨hm6, hm7, hm8, hm9, hm10, hm11, hm12, hm13, hm14⟩, hRel, hCnt⟩ := id hM
  obtain ⟨hn1, hn2, hn3⟩ := id hCnt
  have hn1 : tHn U ≤ 30 := hn1
  have hn2 : tPn U ≤ 6 := hn2
  have hn3 : tEn U ≤ 6 := hn3
  have hMo : M 5 = some (.inr (7, [.int th, .int (nI (tHn U)), .int (nI (tPn U)), .int (nI (tEn U)), .ref (ad 6), .ref (ad 7), .ref (ad 8), .ref (ad 9), .ref (ad 10), .ref (ad 11), .ref (ad 12), .ref (ad 13), .ref (ad 14)])) := hMo
  obtain ⟨rH, rP, rE, rM⟩ := id hRel
  refine lv_iconst (v := 0) hx hb dX6_houseAt_0 (by decide) ?_
  refine lv_istore_n (lv' := [(2, .int 0), (0, .ref (ad 5)), (1, .int c0)]) hx hb dX6_houseAt_1 rfl hl (by decide) rfl (fun ls hl => ?_)
  have loop2 : ∀ (n2 k : Nat), k ≤ tHn U → tHn U < k + n2 → ∀ (hg : ∀ j, j < k → (fun i => decide (tH U i 0 = c0)) j = false) (ls : Array Slot) (H : Heap) (locs : List Loc), fw g ad M s H locs → lv_has ls 3 [(2, .int (nI k)), (0, .ref (ad 5)), (1, .int c0)] → W p l e (fR 1 22 0 0) s m args below meth c H locs 0 0 (MQ below (fQi g (fDi ad M (hAt U c0))) args s 0 0 (fA g)) (F0 m 2 ls []) := by
    intro n2
    induction n2 with
    | zero => intro k h1 h2; omega
    | succ n2 ih2 =>
      intro k hk_k hn_k hg ls H locs hw hl
      refine lv_iload_n hx hb dX6_houseAt_2 rfl (lv_at hl 0 rfl) ?_
      refine lv_aload_n hx hb dX6_houseAt_3 rfl (lv_at hl 1 rfl) ?_
      refine f_get X hw hMo fc7 1 (by decide) wq795 rfl (v := .int (nI (tHn U))) rfl dX6_houseAt_4 ?_
      refine lv_icmp_ge (tgt := 28) hx hb dX6_houseAt_7 (by decide) (fun c_1 => ?_) (fun c_1 => ?_)
      · have c_1 := nI_le' (a := (tHn U)) (b := k) c_1 (by omega) (by omega)
        refine lv_iconst (v := (-1)) hx hb dX6_houseAt_28 (by decide) ?_
        exact f_iret X hw ⟨rfl, rfl, jFirst_none (fun j hj => hg j (by omega))⟩ (Nat.le_refl _) (Nat.le_refl _) dX6_houseAt_29
      · have c_1 := nI_nle' (a := (tHn U)) (b := k) c_1 (by omega) (by omega)
        refine lv_aload_n hx hb dX6_houseAt_10 rfl (lv_at hl 1 rfl) ?_
        refine lv_iload_n hx hb dX6_houseAt_11 rfl (lv_at hl 0 rfl) ?_
        refine lv_iconst (v := 0) hx hb dX6_houseAt_12 (by decide) ?_
        refine fk_di (fcV X hw (c_ho l g ad M hM (h0 := k) (k := 0) (by omega) rfl (by omega)) hMo rfl wq865 kVX6_ho ⟨(Nat.le_of_ble_eq_true rfl), (Nat.le_of_ble_eq_true rfl)⟩ rfl hl.1 rfl (Nat.le_of_ble_eq_true rfl) dX6_houseAt_13 ⟨Nat.le_refl _, Nat.le_refl _⟩) hw (fun H locs hw => ?_)
        refine lv_iload_n hx hb dX6_houseAt_16 rfl (lv_at hl 2 rfl) ?_
        refine lv_icmp_ne (tgt := 22) hx hb dX6_houseAt_17 (by decide) (fun c_2 => ?_) (fun c_2 => ?_)
        · refine lv_iinc (v := nI (k + 1)) (lv' := [(2, .int (nI (k + 1))), (0, .ref (ad 5)), (1, .int c0)]) hx hb dX6_houseAt_22 hl (k := 0) rfl (nI_1 k) (by decide) rfl (fun ls hl => ?_)
          refine lv_goto (tgt := 2) hx hb dX6_houseAt_25 (by decide) ?_
          exact ih2 (k + 1) (by omega) (by omega) (f_lts hg (by simp [c_2])) ls _ _ hw (lv_sub hl [0, 1, 2] rfl)
        · refine lv_iload_n hx hb dX6_houseAt_20 rfl (lv_at hl 0 rfl) ?_
          exact f_iret X hw ⟨rfl, rfl, jFirst_at (show k < tHn U by omega) (by simp [c_2]) hg⟩ (Nat.le_refl _) (Nat.le_refl _) dX6_houseAt_21
  exact loop2 (tHn U + 1) 0 (by omega) (by omega) (fun j h => absurd h (Nat.not_lt_zero _)) ls _ _ hw (lv_sub hl [0, 1, 2] rfl)
set_option maxHeartbeats 4000000 in
set_option maxRecDepth 100000 in
theorem c_m_pondAt (l : Launch) (g : fG) (ad : Nat → Nat) (M : fM) {th : Int32} {U : fTn} {sp ca : Nat → Int32} (hM : isMo g ad M th U sp ca) (c0 : Int32) : fCi l g yX6_pondAt cX6_pondAt 3 ((some .int)) 1 22 0 0 ad M [.ref (ad 5), .int c0] (fDi ad M (pAt U c0)) := by
  refine f_body (own := RX6) (by decide +kernel) rfl (Nat.le_of_ble_eq_true rfl) ?_
  intro p e s m args below meth c ls X hw hin hl
  have hx := X.1
  have hb := X.2.1
  have hl : lv_has ls 3 [(0, .ref (ad 5)), (1, .int c0)] := hl
  obtain ⟨pcs, wa, ht, et, mi, co, as, hMo, ⟨hm6, hm7, hm8, hm9, hm10, hm11, hm12, hm13, hm14⟩, hRel, hCnt⟩ := id hM
  obtain ⟨hn1, hn2, hn3⟩ := id hCnt
  have hn1 : tHn U ≤ 30 := hn1
  have hn2 : tPn U ≤ 6 := hn2
  have hn3 : tEn U ≤ 6 := hn3
  have hMo : M 5 = some (.inr (7, [.int th, .int (nI (tHn U)), .int (nI (tPn U)), .int (nI (tEn U)), .ref (ad 6), .ref (ad 7), .ref (ad 8), .ref (ad 9), .ref (ad 10), .ref (ad 11), .ref (ad 12), .ref (ad 13), .ref (ad 14)])) := hMo
  obtain ⟨rH, rP, rE, rM⟩ := id hRel
  refine lv_iconst (v := 0) hx hb dX6_pondAt_0 (by decide) ?_
  refine lv_istore_n (lv' := [(2, .int 0), (0, .ref (ad 5)), (1, .int c0)]) hx hb dX6_pondAt_1 rfl hl (by decide) rfl (fun ls hl => ?_)
  have loop2 : ∀ (n2 k : Nat), k ≤ tPn U → tPn U < k + n2 → ∀ (hg : ∀ j, j < k → (fun i => decide (tP U i 0 = c0)) j = false) (ls : Array Slot) (H : Heap) (locs : List Loc), fw g ad M s H locs → lv_has ls 3 [(2, .int (nI k)), (0, .ref (ad 5)), (1, .int c0)] → W p l e (fR 1 22 0 0) s m args below meth c H locs 0 0 (MQ below (fQi g (fDi ad M (pAt U c0))) args s 0 0 (fA g)) (F0 m 2 ls []) := by
    intro n2
    induction n2 with
    | zero => intro k h1 h2; omega
    | succ n2 ih2 =>
      intro k hk_k hn_k hg ls H locs hw hl
      refine lv_iload_n hx hb dX6_pondAt_2 rfl (lv_at hl 0 rfl) ?_
      refine lv_aload_n hx hb dX6_pondAt_3 rfl (lv_at hl 1 rfl) ?_
      refine f_get X hw hMo fc7 2 (by decide) wq796 rfl (v := .int (nI (tPn U))) rfl dX6_pondAt_4 ?_
      refine lv_icmp_ge (tgt := 28) hx hb dX6_pondAt_7 (by decide) (fun c_1 => ?_) (fun c_1 => ?_)
      · have c_1 := nI_le' (a := (tPn U)) (b := k) c_1 (by omega) (by omega)
        refine lv_iconst (v := (-1)) hx hb dX6_pondAt_28 (by decide) ?_
        exact f_iret X hw ⟨rfl, rfl, jFirst_none (fun j hj => hg j (by omega))⟩ (Nat.le_refl _) (Nat.le_refl _) dX6_pondAt_29
      · have c_1 := nI_nle' (a := (tPn U)) (b := k) c_1 (by omega) (by omega)
        refine lv_aload_n hx hb dX6_pondAt_10 rfl (lv_at hl 1 rfl) ?_
        refine f_get X hw hMo fc7 4 (by decide) wq798 rfl (v := .ref (ad 6)) rfl dX6_pondAt_11 ?_
        refine lv_iload_n hx hb dX6_pondAt_14 rfl (lv_at hl 0 rfl) ?_
        refine f_iald X hw hm6 (vp_in_nI (n := k) (by omega) (by omega)) dX6_pondAt_15 ?_
        rw [nI_clamp (n := k) (by omega)]
        refine f_top (y := tP U k 0) (rP k (by omega)).1 ?_
        refine lv_iload_n hx hb dX6_pondAt_16 rfl (lv_at hl 2 rfl) ?_
        refine lv_icmp_ne (tgt := 22) hx hb dX6_pondAt_17 (by decide) (fun c_2 => ?_) (fun c_2 => ?_)
        · refine lv_iinc (v := nI (k + 1)) (lv' := [(2, .int (nI (k + 1))), (0, .ref (ad 5)), (1, .int c0)]) hx hb dX6_pondAt_22 hl (k := 0) rfl (nI_1 k) (by decide) rfl (fun ls hl => ?_)
          refine lv_goto (tgt := 2) hx hb dX6_pondAt_25 (by decide) ?_
          exact ih2 (k + 1) (by omega) (by omega) (f_lts hg (by simp [c_2])) ls _ _ hw (lv_sub hl [0, 1, 2] rfl)
        · refine lv_iload_n hx hb dX6_pondAt_20 rfl (lv_at hl 0 rfl) ?_
          exact f_iret X hw ⟨rfl, rfl, jFirst_at (show k < tPn U by omega) (by simp [c_2]) hg⟩ (Nat.le_refl _) (Nat.le_refl _) dX6_pondAt_21
  exact loop2 (tPn U + 1) 0 (by omega) (by omega) (fun j h => absurd h (Nat.not_lt_zero _)) ls _ _ hw (lv_sub hl [0, 1, 2] rfl)
set_option maxHeartbeats 4000000 in
set_option maxRecDepth 100000 in
theorem c_m_isStreet (l : Launch) (g : fG) (ad : Nat → Nat) (M : fM) {th : Int32} {U : fTn} {sp ca : Nat → Int32} (hM : isMo g ad M th U sp ca) (c0 : Int32) : fCi l g yX6_isStreet cX6_isStreet 2 ((some .boolean)) 2 44 0 0 ad M [.ref (ad 5), .int c0] (fDi ad M (bI (mSt U c0))) := by
  refine f_body (own := RX6) (by decide +kernel) rfl (Nat.le_of_ble_eq_true rfl) ?_
  intro p e s m args below meth c ls X hw hin hl
  have hx := X.1
  have hb := X.2.1
  have hl : lv_has ls 2 [(0, .ref (ad 5)), (1, .int c0)] := hl
  obtain ⟨pcs, wa, ht, et, mi, co, as, hMo, ⟨hm6, hm7, hm8, hm9, hm10, hm11, hm12, hm13, hm14⟩, hRel, hCnt⟩ := id hM
  obtain ⟨hn1, hn2, hn3⟩ := id hCnt
  have hn1 : tHn U ≤ 30 := hn1
  have hn2 : tPn U ≤ 6 := hn2
  have hn3 : tEn U ≤ 6 := hn3
  have hMo : M 5 = some (.inr (7, [.int th, .int (nI (tHn U)), .int (nI (tPn U)), .int (nI (tEn U)), .ref (ad 6), .ref (ad 7), .ref (ad 8), .ref (ad 9), .ref (ad 10), .ref (ad 11), .ref (ad 12), .ref (ad 13), .ref (ad 14)])) := hMo
  obtain ⟨rH, rP, rE, rM⟩ := id hRel
  refine lv_aload_n hx hb dX6_isStreet_0 rfl (lv_at hl 0 rfl) ?_
  refine lv_iload_n hx hb dX6_isStreet_1 rfl (lv_at hl 1 rfl) ?_
  refine fk_di (fcV X hw (c_m_houseAt l g ad M hM c0) hMo rfl wq861 kVX6_houseAt ⟨(Nat.le_of_ble_eq_true rfl), (Nat.le_of_ble_eq_true rfl)⟩ rfl hl.1 rfl (Nat.le_of_ble_eq_true rfl) dX6_isStreet_2 ⟨Nat.le_refl _, Nat.le_refl _⟩) hw (fun H locs hw => ?_)
  refine lv_iconst (v := (-1)) hx hb dX6_isStreet_5 (by decide) ?_
  refine lv_icmp_ne (tgt := 22) hx hb dX6_isStreet_6 (by decide) (fun c_1 => ?_) (fun c_1 => ?_)
  · refine lv_iconst (v := 0) hx hb dX6_isStreet_22 (by decide) ?_
    exact f_zret X hw rfl ⟨rfl, rfl, by simp [mSt, bI, c_1]⟩ (Nat.le_refl _) (Nat.le_refl _) dX6_isStreet_23
  · refine lv_aload_n hx hb dX6_isStreet_9 rfl (lv_at hl 0 rfl) ?_
    refine lv_iload_n hx hb dX6_isStreet_10 rfl (lv_at hl 1 rfl) ?_
    refine fk_di (fcV X hw (c_m_pondAt l g ad M hM c0) hMo rfl wq869 kVX6_pondAt ⟨(Nat.le_of_ble_eq_true rfl), (Nat.le_of_ble_eq_true rfl)⟩ rfl hl.1 rfl (Nat.le_of_ble_eq_true rfl) dX6_isStreet_11 ⟨Nat.le_refl _, Nat.le_refl _⟩) hw (fun H locs hw => ?_)
    refine lv_iconst (v := (-1)) hx hb dX6_isStreet_14 (by decide) ?_
    refine lv_icmp_ne (tgt := 22) hx hb dX6_isStreet_15 (by decide) (fun c_2 => ?_) (fun c_2 => ?_)
    · refine lv_iconst (v := 0) hx hb dX6_isStreet_22 (by decide) ?_
      exact f_zret X hw rfl ⟨rfl, rfl, by simp [mSt, bI, c_1, c_2]⟩ (Nat.le_refl _) (Nat.le_refl _) dX6_isStreet_23
    · refine lv_iconst (v := 1) hx hb dX6_isStreet_18 (by decide) ?_
      refine lv_goto (tgt := 23) hx hb dX6_isStreet_19 (by decide) ?_
      exact f_zret X hw rfl ⟨rfl, rfl, by simp [mSt, bI, c_1, c_2]⟩ (Nat.le_refl _) (Nat.le_refl _) dX6_isStreet_23
set_option maxHeartbeats 4000000 in
set_option maxRecDepth 100000 in
theorem c_m_isFree (l : Launch) (g : fG) (ad : Nat → Nat) (M : fM) {th : Int32} {U : fTn} {sp ca : Nat → Int32} (hM : isMo g ad M th U sp ca) (c0 : Int32) : fCi l g yX6_isFree cX6_isFree 4 ((some .boolean)) 3 68 0 0 ad M [.ref (ad 5), .int c0] (fDi ad M (bI (frF U c0 (tEn U)))) := by
  refine f_body (own := RX6) (by decide +kernel) rfl (Nat.le_of_ble_eq_true rfl) ?_
  intro p e s m args below meth c ls X hw hin hl
  have hx := X.1
  have hb := X.2.1
  have hl : lv_has ls 4 [(0, .ref (ad 5)), (1, .int c0)] := hl
  obtain ⟨pcs, wa, ht, et, mi, co, as, hMo, ⟨hm6, hm7, hm8, hm9, hm10, hm11, hm12, hm13, hm14⟩, hRel, hCnt⟩ := id hM
  obtain ⟨hn1, hn2, hn3⟩ := id hCnt
  have hn1 : tHn U ≤ 30 := hn1
  have hn2 : tPn U ≤ 6 := hn2
  have hn3 : tEn U ≤ 6 := hn3
  have hMo : M 5 = some (.inr (7, [.int th, .int (nI (tHn U)), .int (nI (tPn U)), .int (nI (tEn U)), .ref (ad 6), .ref (ad 7), .ref (ad 8), .ref (ad 9), .ref (ad 10), .ref (ad 11), .ref (ad 12), .ref (ad 13), .ref (ad 14)])) := hMo
  obtain ⟨rH, rP, rE, rM⟩ := id hRel
  refine lv_aload_n hx hb dX6_isFree_0 rfl (lv_at hl 0 rfl) ?_
  refine lv_iload_n hx hb dX6_isFree_1 rfl (lv_at hl 1 rfl) ?_
  refine fk_di (fcV X hw (c_m_isStreet l g ad M hM c0) hMo rfl wq857 kVX6_isStreet ⟨(Nat.le_of_ble_eq_true rfl), (Nat.le_of_ble_eq_true rfl)⟩ rfl hl.1 rfl (Nat.le_of_ble_eq_true rfl) dX6_isFree_2 ⟨Nat.le_refl _, Nat.le_refl _⟩) hw (fun H locs hw => ?_)
  refine lv_istore_n (lv' := [(2, .int (bI (mSt U c0))), (0, .ref (ad 5)), (1, .int c0)]) hx hb dX6_isFree_5 rfl hl (by decide) rfl (fun ls hl => ?_)
  refine lv_iconst (v := 0) hx hb dX6_isFree_6 (by decide) ?_
  refine lv_istore_n (lv' := [(3, .int 0), (2, .int (bI (mSt U c0))), (0, .ref (ad 5)), (1, .int c0)]) hx hb dX6_isFree_7 rfl hl (by decide) rfl (fun ls hl => ?_)
  have loop8 : ∀ (n8 k : Nat), k ≤ tEn U → tEn U < k + n8 → ∀ (ls : Array Slot) (H : Heap) (locs : List Loc), fw g ad M s H locs → lv_has ls 4 [(2, .int (bI (frF U c0 k))), (3, .int (nI k)), (0, .ref (ad 5)), (1, .int c0)] → W p l e (fR 3 68 0 0) s m args below meth c H locs 0 0 (MQ below (fQi g (fDi ad M (bI (frF U c0 (tEn U))))) args s 0 0 (fA g)) (F0 m 8 ls []) := by
    intro n8
    induction n8 with
    | zero => intro k h1 h2; omega
    | succ n8 ih8 =>
      intro k hk_k hn_k ls H locs hw hl
      refine lv_iload_n hx hb dX6_isFree_8 rfl (lv_at hl 1 rfl) ?_
      refine lv_aload_n hx hb dX6_isFree_9 rfl (lv_at hl 2 rfl) ?_
      refine f_get X hw hMo fc7 3 (by decide) wq797 rfl (v := .int (nI (tEn U))) rfl dX6_isFree_10 ?_
      refine lv_icmp_ge (tgt := 62) hx hb dX6_isFree_13 (by decide) (fun c_1 => ?_) (fun c_1 => ?_)
      · have c_1 := nI_le' (a := (tEn U)) (b := k) c_1 (by omega) (by omega)
        refine lv_iload_n hx hb dX6_isFree_62 rfl (lv_at hl 0 rfl) ?_
        exact f_zret X hw (bI_nar _) ⟨rfl, rfl, by rw [show k = tEn U by omega]⟩ (Nat.le_refl _) (Nat.le_refl _) dX6_isFree_63
      · have c_1 := nI_nle' (a := (tEn U)) (b := k) c_1 (by omega) (by omega)
        refine lv_iload_n hx hb dX6_isFree_16 rfl (lv_at hl 0 rfl) ?_
        refine lv_if_eq (tgt := 54) hx hb dX6_isFree_17 (by decide) (fun c_2 => ?_) (fun c_2 => ?_)
        · have c_2 := bI_f.mp c_2
          refine lv_iconst (v := 0) hx hb dX6_isFree_54 (by decide) ?_
          refine lv_istore_n (lv' := [(2, .int 0), (3, .int (nI k)), (0, .ref (ad 5)), (1, .int c0)]) hx hb dX6_isFree_55 rfl hl (by decide) rfl (fun ls hl => ?_)
          refine lv_iinc (v := nI (k + 1)) (lv' := [(3, .int (nI (k + 1))), (2, .int 0), (0, .ref (ad 5)), (1, .int c0)]) hx hb dX6_isFree_56 hl (k := 1) rfl (nI_1 k) (by decide) rfl (fun ls hl => ?_)
          refine lv_goto (tgt := 8) hx hb dX6_isFree_59 (by decide) ?_
          exact ih8 (k + 1) (by omega) (by omega) ls _ _ hw (by rw [show (bI (frF U c0 (k + 1))) = 0 from (by simp [frF, bI, c_1, c_2])]; exact lv_sub hl [1, 0, 2, 3] rfl)
        · have c_2 := bI_nf.mp c_2
          refine lv_aload_n hx hb dX6_isFree_20 rfl (lv_at hl 2 rfl) ?_
          refine lv_iload_n hx hb dX6_isFree_21 rfl (lv_at hl 1 rfl) ?_
          refine lv_iconst (v := 0) hx hb dX6_isFree_22 (by decide) ?_
          refine fk_di (fcV X hw (c_en l g ad M hM (e0 := k) (k := 0) (by omega) rfl (by omega)) hMo rfl wq873 kVX6_en ⟨(Nat.le_of_ble_eq_true rfl), (Nat.le_of_ble_eq_true rfl)⟩ rfl hl.1 rfl (Nat.le_of_ble_eq_true rfl) dX6_isFree_23 ⟨Nat.le_refl _, Nat.le_refl _⟩) hw (fun H locs hw => ?_)
          refine lv_iload_n hx hb dX6_isFree_26 rfl (lv_at hl 3 rfl) ?_
          refine lv_icmp_eq (tgt := 54) hx hb dX6_isFree_27 (by decide) (fun c_3 => ?_) (fun c_3 => ?_)
          · refine lv_iconst (v := 0) hx hb dX6_isFree_54 (by decide) ?_
            refine lv_istore_n (lv' := [(2, .int 0), (3, .int (nI k)), (0, .ref (ad 5)), (1, .int c0)]) hx hb dX6_isFree_55 rfl hl (by decide) rfl (fun ls hl => ?_)
            refine lv_iinc (v := nI (k + 1)) (lv' := [(3, .int (nI (k + 1))), (2, .int 0), (0, .ref (ad 5)), (1, .int c0)]) hx hb dX6_isFree_56 hl (k := 1) rfl (nI_1 k) (by decide) rfl (fun ls hl => ?_)
            refine lv_goto (tgt := 8) hx hb dX6_isFree_59 (by decide) ?_
            exact ih8 (k + 1) (by omega) (by omega) ls _ _ hw (by rw [show (bI (frF U c0 (k + 1))) = 0 from (by simp [frF, bI, c_1, c_2, c_3])]; exact lv_sub hl [1, 0, 2, 3] rfl)
          · refine lv_aload_n hx hb dX6_isFree_30 rfl (lv_at hl 2 rfl) ?_
            refine lv_iload_n hx hb dX6_isFree_31 rfl (lv_at hl 1 rfl) ?_
            refine lv_iconst (v := 5) hx hb dX6_isFree_32 (by decide) ?_
            refine fk_di (fcV X hw (c_en l g ad M hM (e0 := k) (k := 5) (by omega) rfl (by omega)) hMo rfl wq873 kVX6_en ⟨(Nat.le_of_ble_eq_true rfl), (Nat.le_of_ble_eq_true rfl)⟩ rfl hl.1 rfl (Nat.le_of_ble_eq_true rfl) dX6_isFree_33 ⟨Nat.le_refl _, Nat.le_refl _⟩) hw (fun H locs hw => ?_)
            refine lv_if_eq (tgt := 50) hx hb dX6_isFree_36 (by decide) (fun c_4 => ?_) (fun c_4 => ?_)
            · refine lv_iconst (v := 1) hx hb dX6_isFree_50 (by decide) ?_
              refine lv_goto (tgt := 55) hx hb dX6_isFree_51 (by decide) ?_
              refine lv_istore_n (lv' := [(2, .int 1), (3, .int (nI k)), (0, .ref (ad 5)), (1, .int c0)]) hx hb dX6_isFree_55 rfl hl (by decide) rfl (fun ls hl => ?_)
              refine lv_iinc (v := nI (k + 1)) (lv' := [(3, .int (nI (k + 1))), (2, .int 1), (0, .ref (ad 5)), (1, .int c0)]) hx hb dX6_isFree_56 hl (k := 1) rfl (nI_1 k) (by decide) rfl (fun ls hl => ?_)
              refine lv_goto (tgt := 8) hx hb dX6_isFree_59 (by decide) ?_
              exact ih8 (k + 1) (by omega) (by omega) ls _ _ hw (by rw [show (bI (frF U c0 (k + 1))) = 1 from (by simp [frF, bI, c_1, c_2, c_3, c_4])]; exact lv_sub hl [1, 0, 2, 3] rfl)
            · refine lv_aload_n hx hb dX6_isFree_39 rfl (lv_at hl 2 rfl) ?_
              refine lv_iload_n hx hb dX6_isFree_40 rfl (lv_at hl 1 rfl) ?_
              refine lv_bipush (v := 6) hx hb dX6_isFree_41 (by decide) ?_
              refine fk_di (fcV X hw (c_en l g ad M hM (e0 := k) (k := 6) (by omega) rfl (by omega)) hMo rfl wq873 kVX6_en ⟨(Nat.le_of_ble_eq_true rfl), (Nat.le_of_ble_eq_true rfl)⟩ rfl hl.1 rfl (Nat.le_of_ble_eq_true rfl) dX6_isFree_43 ⟨Nat.le_refl _, Nat.le_refl _⟩) hw (fun H locs hw => ?_)
              refine lv_iload_n hx hb dX6_isFree_46 rfl (lv_at hl 3 rfl) ?_
              refine lv_icmp_eq (tgt := 54) hx hb dX6_isFree_47 (by decide) (fun c_5 => ?_) (fun c_5 => ?_)
              · refine lv_iconst (v := 0) hx hb dX6_isFree_54 (by decide) ?_
                refine lv_istore_n (lv' := [(2, .int 0), (3, .int (nI k)), (0, .ref (ad 5)), (1, .int c0)]) hx hb dX6_isFree_55 rfl hl (by decide) rfl (fun ls hl => ?_)
                refine lv_iinc (v := nI (k + 1)) (lv' := [(3, .int (nI (k + 1))), (2, .int 0), (0, .ref (ad 5)), (1, .int c0)]) hx hb dX6_isFree_56 hl (k := 1) rfl (nI_1 k) (by decide) rfl (fun ls hl => ?_)
                refine lv_goto (tgt := 8) hx hb dX6_isFree_59 (by decide) ?_
                exact ih8 (k + 1) (by omega) (by omega) ls _ _ hw (by rw [show (bI (frF U c0 (k + 1))) = 0 from (by simp [frF, bI, c_1, c_2, c_3, c_4, c_5])]; exact lv_sub hl [1, 0, 2, 3] rfl)
              · refine lv_iconst (v := 1) hx hb dX6_isFree_50 (by decide) ?_
                refine lv_goto (tgt := 55) hx hb dX6_isFree_51 (by decide) ?_
                refine lv_istore_n (lv' := [(2, .int 1), (3, .int (nI k)), (0, .ref (ad 5)), (1, .int c0)]) hx hb dX6_isFree_55 rfl hl (by decide) rfl (fun ls hl => ?_)
                refine lv_iinc (v := nI (k + 1)) (lv' := [(3, .int (nI (k + 1))), (2, .int 1), (0, .ref (ad 5)), (1, .int c0)]) hx hb dX6_isFree_56 hl (k := 1) rfl (nI_1 k) (by decide) rfl (fun ls hl => ?_)
                refine lv_goto (tgt := 8) hx hb dX6_isFree_59 (by decide) ?_
                exact ih8 (k + 1) (by omega) (by omega) ls _ _ hw (by rw [show (bI (frF U c0 (k + 1))) = 1 from (by simp [frF, bI, c_1, c_2, c_3, c_4, c_5])]; exact lv_sub hl [1, 0, 2, 3] rfl)
  exact loop8 (tEn U + 1) 0 (by omega) (by omega) ls _ _ hw (lv_sub hl [1, 0, 2, 3] rfl)
set_option maxHeartbeats 4000000 in
set_option maxRecDepth 100000 in
theorem c_m_with (l : Launch) (g : fG) (ad : Nat → Nat) (M : fM) {th : Int32} {U : fTn} {sp ca : Nat → Int32} (hM : isMo g ad M th U sp ca) (x : Int32) : fCi l g yX6_with cX6_with 4 ((some .int)) 1 22 0 0 ad M [.ref (ad 5), .int x] (fDi ad M (cntH (tH U) x (tHn U))) := by
  refine f_body (own := RX6) (by decide +kernel) rfl (Nat.le_of_ble_eq_true rfl) ?_
  intro p e s m args below meth c ls X hw hin hl
  have hx := X.1
  have hb := X.2.1
  have hl : lv_has ls 4 [(0, .ref (ad 5)), (1, .int x)] := hl
  obtain ⟨pcs, wa, ht, et, mi, co, as, hMo, ⟨hm6, hm7, hm8, hm9, hm10, hm11, hm12, hm13, hm14⟩, hRel, hCnt⟩ := id hM
  obtain ⟨hn1, hn2, hn3⟩ := id hCnt
  have hn1 : tHn U ≤ 30 := hn1
  have hn2 : tPn U ≤ 6 := hn2
  have hn3 : tEn U ≤ 6 := hn3
  have hMo : M 5 = some (.inr (7, [.int th, .int (nI (tHn U)), .int (nI (tPn U)), .int (nI (tEn U)), .ref (ad 6), .ref (ad 7), .ref (ad 8), .ref (ad 9), .ref (ad 10), .ref (ad 11), .ref (ad 12), .ref (ad 13), .ref (ad 14)])) := hMo
  obtain ⟨rH, rP, rE, rM⟩ := id hRel
  refine lv_iconst (v := 0) hx hb dX6_with_0 (by decide) ?_
  refine lv_istore_n (lv' := [(2, .int 0), (0, .ref (ad 5)), (1, .int x)]) hx hb dX6_with_1 rfl hl (by decide) rfl (fun ls hl => ?_)
  refine lv_iconst (v := 0) hx hb dX6_with_2 (by decide) ?_
  refine lv_istore_n (lv' := [(3, .int 0), (2, .int 0), (0, .ref (ad 5)), (1, .int x)]) hx hb dX6_with_3 rfl hl (by decide) rfl (fun ls hl => ?_)
  have loop4 : ∀ (n4 k : Nat), k ≤ tHn U → tHn U < k + n4 → ∀ (ls : Array Slot) (H : Heap) (locs : List Loc), fw g ad M s H locs → lv_has ls 4 [(2, .int (cntH (tH U) x k)), (3, .int (nI k)), (0, .ref (ad 5)), (1, .int x)] → W p l e (fR 1 22 0 0) s m args below meth c H locs 0 0 (MQ below (fQi g (fDi ad M (cntH (tH U) x (tHn U)))) args s 0 0 (fA g)) (F0 m 4 ls []) := by
    intro n4
    induction n4 with
    | zero => intro k h1 h2; omega
    | succ n4 ih4 =>
      intro k hk_k hn_k ls H locs hw hl
      refine lv_iload_n hx hb dX6_with_4 rfl (lv_at hl 1 rfl) ?_
      refine lv_aload_n hx hb dX6_with_5 rfl (lv_at hl 2 rfl) ?_
      refine f_get X hw hMo fc7 1 (by decide) wq795 rfl (v := .int (nI (tHn U))) rfl dX6_with_6 ?_
      refine lv_icmp_ge (tgt := 36) hx hb dX6_with_9 (by decide) (fun c_1 => ?_) (fun c_1 => ?_)
      · have c_1 := nI_le' (a := (tHn U)) (b := k) c_1 (by omega) (by omega)
        refine lv_iload_n hx hb dX6_with_36 rfl (lv_at hl 0 rfl) ?_
        exact f_iret X hw ⟨rfl, rfl, by rw [show k = tHn U by omega]⟩ (Nat.le_refl _) (Nat.le_refl _) dX6_with_37
      · have c_1 := nI_nle' (a := (tHn U)) (b := k) c_1 (by omega) (by omega)
        refine lv_iload_n hx hb dX6_with_12 rfl (lv_at hl 0 rfl) ?_
        refine lv_aload_n hx hb dX6_with_13 rfl (lv_at hl 2 rfl) ?_
        refine lv_iload_n hx hb dX6_with_14 rfl (lv_at hl 1 rfl) ?_
        refine lv_iconst (v := 3) hx hb dX6_with_15 (by decide) ?_
        refine fk_di (fcV X hw (c_ho l g ad M hM (h0 := k) (k := 3) (by omega) rfl (by omega)) hMo rfl wq865 kVX6_ho ⟨(Nat.le_of_ble_eq_true rfl), (Nat.le_of_ble_eq_true rfl)⟩ rfl hl.1 rfl (Nat.le_of_ble_eq_true rfl) dX6_with_16 ⟨Nat.le_refl _, Nat.le_refl _⟩) hw (fun H locs hw => ?_)
        refine lv_iload_n hx hb dX6_with_19 rfl (lv_at hl 3 rfl) ?_
        refine lv_icmp_ne (tgt := 27) hx hb dX6_with_20 (by decide) (fun c_2 => ?_) (fun c_2 => ?_)
        · refine lv_iconst (v := 0) hx hb dX6_with_27 (by decide) ?_
          refine lv_iadd hx hb dX6_with_28 ?_
          refine lv_istore_n (lv' := [(2, .int ((cntH (tH U) x k) + 0)), (3, .int (nI k)), (0, .ref (ad 5)), (1, .int x)]) hx hb dX6_with_29 rfl hl (by decide) rfl (fun ls hl => ?_)
          refine lv_iinc (v := nI (k + 1)) (lv' := [(3, .int (nI (k + 1))), (2, .int ((cntH (tH U) x k) + 0)), (0, .ref (ad 5)), (1, .int x)]) hx hb dX6_with_30 hl (k := 1) rfl (nI_1 k) (by decide) rfl (fun ls hl => ?_)
          refine lv_goto (tgt := 4) hx hb dX6_with_33 (by decide) ?_
          exact ih4 (k + 1) (by omega) (by omega) ls _ _ hw (by rw [show (cntH (tH U) x (k + 1)) = ((cntH (tH U) x k) + 0) from (by simp [cntH, c_1, c_2])]; exact lv_sub hl [1, 0, 2, 3] rfl)
        · refine lv_iconst (v := 1) hx hb dX6_with_23 (by decide) ?_
          refine lv_goto (tgt := 28) hx hb dX6_with_24 (by decide) ?_
          refine lv_iadd hx hb dX6_with_28 ?_
          refine lv_istore_n (lv' := [(2, .int ((cntH (tH U) x k) + 1)), (3, .int (nI k)), (0, .ref (ad 5)), (1, .int x)]) hx hb dX6_with_29 rfl hl (by decide) rfl (fun ls hl => ?_)
          refine lv_iinc (v := nI (k + 1)) (lv' := [(3, .int (nI (k + 1))), (2, .int ((cntH (tH U) x k) + 1)), (0, .ref (ad 5)), (1, .int x)]) hx hb dX6_with_30 hl (k := 1) rfl (nI_1 k) (by decide) rfl (fun ls hl => ?_)
          refine lv_goto (tgt := 4) hx hb dX6_with_33 (by decide) ?_
          exact ih4 (k + 1) (by omega) (by omega) ls _ _ hw (by rw [show (cntH (tH U) x (k + 1)) = ((cntH (tH U) x k) + 1) from (by simp [cntH, c_1, c_2])]; exact lv_sub hl [1, 0, 2, 3] rfl)
  exact loop4 (tHn U + 1) 0 (by omega) (by omega) ls _ _ hw (lv_sub hl [1, 0, 2, 3] rfl)
set_option maxHeartbeats 4000000 in
set_option maxRecDepth 100000 in
theorem c_m_heatNear (l : Launch) (g : fG) (ad : Nat → Nat) (M : fM) {th : Int32} {U : fTn} {sp ca : Nat → Int32} (hM : isMo g ad M th U sp ca) (x : Int32) : fCi l g yX6_heatNear cX6_heatNear 4 ((some .int)) 3 60 0 0 ad M [.ref (ad 5), .int x] (fDi ad M (mHeat (tH U) x (tHn U))) := by
  refine f_body (own := RX6) (by decide +kernel) rfl (Nat.le_of_ble_eq_true rfl) ?_
  intro p e s m args below meth c ls X hw hin hl
  have hx := X.1
  have hb := X.2.1
  have hl : lv_has ls 4 [(0, .ref (ad 5)), (1, .int x)] := hl
  obtain ⟨pcs, wa, ht, et, mi, co, as, hMo, ⟨hm6, hm7, hm8, hm9, hm10, hm11, hm12, hm13, hm14⟩, hRel, hCnt⟩ := id hM
  obtain ⟨hn1, hn2, hn3⟩ := id hCnt
  have hn1 : tHn U ≤ 30 := hn1
  have hn2 : tPn U ≤ 6 := hn2
  have hn3 : tEn U ≤ 6 := hn3
  have hMo : M 5 = some (.inr (7, [.int th, .int (nI (tHn U)), .int (nI (tPn U)), .int (nI (tEn U)), .ref (ad 6), .ref (ad 7), .ref (ad 8), .ref (ad 9), .ref (ad 10), .ref (ad 11), .ref (ad 12), .ref (ad 13), .ref (ad 14)])) := hMo
  obtain ⟨rH, rP, rE, rM⟩ := id hRel
  refine lv_iconst (v := 0) hx hb dX6_heatNear_0 (by decide) ?_
  refine lv_istore_n (lv' := [(2, .int 0), (0, .ref (ad 5)), (1, .int x)]) hx hb dX6_heatNear_1 rfl hl (by decide) rfl (fun ls hl => ?_)
  refine lv_iconst (v := 0) hx hb dX6_heatNear_2 (by decide) ?_
  refine lv_istore_n (lv' := [(3, .int 0), (2, .int 0), (0, .ref (ad 5)), (1, .int x)]) hx hb dX6_heatNear_3 rfl hl (by decide) rfl (fun ls hl => ?_)
  have loop4 : ∀ (n4 k : Nat), k ≤ tHn U → tHn U < k + n4 → ∀ (ls : Array Slot) (H : Heap) (locs : List Loc), fw g ad M s H locs → lv_has ls 4 [(2, .int (mHeat (tH U) x k)), (3, .int (nI k)), (0, .ref (ad 5)), (1, .int x)] → W p l e (fR 3 60 0 0) s m args below meth c H locs 0 0 (MQ below (fQi g (fDi ad M (mHeat (tH U) x (tHn U)))) args s 0 0 (fA g)) (F0 m 4 ls []) := by
    intro n4
    induction n4 with
    | zero => intro k h1 h2; omega
    | succ n4 ih4 =>
      intro k hk_k hn_k ls H locs hw hl
      refine lv_iload_n hx hb dX6_heatNear_4 rfl (lv_at hl 1 rfl) ?_
      refine lv_aload_n hx hb dX6_heatNear_5 rfl (lv_at hl 2 rfl) ?_
      refine f_get X hw hMo fc7 1 (by decide) wq795 rfl (v := .int (nI (tHn U))) rfl dX6_heatNear_6 ?_
      refine lv_icmp_ge (tgt := 44) hx hb dX6_heatNear_9 (by decide) (fun c_1 => ?_) (fun c_1 => ?_)
      · have c_1 := nI_le' (a := (tHn U)) (b := k) c_1 (by omega) (by omega)
        refine lv_iload_n hx hb dX6_heatNear_44 rfl (lv_at hl 0 rfl) ?_
        exact f_iret X hw ⟨rfl, rfl, by rw [show k = tHn U by omega]⟩ (Nat.le_refl _) (Nat.le_refl _) dX6_heatNear_45
      · have c_1 := nI_nle' (a := (tHn U)) (b := k) c_1 (by omega) (by omega)
        refine lv_iload_n hx hb dX6_heatNear_12 rfl (lv_at hl 0 rfl) ?_
        refine lv_aload_n hx hb dX6_heatNear_13 rfl (lv_at hl 2 rfl) ?_
        refine lv_iload_n hx hb dX6_heatNear_14 rfl (lv_at hl 1 rfl) ?_
        refine lv_iconst (v := 0) hx hb dX6_heatNear_15 (by decide) ?_
        refine fk_di (fcV X hw (c_ho l g ad M hM (h0 := k) (k := 0) (by omega) rfl (by omega)) hMo rfl wq865 kVX6_ho ⟨(Nat.le_of_ble_eq_true rfl), (Nat.le_of_ble_eq_true rfl)⟩ rfl hl.1 rfl (Nat.le_of_ble_eq_true rfl) dX6_heatNear_16 ⟨Nat.le_refl _, Nat.le_refl _⟩) hw (fun H locs hw => ?_)
        refine lv_iload_n hx hb dX6_heatNear_19 rfl (lv_at hl 3 rfl) ?_
        refine fk_di (fcS X hw (c_isNear l g ad M (tH U k 0) x) wq906 kSX6_isNear ⟨(Nat.le_of_ble_eq_true rfl), (Nat.le_of_ble_eq_true rfl)⟩ rfl hl.1 rfl (Nat.le_of_ble_eq_true rfl) dX6_heatNear_20 ⟨Nat.le_refl _, Nat.le_refl _⟩) hw (fun H locs hw => ?_)
        refine lv_if_eq (tgt := 35) hx hb dX6_heatNear_23 (by decide) (fun c_2 => ?_) (fun c_2 => ?_)
        · have c_2 := bI_f.mp c_2
          refine lv_iconst (v := 0) hx hb dX6_heatNear_35 (by decide) ?_
          refine lv_iadd hx hb dX6_heatNear_36 ?_
          refine lv_istore_n (lv' := [(2, .int ((mHeat (tH U) x k) + 0)), (3, .int (nI k)), (0, .ref (ad 5)), (1, .int x)]) hx hb dX6_heatNear_37 rfl hl (by decide) rfl (fun ls hl => ?_)
          refine lv_iinc (v := nI (k + 1)) (lv' := [(3, .int (nI (k + 1))), (2, .int ((mHeat (tH U) x k) + 0)), (0, .ref (ad 5)), (1, .int x)]) hx hb dX6_heatNear_38 hl (k := 1) rfl (nI_1 k) (by decide) rfl (fun ls hl => ?_)
          refine lv_goto (tgt := 4) hx hb dX6_heatNear_41 (by decide) ?_
          exact ih4 (k + 1) (by omega) (by omega) ls _ _ hw (by rw [show (mHeat (tH U) x (k + 1)) = ((mHeat (tH U) x k) + 0) from (by simp [mHeat, c_1, c_2])]; exact lv_sub hl [1, 0, 2, 3] rfl)
        · have c_2 := bI_nf.mp c_2
          refine lv_aload_n hx hb dX6_heatNear_26 rfl (lv_at hl 2 rfl) ?_
          refine lv_iload_n hx hb dX6_heatNear_27 rfl (lv_at hl 1 rfl) ?_
          refine lv_iconst (v := 4) hx hb dX6_heatNear_28 (by decide) ?_
          refine fk_di (fcV X hw (c_ho l g ad M hM (h0 := k) (k := 4) (by omega) rfl (by omega)) hMo rfl wq865 kVX6_ho ⟨(Nat.le_of_ble_eq_true rfl), (Nat.le_of_ble_eq_true rfl)⟩ rfl hl.1 rfl (Nat.le_of_ble_eq_true rfl) dX6_heatNear_29 ⟨Nat.le_refl _, Nat.le_refl _⟩) hw (fun H locs hw => ?_)
          refine lv_goto (tgt := 36) hx hb dX6_heatNear_32 (by decide) ?_
          refine lv_iadd hx hb dX6_heatNear_36 ?_
          refine lv_istore_n (lv' := [(2, .int ((mHeat (tH U) x k) + (tH U k 4))), (3, .int (nI k)), (0, .ref (ad 5)), (1, .int x)]) hx hb dX6_heatNear_37 rfl hl (by decide) rfl (fun ls hl => ?_)
          refine lv_iinc (v := nI (k + 1)) (lv' := [(3, .int (nI (k + 1))), (2, .int ((mHeat (tH U) x k) + (tH U k 4))), (0, .ref (ad 5)), (1, .int x)]) hx hb dX6_heatNear_38 hl (k := 1) rfl (nI_1 k) (by decide) rfl (fun ls hl => ?_)
          refine lv_goto (tgt := 4) hx hb dX6_heatNear_41 (by decide) ?_
          exact ih4 (k + 1) (by omega) (by omega) ls _ _ hw (by rw [show (mHeat (tH U) x (k + 1)) = ((mHeat (tH U) x k) + (tH U k 4)) from (by simp [mHeat, c_1, c_2])]; exact lv_sub hl [1, 0, 2, 3] rfl)
  exact loop4 (tHn U + 1) 0 (by omega) (by omega) ls _ _ hw (lv_sub hl [1, 0, 2, 3] rfl)
set_option maxHeartbeats 4000000 in
set_option maxRecDepth 100000 in
theorem c_m_stands (l : Launch) (g : fG) (ad : Nat → Nat) (M : fM) {th : Int32} {U : fTn} {sp ca : Nat → Int32} (hM : isMo g ad M th U sp ca) {e0 : Nat} (he : e0 < tEn U) : fCi l g yX6_stands cX6_stands 2 ((some .boolean)) 1 22 0 0 ad M [.ref (ad 5), .int (nI e0)] (fDi ad M (bI (eStands (tE U e0)))) := by
  refine f_body (own := RX6) (by decide +kernel) rfl (Nat.le_of_ble_eq_true rfl) ?_
  intro p e s m args below meth c ls X hw hin hl
  have hx := X.1
  have hb := X.2.1
  have hl : lv_has ls 2 [(0, .ref (ad 5)), (1, .int (nI e0))] := hl
  obtain ⟨pcs, wa, ht, et, mi, co, as, hMo, ⟨hm6, hm7, hm8, hm9, hm10, hm11, hm12, hm13, hm14⟩, hRel, hCnt⟩ := id hM
  obtain ⟨hn1, hn2, hn3⟩ := id hCnt
  have hn1 : tHn U ≤ 30 := hn1
  have hn2 : tPn U ≤ 6 := hn2
  have hn3 : tEn U ≤ 6 := hn3
  have hMo : M 5 = some (.inr (7, [.int th, .int (nI (tHn U)), .int (nI (tPn U)), .int (nI (tEn U)), .ref (ad 6), .ref (ad 7), .ref (ad 8), .ref (ad 9), .ref (ad 10), .ref (ad 11), .ref (ad 12), .ref (ad 13), .ref (ad 14)])) := hMo
  obtain ⟨rH, rP, rE, rM⟩ := id hRel
  refine lv_aload_n hx hb dX6_stands_0 rfl (lv_at hl 0 rfl) ?_
  refine lv_iload_n hx hb dX6_stands_1 rfl (lv_at hl 1 rfl) ?_
  refine lv_iconst (v := 5) hx hb dX6_stands_2 (by decide) ?_
  refine fk_di (fcV X hw (c_en l g ad M hM (e0 := e0) (k := 5) (by omega) rfl (by omega)) hMo rfl wq873 kVX6_en ⟨(Nat.le_of_ble_eq_true rfl), (Nat.le_of_ble_eq_true rfl)⟩ rfl hl.1 rfl (Nat.le_of_ble_eq_true rfl) dX6_stands_3 ⟨Nat.le_refl _, Nat.le_refl _⟩) hw (fun H locs hw => ?_)
  refine lv_if_ne (tgt := 13) hx hb dX6_stands_6 (by decide) (fun c_1 => ?_) (fun c_1 => ?_)
  · refine lv_iconst (v := 0) hx hb dX6_stands_13 (by decide) ?_
    exact f_zret X hw rfl ⟨rfl, rfl, by simp [eStands, bI, c_1]⟩ (Nat.le_refl _) (Nat.le_refl _) dX6_stands_14
  · refine lv_iconst (v := 1) hx hb dX6_stands_9 (by decide) ?_
    refine lv_goto (tgt := 14) hx hb dX6_stands_10 (by decide) ?_
    exact f_zret X hw rfl ⟨rfl, rfl, by simp [eStands, bI, c_1]⟩ (Nat.le_refl _) (Nat.le_refl _) dX6_stands_14
set_option maxHeartbeats 4000000 in
set_option maxRecDepth 100000 in
theorem c_m_source (l : Launch) (g : fG) (ad : Nat → Nat) (M : fM) {th : Int32} {U : fTn} {sp ca : Nat → Int32} (hM : isMo g ad M th U sp ca) {e0 : Nat} (he : e0 < tEn U) : fCi l g yX6_source cX6_source 3 ((some .int)) 3 60 0 0 ad M [.ref (ad 5), .int (nI e0)] (fDi ad M (mSrc U (tE U e0))) := by
  refine f_body (own := RX6) (by decide +kernel) rfl (Nat.le_of_ble_eq_true rfl) ?_
  intro p e s m args below meth c ls X hw hin hl
  have hx := X.1
  have hb := X.2.1
  have hl : lv_has ls 3 [(0, .ref (ad 5)), (1, .int (nI e0))] := hl
  obtain ⟨pcs, wa, ht, et, mi, co, as, hMo, ⟨hm6, hm7, hm8, hm9, hm10, hm11, hm12, hm13, hm14⟩, hRel, hCnt⟩ := id hM
  obtain ⟨hn1, hn2, hn3⟩ := id hCnt
  have hn1 : tHn U ≤ 30 := hn1
  have hn2 : tPn U ≤ 6 := hn2
  have hn3 : tEn U ≤ 6 := hn3
  have hMo : M 5 = some (.inr (7, [.int th, .int (nI (tHn U)), .int (nI (tPn U)), .int (nI (tEn U)), .ref (ad 6), .ref (ad 7), .ref (ad 8), .ref (ad 9), .ref (ad 10), .ref (ad 11), .ref (ad 12), .ref (ad 13), .ref (ad 14)])) := hMo
  obtain ⟨rH, rP, rE, rM⟩ := id hRel
  refine lv_iconst (v := 0) hx hb dX6_source_0 (by decide) ?_
  refine lv_istore_n (lv' := [(2, .int 0), (0, .ref (ad 5)), (1, .int (nI e0))]) hx hb dX6_source_1 rfl hl (by decide) rfl (fun ls hl => ?_)
  have loop2 : ∀ (n2 k : Nat), k ≤ tPn U → tPn U < k + n2 → ∀ (hg : ∀ j, j < k → (fun i => eStands (tE U e0) && mNear (tP U i 0) (tE U e0 0)) j = false) (ls : Array Slot) (H : Heap) (locs : List Loc), fw g ad M s H locs → lv_has ls 3 [(2, .int (nI k)), (0, .ref (ad 5)), (1, .int (nI e0))] → W p l e (fR 3 60 0 0) s m args below meth c H locs 0 0 (MQ below (fQi g (fDi ad M (mSrc U (tE U e0)))) args s 0 0 (fA g)) (F0 m 2 ls []) := by
    intro n2
    induction n2 with
    | zero => intro k h1 h2; omega
    | succ n2 ih2 =>
      intro k hk_k hn_k hg ls H locs hw hl
      refine lv_iload_n hx hb dX6_source_2 rfl (lv_at hl 0 rfl) ?_
      refine lv_aload_n hx hb dX6_source_3 rfl (lv_at hl 1 rfl) ?_
      refine f_get X hw hMo fc7 2 (by decide) wq796 rfl (v := .int (nI (tPn U))) rfl dX6_source_4 ?_
      refine lv_icmp_ge (tgt := 44) hx hb dX6_source_7 (by decide) (fun c_1 => ?_) (fun c_1 => ?_)
      · have c_1 := nI_le' (a := (tPn U)) (b := k) c_1 (by omega) (by omega)
        refine lv_iconst (v := (-1)) hx hb dX6_source_44 (by decide) ?_
        exact f_iret X hw ⟨rfl, rfl, jFirst_none (fun j hj => hg j (by omega))⟩ (Nat.le_refl _) (Nat.le_refl _) dX6_source_45
      · have c_1 := nI_nle' (a := (tPn U)) (b := k) c_1 (by omega) (by omega)
        refine lv_aload_n hx hb dX6_source_10 rfl (lv_at hl 1 rfl) ?_
        refine lv_iload_n hx hb dX6_source_11 rfl (lv_at hl 2 rfl) ?_
        refine fk_di (fcV X hw (c_m_stands l g ad M hM he) hMo rfl wq951 kVX6_stands ⟨(Nat.le_of_ble_eq_true rfl), (Nat.le_of_ble_eq_true rfl)⟩ rfl hl.1 rfl (Nat.le_of_ble_eq_true rfl) dX6_source_12 ⟨Nat.le_refl _, Nat.le_refl _⟩) hw (fun H locs hw => ?_)
        refine lv_if_eq (tgt := 38) hx hb dX6_source_15 (by decide) (fun c_2 => ?_) (fun c_2 => ?_)
        · have c_2 := bI_f.mp c_2
          refine lv_iinc (v := nI (k + 1)) (lv' := [(2, .int (nI (k + 1))), (0, .ref (ad 5)), (1, .int (nI e0))]) hx hb dX6_source_38 hl (k := 0) rfl (nI_1 k) (by decide) rfl (fun ls hl => ?_)
          refine lv_goto (tgt := 2) hx hb dX6_source_41 (by decide) ?_
          exact ih2 (k + 1) (by omega) (by omega) (f_lts hg (by simp [c_2])) ls _ _ hw (lv_sub hl [0, 1, 2] rfl)
        · have c_2 := bI_nf.mp c_2
          refine lv_aload_n hx hb dX6_source_18 rfl (lv_at hl 1 rfl) ?_
          refine f_get X hw hMo fc7 4 (by decide) wq798 rfl (v := .ref (ad 6)) rfl dX6_source_19 ?_
          refine lv_iload_n hx hb dX6_source_22 rfl (lv_at hl 0 rfl) ?_
          refine f_iald X hw hm6 (vp_in_nI (n := k) (by omega) (by omega)) dX6_source_23 ?_
          rw [nI_clamp (n := k) (by omega)]
          refine f_top (y := tP U k 0) (rP k (by omega)).1 ?_
          refine lv_aload_n hx hb dX6_source_24 rfl (lv_at hl 1 rfl) ?_
          refine lv_iload_n hx hb dX6_source_25 rfl (lv_at hl 2 rfl) ?_
          refine lv_iconst (v := 0) hx hb dX6_source_26 (by decide) ?_
          refine fk_di (fcV X hw (c_en l g ad M hM (e0 := e0) (k := 0) (by omega) rfl (by omega)) hMo rfl wq873 kVX6_en ⟨(Nat.le_of_ble_eq_true rfl), (Nat.le_of_ble_eq_true rfl)⟩ rfl hl.1 rfl (Nat.le_of_ble_eq_true rfl) dX6_source_27 ⟨Nat.le_refl _, Nat.le_refl _⟩) hw (fun H locs hw => ?_)
          refine fk_di (fcS X hw (c_isNear l g ad M (tP U k 0) (tE U e0 0)) wq906 kSX6_isNear ⟨(Nat.le_of_ble_eq_true rfl), (Nat.le_of_ble_eq_true rfl)⟩ rfl hl.1 rfl (Nat.le_of_ble_eq_true rfl) dX6_source_30 ⟨Nat.le_refl _, Nat.le_refl _⟩) hw (fun H locs hw => ?_)
          refine lv_if_eq (tgt := 38) hx hb dX6_source_33 (by decide) (fun c_3 => ?_) (fun c_3 => ?_)
          · have c_3 := bI_f.mp c_3
            refine lv_iinc (v := nI (k + 1)) (lv' := [(2, .int (nI (k + 1))), (0, .ref (ad 5)), (1, .int (nI e0))]) hx hb dX6_source_38 hl (k := 0) rfl (nI_1 k) (by decide) rfl (fun ls hl => ?_)
            refine lv_goto (tgt := 2) hx hb dX6_source_41 (by decide) ?_
            exact ih2 (k + 1) (by omega) (by omega) (f_lts hg (by simp [c_3])) ls _ _ hw (lv_sub hl [0, 1, 2] rfl)
          · have c_3 := bI_nf.mp c_3
            refine lv_iload_n hx hb dX6_source_36 rfl (lv_at hl 0 rfl) ?_
            exact f_iret X hw ⟨rfl, rfl, jFirst_at (show k < tPn U by omega) (by simp [c_2, c_3]) hg⟩ (Nat.le_refl _) (Nat.le_refl _) dX6_source_37
  exact loop2 (tPn U + 1) 0 (by omega) (by omega) (fun j h => absurd h (Nat.not_lt_zero _)) ls _ _ hw (lv_sub hl [0, 1, 2] rfl)
set_option maxHeartbeats 4000000 in
set_option maxRecDepth 100000 in
theorem c_m_canPump (l : Launch) (g : fG) (ad : Nat → Nat) (M : fM) {th : Int32} {U : fTn} {sp ca : Nat → Int32} (hM : isMo g ad M th U sp ca) {e0 : Nat} (he : e0 < tEn U) : fCi l g yX6_canPump cX6_canPump 2 ((some .int)) 2 44 0 0 ad M [.ref (ad 5), .int (nI e0)] (fDi ad M (ePump (tE U e0))) := by
  refine f_body (own := RX6) (by decide +kernel) rfl (Nat.le_of_ble_eq_true rfl) ?_
  intro p e s m args below meth c ls X hw hin hl
  have hx := X.1
  have hb := X.2.1
  have hl : lv_has ls 2 [(0, .ref (ad 5)), (1, .int (nI e0))] := hl
  obtain ⟨pcs, wa, ht, et, mi, co, as, hMo, ⟨hm6, hm7, hm8, hm9, hm10, hm11, hm12, hm13, hm14⟩, hRel, hCnt⟩ := id hM
  obtain ⟨hn1, hn2, hn3⟩ := id hCnt
  have hn1 : tHn U ≤ 30 := hn1
  have hn2 : tPn U ≤ 6 := hn2
  have hn3 : tEn U ≤ 6 := hn3
  have hMo : M 5 = some (.inr (7, [.int th, .int (nI (tHn U)), .int (nI (tPn U)), .int (nI (tEn U)), .ref (ad 6), .ref (ad 7), .ref (ad 8), .ref (ad 9), .ref (ad 10), .ref (ad 11), .ref (ad 12), .ref (ad 13), .ref (ad 14)])) := hMo
  obtain ⟨rH, rP, rE, rM⟩ := id hRel
  refine lv_aload_n hx hb dX6_canPump_0 rfl (lv_at hl 0 rfl) ?_
  refine lv_iload_n hx hb dX6_canPump_1 rfl (lv_at hl 1 rfl) ?_
  refine fk_di (fcV X hw (c_m_stands l g ad M hM he) hMo rfl wq951 kVX6_stands ⟨(Nat.le_of_ble_eq_true rfl), (Nat.le_of_ble_eq_true rfl)⟩ rfl hl.1 rfl (Nat.le_of_ble_eq_true rfl) dX6_canPump_2 ⟨Nat.le_refl _, Nat.le_refl _⟩) hw (fun H locs hw => ?_)
  refine lv_if_eq (tgt := 38) hx hb dX6_canPump_5 (by decide) (fun c_1 => ?_) (fun c_1 => ?_)
  · have c_1 := bI_f.mp c_1
    refine lv_iconst (v := 0) hx hb dX6_canPump_38 (by decide) ?_
    exact f_iret X hw ⟨rfl, rfl, by simp [ePump, c_1]⟩ (Nat.le_refl _) (Nat.le_refl _) dX6_canPump_39
  · have c_1 := bI_nf.mp c_1
    refine lv_aload_n hx hb dX6_canPump_8 rfl (lv_at hl 0 rfl) ?_
    refine lv_iload_n hx hb dX6_canPump_9 rfl (lv_at hl 1 rfl) ?_
    refine lv_iconst (v := 4) hx hb dX6_canPump_10 (by decide) ?_
    refine fk_di (fcV X hw (c_en l g ad M hM (e0 := e0) (k := 4) (by omega) rfl (by omega)) hMo rfl wq873 kVX6_en ⟨(Nat.le_of_ble_eq_true rfl), (Nat.le_of_ble_eq_true rfl)⟩ rfl hl.1 rfl (Nat.le_of_ble_eq_true rfl) dX6_canPump_11 ⟨Nat.le_refl _, Nat.le_refl _⟩) hw (fun H locs hw => ?_)
    refine lv_bipush (v := 20) hx hb dX6_canPump_14 (by decide) ?_
    refine lv_icmp_lt (tgt := 38) hx hb dX6_canPump_16 (by decide) (fun c_2 => ?_) (fun c_2 => ?_)
    · refine lv_iconst (v := 0) hx hb dX6_canPump_38 (by decide) ?_
      exact f_iret X hw ⟨rfl, rfl, by simp [ePump, c_1, c_2, Int32.not_le.mpr c_2]⟩ (Nat.le_refl _) (Nat.le_refl _) dX6_canPump_39
    · refine lv_aload_n hx hb dX6_canPump_19 rfl (lv_at hl 0 rfl) ?_
      refine lv_iload_n hx hb dX6_canPump_20 rfl (lv_at hl 1 rfl) ?_
      refine lv_iconst (v := 2) hx hb dX6_canPump_21 (by decide) ?_
      refine fk_di (fcV X hw (c_en l g ad M hM (e0 := e0) (k := 2) (by omega) rfl (by omega)) hMo rfl wq873 kVX6_en ⟨(Nat.le_of_ble_eq_true rfl), (Nat.le_of_ble_eq_true rfl)⟩ rfl hl.1 rfl (Nat.le_of_ble_eq_true rfl) dX6_canPump_22 ⟨Nat.le_refl _, Nat.le_refl _⟩) hw (fun H locs hw => ?_)
      refine lv_aload_n hx hb dX6_canPump_25 rfl (lv_at hl 0 rfl) ?_
      refine lv_iload_n hx hb dX6_canPump_26 rfl (lv_at hl 1 rfl) ?_
      refine lv_iconst (v := 4) hx hb dX6_canPump_27 (by decide) ?_
      refine fk_di (fcV X hw (c_en l g ad M hM (e0 := e0) (k := 4) (by omega) rfl (by omega)) hMo rfl wq873 kVX6_en ⟨(Nat.le_of_ble_eq_true rfl), (Nat.le_of_ble_eq_true rfl)⟩ rfl hl.1 rfl (Nat.le_of_ble_eq_true rfl) dX6_canPump_28 ⟨Nat.le_refl _, Nat.le_refl _⟩) hw (fun H locs hw => ?_)
      refine lv_imul hx hb dX6_canPump_31 ?_
      refine lv_bipush (v := 20) hx hb dX6_canPump_32 (by decide) ?_
      refine lv_idiv hx hb dX6_canPump_34 (by decide) ?_
      refine lv_goto (tgt := 39) hx hb dX6_canPump_35 (by decide) ?_
      exact f_iret X hw ⟨rfl, rfl, by simp [ePump, c_1, c_2, Int32.not_lt.mp c_2]⟩ (Nat.le_refl _) (Nat.le_refl _) dX6_canPump_39
