def mKind (U : fTn) (c : Int32) : Int32 := if hAt U c = -1 then (if pAt U c = -1 then 0 else 2) else 1
def mCell (U : fTn) (c w : Int32) : Int32 := if w = 0 then mKind U c else if w = 1 then (if hAt U c = -1 then pAt U c else hAt U c) else if w = 2 then cntE (tE U) c (tEn U) else mHeat (tH U) c (tHn U)
def mdH1 (U : fTn) (h : Nat) (d : Int64) : Nat → Int64
  | 0 => d
  | k + 1 => digM (mdH1 U h d k) (tH U h k)
def mdH (U : fTn) : Nat → Int64
  | 0 => digC U 10
  | k + 1 => mdH1 U k (mdH U k) 7
def mdP (U : fTn) : Nat → Int64
  | 0 => mdH U (tHn U)
  | k + 1 => digM (digM (mdP U k) (tP U k 0)) (tP U k 1)
def mdE1 (U : fTn) (h : Nat) (d : Int64) : Nat → Int64
  | 0 => d
  | k + 1 => digM (mdE1 U h d k) (mTell U (tE U h) k)
def mdE (U : fTn) : Nat → Int64
  | 0 => mdP U (tPn U)
  | k + 1 => mdE1 U k (mdE U k) 10
abbrev fMl (g : fG) (ad : Nat → Nat) (M : fM) (th : Int32) (U : fTn) (st ca : Nat → Int32) (v : Int64) : Int64 → (Nat → Nat) → fM → Prop := fun r ad1 M1 => ad1 = ad ∧ isMo g ad M1 th U st ca ∧ fReg 5 15 ad M ad M1 ∧ r = v
abbrev fMd (g : fG) (ad : Nat → Nat) (M : fM) (th : Int32) (U : fTn) (st ca : Nat → Int32) (v : UInt64) : UInt64 → (Nat → Nat) → fM → Prop := fun r ad1 M1 => ad1 = ad ∧ isMo g ad M1 th U st ca ∧ fReg 5 15 ad M ad M1 ∧ r = v
set_option maxHeartbeats 4000000 in
set_option maxRecDepth 100000 in
theorem x_m_cell_1 (l : Launch) (g : fG) (ad : Nat → Nat) (M : fM) {th : Int32} {U : fTn} {sp ca : Nat → Int32} (hM : isMo g ad M th U sp ca) {x y w : Int32} (h1 : aOn x y = false) : fCi l g yX6_cell cX6_cell 7 ((some .int)) 7 170 0 0 ad M [.ref (ad 5), .int x, .int y, .int w] (fMi g ad M 1 U sp ca 0) := by
  refine f_body (own := RX6) (by decide +kernel) rfl (Nat.le_of_ble_eq_true rfl) ?_
  intro p e s m args below meth c ls X hw hin hl
  have hx := X.1
  have hb := X.2.1
  have hl : lv_has ls 7 [(0, .ref (ad 5)), (1, .int x), (2, .int y), (3, .int w)] := hl
  obtain ⟨pcs, wa, ht, et, mi, co, as, hMo, ⟨hm6, hm7, hm8, hm9, hm10, hm11, hm12, hm13, hm14⟩, hRel, hCnt⟩ := id hM
  obtain ⟨hn1, hn2, hn3⟩ := id hCnt
  have hn1 : tHn U ≤ 30 := hn1
  have hn2 : tPn U ≤ 6 := hn2
  have hn3 : tEn U ≤ 6 := hn3
  have hMo : M 5 = some (.inr (7, [.int th, .int (nI (tHn U)), .int (nI (tPn U)), .int (nI (tEn U)), .ref (ad 6), .ref (ad 7), .ref (ad 8), .ref (ad 9), .ref (ad 10), .ref (ad 11), .ref (ad 12), .ref (ad 13), .ref (ad 14)])) := hMo
  obtain ⟨rH, rP, rE, rM⟩ := id hRel
  obtain ⟨Mo, hMq⟩ : ∃ z, z = M := ⟨_, rfl⟩
  have hrA : fReg 5 15 ad Mo ad M := by rw [hMq]; exact fReg_rf
  obtain ⟨Q9, hQ9⟩ : ∃ z, z = MQ below (fQi g (fMi g ad M 1 U sp ca 0)) args s 0 0 (fA g) := ⟨_, rfl⟩
  show W p l e (fR 7 170 0 0) s m args below meth c _ _ 0 0 (MQ below (fQi g (fMi g ad M 1 U sp ca 0)) args s 0 0 (fA g)) (F0 m 0 ls [])
  rw [← hQ9]
  refine lv_aload_n hx hb dX6_cell_0 rfl (lv_at hl 0 rfl) ?_
  refine lv_iconst (v := 0) hx hb dX6_cell_1 (by decide) ?_
  refine f_put X hw hMo fc7 0 (by decide) wq794 rfl rfl (v := .int 0) rfl rfl (Nat.le_of_ble_eq_true rfl) dX6_cell_2 (fun H locs hw => ?_)
  have hw : fw g ad (fU M 5 (.inr (7, [.int 0, .int (nI (tHn U)), .int (nI (tPn U)), .int (nI (tEn U)), .ref (ad 6), .ref (ad 7), .ref (ad 8), .ref (ad 9), .ref (ad 10), .ref (ad 11), .ref (ad 12), .ref (ad 13), .ref (ad 14)]))) s H locs := hw
  have hMo : (fU M 5 (.inr (7, [.int 0, .int (nI (tHn U)), .int (nI (tPn U)), .int (nI (tEn U)), .ref (ad 6), .ref (ad 7), .ref (ad 8), .ref (ad 9), .ref (ad 10), .ref (ad 11), .ref (ad 12), .ref (ad 13), .ref (ad 14)]))) 5 = some (.inr (7, [.int 0, .int (nI (tHn U)), .int (nI (tPn U)), .int (nI (tEn U)), .ref (ad 6), .ref (ad 7), .ref (ad 8), .ref (ad 9), .ref (ad 10), .ref (ad 11), .ref (ad 12), .ref (ad 13), .ref (ad 14)])) := fU_s
  have hm6 : (fU M 5 (.inr (7, [.int 0, .int (nI (tHn U)), .int (nI (tPn U)), .int (nI (tEn U)), .ref (ad 6), .ref (ad 7), .ref (ad 8), .ref (ad 9), .ref (ad 10), .ref (ad 11), .ref (ad 12), .ref (ad 13), .ref (ad 14)]))) 6 = _ := (fU_n (by omega)).trans hm6
  have hm7 : (fU M 5 (.inr (7, [.int 0, .int (nI (tHn U)), .int (nI (tPn U)), .int (nI (tEn U)), .ref (ad 6), .ref (ad 7), .ref (ad 8), .ref (ad 9), .ref (ad 10), .ref (ad 11), .ref (ad 12), .ref (ad 13), .ref (ad 14)]))) 7 = _ := (fU_n (by omega)).trans hm7
  have hm8 : (fU M 5 (.inr (7, [.int 0, .int (nI (tHn U)), .int (nI (tPn U)), .int (nI (tEn U)), .ref (ad 6), .ref (ad 7), .ref (ad 8), .ref (ad 9), .ref (ad 10), .ref (ad 11), .ref (ad 12), .ref (ad 13), .ref (ad 14)]))) 8 = _ := (fU_n (by omega)).trans hm8
  have hm9 : (fU M 5 (.inr (7, [.int 0, .int (nI (tHn U)), .int (nI (tPn U)), .int (nI (tEn U)), .ref (ad 6), .ref (ad 7), .ref (ad 8), .ref (ad 9), .ref (ad 10), .ref (ad 11), .ref (ad 12), .ref (ad 13), .ref (ad 14)]))) 9 = _ := (fU_n (by omega)).trans hm9
  have hm10 : (fU M 5 (.inr (7, [.int 0, .int (nI (tHn U)), .int (nI (tPn U)), .int (nI (tEn U)), .ref (ad 6), .ref (ad 7), .ref (ad 8), .ref (ad 9), .ref (ad 10), .ref (ad 11), .ref (ad 12), .ref (ad 13), .ref (ad 14)]))) 10 = _ := (fU_n (by omega)).trans hm10
  have hm11 : (fU M 5 (.inr (7, [.int 0, .int (nI (tHn U)), .int (nI (tPn U)), .int (nI (tEn U)), .ref (ad 6), .ref (ad 7), .ref (ad 8), .ref (ad 9), .ref (ad 10), .ref (ad 11), .ref (ad 12), .ref (ad 13), .ref (ad 14)]))) 11 = _ := (fU_n (by omega)).trans hm11
  have hm12 : (fU M 5 (.inr (7, [.int 0, .int (nI (tHn U)), .int (nI (tPn U)), .int (nI (tEn U)), .ref (ad 6), .ref (ad 7), .ref (ad 8), .ref (ad 9), .ref (ad 10), .ref (ad 11), .ref (ad 12), .ref (ad 13), .ref (ad 14)]))) 12 = _ := (fU_n (by omega)).trans hm12
  have hm13 : (fU M 5 (.inr (7, [.int 0, .int (nI (tHn U)), .int (nI (tPn U)), .int (nI (tEn U)), .ref (ad 6), .ref (ad 7), .ref (ad 8), .ref (ad 9), .ref (ad 10), .ref (ad 11), .ref (ad 12), .ref (ad 13), .ref (ad 14)]))) 13 = _ := (fU_n (by omega)).trans hm13
  have hm14 : (fU M 5 (.inr (7, [.int 0, .int (nI (tHn U)), .int (nI (tPn U)), .int (nI (tEn U)), .ref (ad 6), .ref (ad 7), .ref (ad 8), .ref (ad 9), .ref (ad 10), .ref (ad 11), .ref (ad 12), .ref (ad 13), .ref (ad 14)]))) 14 = _ := (fU_n (by omega)).trans hm14
  have hM : isMo g ad (fU M 5 (.inr (7, [.int 0, .int (nI (tHn U)), .int (nI (tPn U)), .int (nI (tEn U)), .ref (ad 6), .ref (ad 7), .ref (ad 8), .ref (ad 9), .ref (ad 10), .ref (ad 11), .ref (ad 12), .ref (ad 13), .ref (ad 14)]))) 0 U sp ca := ⟨pcs, wa, ht, et, mi, co, as, hMo, ⟨hm6, hm7, hm8, hm9, hm10, hm11, hm12, hm13, hm14⟩, hRel, hCnt⟩
  have hrA : fReg 5 15 ad Mo ad (fU M 5 (.inr (7, [.int 0, .int (nI (tHn U)), .int (nI (tPn U)), .int (nI (tEn U)), .ref (ad 6), .ref (ad 7), .ref (ad 8), .ref (ad 9), .ref (ad 10), .ref (ad 11), .ref (ad 12), .ref (ad 13), .ref (ad 14)]))) := fReg_U hrA (by omega)
  obtain ⟨M1, eM1⟩ : ∃ z, z = (fU M 5 (.inr (7, [.int 0, .int (nI (tHn U)), .int (nI (tPn U)), .int (nI (tEn U)), .ref (ad 6), .ref (ad 7), .ref (ad 8), .ref (ad 9), .ref (ad 10), .ref (ad 11), .ref (ad 12), .ref (ad 13), .ref (ad 14)]))) := ⟨_, rfl⟩
  rw [← eM1] at hM hw hrA
  obtain ⟨pcs, wa, ht, et, mi, co, as, hMo, ⟨hm6, hm7, hm8, hm9, hm10, hm11, hm12, hm13, hm14⟩, hRel, hCnt⟩ := id hM
  obtain ⟨hn1, hn2, hn3⟩ := id hCnt
  have hn1 : tHn U ≤ 30 := hn1
  have hn2 : tPn U ≤ 6 := hn2
  have hn3 : tEn U ≤ 6 := hn3
  have hMo : M1 5 = some (.inr (7, [.int 0, .int (nI (tHn U)), .int (nI (tPn U)), .int (nI (tEn U)), .ref (ad 6), .ref (ad 7), .ref (ad 8), .ref (ad 9), .ref (ad 10), .ref (ad 11), .ref (ad 12), .ref (ad 13), .ref (ad 14)])) := hMo
  obtain ⟨rH, rP, rE, rM⟩ := id hRel
  refine lv_iload_n hx hb dX6_cell_5 rfl (lv_at hl 1 rfl) ?_
  refine lv_iload_n hx hb dX6_cell_6 rfl (lv_at hl 2 rfl) ?_
  refine fk_di (fcS X hw (c_isCell l g ad M1 x y) wq843 kSX6_isCell ⟨(Nat.le_of_ble_eq_true rfl), (Nat.le_of_ble_eq_true rfl)⟩ rfl hl.1 rfl (Nat.le_of_ble_eq_true rfl) dX6_cell_7 ⟨Nat.le_refl _, Nat.le_refl _⟩) hw (fun H locs hw => ?_)
  refine lv_if_eq (tgt := 22) hx hb dX6_cell_10 (by decide) (fun c_1 => ?_) (fun c_1 => absurd (bI_nf.mp c_1) (f_false h1))
  have c_1 := bI_f.mp c_1
  refine lv_aload_n hx hb dX6_cell_22 rfl (lv_at hl 0 rfl) ?_
  refine lv_iconst (v := 1) hx hb dX6_cell_23 (by decide) ?_
  refine fk_mi (fcV X hw (c_fail l g ad M1 hM 1) hMo rfl wq849 kVX6_fail ⟨(Nat.le_of_ble_eq_true rfl), (Nat.le_of_ble_eq_true rfl)⟩ rfl hl.1 rfl (Nat.le_of_ble_eq_true rfl) dX6_cell_24 ⟨Nat.le_refl _, Nat.le_refl _⟩) hw (fun M2 H locs hM hr2 hw => ?_)
  have hrA := fReg_tr hrA hr2
  rw [hQ9, ← hMq]
  exact f_iret X hw ⟨rfl, hM, hrA, rfl⟩ (Nat.le_refl _) (Nat.le_refl _) dX6_cell_27
set_option maxHeartbeats 4000000 in
set_option maxRecDepth 100000 in
theorem x_m_cell_2 (l : Launch) (g : fG) (ad : Nat → Nat) (M : fM) {th : Int32} {U : fTn} {sp ca : Nat → Int32} (hM : isMo g ad M th U sp ca) {x y w : Int32} (h1 : aOn x y = true) (h2 : inR w 0 3 = false) : fCi l g yX6_cell cX6_cell 7 ((some .int)) 7 170 0 0 ad M [.ref (ad 5), .int x, .int y, .int w] (fMi g ad M 1 U sp ca 0) := by
  refine f_body (own := RX6) (by decide +kernel) rfl (Nat.le_of_ble_eq_true rfl) ?_
  intro p e s m args below meth c ls X hw hin hl
  have hx := X.1
  have hb := X.2.1
  have hl : lv_has ls 7 [(0, .ref (ad 5)), (1, .int x), (2, .int y), (3, .int w)] := hl
  obtain ⟨pcs, wa, ht, et, mi, co, as, hMo, ⟨hm6, hm7, hm8, hm9, hm10, hm11, hm12, hm13, hm14⟩, hRel, hCnt⟩ := id hM
  obtain ⟨hn1, hn2, hn3⟩ := id hCnt
  have hn1 : tHn U ≤ 30 := hn1
  have hn2 : tPn U ≤ 6 := hn2
  have hn3 : tEn U ≤ 6 := hn3
  have hMo : M 5 = some (.inr (7, [.int th, .int (nI (tHn U)), .int (nI (tPn U)), .int (nI (tEn U)), .ref (ad 6), .ref (ad 7), .ref (ad 8), .ref (ad 9), .ref (ad 10), .ref (ad 11), .ref (ad 12), .ref (ad 13), .ref (ad 14)])) := hMo
  obtain ⟨rH, rP, rE, rM⟩ := id hRel
  obtain ⟨Mo, hMq⟩ : ∃ z, z = M := ⟨_, rfl⟩
  have hrA : fReg 5 15 ad Mo ad M := by rw [hMq]; exact fReg_rf
  obtain ⟨Q9, hQ9⟩ : ∃ z, z = MQ below (fQi g (fMi g ad M 1 U sp ca 0)) args s 0 0 (fA g) := ⟨_, rfl⟩
  show W p l e (fR 7 170 0 0) s m args below meth c _ _ 0 0 (MQ below (fQi g (fMi g ad M 1 U sp ca 0)) args s 0 0 (fA g)) (F0 m 0 ls [])
  rw [← hQ9]
  refine lv_aload_n hx hb dX6_cell_0 rfl (lv_at hl 0 rfl) ?_
  refine lv_iconst (v := 0) hx hb dX6_cell_1 (by decide) ?_
  refine f_put X hw hMo fc7 0 (by decide) wq794 rfl rfl (v := .int 0) rfl rfl (Nat.le_of_ble_eq_true rfl) dX6_cell_2 (fun H locs hw => ?_)
  have hw : fw g ad (fU M 5 (.inr (7, [.int 0, .int (nI (tHn U)), .int (nI (tPn U)), .int (nI (tEn U)), .ref (ad 6), .ref (ad 7), .ref (ad 8), .ref (ad 9), .ref (ad 10), .ref (ad 11), .ref (ad 12), .ref (ad 13), .ref (ad 14)]))) s H locs := hw
  have hMo : (fU M 5 (.inr (7, [.int 0, .int (nI (tHn U)), .int (nI (tPn U)), .int (nI (tEn U)), .ref (ad 6), .ref (ad 7), .ref (ad 8), .ref (ad 9), .ref (ad 10), .ref (ad 11), .ref (ad 12), .ref (ad 13), .ref (ad 14)]))) 5 = some (.inr (7, [.int 0, .int (nI (tHn U)), .int (nI (tPn U)), .int (nI (tEn U)), .ref (ad 6), .ref (ad 7), .ref (ad 8), .ref (ad 9), .ref (ad 10), .ref (ad 11), .ref (ad 12), .ref (ad 13), .ref (ad 14)])) := fU_s
  have hm6 : (fU M 5 (.inr (7, [.int 0, .int (nI (tHn U)), .int (nI (tPn U)), .int (nI (tEn U)), .ref (ad 6), .ref (ad 7), .ref (ad 8), .ref (ad 9), .ref (ad 10), .ref (ad 11), .ref (ad 12), .ref (ad 13), .ref (ad 14)]))) 6 = _ := (fU_n (by omega)).trans hm6
  have hm7 : (fU M 5 (.inr (7, [.int 0, .int (nI (tHn U)), .int (nI (tPn U)), .int (nI (tEn U)), .ref (ad 6), .ref (ad 7), .ref (ad 8), .ref (ad 9), .ref (ad 10), .ref (ad 11), .ref (ad 12), .ref (ad 13), .ref (ad 14)]))) 7 = _ := (fU_n (by omega)).trans hm7
  have hm8 : (fU M 5 (.inr (7, [.int 0, .int (nI (tHn U)), .int (nI (tPn U)), .int (nI (tEn U)), .ref (ad 6), .ref (ad 7), .ref (ad 8), .ref (ad 9), .ref (ad 10), .ref (ad 11), .ref (ad 12), .ref (ad 13), .ref (ad 14)]))) 8 = _ := (fU_n (by omega)).trans hm8
  have hm9 : (fU M 5 (.inr (7, [.int 0, .int (nI (tHn U)), .int (nI (tPn U)), .int (nI (tEn U)), .ref (ad 6), .ref (ad 7), .ref (ad 8), .ref (ad 9), .ref (ad 10), .ref (ad 11), .ref (ad 12), .ref (ad 13), .ref (ad 14)]))) 9 = _ := (fU_n (by omega)).trans hm9
  have hm10 : (fU M 5 (.inr (7, [.int 0, .int (nI (tHn U)), .int (nI (tPn U)), .int (nI (tEn U)), .ref (ad 6), .ref (ad 7), .ref (ad 8), .ref (ad 9), .ref (ad 10), .ref (ad 11), .ref (ad 12), .ref (ad 13), .ref (ad 14)]))) 10 = _ := (fU_n (by omega)).trans hm10
  have hm11 : (fU M 5 (.inr (7, [.int 0, .int (nI (tHn U)), .int (nI (tPn U)), .int (nI (tEn U)), .ref (ad 6), .ref (ad 7), .ref (ad 8), .ref (ad 9), .ref (ad 10), .ref (ad 11), .ref (ad 12), .ref (ad 13), .ref (ad 14)]))) 11 = _ := (fU_n (by omega)).trans hm11
  have hm12 : (fU M 5 (.inr (7, [.int 0, .int (nI (tHn U)), .int (nI (tPn U)), .int (nI (tEn U)), .ref (ad 6), .ref (ad 7), .ref (ad 8), .ref (ad 9), .ref (ad 10), .ref (ad 11), .ref (ad 12), .ref (ad 13), .ref (ad 14)]))) 12 = _ := (fU_n (by omega)).trans hm12
  have hm13 : (fU M 5 (.inr (7, [.int 0, .int (nI (tHn U)), .int (nI (tPn U)), .int (nI (tEn U)), .ref (ad 6), .ref (ad 7), .ref (ad 8), .ref (ad 9), .ref (ad 10), .ref (ad 11), .ref (ad 12), .ref (ad 13), .ref (ad 14)]))) 13 = _ := (fU_n (by omega)).trans hm13
  have hm14 : (fU M 5 (.inr (7, [.int 0, .int (nI (tHn U)), .int (nI (tPn U)), .int (nI (tEn U)), .ref (ad 6), .ref (ad 7), .ref (ad 8), .ref (ad 9), .ref (ad 10), .ref (ad 11), .ref (ad 12), .ref (ad 13), .ref (ad 14)]))) 14 = _ := (fU_n (by omega)).trans hm14
  have hM : isMo g ad (fU M 5 (.inr (7, [.int 0, .int (nI (tHn U)), .int (nI (tPn U)), .int (nI (tEn U)), .ref (ad 6), .ref (ad 7), .ref (ad 8), .ref (ad 9), .ref (ad 10), .ref (ad 11), .ref (ad 12), .ref (ad 13), .ref (ad 14)]))) 0 U sp ca := ⟨pcs, wa, ht, et, mi, co, as, hMo, ⟨hm6, hm7, hm8, hm9, hm10, hm11, hm12, hm13, hm14⟩, hRel, hCnt⟩
  have hrA : fReg 5 15 ad Mo ad (fU M 5 (.inr (7, [.int 0, .int (nI (tHn U)), .int (nI (tPn U)), .int (nI (tEn U)), .ref (ad 6), .ref (ad 7), .ref (ad 8), .ref (ad 9), .ref (ad 10), .ref (ad 11), .ref (ad 12), .ref (ad 13), .ref (ad 14)]))) := fReg_U hrA (by omega)
  obtain ⟨M3, eM3⟩ : ∃ z, z = (fU M 5 (.inr (7, [.int 0, .int (nI (tHn U)), .int (nI (tPn U)), .int (nI (tEn U)), .ref (ad 6), .ref (ad 7), .ref (ad 8), .ref (ad 9), .ref (ad 10), .ref (ad 11), .ref (ad 12), .ref (ad 13), .ref (ad 14)]))) := ⟨_, rfl⟩
  rw [← eM3] at hM hw hrA
  obtain ⟨pcs, wa, ht, et, mi, co, as, hMo, ⟨hm6, hm7, hm8, hm9, hm10, hm11, hm12, hm13, hm14⟩, hRel, hCnt⟩ := id hM
  obtain ⟨hn1, hn2, hn3⟩ := id hCnt
  have hn1 : tHn U ≤ 30 := hn1
  have hn2 : tPn U ≤ 6 := hn2
  have hn3 : tEn U ≤ 6 := hn3
  have hMo : M3 5 = some (.inr (7, [.int 0, .int (nI (tHn U)), .int (nI (tPn U)), .int (nI (tEn U)), .ref (ad 6), .ref (ad 7), .ref (ad 8), .ref (ad 9), .ref (ad 10), .ref (ad 11), .ref (ad 12), .ref (ad 13), .ref (ad 14)])) := hMo
  obtain ⟨rH, rP, rE, rM⟩ := id hRel
  refine lv_iload_n hx hb dX6_cell_5 rfl (lv_at hl 1 rfl) ?_
  refine lv_iload_n hx hb dX6_cell_6 rfl (lv_at hl 2 rfl) ?_
  refine fk_di (fcS X hw (c_isCell l g ad M3 x y) wq843 kSX6_isCell ⟨(Nat.le_of_ble_eq_true rfl), (Nat.le_of_ble_eq_true rfl)⟩ rfl hl.1 rfl (Nat.le_of_ble_eq_true rfl) dX6_cell_7 ⟨Nat.le_refl _, Nat.le_refl _⟩) hw (fun H locs hw => ?_)
  refine lv_if_eq (tgt := 22) hx hb dX6_cell_10 (by decide) (fun c_1 => absurd (bI_f.mp c_1) (by rw [h1]; decide)) (fun c_1 => ?_)
  have c_1 := bI_nf.mp c_1
  refine lv_iload_n hx hb dX6_cell_13 rfl (lv_at hl 3 rfl) ?_
  refine lv_iconst (v := 0) hx hb dX6_cell_14 (by decide) ?_
  refine lv_iconst (v := 3) hx hb dX6_cell_15 (by decide) ?_
  refine fk_di (fcS X hw (c_isIn l g ad M3 (w) 0 3) wq846 kSX6_isIn ⟨(Nat.le_of_ble_eq_true rfl), (Nat.le_of_ble_eq_true rfl)⟩ rfl hl.1 rfl (Nat.le_of_ble_eq_true rfl) dX6_cell_16 ⟨Nat.le_refl _, Nat.le_refl _⟩) hw (fun H locs hw => ?_)
  refine lv_if_ne (tgt := 28) hx hb dX6_cell_19 (by decide) (fun c_2 => absurd (bI_nf.mp c_2) (f_false h2)) (fun c_2 => ?_)
  have c_2 := bI_f.mp c_2
  refine lv_aload_n hx hb dX6_cell_22 rfl (lv_at hl 0 rfl) ?_
  refine lv_iconst (v := 1) hx hb dX6_cell_23 (by decide) ?_
  refine fk_mi (fcV X hw (c_fail l g ad M3 hM 1) hMo rfl wq849 kVX6_fail ⟨(Nat.le_of_ble_eq_true rfl), (Nat.le_of_ble_eq_true rfl)⟩ rfl hl.1 rfl (Nat.le_of_ble_eq_true rfl) dX6_cell_24 ⟨Nat.le_refl _, Nat.le_refl _⟩) hw (fun M4 H locs hM hr4 hw => ?_)
  have hrA := fReg_tr hrA hr4
  rw [hQ9, ← hMq]
  exact f_iret X hw ⟨rfl, hM, hrA, rfl⟩ (Nat.le_refl _) (Nat.le_refl _) dX6_cell_27
set_option maxHeartbeats 4000000 in
set_option maxRecDepth 100000 in
theorem c_m_cell (l : Launch) (g : fG) (ad : Nat → Nat) (M : fM) {th : Int32} {U : fTn} {sp ca : Nat → Int32} (hM : isMo g ad M th U sp ca) {x y w : Int32} (h1 : aOn x y = true) (h2 : inR w 0 3 = true) : fCi l g yX6_cell cX6_cell 7 ((some .int)) 7 170 0 0 ad M [.ref (ad 5), .int x, .int y, .int w] (fMi g ad M 0 (U) sp ca (mCell U (x + 14 * y) w)) := by
  refine f_body (own := RX6) (by decide +kernel) rfl (Nat.le_of_ble_eq_true rfl) ?_
  intro p e s m args below meth c ls X hw hin hl
  have hx := X.1
  have hb := X.2.1
  have hl : lv_has ls 7 [(0, .ref (ad 5)), (1, .int x), (2, .int y), (3, .int w)] := hl
  obtain ⟨pcs, wa, ht, et, mi, co, as, hMo, ⟨hm6, hm7, hm8, hm9, hm10, hm11, hm12, hm13, hm14⟩, hRel, hCnt⟩ := id hM
  obtain ⟨hn1, hn2, hn3⟩ := id hCnt
  have hn1 : tHn U ≤ 30 := hn1
  have hn2 : tPn U ≤ 6 := hn2
  have hn3 : tEn U ≤ 6 := hn3
  have hMo : M 5 = some (.inr (7, [.int th, .int (nI (tHn U)), .int (nI (tPn U)), .int (nI (tEn U)), .ref (ad 6), .ref (ad 7), .ref (ad 8), .ref (ad 9), .ref (ad 10), .ref (ad 11), .ref (ad 12), .ref (ad 13), .ref (ad 14)])) := hMo
  obtain ⟨rH, rP, rE, rM⟩ := id hRel
  obtain ⟨Mo, hMq⟩ : ∃ z, z = M := ⟨_, rfl⟩
  have hrA : fReg 5 15 ad Mo ad M := by rw [hMq]; exact fReg_rf
  obtain ⟨Q9, hQ9⟩ : ∃ z, z = MQ below (fQi g (fMi g ad M 0 (U) sp ca (mCell U (x + 14 * y) w))) args s 0 0 (fA g) := ⟨_, rfl⟩
  show W p l e (fR 7 170 0 0) s m args below meth c _ _ 0 0 (MQ below (fQi g (fMi g ad M 0 (U) sp ca (mCell U (x + 14 * y) w))) args s 0 0 (fA g)) (F0 m 0 ls [])
  rw [← hQ9]
  refine lv_aload_n hx hb dX6_cell_0 rfl (lv_at hl 0 rfl) ?_
  refine lv_iconst (v := 0) hx hb dX6_cell_1 (by decide) ?_
  refine f_put X hw hMo fc7 0 (by decide) wq794 rfl rfl (v := .int 0) rfl rfl (Nat.le_of_ble_eq_true rfl) dX6_cell_2 (fun H locs hw => ?_)
  have hw : fw g ad (fU M 5 (.inr (7, [.int 0, .int (nI (tHn U)), .int (nI (tPn U)), .int (nI (tEn U)), .ref (ad 6), .ref (ad 7), .ref (ad 8), .ref (ad 9), .ref (ad 10), .ref (ad 11), .ref (ad 12), .ref (ad 13), .ref (ad 14)]))) s H locs := hw
  have hMo : (fU M 5 (.inr (7, [.int 0, .int (nI (tHn U)), .int (nI (tPn U)), .int (nI (tEn U)), .ref (ad 6), .ref (ad 7), .ref (ad 8), .ref (ad 9), .ref (ad 10), .ref (ad 11), .ref (ad 12), .ref (ad 13), .ref (ad 14)]))) 5 = some (.inr (7, [.int 0, .int (nI (tHn U)), .int (nI (tPn U)), .int (nI (tEn U)), .ref (ad 6), .ref (ad 7), .ref (ad 8), .ref (ad 9), .ref (ad 10), .ref (ad 11), .ref (ad 12), .ref (ad 13), .ref (ad 14)])) := fU_s
  have hm6 : (fU M 5 (.inr (7, [.int 0, .int (nI (tHn U)), .int (nI (tPn U)), .int (nI (tEn U)), .ref (ad 6), .ref (ad 7), .ref (ad 8), .ref (ad 9), .ref (ad 10), .ref (ad 11), .ref (ad 12), .ref (ad 13), .ref (ad 14)]))) 6 = _ := (fU_n (by omega)).trans hm6
  have hm7 : (fU M 5 (.inr (7, [.int 0, .int (nI (tHn U)), .int (nI (tPn U)), .int (nI (tEn U)), .ref (ad 6), .ref (ad 7), .ref (ad 8), .ref (ad 9), .ref (ad 10), .ref (ad 11), .ref (ad 12), .ref (ad 13), .ref (ad 14)]))) 7 = _ := (fU_n (by omega)).trans hm7
  have hm8 : (fU M 5 (.inr (7, [.int 0, .int (nI (tHn U)), .int (nI (tPn U)), .int (nI (tEn U)), .ref (ad 6), .ref (ad 7), .ref (ad 8), .ref (ad 9), .ref (ad 10), .ref (ad 11), .ref (ad 12), .ref (ad 13), .ref (ad 14)]))) 8 = _ := (fU_n (by omega)).trans hm8
  have hm9 : (fU M 5 (.inr (7, [.int 0, .int (nI (tHn U)), .int (nI (tPn U)), .int (nI (tEn U)), .ref (ad 6), .ref (ad 7), .ref (ad 8), .ref (ad 9), .ref (ad 10), .ref (ad 11), .ref (ad 12), .ref (ad 13), .ref (ad 14)]))) 9 = _ := (fU_n (by omega)).trans hm9
  have hm10 : (fU M 5 (.inr (7, [.int 0, .int (nI (tHn U)), .int (nI (tPn U)), .int (nI (tEn U)), .ref (ad 6), .ref (ad 7), .ref (ad 8), .ref (ad 9), .ref (ad 10), .ref (ad 11), .ref (ad 12), .ref (ad 13), .ref (ad 14)]))) 10 = _ := (fU_n (by omega)).trans hm10
  have hm11 : (fU M 5 (.inr (7, [.int 0, .int (nI (tHn U)), .int (nI (tPn U)), .int (nI (tEn U)), .ref (ad 6), .ref (ad 7), .ref (ad 8), .ref (ad 9), .ref (ad 10), .ref (ad 11), .ref (ad 12), .ref (ad 13), .ref (ad 14)]))) 11 = _ := (fU_n (by omega)).trans hm11
  have hm12 : (fU M 5 (.inr (7, [.int 0, .int (nI (tHn U)), .int (nI (tPn U)), .int (nI (tEn U)), .ref (ad 6), .ref (ad 7), .ref (ad 8), .ref (ad 9), .ref (ad 10), .ref (ad 11), .ref (ad 12), .ref (ad 13), .ref (ad 14)]))) 12 = _ := (fU_n (by omega)).trans hm12
  have hm13 : (fU M 5 (.inr (7, [.int 0, .int (nI (tHn U)), .int (nI (tPn U)), .int (nI (tEn U)), .ref (ad 6), .ref (ad 7), .ref (ad 8), .ref (ad 9), .ref (ad 10), .ref (ad 11), .ref (ad 12), .ref (ad 13), .ref (ad 14)]))) 13 = _ := (fU_n (by omega)).trans hm13
  have hm14 : (fU M 5 (.inr (7, [.int 0, .int (nI (tHn U)), .int (nI (tPn U)), .int (nI (tEn U)), .ref (ad 6), .ref (ad 7), .ref (ad 8), .ref (ad 9), .ref (ad 10), .ref (ad 11), .ref (ad 12), .ref (ad 13), .ref (ad 14)]))) 14 = _ := (fU_n (by omega)).trans hm14
  have hM : isMo g ad (fU M 5 (.inr (7, [.int 0, .int (nI (tHn U)), .int (nI (tPn U)), .int (nI (tEn U)), .ref (ad 6), .ref (ad 7), .ref (ad 8), .ref (ad 9), .ref (ad 10), .ref (ad 11), .ref (ad 12), .ref (ad 13), .ref (ad 14)]))) 0 U sp ca := ⟨pcs, wa, ht, et, mi, co, as, hMo, ⟨hm6, hm7, hm8, hm9, hm10, hm11, hm12, hm13, hm14⟩, hRel, hCnt⟩
  have hrA : fReg 5 15 ad Mo ad (fU M 5 (.inr (7, [.int 0, .int (nI (tHn U)), .int (nI (tPn U)), .int (nI (tEn U)), .ref (ad 6), .ref (ad 7), .ref (ad 8), .ref (ad 9), .ref (ad 10), .ref (ad 11), .ref (ad 12), .ref (ad 13), .ref (ad 14)]))) := fReg_U hrA (by omega)
  obtain ⟨M5, eM5⟩ : ∃ z, z = (fU M 5 (.inr (7, [.int 0, .int (nI (tHn U)), .int (nI (tPn U)), .int (nI (tEn U)), .ref (ad 6), .ref (ad 7), .ref (ad 8), .ref (ad 9), .ref (ad 10), .ref (ad 11), .ref (ad 12), .ref (ad 13), .ref (ad 14)]))) := ⟨_, rfl⟩
  rw [← eM5] at hM hw hrA
  obtain ⟨pcs, wa, ht, et, mi, co, as, hMo, ⟨hm6, hm7, hm8, hm9, hm10, hm11, hm12, hm13, hm14⟩, hRel, hCnt⟩ := id hM
  obtain ⟨hn1, hn2, hn3⟩ := id hCnt
  have hn1 : tHn U ≤ 30 := hn1
  have hn2 : tPn U ≤ 6 := hn2
  have hn3 : tEn U ≤ 6 := hn3
  have hMo : M5 5 = some (.inr (7, [.int 0, .int (nI (tHn U)), .int (nI (tPn U)), .int (nI (tEn U)), .ref (ad 6), .ref (ad 7), .ref (ad 8), .ref (ad 9), .ref (ad 10), .ref (ad 11), .ref (ad 12), .ref (ad 13), .ref (ad 14)])) := hMo
  obtain ⟨rH, rP, rE, rM⟩ := id hRel
  refine lv_iload_n hx hb dX6_cell_5 rfl (lv_at hl 1 rfl) ?_
  refine lv_iload_n hx hb dX6_cell_6 rfl (lv_at hl 2 rfl) ?_
  refine fk_di (fcS X hw (c_isCell l g ad M5 x y) wq843 kSX6_isCell ⟨(Nat.le_of_ble_eq_true rfl), (Nat.le_of_ble_eq_true rfl)⟩ rfl hl.1 rfl (Nat.le_of_ble_eq_true rfl) dX6_cell_7 ⟨Nat.le_refl _, Nat.le_refl _⟩) hw (fun H locs hw => ?_)
  refine lv_if_eq (tgt := 22) hx hb dX6_cell_10 (by decide) (fun c_1 => absurd (bI_f.mp c_1) (by rw [h1]; decide)) (fun c_1 => ?_)
  have c_1 := bI_nf.mp c_1
  refine lv_iload_n hx hb dX6_cell_13 rfl (lv_at hl 3 rfl) ?_
  refine lv_iconst (v := 0) hx hb dX6_cell_14 (by decide) ?_
  refine lv_iconst (v := 3) hx hb dX6_cell_15 (by decide) ?_
  refine fk_di (fcS X hw (c_isIn l g ad M5 (w) 0 3) wq846 kSX6_isIn ⟨(Nat.le_of_ble_eq_true rfl), (Nat.le_of_ble_eq_true rfl)⟩ rfl hl.1 rfl (Nat.le_of_ble_eq_true rfl) dX6_cell_16 ⟨Nat.le_refl _, Nat.le_refl _⟩) hw (fun H locs hw => ?_)
  refine lv_if_ne (tgt := 28) hx hb dX6_cell_19 (by decide) (fun c_2 => ?_) (fun c_2 => absurd (bI_f.mp c_2) (by rw [h2]; decide))
  have c_2 := bI_nf.mp c_2
  refine lv_iload_n hx hb dX6_cell_28 rfl (lv_at hl 1 rfl) ?_
  refine lv_bipush (v := 14) hx hb dX6_cell_29 (by decide) ?_
  refine lv_iload_n hx hb dX6_cell_31 rfl (lv_at hl 2 rfl) ?_
  refine lv_imul hx hb dX6_cell_32 ?_
  refine lv_iadd hx hb dX6_cell_33 ?_
  refine lv_istore (lv' := [(4, .int (x + (14 * y))), (0, .ref (ad 5)), (1, .int x), (2, .int y), (3, .int w)]) hx hb dX6_cell_34 hl (by decide) rfl (fun ls hl => ?_)
  refine lv_iconst (v := 0) hx hb dX6_cell_36 (by decide) ?_
  refine lv_istore (lv' := [(5, .int 0), (4, .int (x + (14 * y))), (0, .ref (ad 5)), (1, .int x), (2, .int y), (3, .int w)]) hx hb dX6_cell_37 hl (by decide) rfl (fun ls hl => ?_)
  refine lv_iconst (v := 0) hx hb dX6_cell_39 (by decide) ?_
  refine lv_istore (lv' := [(6, .int 0), (5, .int 0), (4, .int (x + (14 * y))), (0, .ref (ad 5)), (1, .int x), (2, .int y), (3, .int w)]) hx hb dX6_cell_40 hl (by decide) rfl (fun ls hl => ?_)
  have loop42 : ∀ (n42 k : Nat), k ≤ tEn U → tEn U < k + n42 → ∀ (ls : Array Slot) (H : Heap) (locs : List Loc), fw g ad M5 s H locs → lv_has ls 7 [(5, .int (cntE (tE U) (x + 14 * y) k)), (6, .int (nI k)), (0, .ref (ad 5)), (1, .int x), (2, .int y), (3, .int w), (4, .int (x + 14 * y))] → W p l e (fR 7 170 0 0) s m args below meth c H locs 0 0 Q9 (F0 m 42 ls []) := by
    intro n42
    induction n42 with
    | zero => intro k h1 h2; omega
    | succ n42 ih42 =>
      intro k hk_k hn_k ls H locs hw hl
      refine lv_iload hx hb dX6_cell_42 (lv_at hl 1 rfl) ?_
      refine lv_aload_n hx hb dX6_cell_44 rfl (lv_at hl 2 rfl) ?_
      refine f_get X hw hMo fc7 3 (by decide) wq797 rfl (v := .int (nI (tEn U))) rfl dX6_cell_45 ?_
      refine lv_icmp_ge (tgt := 79) hx hb dX6_cell_48 (by decide) (fun c_3 => ?_) (fun c_3 => ?_)
      · have c_3 := nI_le' (a := (tEn U)) (b := k) c_3 (by omega) (by omega)
        refine lv_aload_n hx hb dX6_cell_79 rfl (lv_at hl 2 rfl) ?_
        refine lv_iload hx hb dX6_cell_80 (lv_at hl 6 rfl) ?_
        refine fk_di (fcV X hw (c_m_houseAt l g ad M5 hM (x + 14 * y)) hMo rfl wq861 kVX6_houseAt ⟨(Nat.le_of_ble_eq_true rfl), (Nat.le_of_ble_eq_true rfl)⟩ rfl hl.1 rfl (Nat.le_of_ble_eq_true rfl) dX6_cell_82 ⟨Nat.le_refl _, Nat.le_refl _⟩) hw (fun H locs hw => ?_)
        refine lv_iconst (v := (-1)) hx hb dX6_cell_85 (by decide) ?_
        refine lv_icmp_eq (tgt := 93) hx hb dX6_cell_86 (by decide) (fun c_4 => ?_) (fun c_4 => ?_)
        · refine lv_aload_n hx hb dX6_cell_93 rfl (lv_at hl 2 rfl) ?_
          refine lv_iload hx hb dX6_cell_94 (lv_at hl 6 rfl) ?_
          refine fk_di (fcV X hw (c_m_pondAt l g ad M5 hM (x + 14 * y)) hMo rfl wq869 kVX6_pondAt ⟨(Nat.le_of_ble_eq_true rfl), (Nat.le_of_ble_eq_true rfl)⟩ rfl hl.1 rfl (Nat.le_of_ble_eq_true rfl) dX6_cell_96 ⟨Nat.le_refl _, Nat.le_refl _⟩) hw (fun H locs hw => ?_)
          refine lv_iconst (v := (-1)) hx hb dX6_cell_99 (by decide) ?_
          refine lv_icmp_eq (tgt := 107) hx hb dX6_cell_100 (by decide) (fun c_5 => ?_) (fun c_5 => ?_)
          · refine lv_iconst (v := 0) hx hb dX6_cell_107 (by decide) ?_
            refine lv_istore (lv' := [(6, .int 0), (5, .int (cntE (tE U) (x + 14 * y) k)), (0, .ref (ad 5)), (1, .int x), (2, .int y), (3, .int w), (4, .int (x + 14 * y))]) hx hb dX6_cell_108 hl (by decide) rfl (fun ls hl => ?_)
            refine lv_iload_n hx hb dX6_cell_110 rfl (lv_at hl 5 rfl) ?_
            refine lv_if_ne (tgt := 119) hx hb dX6_cell_111 (by decide) (fun c_6 => ?_) (fun c_6 => ?_)
            · refine lv_iload_n hx hb dX6_cell_119 rfl (lv_at hl 5 rfl) ?_
              refine lv_iconst (v := 1) hx hb dX6_cell_120 (by decide) ?_
              refine lv_icmp_ne (tgt := 148) hx hb dX6_cell_121 (by decide) (fun c_7 => ?_) (fun c_7 => ?_)
              · refine lv_iload_n hx hb dX6_cell_148 rfl (lv_at hl 5 rfl) ?_
                refine lv_iconst (v := 2) hx hb dX6_cell_149 (by decide) ?_
                refine lv_icmp_ne (tgt := 158) hx hb dX6_cell_150 (by decide) (fun c_8 => ?_) (fun c_8 => ?_)
                · refine lv_aload_n hx hb dX6_cell_158 rfl (lv_at hl 2 rfl) ?_
                  refine lv_iload hx hb dX6_cell_159 (lv_at hl 6 rfl) ?_
                  refine fk_di (fcV X hw (c_m_heatNear l g ad M5 hM (x + 14 * y)) hMo rfl wq902 kVX6_heatNear ⟨(Nat.le_of_ble_eq_true rfl), (Nat.le_of_ble_eq_true rfl)⟩ rfl hl.1 rfl (Nat.le_of_ble_eq_true rfl) dX6_cell_161 ⟨Nat.le_refl _, Nat.le_refl _⟩) hw (fun H locs hw => ?_)
                  rw [hQ9, ← hMq]
                  exact f_iret X hw ⟨rfl, hM, hrA, by simp [mCell, mKind, c_4, c_5, c_6, c_7, c_8]⟩ (Nat.le_refl _) (Nat.le_refl _) dX6_cell_164
                · refine lv_iload hx hb dX6_cell_153 (lv_at hl 1 rfl) ?_
                  refine lv_goto (tgt := 164) hx hb dX6_cell_155 (by decide) ?_
                  rw [hQ9, ← hMq]
                  exact f_iret X hw ⟨rfl, hM, hrA, by rw [show k = tEn U by omega]; simp [mCell, mKind, c_4, c_5, c_6, c_7, c_8]⟩ (Nat.le_refl _) (Nat.le_refl _) dX6_cell_164
              · refine lv_iload hx hb dX6_cell_124 (lv_at hl 0 rfl) ?_
                refine lv_iconst (v := 1) hx hb dX6_cell_126 (by decide) ?_
                refine lv_icmp_ne (tgt := 139) hx hb dX6_cell_127 (by decide) (fun c_9 => ?_) (fun c_9 => absurd c_9 (by decide))
                refine lv_aload_n hx hb dX6_cell_139 rfl (lv_at hl 2 rfl) ?_
                refine lv_iload hx hb dX6_cell_140 (lv_at hl 6 rfl) ?_
                refine fk_di (fcV X hw (c_m_pondAt l g ad M5 hM (x + 14 * y)) hMo rfl wq869 kVX6_pondAt ⟨(Nat.le_of_ble_eq_true rfl), (Nat.le_of_ble_eq_true rfl)⟩ rfl hl.1 rfl (Nat.le_of_ble_eq_true rfl) dX6_cell_142 ⟨Nat.le_refl _, Nat.le_refl _⟩) hw (fun H locs hw => ?_)
                refine lv_goto (tgt := 164) hx hb dX6_cell_145 (by decide) ?_
                rw [hQ9, ← hMq]
                exact f_iret X hw ⟨rfl, hM, hrA, by simp [mCell, mKind, c_4, c_5, c_6, c_7, c_9]⟩ (Nat.le_refl _) (Nat.le_refl _) dX6_cell_164
            · refine lv_iload hx hb dX6_cell_114 (lv_at hl 0 rfl) ?_
              refine lv_goto (tgt := 164) hx hb dX6_cell_116 (by decide) ?_
              rw [hQ9, ← hMq]
              exact f_iret X hw ⟨rfl, hM, hrA, by simp [mCell, mKind, c_4, c_5, c_6]⟩ (Nat.le_refl _) (Nat.le_refl _) dX6_cell_164
          · refine lv_iconst (v := 2) hx hb dX6_cell_103 (by decide) ?_
            refine lv_goto (tgt := 108) hx hb dX6_cell_104 (by decide) ?_
            refine lv_istore (lv' := [(6, .int 2), (5, .int (cntE (tE U) (x + 14 * y) k)), (0, .ref (ad 5)), (1, .int x), (2, .int y), (3, .int w), (4, .int (x + 14 * y))]) hx hb dX6_cell_108 hl (by decide) rfl (fun ls hl => ?_)
            refine lv_iload_n hx hb dX6_cell_110 rfl (lv_at hl 5 rfl) ?_
            refine lv_if_ne (tgt := 119) hx hb dX6_cell_111 (by decide) (fun c_10 => ?_) (fun c_10 => ?_)
            · refine lv_iload_n hx hb dX6_cell_119 rfl (lv_at hl 5 rfl) ?_
              refine lv_iconst (v := 1) hx hb dX6_cell_120 (by decide) ?_
              refine lv_icmp_ne (tgt := 148) hx hb dX6_cell_121 (by decide) (fun c_11 => ?_) (fun c_11 => ?_)
              · refine lv_iload_n hx hb dX6_cell_148 rfl (lv_at hl 5 rfl) ?_
                refine lv_iconst (v := 2) hx hb dX6_cell_149 (by decide) ?_
                refine lv_icmp_ne (tgt := 158) hx hb dX6_cell_150 (by decide) (fun c_12 => ?_) (fun c_12 => ?_)
                · refine lv_aload_n hx hb dX6_cell_158 rfl (lv_at hl 2 rfl) ?_
                  refine lv_iload hx hb dX6_cell_159 (lv_at hl 6 rfl) ?_
                  refine fk_di (fcV X hw (c_m_heatNear l g ad M5 hM (x + 14 * y)) hMo rfl wq902 kVX6_heatNear ⟨(Nat.le_of_ble_eq_true rfl), (Nat.le_of_ble_eq_true rfl)⟩ rfl hl.1 rfl (Nat.le_of_ble_eq_true rfl) dX6_cell_161 ⟨Nat.le_refl _, Nat.le_refl _⟩) hw (fun H locs hw => ?_)
                  rw [hQ9, ← hMq]
                  exact f_iret X hw ⟨rfl, hM, hrA, by simp [mCell, mKind, c_4, c_5, c_10, c_11, c_12]⟩ (Nat.le_refl _) (Nat.le_refl _) dX6_cell_164
                · refine lv_iload hx hb dX6_cell_153 (lv_at hl 1 rfl) ?_
                  refine lv_goto (tgt := 164) hx hb dX6_cell_155 (by decide) ?_
                  rw [hQ9, ← hMq]
                  exact f_iret X hw ⟨rfl, hM, hrA, by rw [show k = tEn U by omega]; simp [mCell, mKind, c_4, c_5, c_10, c_11, c_12]⟩ (Nat.le_refl _) (Nat.le_refl _) dX6_cell_164
              · refine lv_iload hx hb dX6_cell_124 (lv_at hl 0 rfl) ?_
                refine lv_iconst (v := 1) hx hb dX6_cell_126 (by decide) ?_
                refine lv_icmp_ne (tgt := 139) hx hb dX6_cell_127 (by decide) (fun c_13 => ?_) (fun c_13 => absurd c_13 (by decide))
                refine lv_aload_n hx hb dX6_cell_139 rfl (lv_at hl 2 rfl) ?_
                refine lv_iload hx hb dX6_cell_140 (lv_at hl 6 rfl) ?_
                refine fk_di (fcV X hw (c_m_pondAt l g ad M5 hM (x + 14 * y)) hMo rfl wq869 kVX6_pondAt ⟨(Nat.le_of_ble_eq_true rfl), (Nat.le_of_ble_eq_true rfl)⟩ rfl hl.1 rfl (Nat.le_of_ble_eq_true rfl) dX6_cell_142 ⟨Nat.le_refl _, Nat.le_refl _⟩) hw (fun H locs hw => ?_)
                refine lv_goto (tgt := 164) hx hb dX6_cell_145 (by decide) ?_
                rw [hQ9, ← hMq]
                exact f_iret X hw ⟨rfl, hM, hrA, by simp [mCell, mKind, c_4, c_5, c_10, c_11, c_13]⟩ (Nat.le_refl _) (Nat.le_refl _) dX6_cell_164
            · refine lv_iload hx hb dX6_cell_114 (lv_at hl 0 rfl) ?_
              refine lv_goto (tgt := 164) hx hb dX6_cell_116 (by decide) ?_
              rw [hQ9, ← hMq]
              exact f_iret X hw ⟨rfl, hM, hrA, by simp [mCell, mKind, c_4, c_5, c_10]⟩ (Nat.le_refl _) (Nat.le_refl _) dX6_cell_164
        · refine lv_iconst (v := 1) hx hb dX6_cell_89 (by decide) ?_
          refine lv_goto (tgt := 108) hx hb dX6_cell_90 (by decide) ?_
          refine lv_istore (lv' := [(6, .int 1), (5, .int (cntE (tE U) (x + 14 * y) k)), (0, .ref (ad 5)), (1, .int x), (2, .int y), (3, .int w), (4, .int (x + 14 * y))]) hx hb dX6_cell_108 hl (by decide) rfl (fun ls hl => ?_)
          refine lv_iload_n hx hb dX6_cell_110 rfl (lv_at hl 5 rfl) ?_
          refine lv_if_ne (tgt := 119) hx hb dX6_cell_111 (by decide) (fun c_14 => ?_) (fun c_14 => ?_)
          · refine lv_iload_n hx hb dX6_cell_119 rfl (lv_at hl 5 rfl) ?_
            refine lv_iconst (v := 1) hx hb dX6_cell_120 (by decide) ?_
            refine lv_icmp_ne (tgt := 148) hx hb dX6_cell_121 (by decide) (fun c_15 => ?_) (fun c_15 => ?_)
            · refine lv_iload_n hx hb dX6_cell_148 rfl (lv_at hl 5 rfl) ?_
              refine lv_iconst (v := 2) hx hb dX6_cell_149 (by decide) ?_
              refine lv_icmp_ne (tgt := 158) hx hb dX6_cell_150 (by decide) (fun c_16 => ?_) (fun c_16 => ?_)
              · refine lv_aload_n hx hb dX6_cell_158 rfl (lv_at hl 2 rfl) ?_
                refine lv_iload hx hb dX6_cell_159 (lv_at hl 6 rfl) ?_
                refine fk_di (fcV X hw (c_m_heatNear l g ad M5 hM (x + 14 * y)) hMo rfl wq902 kVX6_heatNear ⟨(Nat.le_of_ble_eq_true rfl), (Nat.le_of_ble_eq_true rfl)⟩ rfl hl.1 rfl (Nat.le_of_ble_eq_true rfl) dX6_cell_161 ⟨Nat.le_refl _, Nat.le_refl _⟩) hw (fun H locs hw => ?_)
                rw [hQ9, ← hMq]
                exact f_iret X hw ⟨rfl, hM, hrA, by simp [mCell, mKind, c_4, c_14, c_15, c_16]⟩ (Nat.le_refl _) (Nat.le_refl _) dX6_cell_164
              · refine lv_iload hx hb dX6_cell_153 (lv_at hl 1 rfl) ?_
                refine lv_goto (tgt := 164) hx hb dX6_cell_155 (by decide) ?_
                rw [hQ9, ← hMq]
                exact f_iret X hw ⟨rfl, hM, hrA, by rw [show k = tEn U by omega]; simp [mCell, mKind, c_4, c_14, c_15, c_16]⟩ (Nat.le_refl _) (Nat.le_refl _) dX6_cell_164
            · refine lv_iload hx hb dX6_cell_124 (lv_at hl 0 rfl) ?_
              refine lv_iconst (v := 1) hx hb dX6_cell_126 (by decide) ?_
              refine lv_icmp_ne (tgt := 139) hx hb dX6_cell_127 (by decide) (fun c_17 => absurd rfl c_17) (fun c_17 => ?_)
              refine lv_aload_n hx hb dX6_cell_130 rfl (lv_at hl 2 rfl) ?_
              refine lv_iload hx hb dX6_cell_131 (lv_at hl 6 rfl) ?_
              refine fk_di (fcV X hw (c_m_houseAt l g ad M5 hM (x + 14 * y)) hMo rfl wq861 kVX6_houseAt ⟨(Nat.le_of_ble_eq_true rfl), (Nat.le_of_ble_eq_true rfl)⟩ rfl hl.1 rfl (Nat.le_of_ble_eq_true rfl) dX6_cell_133 ⟨Nat.le_refl _, Nat.le_refl _⟩) hw (fun H locs hw => ?_)
              refine lv_goto (tgt := 164) hx hb dX6_cell_136 (by decide) ?_
              rw [hQ9, ← hMq]
              exact f_iret X hw ⟨rfl, hM, hrA, by simp [mCell, mKind, c_4, c_14, c_15, c_17]⟩ (Nat.le_refl _) (Nat.le_refl _) dX6_cell_164
          · refine lv_iload hx hb dX6_cell_114 (lv_at hl 0 rfl) ?_
            refine lv_goto (tgt := 164) hx hb dX6_cell_116 (by decide) ?_
            rw [hQ9, ← hMq]
            exact f_iret X hw ⟨rfl, hM, hrA, by simp [mCell, mKind, c_4, c_14]⟩ (Nat.le_refl _) (Nat.le_refl _) dX6_cell_164
      · have c_3 := nI_nle' (a := (tEn U)) (b := k) c_3 (by omega) (by omega)
        refine lv_iload hx hb dX6_cell_51 (lv_at hl 0 rfl) ?_
        refine lv_aload_n hx hb dX6_cell_53 rfl (lv_at hl 2 rfl) ?_
        refine lv_iload hx hb dX6_cell_54 (lv_at hl 1 rfl) ?_
        refine lv_iconst (v := 0) hx hb dX6_cell_56 (by decide) ?_
        refine fk_di (fcV X hw (c_en l g ad M5 hM (e0 := k) (k := 0) (by omega) rfl (by omega)) hMo rfl wq873 kVX6_en ⟨(Nat.le_of_ble_eq_true rfl), (Nat.le_of_ble_eq_true rfl)⟩ rfl hl.1 rfl (Nat.le_of_ble_eq_true rfl) dX6_cell_57 ⟨Nat.le_refl _, Nat.le_refl _⟩) hw (fun H locs hw => ?_)
        refine lv_iload hx hb dX6_cell_60 (lv_at hl 6 rfl) ?_
        refine lv_icmp_ne (tgt := 69) hx hb dX6_cell_62 (by decide) (fun c_18 => ?_) (fun c_18 => ?_)
        · refine lv_iconst (v := 0) hx hb dX6_cell_69 (by decide) ?_
          refine lv_iadd hx hb dX6_cell_70 ?_
          refine lv_istore (lv' := [(5, .int ((cntE (tE U) (x + 14 * y) k) + 0)), (6, .int (nI k)), (0, .ref (ad 5)), (1, .int x), (2, .int y), (3, .int w), (4, .int (x + 14 * y))]) hx hb dX6_cell_71 hl (by decide) rfl (fun ls hl => ?_)
          refine lv_iinc (v := nI (k + 1)) (lv' := [(6, .int (nI (k + 1))), (5, .int ((cntE (tE U) (x + 14 * y) k) + 0)), (0, .ref (ad 5)), (1, .int x), (2, .int y), (3, .int w), (4, .int (x + 14 * y))]) hx hb dX6_cell_73 hl (k := 1) rfl (nI_1 k) (by decide) rfl (fun ls hl => ?_)
          refine lv_goto (tgt := 42) hx hb dX6_cell_76 (by decide) ?_
          exact ih42 (k + 1) (by omega) (by omega) ls _ _ hw (by rw [show (cntE (tE U) (x + 14 * y) (k + 1)) = ((cntE (tE U) (x + 14 * y) k) + 0) from (by simp [cntE, c_1, c_2, c_3, c_18])]; exact lv_sub hl [1, 0, 2, 3, 4, 5, 6] rfl)
        · refine lv_iconst (v := 1) hx hb dX6_cell_65 (by decide) ?_
          refine lv_goto (tgt := 70) hx hb dX6_cell_66 (by decide) ?_
          refine lv_iadd hx hb dX6_cell_70 ?_
          refine lv_istore (lv' := [(5, .int ((cntE (tE U) (x + 14 * y) k) + 1)), (6, .int (nI k)), (0, .ref (ad 5)), (1, .int x), (2, .int y), (3, .int w), (4, .int (x + 14 * y))]) hx hb dX6_cell_71 hl (by decide) rfl (fun ls hl => ?_)
          refine lv_iinc (v := nI (k + 1)) (lv' := [(6, .int (nI (k + 1))), (5, .int ((cntE (tE U) (x + 14 * y) k) + 1)), (0, .ref (ad 5)), (1, .int x), (2, .int y), (3, .int w), (4, .int (x + 14 * y))]) hx hb dX6_cell_73 hl (k := 1) rfl (nI_1 k) (by decide) rfl (fun ls hl => ?_)
          refine lv_goto (tgt := 42) hx hb dX6_cell_76 (by decide) ?_
          exact ih42 (k + 1) (by omega) (by omega) ls _ _ hw (by rw [show (cntE (tE U) (x + 14 * y) (k + 1)) = ((cntE (tE U) (x + 14 * y) k) + 1) from (by simp [cntE, c_1, c_2, c_3, c_18])]; exact lv_sub hl [1, 0, 2, 3, 4, 5, 6] rfl)
  exact loop42 (tEn U + 1) 0 (by omega) (by omega) ls _ _ hw (by rw [show (x + 14 * y) = (x + (14 * y)) from (by simp [cntE, c_1, c_2])]; exact lv_sub hl [1, 0, 3, 4, 5, 6, 2] rfl)
set_option maxHeartbeats 4000000 in
set_option maxRecDepth 100000 in
theorem c_m_walls (l : Launch) (g : fG) (ad : Nat → Nat) (M : fM) {th : Int32} {U : fTn} {sp ca : Nat → Int32} (hM : isMo g ad M th U sp ca)  : fCd l g yX6_walls cX6_walls 3 ((some .double)) 7 170 0 0 ad M [.ref (ad 5)] (fMd g ad M 0 U sp ca (wallsD U)) := by
  refine f_body (own := RX6) (by decide +kernel) rfl (Nat.le_of_ble_eq_true rfl) ?_
  intro p e s m args below meth c ls X hw hin hl
  have hx := X.1
  have hb := X.2.1
  have hl : lv_has ls 3 [(0, .ref (ad 5))] := hl
  obtain ⟨pcs, wa, ht, et, mi, co, as, hMo, ⟨hm6, hm7, hm8, hm9, hm10, hm11, hm12, hm13, hm14⟩, hRel, hCnt⟩ := id hM
  obtain ⟨hn1, hn2, hn3⟩ := id hCnt
  have hn1 : tHn U ≤ 30 := hn1
  have hn2 : tPn U ≤ 6 := hn2
  have hn3 : tEn U ≤ 6 := hn3
  have hMo : M 5 = some (.inr (7, [.int th, .int (nI (tHn U)), .int (nI (tPn U)), .int (nI (tEn U)), .ref (ad 6), .ref (ad 7), .ref (ad 8), .ref (ad 9), .ref (ad 10), .ref (ad 11), .ref (ad 12), .ref (ad 13), .ref (ad 14)])) := hMo
  obtain ⟨rH, rP, rE, rM⟩ := id hRel
  obtain ⟨Mo, hMq⟩ : ∃ z, z = M := ⟨_, rfl⟩
  have hrA : fReg 5 15 ad Mo ad M := by rw [hMq]; exact fReg_rf
  obtain ⟨Q9, hQ9⟩ : ∃ z, z = MQ below (fQd g (fMd g ad M 0 U sp ca (wallsD U))) args s 0 0 (fA g) := ⟨_, rfl⟩
  show W p l e (fR 7 170 0 0) s m args below meth c _ _ 0 0 (MQ below (fQd g (fMd g ad M 0 U sp ca (wallsD U))) args s 0 0 (fA g)) (F0 m 0 ls [])
  rw [← hQ9]
  refine lv_aload_n hx hb dX6_walls_0 rfl (lv_at hl 0 rfl) ?_
  refine lv_iconst (v := 0) hx hb dX6_walls_1 (by decide) ?_
  refine f_put X hw hMo fc7 0 (by decide) wq794 rfl rfl (v := .int 0) rfl rfl (Nat.le_of_ble_eq_true rfl) dX6_walls_2 (fun H locs hw => ?_)
  have hw : fw g ad (fU M 5 (.inr (7, [.int 0, .int (nI (tHn U)), .int (nI (tPn U)), .int (nI (tEn U)), .ref (ad 6), .ref (ad 7), .ref (ad 8), .ref (ad 9), .ref (ad 10), .ref (ad 11), .ref (ad 12), .ref (ad 13), .ref (ad 14)]))) s H locs := hw
  have hMo : (fU M 5 (.inr (7, [.int 0, .int (nI (tHn U)), .int (nI (tPn U)), .int (nI (tEn U)), .ref (ad 6), .ref (ad 7), .ref (ad 8), .ref (ad 9), .ref (ad 10), .ref (ad 11), .ref (ad 12), .ref (ad 13), .ref (ad 14)]))) 5 = some (.inr (7, [.int 0, .int (nI (tHn U)), .int (nI (tPn U)), .int (nI (tEn U)), .ref (ad 6), .ref (ad 7), .ref (ad 8), .ref (ad 9), .ref (ad 10), .ref (ad 11), .ref (ad 12), .ref (ad 13), .ref (ad 14)])) := fU_s
  have hm6 : (fU M 5 (.inr (7, [.int 0, .int (nI (tHn U)), .int (nI (tPn U)), .int (nI (tEn U)), .ref (ad 6), .ref (ad 7), .ref (ad 8), .ref (ad 9), .ref (ad 10), .ref (ad 11), .ref (ad 12), .ref (ad 13), .ref (ad 14)]))) 6 = _ := (fU_n (by omega)).trans hm6
  have hm7 : (fU M 5 (.inr (7, [.int 0, .int (nI (tHn U)), .int (nI (tPn U)), .int (nI (tEn U)), .ref (ad 6), .ref (ad 7), .ref (ad 8), .ref (ad 9), .ref (ad 10), .ref (ad 11), .ref (ad 12), .ref (ad 13), .ref (ad 14)]))) 7 = _ := (fU_n (by omega)).trans hm7
  have hm8 : (fU M 5 (.inr (7, [.int 0, .int (nI (tHn U)), .int (nI (tPn U)), .int (nI (tEn U)), .ref (ad 6), .ref (ad 7), .ref (ad 8), .ref (ad 9), .ref (ad 10), .ref (ad 11), .ref (ad 12), .ref (ad 13), .ref (ad 14)]))) 8 = _ := (fU_n (by omega)).trans hm8
  have hm9 : (fU M 5 (.inr (7, [.int 0, .int (nI (tHn U)), .int (nI (tPn U)), .int (nI (tEn U)), .ref (ad 6), .ref (ad 7), .ref (ad 8), .ref (ad 9), .ref (ad 10), .ref (ad 11), .ref (ad 12), .ref (ad 13), .ref (ad 14)]))) 9 = _ := (fU_n (by omega)).trans hm9
  have hm10 : (fU M 5 (.inr (7, [.int 0, .int (nI (tHn U)), .int (nI (tPn U)), .int (nI (tEn U)), .ref (ad 6), .ref (ad 7), .ref (ad 8), .ref (ad 9), .ref (ad 10), .ref (ad 11), .ref (ad 12), .ref (ad 13), .ref (ad 14)]))) 10 = _ := (fU_n (by omega)).trans hm10
  have hm11 : (fU M 5 (.inr (7, [.int 0, .int (nI (tHn U)), .int (nI (tPn U)), .int (nI (tEn U)), .ref (ad 6), .ref (ad 7), .ref (ad 8), .ref (ad 9), .ref (ad 10), .ref (ad 11), .ref (ad 12), .ref (ad 13), .ref (ad 14)]))) 11 = _ := (fU_n (by omega)).trans hm11
  have hm12 : (fU M 5 (.inr (7, [.int 0, .int (nI (tHn U)), .int (nI (tPn U)), .int (nI (tEn U)), .ref (ad 6), .ref (ad 7), .ref (ad 8), .ref (ad 9), .ref (ad 10), .ref (ad 11), .ref (ad 12), .ref (ad 13), .ref (ad 14)]))) 12 = _ := (fU_n (by omega)).trans hm12
  have hm13 : (fU M 5 (.inr (7, [.int 0, .int (nI (tHn U)), .int (nI (tPn U)), .int (nI (tEn U)), .ref (ad 6), .ref (ad 7), .ref (ad 8), .ref (ad 9), .ref (ad 10), .ref (ad 11), .ref (ad 12), .ref (ad 13), .ref (ad 14)]))) 13 = _ := (fU_n (by omega)).trans hm13
  have hm14 : (fU M 5 (.inr (7, [.int 0, .int (nI (tHn U)), .int (nI (tPn U)), .int (nI (tEn U)), .ref (ad 6), .ref (ad 7), .ref (ad 8), .ref (ad 9), .ref (ad 10), .ref (ad 11), .ref (ad 12), .ref (ad 13), .ref (ad 14)]))) 14 = _ := (fU_n (by omega)).trans hm14
  have hM : isMo g ad (fU M 5 (.inr (7, [.int 0, .int (nI (tHn U)), .int (nI (tPn U)), .int (nI (tEn U)), .ref (ad 6), .ref (ad 7), .ref (ad 8), .ref (ad 9), .ref (ad 10), .ref (ad 11), .ref (ad 12), .ref (ad 13), .ref (ad 14)]))) 0 U sp ca := ⟨pcs, wa, ht, et, mi, co, as, hMo, ⟨hm6, hm7, hm8, hm9, hm10, hm11, hm12, hm13, hm14⟩, hRel, hCnt⟩
  have hrA : fReg 5 15 ad Mo ad (fU M 5 (.inr (7, [.int 0, .int (nI (tHn U)), .int (nI (tPn U)), .int (nI (tEn U)), .ref (ad 6), .ref (ad 7), .ref (ad 8), .ref (ad 9), .ref (ad 10), .ref (ad 11), .ref (ad 12), .ref (ad 13), .ref (ad 14)]))) := fReg_U hrA (by omega)
  obtain ⟨M6, eM6⟩ : ∃ z, z = (fU M 5 (.inr (7, [.int 0, .int (nI (tHn U)), .int (nI (tPn U)), .int (nI (tEn U)), .ref (ad 6), .ref (ad 7), .ref (ad 8), .ref (ad 9), .ref (ad 10), .ref (ad 11), .ref (ad 12), .ref (ad 13), .ref (ad 14)]))) := ⟨_, rfl⟩
  rw [← eM6] at hM hw hrA
  obtain ⟨pcs, wa, ht, et, mi, co, as, hMo, ⟨hm6, hm7, hm8, hm9, hm10, hm11, hm12, hm13, hm14⟩, hRel, hCnt⟩ := id hM
  obtain ⟨hn1, hn2, hn3⟩ := id hCnt
  have hn1 : tHn U ≤ 30 := hn1
  have hn2 : tPn U ≤ 6 := hn2
  have hn3 : tEn U ≤ 6 := hn3
  have hMo : M6 5 = some (.inr (7, [.int 0, .int (nI (tHn U)), .int (nI (tPn U)), .int (nI (tEn U)), .ref (ad 6), .ref (ad 7), .ref (ad 8), .ref (ad 9), .ref (ad 10), .ref (ad 11), .ref (ad 12), .ref (ad 13), .ref (ad 14)])) := hMo
  obtain ⟨rH, rP, rE, rM⟩ := id hRel
  refine lv_iconst (v := 0) hx hb dX6_walls_5 (by decide) ?_
  refine lv_istore_n (lv' := [(1, .int 0), (0, .ref (ad 5))]) hx hb dX6_walls_6 rfl hl (by decide) rfl (fun ls hl => ?_)
  refine lv_iconst (v := 0) hx hb dX6_walls_7 (by decide) ?_
  refine lv_istore_n (lv' := [(2, .int 0), (1, .int 0), (0, .ref (ad 5))]) hx hb dX6_walls_8 rfl hl (by decide) rfl (fun ls hl => ?_)
  have loop9 : ∀ (n9 k : Nat), k ≤ tHn U → tHn U < k + n9 → ∀ (ls : Array Slot) (H : Heap) (locs : List Loc), fw g ad M6 s H locs → lv_has ls 3 [(1, .int (sumH (tH U) 2 k)), (2, .int (nI k)), (0, .ref (ad 5))] → W p l e (fR 7 170 0 0) s m args below meth c H locs 0 0 Q9 (F0 m 9 ls []) := by
    intro n9
    induction n9 with
    | zero => intro k h1 h2; omega
    | succ n9 ih9 =>
      intro k hk_k hn_k ls H locs hw hl
      refine lv_iload_n hx hb dX6_walls_9 rfl (lv_at hl 1 rfl) ?_
      refine lv_aload_n hx hb dX6_walls_10 rfl (lv_at hl 2 rfl) ?_
      refine f_get X hw hMo fc7 1 (by decide) wq795 rfl (v := .int (nI (tHn U))) rfl dX6_walls_11 ?_
      refine lv_icmp_ge (tgt := 32) hx hb dX6_walls_14 (by decide) (fun c_1 => ?_) (fun c_1 => ?_)
      · have c_1 := nI_le' (a := (tHn U)) (b := k) c_1 (by omega) (by omega)
        refine lv_aload_n hx hb dX6_walls_32 rfl (lv_at hl 2 rfl) ?_
        refine f_get X hw hMo fc7 1 (by decide) wq795 rfl (v := .int (nI (tHn U))) rfl dX6_walls_33 ?_
        refine lv_if_ne (tgt := 43) hx hb dX6_walls_36 (by decide) (fun c_2 => ?_) (fun c_2 => ?_)
        · have c_2 := nI_neq' (a := (tHn U)) (b := 0) c_2 (by omega) (by omega)
          refine lv_iload_n hx hb dX6_walls_43 rfl (lv_at hl 0 rfl) ?_
          refine lv_i2d hx hb dX6_walls_44 ?_
          refine lv_aload_n hx hb dX6_walls_45 rfl (lv_at hl 2 rfl) ?_
          refine f_get X hw hMo fc7 1 (by decide) wq795 rfl (v := .int (nI (tHn U))) rfl dX6_walls_46 ?_
          refine lv_i2d hx hb dX6_walls_49 ?_
          refine lv_ddiv hx hb dX6_walls_50 (n64_no (ddiv_no _ _ (fun z => c_2 (nI_eq' (a := tHn U) (b := 0) z (by omega) (by omega))))) ?_
          rw [hQ9, ← hMq]
          exact f_dret X hw ⟨rfl, hM, hrA, by rw [show k = tHn U by omega]; exact (if_neg c_2).symm⟩ (Nat.le_refl _) (Nat.le_refl _) dX6_walls_51
        · have c_2 := nI_eq' (a := (tHn U)) (b := 0) c_2 (by omega) (by omega)
          refine lv_dconst0 hx hb dX6_walls_39 ?_
          refine lv_goto (tgt := 51) hx hb dX6_walls_40 (by decide) ?_
          rw [hQ9, ← hMq]
          exact f_dret X hw ⟨rfl, hM, hrA, (if_pos c_2).symm⟩ (Nat.le_refl _) (Nat.le_refl _) dX6_walls_51
      · have c_1 := nI_nle' (a := (tHn U)) (b := k) c_1 (by omega) (by omega)
        refine lv_iload_n hx hb dX6_walls_17 rfl (lv_at hl 0 rfl) ?_
        refine lv_aload_n hx hb dX6_walls_18 rfl (lv_at hl 2 rfl) ?_
        refine lv_iload_n hx hb dX6_walls_19 rfl (lv_at hl 1 rfl) ?_
        refine lv_iconst (v := 2) hx hb dX6_walls_20 (by decide) ?_
        refine fk_di (fcV X hw (c_ho l g ad M6 hM (h0 := k) (k := 2) (by omega) rfl (by omega)) hMo rfl wq865 kVX6_ho ⟨(Nat.le_of_ble_eq_true rfl), (Nat.le_of_ble_eq_true rfl)⟩ rfl hl.1 rfl (Nat.le_of_ble_eq_true rfl) dX6_walls_21 ⟨Nat.le_refl _, Nat.le_refl _⟩) hw (fun H locs hw => ?_)
        refine lv_iadd hx hb dX6_walls_24 ?_
        refine lv_istore_n (lv' := [(1, .int ((sumH (tH U) 2 k) + (tH U k 2))), (2, .int (nI k)), (0, .ref (ad 5))]) hx hb dX6_walls_25 rfl hl (by decide) rfl (fun ls hl => ?_)
        refine lv_iinc (v := nI (k + 1)) (lv' := [(2, .int (nI (k + 1))), (1, .int ((sumH (tH U) 2 k) + (tH U k 2))), (0, .ref (ad 5))]) hx hb dX6_walls_26 hl (k := 1) rfl (nI_1 k) (by decide) rfl (fun ls hl => ?_)
        refine lv_goto (tgt := 9) hx hb dX6_walls_29 (by decide) ?_
        exact ih9 (k + 1) (by omega) (by omega) ls _ _ hw (lv_sub hl [1, 0, 2] rfl)
  exact loop9 (tHn U + 1) 0 (by omega) (by omega) ls _ _ hw (lv_sub hl [1, 0, 2] rfl)
set_option maxHeartbeats 4000000 in
set_option maxRecDepth 100000 in
theorem c_m_digest (l : Launch) (g : fG) (ad : Nat → Nat) (M : fM) {th : Int32} {U : fTn} {sp ca : Nat → Int32} (hM : isMo g ad M th U sp ca)  : fCl l g yX6_digest cX6_digest 5 ((some .long)) 7 170 0 0 ad M [.ref (ad 5)] (fMl g ad M 0 U sp ca (mdE U (tEn U))) := by
  refine f_body (own := RX6) (by decide +kernel) rfl (Nat.le_of_ble_eq_true rfl) ?_
  intro p e s m args below meth c ls X hw hin hl
  have hx := X.1
  have hb := X.2.1
  have hl : lv_has ls 5 [(0, .ref (ad 5))] := hl
  obtain ⟨pcs, wa, ht, et, mi, co, as, hMo, ⟨hm6, hm7, hm8, hm9, hm10, hm11, hm12, hm13, hm14⟩, hRel, hCnt⟩ := id hM
  obtain ⟨hn1, hn2, hn3⟩ := id hCnt
  have hn1 : tHn U ≤ 30 := hn1
  have hn2 : tPn U ≤ 6 := hn2
  have hn3 : tEn U ≤ 6 := hn3
  have hMo : M 5 = some (.inr (7, [.int th, .int (nI (tHn U)), .int (nI (tPn U)), .int (nI (tEn U)), .ref (ad 6), .ref (ad 7), .ref (ad 8), .ref (ad 9), .ref (ad 10), .ref (ad 11), .ref (ad 12), .ref (ad 13), .ref (ad 14)])) := hMo
  obtain ⟨rH, rP, rE, rM⟩ := id hRel
  obtain ⟨Mo, hMq⟩ : ∃ z, z = M := ⟨_, rfl⟩
  have hrA : fReg 5 15 ad Mo ad M := by rw [hMq]; exact fReg_rf
  obtain ⟨Q9, hQ9⟩ : ∃ z, z = MQ below (fQl g (fMl g ad M 0 U sp ca (mdE U (tEn U)))) args s 0 0 (fA g) := ⟨_, rfl⟩
  show W p l e (fR 7 170 0 0) s m args below meth c _ _ 0 0 (MQ below (fQl g (fMl g ad M 0 U sp ca (mdE U (tEn U)))) args s 0 0 (fA g)) (F0 m 0 ls [])
  rw [← hQ9]
  refine lv_aload_n hx hb dX6_digest_0 rfl (lv_at hl 0 rfl) ?_
  refine lv_iconst (v := 0) hx hb dX6_digest_1 (by decide) ?_
  refine f_put X hw hMo fc7 0 (by decide) wq794 rfl rfl (v := .int 0) rfl rfl (Nat.le_of_ble_eq_true rfl) dX6_digest_2 (fun H locs hw => ?_)
  have hw : fw g ad (fU M 5 (.inr (7, [.int 0, .int (nI (tHn U)), .int (nI (tPn U)), .int (nI (tEn U)), .ref (ad 6), .ref (ad 7), .ref (ad 8), .ref (ad 9), .ref (ad 10), .ref (ad 11), .ref (ad 12), .ref (ad 13), .ref (ad 14)]))) s H locs := hw
  have hMo : (fU M 5 (.inr (7, [.int 0, .int (nI (tHn U)), .int (nI (tPn U)), .int (nI (tEn U)), .ref (ad 6), .ref (ad 7), .ref (ad 8), .ref (ad 9), .ref (ad 10), .ref (ad 11), .ref (ad 12), .ref (ad 13), .ref (ad 14)]))) 5 = some (.inr (7, [.int 0, .int (nI (tHn U)), .int (nI (tPn U)), .int (nI (tEn U)), .ref (ad 6), .ref (ad 7), .ref (ad 8), .ref (ad 9), .ref (ad 10), .ref (ad 11), .ref (ad 12), .ref (ad 13), .ref (ad 14)])) := fU_s
  have hm6 : (fU M 5 (.inr (7, [.int 0, .int (nI (tHn U)), .int (nI (tPn U)), .int (nI (tEn U)), .ref (ad 6), .ref (ad 7), .ref (ad 8), .ref (ad 9), .ref (ad 10), .ref (ad 11), .ref (ad 12), .ref (ad 13), .ref (ad 14)]))) 6 = _ := (fU_n (by omega)).trans hm6
  have hm7 : (fU M 5 (.inr (7, [.int 0, .int (nI (tHn U)), .int (nI (tPn U)), .int (nI (tEn U)), .ref (ad 6), .ref (ad 7), .ref (ad 8), .ref (ad 9), .ref (ad 10), .ref (ad 11), .ref (ad 12), .ref (ad 13), .ref (ad 14)]))) 7 = _ := (fU_n (by omega)).trans hm7
  have hm8 : (fU M 5 (.inr (7, [.int 0, .int (nI (tHn U)), .int (nI (tPn U)), .int (nI (tEn U)), .ref (ad 6), .ref (ad 7), .ref (ad 8), .ref (ad 9), .ref (ad 10), .ref (ad 11), .ref (ad 12), .ref (ad 13), .ref (ad 14)]))) 8 = _ := (fU_n (by omega)).trans hm8
  have hm9 : (fU M 5 (.inr (7, [.int 0, .int (nI (tHn U)), .int (nI (tPn U)), .int (nI (tEn U)), .ref (ad 6), .ref (ad 7), .ref (ad 8), .ref (ad 9), .ref (ad 10), .ref (ad 11), .ref (ad 12), .ref (ad 13), .ref (ad 14)]))) 9 = _ := (fU_n (by omega)).trans hm9
  have hm10 : (fU M 5 (.inr (7, [.int 0, .int (nI (tHn U)), .int (nI (tPn U)), .int (nI (tEn U)), .ref (ad 6), .ref (ad 7), .ref (ad 8), .ref (ad 9), .ref (ad 10), .ref (ad 11), .ref (ad 12), .ref (ad 13), .ref (ad 14)]))) 10 = _ := (fU_n (by omega)).trans hm10
  have hm11 : (fU M 5 (.inr (7, [.int 0, .int (nI (tHn U)), .int (nI (tPn U)), .int (nI (tEn U)), .ref (ad 6), .ref (ad 7), .ref (ad 8), .ref (ad 9), .ref (ad 10), .ref (ad 11), .ref (ad 12), .ref (ad 13), .ref (ad 14)]))) 11 = _ := (fU_n (by omega)).trans hm11
  have hm12 : (fU M 5 (.inr (7, [.int 0, .int (nI (tHn U)), .int (nI (tPn U)), .int (nI (tEn U)), .ref (ad 6), .ref (ad 7), .ref (ad 8), .ref (ad 9), .ref (ad 10), .ref (ad 11), .ref (ad 12), .ref (ad 13), .ref (ad 14)]))) 12 = _ := (fU_n (by omega)).trans hm12
  have hm13 : (fU M 5 (.inr (7, [.int 0, .int (nI (tHn U)), .int (nI (tPn U)), .int (nI (tEn U)), .ref (ad 6), .ref (ad 7), .ref (ad 8), .ref (ad 9), .ref (ad 10), .ref (ad 11), .ref (ad 12), .ref (ad 13), .ref (ad 14)]))) 13 = _ := (fU_n (by omega)).trans hm13
  have hm14 : (fU M 5 (.inr (7, [.int 0, .int (nI (tHn U)), .int (nI (tPn U)), .int (nI (tEn U)), .ref (ad 6), .ref (ad 7), .ref (ad 8), .ref (ad 9), .ref (ad 10), .ref (ad 11), .ref (ad 12), .ref (ad 13), .ref (ad 14)]))) 14 = _ := (fU_n (by omega)).trans hm14
  have hM : isMo g ad (fU M 5 (.inr (7, [.int 0, .int (nI (tHn U)), .int (nI (tPn U)), .int (nI (tEn U)), .ref (ad 6), .ref (ad 7), .ref (ad 8), .ref (ad 9), .ref (ad 10), .ref (ad 11), .ref (ad 12), .ref (ad 13), .ref (ad 14)]))) 0 U sp ca := ⟨pcs, wa, ht, et, mi, co, as, hMo, ⟨hm6, hm7, hm8, hm9, hm10, hm11, hm12, hm13, hm14⟩, hRel, hCnt⟩
  have hrA : fReg 5 15 ad Mo ad (fU M 5 (.inr (7, [.int 0, .int (nI (tHn U)), .int (nI (tPn U)), .int (nI (tEn U)), .ref (ad 6), .ref (ad 7), .ref (ad 8), .ref (ad 9), .ref (ad 10), .ref (ad 11), .ref (ad 12), .ref (ad 13), .ref (ad 14)]))) := fReg_U hrA (by omega)
  obtain ⟨M7, eM7⟩ : ∃ z, z = (fU M 5 (.inr (7, [.int 0, .int (nI (tHn U)), .int (nI (tPn U)), .int (nI (tEn U)), .ref (ad 6), .ref (ad 7), .ref (ad 8), .ref (ad 9), .ref (ad 10), .ref (ad 11), .ref (ad 12), .ref (ad 13), .ref (ad 14)]))) := ⟨_, rfl⟩
  rw [← eM7] at hM hw hrA
  obtain ⟨pcs, wa, ht, et, mi, co, as, hMo, ⟨hm6, hm7, hm8, hm9, hm10, hm11, hm12, hm13, hm14⟩, hRel, hCnt⟩ := id hM
  obtain ⟨hn1, hn2, hn3⟩ := id hCnt
  have hn1 : tHn U ≤ 30 := hn1
  have hn2 : tPn U ≤ 6 := hn2
  have hn3 : tEn U ≤ 6 := hn3
  have hMo : M7 5 = some (.inr (7, [.int 0, .int (nI (tHn U)), .int (nI (tPn U)), .int (nI (tEn U)), .ref (ad 6), .ref (ad 7), .ref (ad 8), .ref (ad 9), .ref (ad 10), .ref (ad 11), .ref (ad 12), .ref (ad 13), .ref (ad 14)])) := hMo
  obtain ⟨rH, rP, rE, rM⟩ := id hRel
  refine lv_ldc2 hx hb X.2.2.2.1 (X.2.2.2.2.1 _ wq1061) dX6_digest_5 ?_
  refine lv_lstore_n (lv' := [(1, .long 607), (0, .ref (ad 5))]) hx hb dX6_digest_8 rfl hl (by decide) rfl (fun ls hl => ?_)
  refine lv_iconst (v := 0) hx hb dX6_digest_9 (by decide) ?_
  refine lv_istore_n (lv' := [(3, .int 0), (1, .long 607), (0, .ref (ad 5))]) hx hb dX6_digest_10 rfl hl (by decide) rfl (fun ls hl => ?_)
  have loop11 : ∀ (n11 k : Nat), k ≤ 10 → 10 < k + n11 → ∀ (ls : Array Slot) (H : Heap) (locs : List Loc), fw g ad M7 s H locs → lv_has ls 5 [(1, .long (digC U k)), (3, .int (nI k)), (0, .ref (ad 5))] → W p l e (fR 7 170 0 0) s m args below meth c H locs 0 0 Q9 (F0 m 11 ls []) := by
    intro n11
    induction n11 with
    | zero => intro k h1 h2; omega
    | succ n11 ih11 =>
      intro k hk_k hn_k ls H locs hw hl
      refine lv_iload_n hx hb dX6_digest_11 rfl (lv_at hl 1 rfl) ?_
      refine lv_bipush (v := 10) hx hb dX6_digest_12 (by decide) ?_
      refine lv_icmp_ge (tgt := 36) hx hb dX6_digest_14 (by decide) (fun c_1 => ?_) (fun c_1 => ?_)
      · have c_1 := nI_le' (a := 10) (b := k) c_1 (by omega) (by omega)
        refine lv_iconst (v := 0) hx hb dX6_digest_36 (by decide) ?_
        refine lv_istore_n (lv' := [(3, .int 0), (1, .long (digC U k)), (0, .ref (ad 5))]) hx hb dX6_digest_37 rfl hl (by decide) rfl (fun ls hl => ?_)
        have loop38 : ∀ (n38 kh : Nat), kh ≤ tHn U → tHn U < kh + n38 → ∀ (ls : Array Slot) (H : Heap) (locs : List Loc), fw g ad M7 s H locs → lv_has ls 5 [(1, .long (mdH U kh)), (3, .int (nI kh)), (0, .ref (ad 5))] → W p l e (fR 7 170 0 0) s m args below meth c H locs 0 0 Q9 (F0 m 38 ls []) := by
          intro n38
          induction n38 with
          | zero => intro kh h1 h2; omega
          | succ n38 ih38 =>
            intro kh hk_kh hn_kh ls H locs hw hl
            refine lv_iload_n hx hb dX6_digest_38 rfl (lv_at hl 1 rfl) ?_
            refine lv_aload_n hx hb dX6_digest_39 rfl (lv_at hl 2 rfl) ?_
            refine f_get X hw hMo fc7 1 (by decide) wq795 rfl (v := .int (nI (tHn U))) rfl dX6_digest_40 ?_
            refine lv_icmp_ge (tgt := 83) hx hb dX6_digest_43 (by decide) (fun c_2 => ?_) (fun c_2 => ?_)
            · have c_2 := nI_le' (a := (tHn U)) (b := kh) c_2 (by omega) (by omega)
              refine lv_iconst (v := 0) hx hb dX6_digest_83 (by decide) ?_
              refine lv_istore_n (lv' := [(3, .int 0), (1, .long (mdH U kh)), (0, .ref (ad 5))]) hx hb dX6_digest_84 rfl hl (by decide) rfl (fun ls hl => ?_)
              have loop85 : ∀ (n85 kp : Nat), kp ≤ tPn U → tPn U < kp + n85 → ∀ (ls : Array Slot) (H : Heap) (locs : List Loc), fw g ad M7 s H locs → lv_has ls 5 [(1, .long (mdP U kp)), (3, .int (nI kp)), (0, .ref (ad 5))] → W p l e (fR 7 170 0 0) s m args below meth c H locs 0 0 Q9 (F0 m 85 ls []) := by
                intro n85
                induction n85 with
                | zero => intro kp h1 h2; omega
                | succ n85 ih85 =>
                  intro kp hk_kp hn_kp ls H locs hw hl
                  refine lv_iload_n hx hb dX6_digest_85 rfl (lv_at hl 1 rfl) ?_
                  refine lv_aload_n hx hb dX6_digest_86 rfl (lv_at hl 2 rfl) ?_
                  refine f_get X hw hMo fc7 2 (by decide) wq796 rfl (v := .int (nI (tPn U))) rfl dX6_digest_87 ?_
                  refine lv_icmp_ge (tgt := 125) hx hb dX6_digest_90 (by decide) (fun c_3 => ?_) (fun c_3 => ?_)
                  · have c_3 := nI_le' (a := (tPn U)) (b := kp) c_3 (by omega) (by omega)
                    refine lv_iconst (v := 0) hx hb dX6_digest_125 (by decide) ?_
                    refine lv_istore_n (lv' := [(3, .int 0), (1, .long (mdP U kp)), (0, .ref (ad 5))]) hx hb dX6_digest_126 rfl hl (by decide) rfl (fun ls hl => ?_)
                    have loop127 : ∀ (n127 ke : Nat), ke ≤ tEn U → tEn U < ke + n127 → ∀ (ls : Array Slot) (H : Heap) (locs : List Loc), fw g ad M7 s H locs → lv_has ls 5 [(1, .long (mdE U ke)), (3, .int (nI ke)), (0, .ref (ad 5))] → W p l e (fR 7 170 0 0) s m args below meth c H locs 0 0 Q9 (F0 m 127 ls []) := by
                      intro n127
                      induction n127 with
                      | zero => intro ke h1 h2; omega
                      | succ n127 ih127 =>
                        intro ke hk_ke hn_ke ls H locs hw hl
                        refine lv_iload_n hx hb dX6_digest_127 rfl (lv_at hl 1 rfl) ?_
                        refine lv_aload_n hx hb dX6_digest_128 rfl (lv_at hl 2 rfl) ?_
                        refine f_get X hw hMo fc7 3 (by decide) wq797 rfl (v := .int (nI (tEn U))) rfl dX6_digest_129 ?_
                        refine lv_icmp_ge (tgt := 172) hx hb dX6_digest_132 (by decide) (fun c_4 => ?_) (fun c_4 => ?_)
                        · have c_4 := nI_le' (a := (tEn U)) (b := ke) c_4 (by omega) (by omega)
                          refine lv_lload_n hx hb dX6_digest_172 rfl (lv_at hl 0 rfl) ?_
                          rw [hQ9, ← hMq]
                          exact f_lret X hw ⟨rfl, hM, hrA, by rw [show ke = tEn U by omega]⟩ (Nat.le_refl _) (Nat.le_refl _) dX6_digest_173
                        · have c_4 := nI_nle' (a := (tEn U)) (b := ke) c_4 (by omega) (by omega)
                          refine lv_iconst (v := 0) hx hb dX6_digest_135 (by decide) ?_
                          refine lv_istore (lv' := [(4, .int 0), (1, .long (mdE U ke)), (3, .int (nI ke)), (0, .ref (ad 5))]) hx hb dX6_digest_136 hl (by decide) rfl (fun ls hl => ?_)
                          have loop138 : ∀ (n138 kv : Nat), kv ≤ 10 → 10 < kv + n138 → ∀ (ls : Array Slot) (H : Heap) (locs : List Loc), fw g ad M7 s H locs → lv_has ls 5 [(1, .long (mdE1 U ke (mdE U ke) kv)), (4, .int (nI kv)), (3, .int (nI ke)), (0, .ref (ad 5))] → W p l e (fR 7 170 0 0) s m args below meth c H locs 0 0 Q9 (F0 m 138 ls []) := by
                            intro n138
                            induction n138 with
                            | zero => intro kv h1 h2; omega
                            | succ n138 ih138 =>
                              intro kv hk_kv hn_kv ls H locs hw hl
                              refine lv_iload hx hb dX6_digest_138 (lv_at hl 1 rfl) ?_
                              refine lv_bipush (v := 10) hx hb dX6_digest_140 (by decide) ?_
                              refine lv_icmp_ge (tgt := 166) hx hb dX6_digest_142 (by decide) (fun c_5 => ?_) (fun c_5 => ?_)
                              · have c_5 := nI_le' (a := 10) (b := kv) c_5 (by omega) (by omega)
                                refine lv_iinc (v := nI (ke + 1)) (lv' := [(3, .int (nI (ke + 1))), (1, .long (mdE1 U ke (mdE U ke) kv)), (4, .int (nI kv)), (0, .ref (ad 5))]) hx hb dX6_digest_166 hl (k := 2) rfl (nI_1 ke) (by decide) rfl (fun ls hl => ?_)
                                refine lv_goto (tgt := 127) hx hb dX6_digest_169 (by decide) ?_
                                exact ih127 (ke + 1) (by omega) (by omega) ls _ _ hw (by rw [show (mdE U (ke + 1)) = (mdE1 U ke (mdE U ke) kv) from (by rw [show kv = 10 by omega]; rfl)]; exact lv_sub hl [1, 0, 3] rfl)
                              · have c_5 := nI_nle' (a := 10) (b := kv) c_5 (by omega) (by omega)
                                refine lv_lload_n hx hb dX6_digest_145 rfl (lv_at hl 0 rfl) ?_
                                refine lv_ldc2 hx hb X.2.2.2.1 (X.2.2.2.2.1 _ wq1062) dX6_digest_146 ?_
                                refine lv_lmul hx hb dX6_digest_149 ?_
                                refine lv_aload_n hx hb dX6_digest_150 rfl (lv_at hl 3 rfl) ?_
                                refine lv_iload_n hx hb dX6_digest_151 rfl (lv_at hl 2 rfl) ?_
                                refine lv_iload hx hb dX6_digest_152 (lv_at hl 1 rfl) ?_
                                refine fk_di (fcV X hw (c_m_told l g ad M7 hM (e0 := ke) (k := kv) (by omega) (by omega)) hMo rfl wq971 kVX6_engineTold ⟨(Nat.le_of_ble_eq_true rfl), (Nat.le_of_ble_eq_true rfl)⟩ rfl hl.1 rfl (Nat.le_of_ble_eq_true rfl) dX6_digest_154 ⟨Nat.le_refl _, Nat.le_refl _⟩) hw (fun H locs hw => ?_)
                                refine lv_i2l hx hb dX6_digest_157 rfl ?_
                                refine lv_ladd hx hb dX6_digest_158 ?_
                                refine lv_lstore_n (lv' := [(1, .long (((mdE1 U ke (mdE U ke) kv) * 31) + ((mTell U (tE U ke) kv).toInt64))), (4, .int (nI kv)), (3, .int (nI ke)), (0, .ref (ad 5))]) hx hb dX6_digest_159 rfl hl (by decide) rfl (fun ls hl => ?_)
                                refine lv_iinc (v := nI (kv + 1)) (lv' := [(4, .int (nI (kv + 1))), (1, .long (((mdE1 U ke (mdE U ke) kv) * 31) + ((mTell U (tE U ke) kv).toInt64))), (3, .int (nI ke)), (0, .ref (ad 5))]) hx hb dX6_digest_160 hl (k := 1) rfl (nI_1 kv) (by decide) rfl (fun ls hl => ?_)
                                refine lv_goto (tgt := 138) hx hb dX6_digest_163 (by decide) ?_
                                exact ih138 (kv + 1) (by omega) (by omega) ls _ _ hw (lv_sub hl [1, 0, 2, 3] rfl)
                          exact loop138 (10 + 1) 0 (by omega) (by omega) ls _ _ hw (lv_sub hl [1, 0, 2, 3] rfl)
                    exact loop127 (tEn U + 1) 0 (by omega) (by omega) ls _ _ hw (by rw [show (mdE U 0) = (mdP U kp) from (by rw [show kp = tPn U by omega]; rfl)]; exact lv_sub hl [1, 0, 2] rfl)
                  · have c_3 := nI_nle' (a := (tPn U)) (b := kp) c_3 (by omega) (by omega)
                    refine lv_lload_n hx hb dX6_digest_93 rfl (lv_at hl 0 rfl) ?_
                    refine lv_ldc2 hx hb X.2.2.2.1 (X.2.2.2.2.1 _ wq1062) dX6_digest_94 ?_
                    refine lv_lmul hx hb dX6_digest_97 ?_
                    refine lv_aload_n hx hb dX6_digest_98 rfl (lv_at hl 2 rfl) ?_
                    refine f_get X hw hMo fc7 4 (by decide) wq798 rfl (v := .ref (ad 6)) rfl dX6_digest_99 ?_
                    refine lv_iload_n hx hb dX6_digest_102 rfl (lv_at hl 1 rfl) ?_
                    refine f_iald X hw hm6 (vp_in_nI (n := kp) (by omega) (by omega)) dX6_digest_103 ?_
                    rw [nI_clamp (n := kp) (by omega)]
                    refine f_top (y := tP U kp 0) (rP kp (by omega)).1 ?_
                    refine lv_i2l hx hb dX6_digest_104 rfl ?_
                    refine lv_ladd hx hb dX6_digest_105 ?_
                    refine lv_ldc2 hx hb X.2.2.2.1 (X.2.2.2.2.1 _ wq1062) dX6_digest_106 ?_
                    refine lv_lmul hx hb dX6_digest_109 ?_
                    refine lv_aload_n hx hb dX6_digest_110 rfl (lv_at hl 2 rfl) ?_
                    refine f_get X hw hMo fc7 5 (by decide) wq799 rfl (v := .ref (ad 7)) rfl dX6_digest_111 ?_
                    refine lv_iload_n hx hb dX6_digest_114 rfl (lv_at hl 1 rfl) ?_
                    refine f_iald X hw hm7 (vp_in_nI (n := kp) (by omega) (by omega)) dX6_digest_115 ?_
                    rw [nI_clamp (n := kp) (by omega)]
                    refine f_top (y := tP U kp 1) (rP kp (by omega)).2 ?_
                    refine lv_i2l hx hb dX6_digest_116 rfl ?_
                    refine lv_ladd hx hb dX6_digest_117 ?_
                    refine lv_lstore_n (lv' := [(1, .long (((((mdP U kp) * 31) + ((tP U kp 0).toInt64)) * 31) + ((tP U kp 1).toInt64))), (3, .int (nI kp)), (0, .ref (ad 5))]) hx hb dX6_digest_118 rfl hl (by decide) rfl (fun ls hl => ?_)
                    refine lv_iinc (v := nI (kp + 1)) (lv' := [(3, .int (nI (kp + 1))), (1, .long (((((mdP U kp) * 31) + ((tP U kp 0).toInt64)) * 31) + ((tP U kp 1).toInt64))), (0, .ref (ad 5))]) hx hb dX6_digest_119 hl (k := 1) rfl (nI_1 kp) (by decide) rfl (fun ls hl => ?_)
                    refine lv_goto (tgt := 85) hx hb dX6_digest_122 (by decide) ?_
                    exact ih85 (kp + 1) (by omega) (by omega) ls _ _ hw (lv_sub hl [1, 0, 2] rfl)
              exact loop85 (tPn U + 1) 0 (by omega) (by omega) ls _ _ hw (by rw [show (mdP U 0) = (mdH U kh) from (by rw [show kh = tHn U by omega]; rfl)]; exact lv_sub hl [1, 0, 2] rfl)
            · have c_2 := nI_nle' (a := (tHn U)) (b := kh) c_2 (by omega) (by omega)
              refine lv_iconst (v := 0) hx hb dX6_digest_46 (by decide) ?_
              refine lv_istore (lv' := [(4, .int 0), (1, .long (mdH U kh)), (3, .int (nI kh)), (0, .ref (ad 5))]) hx hb dX6_digest_47 hl (by decide) rfl (fun ls hl => ?_)
              have loop49 : ∀ (n49 kw : Nat), kw ≤ 7 → 7 < kw + n49 → ∀ (ls : Array Slot) (H : Heap) (locs : List Loc), fw g ad M7 s H locs → lv_has ls 5 [(1, .long (mdH1 U kh (mdH U kh) kw)), (4, .int (nI kw)), (3, .int (nI kh)), (0, .ref (ad 5))] → W p l e (fR 7 170 0 0) s m args below meth c H locs 0 0 Q9 (F0 m 49 ls []) := by
                intro n49
                induction n49 with
                | zero => intro kw h1 h2; omega
                | succ n49 ih49 =>
                  intro kw hk_kw hn_kw ls H locs hw hl
                  refine lv_iload hx hb dX6_digest_49 (lv_at hl 1 rfl) ?_
                  refine lv_bipush (v := 7) hx hb dX6_digest_51 (by decide) ?_
                  refine lv_icmp_ge (tgt := 77) hx hb dX6_digest_53 (by decide) (fun c_6 => ?_) (fun c_6 => ?_)
                  · have c_6 := nI_le' (a := 7) (b := kw) c_6 (by omega) (by omega)
                    refine lv_iinc (v := nI (kh + 1)) (lv' := [(3, .int (nI (kh + 1))), (1, .long (mdH1 U kh (mdH U kh) kw)), (4, .int (nI kw)), (0, .ref (ad 5))]) hx hb dX6_digest_77 hl (k := 2) rfl (nI_1 kh) (by decide) rfl (fun ls hl => ?_)
                    refine lv_goto (tgt := 38) hx hb dX6_digest_80 (by decide) ?_
                    exact ih38 (kh + 1) (by omega) (by omega) ls _ _ hw (by rw [show (mdH U (kh + 1)) = (mdH1 U kh (mdH U kh) kw) from (by rw [show kw = 7 by omega]; rfl)]; exact lv_sub hl [1, 0, 3] rfl)
                  · have c_6 := nI_nle' (a := 7) (b := kw) c_6 (by omega) (by omega)
                    refine lv_lload_n hx hb dX6_digest_56 rfl (lv_at hl 0 rfl) ?_
                    refine lv_ldc2 hx hb X.2.2.2.1 (X.2.2.2.2.1 _ wq1062) dX6_digest_57 ?_
                    refine lv_lmul hx hb dX6_digest_60 ?_
                    refine lv_aload_n hx hb dX6_digest_61 rfl (lv_at hl 3 rfl) ?_
                    refine lv_iload_n hx hb dX6_digest_62 rfl (lv_at hl 2 rfl) ?_
                    refine lv_iload hx hb dX6_digest_63 (lv_at hl 1 rfl) ?_
                    refine fk_di (fcV X hw (c_ho l g ad M7 hM (h0 := kh) (k := kw) (by omega) rfl (by omega)) hMo rfl wq865 kVX6_ho ⟨(Nat.le_of_ble_eq_true rfl), (Nat.le_of_ble_eq_true rfl)⟩ rfl hl.1 rfl (Nat.le_of_ble_eq_true rfl) dX6_digest_65 ⟨Nat.le_refl _, Nat.le_refl _⟩) hw (fun H locs hw => ?_)
                    refine lv_i2l hx hb dX6_digest_68 rfl ?_
                    refine lv_ladd hx hb dX6_digest_69 ?_
                    refine lv_lstore_n (lv' := [(1, .long (((mdH1 U kh (mdH U kh) kw) * 31) + ((tH U kh kw).toInt64))), (4, .int (nI kw)), (3, .int (nI kh)), (0, .ref (ad 5))]) hx hb dX6_digest_70 rfl hl (by decide) rfl (fun ls hl => ?_)
                    refine lv_iinc (v := nI (kw + 1)) (lv' := [(4, .int (nI (kw + 1))), (1, .long (((mdH1 U kh (mdH U kh) kw) * 31) + ((tH U kh kw).toInt64))), (3, .int (nI kh)), (0, .ref (ad 5))]) hx hb dX6_digest_71 hl (k := 1) rfl (nI_1 kw) (by decide) rfl (fun ls hl => ?_)
                    refine lv_goto (tgt := 49) hx hb dX6_digest_74 (by decide) ?_
                    exact ih49 (kw + 1) (by omega) (by omega) ls _ _ hw (lv_sub hl [1, 0, 2, 3] rfl)
              exact loop49 (7 + 1) 0 (by omega) (by omega) ls _ _ hw (lv_sub hl [1, 0, 2, 3] rfl)
        exact loop38 (tHn U + 1) 0 (by omega) (by omega) ls _ _ hw (by rw [show (mdH U 0) = (digC U k) from (by rw [show k = 10 by omega]; rfl)]; exact lv_sub hl [1, 0, 2] rfl)
      · have c_1 := nI_nle' (a := 10) (b := k) c_1 (by omega) (by omega)
        refine lv_lload_n hx hb dX6_digest_17 rfl (lv_at hl 0 rfl) ?_
        refine lv_ldc2 hx hb X.2.2.2.1 (X.2.2.2.2.1 _ wq1062) dX6_digest_18 ?_
        refine lv_lmul hx hb dX6_digest_21 ?_
        refine lv_aload_n hx hb dX6_digest_22 rfl (lv_at hl 2 rfl) ?_
        refine lv_iload_n hx hb dX6_digest_23 rfl (lv_at hl 1 rfl) ?_
        refine fk_di (fcV X hw (c_m_counted l g ad M7 hM (nI k)) hMo rfl wq1017 kVX6_counted ⟨(Nat.le_of_ble_eq_true rfl), (Nat.le_of_ble_eq_true rfl)⟩ rfl hl.1 rfl (Nat.le_of_ble_eq_true rfl) dX6_digest_24 ⟨Nat.le_refl _, Nat.le_refl _⟩) hw (fun H locs hw => ?_)
        refine lv_i2l hx hb dX6_digest_27 rfl ?_
        refine lv_ladd hx hb dX6_digest_28 ?_
        refine lv_lstore_n (lv' := [(1, .long (((digC U k) * 31) + ((tTell U (nI k)).toInt64))), (3, .int (nI k)), (0, .ref (ad 5))]) hx hb dX6_digest_29 rfl hl (by decide) rfl (fun ls hl => ?_)
        refine lv_iinc (v := nI (k + 1)) (lv' := [(3, .int (nI (k + 1))), (1, .long (((digC U k) * 31) + ((tTell U (nI k)).toInt64))), (0, .ref (ad 5))]) hx hb dX6_digest_30 hl (k := 1) rfl (nI_1 k) (by decide) rfl (fun ls hl => ?_)
        refine lv_goto (tgt := 11) hx hb dX6_digest_33 (by decide) ?_
        exact ih11 (k + 1) (by omega) (by omega) ls _ _ hw (lv_sub hl [1, 0, 2] rfl)
  exact loop11 (10 + 1) 0 (by omega) (by omega) ls _ _ hw (lv_sub hl [1, 0, 2] rfl)
