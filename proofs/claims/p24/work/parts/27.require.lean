/-! FireEngines: what is required -/
def inR (v a b : Int32) : Bool := decide (¬ v < a) && decide (¬ b < v)
theorem inR_1 {v a b : Int32} (h : inR v a b = true) : ¬ v < a := by simp only [inR, Bool.and_eq_true, decide_eq_true_eq] at h; exact h.1
theorem inR_2 {v a b : Int32} (h : inR v a b = true) : v ≤ b := by simp only [inR, Bool.and_eq_true, decide_eq_true_eq] at h; exact Int32.not_lt.mp h.2
theorem inR_mk {v a b : Int32} (h1 : ¬ v < a) (h2 : v ≤ b) : inR v a b = true := by simp only [inR, Bool.and_eq_true, decide_eq_true_eq]; exact ⟨h1, Int32.not_lt.mpr h2⟩
theorem isIx_mk {n : Nat} {x : Int32} (h1 : ¬ x < 0) (h2 : x < nI n) : isIx n x = true := by simp only [isIx, Bool.and_eq_true, decide_eq_true_eq]; exact ⟨h1, Int32.not_le.mpr h2⟩
def isC (g : fG) (ad : Nat → Nat) (M : fM) (T A : fTn) (kf nf sf : Nat → Int32) : Prop := isFE ad M ∧ isGround g ad M kf nf sf ∧ isTown g ad M 1000 T ∧ isTown g ad M 2000 A
theorem f_false {b : Bool} (h : b = false) : ¬ b = true := by rw [h]; decide
set_option maxHeartbeats 4000000 in
set_option maxRecDepth 100000 in
theorem c_rR (l : Launch) (g : fG) (ad : Nat → Nat) (M : fM) {v a b : Int32} (h : inR v a b = true) : fCv l g yX5_requireRange cX5_requireRange 3 0 0 0 0 ad M [.int v, .int a, .int b] (fDv ad M) := by
  refine f_body (own := RX5) (by decide +kernel) rfl (Nat.le_of_ble_eq_true rfl) ?_
  intro p e s m args below meth c ls X hw hin hl
  have hx := X.1
  have hb := X.2.1
  have hl : lv_has ls 3 [(0, .int v), (1, .int a), (2, .int b)] := hl
  refine lv_iload_n hx hb dX5_requireRange_0 rfl (lv_at hl 0 rfl) ?_
  refine lv_iload_n hx hb dX5_requireRange_1 rfl (lv_at hl 1 rfl) ?_
  refine lv_icmp_lt (tgt := 10) hx hb dX5_requireRange_2 (by decide) (fun c_1 => absurd c_1 (inR_1 h)) (fun c_1 => ?_)
  refine lv_iload_n hx hb dX5_requireRange_5 rfl (lv_at hl 0 rfl) ?_
  refine lv_iload_n hx hb dX5_requireRange_6 rfl (lv_at hl 2 rfl) ?_
  refine lv_icmp_le (tgt := 20) hx hb dX5_requireRange_7 (by decide) (fun c_2 => ?_) (fun c_2 => absurd (inR_2 h) c_2)
  exact f_vret X hw ⟨rfl, rfl⟩ (Nat.le_refl _) (Nat.le_refl _) dX5_requireRange_20
set_option maxHeartbeats 4000000 in
set_option maxRecDepth 100000 in
theorem c_rQ (l : Launch) (g : fG) (ad : Nat → Nat) (M : fM) {v b : Int32} (h : inR v 0 b = true) : fCv l g yX5_requireQuestion cX5_requireQuestion 2 0 0 0 0 ad M [.int v, .int b] (fDv ad M) := by
  refine f_body (own := RX5) (by decide +kernel) rfl (Nat.le_of_ble_eq_true rfl) ?_
  intro p e s m args below meth c ls X hw hin hl
  have hx := X.1
  have hb := X.2.1
  have hl : lv_has ls 2 [(0, .int v), (1, .int b)] := hl
  refine lv_iload_n hx hb dX5_requireQuestion_0 rfl (lv_at hl 0 rfl) ?_
  refine lv_if_lt (tgt := 9) hx hb dX5_requireQuestion_1 (by decide) (fun c_1 => absurd c_1 (inR_1 h)) (fun c_1 => ?_)
  refine lv_iload_n hx hb dX5_requireQuestion_4 rfl (lv_at hl 0 rfl) ?_
  refine lv_iload_n hx hb dX5_requireQuestion_5 rfl (lv_at hl 1 rfl) ?_
  refine lv_icmp_le (tgt := 19) hx hb dX5_requireQuestion_6 (by decide) (fun c_2 => ?_) (fun c_2 => absurd (inR_2 h) c_2)
  exact f_vret X hw ⟨rfl, rfl⟩ (Nat.le_refl _) (Nat.le_refl _) dX5_requireQuestion_19
set_option maxHeartbeats 4000000 in
set_option maxRecDepth 100000 in
theorem c_rC (l : Launch) (g : fG) (ad : Nat → Nat) (M : fM) {x y : Int32} (h : aOn x y = true) : fCv l g yX5_requireCell cX5_requireCell 2 1 21 0 0 ad M [.int x, .int y] (fDv ad M) := by
  refine f_body (own := RX5) (by decide +kernel) rfl (Nat.le_of_ble_eq_true rfl) ?_
  intro p e s m args below meth c ls X hw hin hl
  have hx := X.1
  have hb := X.2.1
  have hl : lv_has ls 2 [(0, .int x), (1, .int y)] := hl
  refine lv_iload_n hx hb dX5_requireCell_0 rfl (lv_at hl 0 rfl) ?_
  refine lv_iload_n hx hb dX5_requireCell_1 rfl (lv_at hl 1 rfl) ?_
  refine fk_di (fcS X hw (c_isOnMap l g ad M x y) wq656 kSX5_isOnMap ⟨(Nat.le_of_ble_eq_true rfl), (Nat.le_of_ble_eq_true rfl)⟩ rfl hl.1 rfl (Nat.le_of_ble_eq_true rfl) dX5_requireCell_2 ⟨Nat.le_refl _, Nat.le_refl _⟩) hw (fun H locs hw => ?_)
  refine lv_if_ne (tgt := 18) hx hb dX5_requireCell_5 (by decide) (fun c_1 => ?_) (fun c_1 => absurd (bI_f.mp c_1) (by rw [h]; decide))
  have c_1 := bI_nf.mp c_1
  exact f_vret X hw ⟨rfl, rfl⟩ (Nat.le_refl _) (Nat.le_refl _) dX5_requireCell_18
set_option maxHeartbeats 4000000 in
set_option maxRecDepth 100000 in
theorem c_rS (l : Launch) (g : fG) (ad : Nat → Nat) (M : fM)  : fCv l g yX5_requireState cX5_requireState 1 0 0 0 0 ad M [.int 1] (fDv ad M) := by
  refine f_body (own := RX5) (by decide +kernel) rfl (Nat.le_of_ble_eq_true rfl) ?_
  intro p e s m args below meth c ls X hw hin hl
  have hx := X.1
  have hb := X.2.1
  have hl : lv_has ls 1 [(0, .int 1)] := hl
  refine lv_iload_n hx hb dX5_requireState_0 rfl (lv_at hl 0 rfl) ?_
  refine lv_if_ne (tgt := 14) hx hb dX5_requireState_1 (by decide) (fun c_1 => ?_) (fun c_1 => absurd c_1 (by decide))
  exact f_vret X hw ⟨rfl, rfl⟩ (Nat.le_refl _) (Nat.le_refl _) dX5_requireState_14
set_option maxHeartbeats 4000000 in
set_option maxRecDepth 100000 in
theorem c_rH (l : Launch) (g : fG) (ad : Nat → Nat) (M : fM) {T A : fTn} {kf nf sf : Nat → Int32} (hC : isC g ad M T A kf nf sf) {j : Nat} (hj : j < tHn T) : fCv l g yX5_requireHouse cX5_requireHouse 2 1 20 0 0 ad M [.ref (ad 0), .int (nI j)] (fDv ad M) := by
  refine f_body (own := RX5) (by decide +kernel) rfl (Nat.le_of_ble_eq_true rfl) ?_
  intro p e s m args below meth c ls X hw hin hl
  have hx := X.1
  have hb := X.2.1
  have hl : lv_has ls 2 [(0, .ref (ad 0)), (1, .int (nI j))] := hl
  obtain ⟨hF, hG, hT, hTA⟩ := id hC
  have hF : M 0 = some (.inr (6, [.ref (ad 1), .ref (ad 1000), .ref (ad 2000)])) := hF
  have hG0 := hG.1
  obtain ⟨hT0, hTh, hTp, hTe, hHs, hPs, hEs, hn1, hn2, hn3, hA⟩ := id hT
  obtain ⟨hT0a, hTha, hTpa, hTea, hHsa, hPsa, hEsa, hn1a, hn2a, hn3a, hAa⟩ := id hTA
  refine lv_iload_n hx hb dX5_requireHouse_0 rfl (lv_at hl 1 rfl) ?_
  refine lv_if_lt (tgt := 18) hx hb dX5_requireHouse_1 (by decide) (fun c_1 => absurd (nI_lt' (a := j) (b := 0) c_1 (by omega) (by omega)) (by omega)) (fun c_1 => ?_)
  have c_1 := nI_nlt' (a := j) (b := 0) c_1 (by omega) (by omega)
  refine lv_iload_n hx hb dX5_requireHouse_4 rfl (lv_at hl 1 rfl) ?_
  refine lv_aload_n hx hb dX5_requireHouse_5 rfl (lv_at hl 0 rfl) ?_
  refine f_get X hw hF fc6 1 (by decide) wq99 rfl (v := .ref (ad 1000)) rfl dX5_requireHouse_6 ?_
  refine f_getN X hw hT0 fc5 1 (by decide) wn84 rfl (v := .ref (ad (1000 + 1))) rfl dX5_requireHouse_9 ?_
  refine fk_di (fcVe X hw (c_size l g ad M hTh) (fList_obj hTh) rfl wq116 kVJx4a65c_size_8abf5 ⟨(Nat.le_of_ble_eq_true rfl), (Nat.le_of_ble_eq_true rfl)⟩ rfl hl.1 rfl (Nat.le_of_ble_eq_true rfl) dX5_requireHouse_12 ⟨Nat.le_refl _, Nat.le_refl _⟩) hw (fun H locs hw => ?_)
  refine lv_icmp_lt (tgt := 28) hx hb dX5_requireHouse_15 (by decide) (fun c_2 => ?_) (fun c_2 => absurd (nI_nlt' (a := j) (b := tHn T) c_2 (by omega) (by omega)) (by omega))
  have c_2 := nI_lt' (a := j) (b := (tHn T)) c_2 (by omega) (by omega)
  exact f_vret X hw ⟨rfl, rfl⟩ (Nat.le_refl _) (Nat.le_refl _) dX5_requireHouse_28
set_option maxHeartbeats 4000000 in
set_option maxRecDepth 100000 in
theorem c_rE (l : Launch) (g : fG) (ad : Nat → Nat) (M : fM) {T A : fTn} {kf nf sf : Nat → Int32} (hC : isC g ad M T A kf nf sf) {j : Nat} (hj : j < tEn T) : fCv l g yX5_requireEngine cX5_requireEngine 2 1 20 0 0 ad M [.ref (ad 0), .int (nI j)] (fDv ad M) := by
  refine f_body (own := RX5) (by decide +kernel) rfl (Nat.le_of_ble_eq_true rfl) ?_
  intro p e s m args below meth c ls X hw hin hl
  have hx := X.1
  have hb := X.2.1
  have hl : lv_has ls 2 [(0, .ref (ad 0)), (1, .int (nI j))] := hl
  obtain ⟨hF, hG, hT, hTA⟩ := id hC
  have hF : M 0 = some (.inr (6, [.ref (ad 1), .ref (ad 1000), .ref (ad 2000)])) := hF
  have hG0 := hG.1
  obtain ⟨hT0, hTh, hTp, hTe, hHs, hPs, hEs, hn1, hn2, hn3, hA⟩ := id hT
  obtain ⟨hT0a, hTha, hTpa, hTea, hHsa, hPsa, hEsa, hn1a, hn2a, hn3a, hAa⟩ := id hTA
  refine lv_iload_n hx hb dX5_requireEngine_0 rfl (lv_at hl 1 rfl) ?_
  refine lv_if_lt (tgt := 18) hx hb dX5_requireEngine_1 (by decide) (fun c_1 => absurd (nI_lt' (a := j) (b := 0) c_1 (by omega) (by omega)) (by omega)) (fun c_1 => ?_)
  have c_1 := nI_nlt' (a := j) (b := 0) c_1 (by omega) (by omega)
  refine lv_iload_n hx hb dX5_requireEngine_4 rfl (lv_at hl 1 rfl) ?_
  refine lv_aload_n hx hb dX5_requireEngine_5 rfl (lv_at hl 0 rfl) ?_
  refine f_get X hw hF fc6 1 (by decide) wq99 rfl (v := .ref (ad 1000)) rfl dX5_requireEngine_6 ?_
  refine f_getN X hw hT0 fc5 3 (by decide) wn88 rfl (v := .ref (ad (1000 + 3))) rfl dX5_requireEngine_9 ?_
  refine fk_di (fcVe X hw (c_size l g ad M hTe) (fList_obj hTe) rfl wq116 kVJx4a65c_size_8abf5 ⟨(Nat.le_of_ble_eq_true rfl), (Nat.le_of_ble_eq_true rfl)⟩ rfl hl.1 rfl (Nat.le_of_ble_eq_true rfl) dX5_requireEngine_12 ⟨Nat.le_refl _, Nat.le_refl _⟩) hw (fun H locs hw => ?_)
  refine lv_icmp_lt (tgt := 28) hx hb dX5_requireEngine_15 (by decide) (fun c_2 => ?_) (fun c_2 => absurd (nI_nlt' (a := j) (b := tEn T) c_2 (by omega) (by omega)) (by omega))
  have c_2 := nI_lt' (a := j) (b := (tEn T)) c_2 (by omega) (by omega)
  exact f_vret X hw ⟨rfl, rfl⟩ (Nat.le_refl _) (Nat.le_refl _) dX5_requireEngine_28
