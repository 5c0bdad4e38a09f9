set_option maxHeartbeats 4000000 in
set_option maxRecDepth 100000 in
theorem c_ck3 (l : Launch) (g : fG) (ad : Nat → Nat) (M : fM) {i n : Int32} (h1 : ¬ i < 0) (h2 : i < n) : fCi l g yJ3_checkIndex_8e157 cJ3_checkIndex_8e157 3 ((some .int)) 0 0 0 0 ad M [.int i, .int n, .null] (fDi ad M i) := by
  refine f_body (own := RJ3) (by decide +kernel) rfl (Nat.le_of_ble_eq_true rfl) ?_
  intro p e s m args below meth c ls X hw hin hl
  have hx := X.1
  have hb := X.2.1
  have hl : lv_has ls 3 [(0, .int i), (1, .int n), (2, .null)] := hl
  refine lv_iload_n hx hb dJ3_checkIndex_8e157_0 rfl (lv_at hl 0 rfl) ?_
  refine lv_if_lt (tgt := 9) hx hb dJ3_checkIndex_8e157_1 (by decide) (fun c_1 => absurd c_1 h1) (fun c_1 => ?_)
  refine lv_iload_n hx hb dJ3_checkIndex_8e157_4 rfl (lv_at hl 0 rfl) ?_
  refine lv_iload_n hx hb dJ3_checkIndex_8e157_5 rfl (lv_at hl 1 rfl) ?_
  refine lv_icmp_lt (tgt := 16) hx hb dJ3_checkIndex_8e157_6 (by decide) (fun c_2 => ?_) (fun c_2 => absurd h2 c_2)
  refine lv_iload_n hx hb dJ3_checkIndex_8e157_16 rfl (lv_at hl 0 rfl) ?_
  exact f_iret X hw ⟨rfl, rfl, rfl⟩ (Nat.le_refl _) (Nat.le_refl _) dJ3_checkIndex_8e157_17
set_option maxHeartbeats 4000000 in
set_option maxRecDepth 100000 in
theorem c_ck2 (l : Launch) (g : fG) (ad : Nat → Nat) (M : fM) {i n : Int32} (h1 : ¬ i < 0) (h2 : i < n) : fCi l g yJ15_checkIndex_7cf53 cJ15_checkIndex_7cf53 2 ((some .int)) 1 22 0 0 ad M [.int i, .int n] (fDi ad M i) := by
  refine f_body (own := RJ15) (by decide +kernel) rfl (Nat.le_of_ble_eq_true rfl) ?_
  intro p e s m args below meth c ls X hw hin hl
  have hx := X.1
  have hb := X.2.1
  have hl : lv_has ls 2 [(0, .int i), (1, .int n)] := hl
  refine lv_iload_n hx hb dJ15_checkIndex_7cf53_0 rfl (lv_at hl 0 rfl) ?_
  refine lv_iload_n hx hb dJ15_checkIndex_7cf53_1 rfl (lv_at hl 1 rfl) ?_
  refine lv_null hx hb dJ15_checkIndex_7cf53_2 ?_
  refine fk_di (fcS X hw (c_ck3 l g ad M h1 h2) wq199 kSJ3_checkIndex_8e157 ⟨(Nat.le_of_ble_eq_true rfl), (Nat.le_of_ble_eq_true rfl)⟩ rfl hl.1 rfl (Nat.le_of_ble_eq_true rfl) dJ15_checkIndex_7cf53_3 ⟨Nat.le_refl _, Nat.le_refl _⟩) hw (fun H locs hw => ?_)
  exact f_iret X hw ⟨rfl, rfl, rfl⟩ (Nat.le_refl _) (Nat.le_refl _) dJ15_checkIndex_7cf53_6
set_option maxHeartbeats 4000000 in
set_option maxRecDepth 100000 in
theorem c_size (l : Launch) (g : fG) (ad : Nat → Nat) (M : fM) {ll la eb n : Nat} (h : fList g ad M ll la eb n) : fCi l g yJx4a65c_size_8abf5 cJx4a65c_size_8abf5 1 ((some .int)) 0 0 0 0 ad M [.ref (ad ll)] (fDi ad M (nI n)) := by
  refine f_body (own := RJx4a65c) (by decide +kernel) rfl (Nat.le_of_ble_eq_true rfl) ?_
  intro p e s m args below meth c ls X hw hin hl
  have hx := X.1
  have hb := X.2.1
  have hl : lv_has ls 1 [(0, .ref (ad ll))] := hl
  obtain ⟨mo, d9, N9, f9, h1, h2, h3⟩ := h
  refine lv_aload_n hx hb dJx4a65c_size_8abf5_0 rfl (lv_at hl 0 rfl) ?_
  refine f_get X hw h1 fc0 2 (by decide) wq71 rfl (v := .int (nI n)) rfl dJx4a65c_size_8abf5_1 ?_
  exact f_iret X hw ⟨rfl, rfl, rfl⟩ (Nat.le_refl _) (Nat.le_refl _) dJx4a65c_size_8abf5_4
set_option maxHeartbeats 4000000 in
set_option maxRecDepth 100000 in
theorem c_elementData (l : Launch) (g : fG) (ad : Nat → Nat) (M : fM) {ll la i N q9 : Nat} {mo z : Int32} {f : Nat → Option Nat} (h1 : M ll = some (.inr (0, [.int mo, .ref (ad la), .int z]))) (h2 : M la = some (.inl (gO g, N, .inr (.inr (.inr (.inr f)))))) (h3 : i < N) (h4 : N < 2 ^ 31) (h5 : f i = some q9) : fCr l g yJx4a65c_elementData_915e3 cJx4a65c_elementData_915e3 2 ((some (.object "java/lang/Object"))) 0 0 0 0 ad M [.ref (ad ll), .int (nI i)] (fDr ad M q9) := by
  refine f_body (own := RJx4a65c) (by decide +kernel) rfl (Nat.le_of_ble_eq_true rfl) ?_
  intro p e s m args below meth c ls X hw hin hl
  have hx := X.1
  have hb := X.2.1
  have hl : lv_has ls 2 [(0, .ref (ad ll)), (1, .int (nI i))] := hl
  refine lv_aload_n hx hb dJx4a65c_elementData_915e3_0 rfl (lv_at hl 0 rfl) ?_
  refine f_get X hw h1 fc0 1 (by decide) wq70 rfl (v := .ref (ad la)) rfl dJx4a65c_elementData_915e3_1 ?_
  refine lv_iload_n hx hb dJx4a65c_elementData_915e3_4 rfl (lv_at hl 1 rfl) ?_
  refine f_aald X hw h2 (vp_in_nI h3 h4) (by rw [nI_clamp (by omega)]; exact h5) dJx4a65c_elementData_915e3_5 ?_
  exact f_aret X rfl (Or.inl ⟨_, rfl⟩) hw ⟨rfl, rfl, rfl⟩ (Nat.le_refl _) (Nat.le_refl _) dJx4a65c_elementData_915e3_6
set_option maxHeartbeats 4000000 in
set_option maxRecDepth 100000 in
theorem c_get (l : Launch) (g : fG) (ad : Nat → Nat) (M : fM) {ll la eb n i : Nat} (h : fList g ad M ll la eb n) (hi : i < n) : fCr l g yJx4a65c_get_915e3 cJx4a65c_get_915e3 2 ((some (.object "java/lang/Object"))) 2 43 0 0 ad M [.ref (ad ll), .int (nI i)] (fDr ad M (ad (eb + i))) := by
  refine f_body (own := RJx4a65c) (by decide +kernel) rfl (Nat.le_of_ble_eq_true rfl) ?_
  intro p e s m args below meth c ls X hw hin hl
  have hx := X.1
  have hb := X.2.1
  have hl : lv_has ls 2 [(0, .ref (ad ll)), (1, .int (nI i))] := hl
  obtain ⟨mo, d9, N9, f9, h1, h2, h3⟩ := h
  rcases h3 with ⟨-, h3⟩ | ⟨rfl, h4, h5, h6, h7, h8⟩
  · omega
  refine lv_iload_n hx hb dJx4a65c_get_915e3_0 rfl (lv_at hl 1 rfl) ?_
  refine lv_aload_n hx hb dJx4a65c_get_915e3_1 rfl (lv_at hl 0 rfl) ?_
  refine f_get X hw h1 fc0 2 (by decide) wq71 rfl (v := .int (nI n)) rfl dJx4a65c_get_915e3_2 ?_
  refine fk_di (fcS X hw (c_ck2 l g ad M (nI_pos (by omega)) (nI_lt hi (by omega))) wq196 kSJ15_checkIndex_7cf53 ⟨(Nat.le_of_ble_eq_true rfl), (Nat.le_of_ble_eq_true rfl)⟩ rfl hl.1 rfl (Nat.le_of_ble_eq_true rfl) dJx4a65c_get_915e3_5 ⟨Nat.le_refl _, Nat.le_refl _⟩) hw (fun H locs hw => ?_)
  refine lv_pop hx hb dJx4a65c_get_915e3_8 rfl ?_
  refine lv_aload_n hx hb dJx4a65c_get_915e3_9 rfl (lv_at hl 0 rfl) ?_
  refine lv_iload_n hx hb dJx4a65c_get_915e3_10 rfl (lv_at hl 1 rfl) ?_
  refine fk_dr (fcV X hw (c_elementData l g ad M h1 h4 (by omega) (by omega) (h8 i hi)) h1 rfl wq202 kVJx4a65c_elementData_915e3 ⟨(Nat.le_of_ble_eq_true rfl), (Nat.le_of_ble_eq_true rfl)⟩ rfl hl.1 rfl (Nat.le_of_ble_eq_true rfl) dJx4a65c_get_915e3_11 ⟨Nat.le_refl _, Nat.le_refl _⟩) hw (fun H locs hw => ?_)
  exact f_aret X rfl (Or.inl ⟨_, rfl⟩) hw ⟨rfl, rfl, rfl⟩ (Nat.le_refl _) (Nat.le_refl _) dJx4a65c_get_915e3_14
