set_option maxHeartbeats 4000000 in
set_option maxRecDepth 100000 in
theorem c_isOnMap (l : Launch) (g : fG) (ad : Nat → Nat) (M : fM) (x y : Int32) : fCi l g yX5_isOnMap cX5_isOnMap 2 ((some .boolean)) 0 0 0 0 ad M [.int x, .int y] (fDi ad M (bI (aOn x y))) := by
  refine f_body (own := RX5) (by decide +kernel) rfl (Nat.le_of_ble_eq_true rfl) ?_
  intro p e s m args below meth c ls X hw hin hl
  have hx := X.1
  have hb := X.2.1
  have hl : lv_has ls 2 [(0, .int x), (1, .int y)] := hl
  refine lv_iload_n hx hb dX5_isOnMap_0 rfl (lv_at hl 0 rfl) ?_
  refine lv_if_lt (tgt := 24) hx hb dX5_isOnMap_1 (by decide) (fun c_1 => ?_) (fun c_1 => ?_)
  · refine lv_iconst (v := 0) hx hb dX5_isOnMap_24 (by decide) ?_
    exact f_zret X hw rfl ⟨rfl, rfl, by simp [aOn, bI, c_1]⟩ (Nat.le_refl _) (Nat.le_refl _) dX5_isOnMap_25
  · refine lv_iload_n hx hb dX5_isOnMap_4 rfl (lv_at hl 0 rfl) ?_
    refine lv_bipush (v := 14) hx hb dX5_isOnMap_5 (by decide) ?_
    refine lv_icmp_ge (tgt := 24) hx hb dX5_isOnMap_7 (by decide) (fun c_2 => ?_) (fun c_2 => ?_)
    · refine lv_iconst (v := 0) hx hb dX5_isOnMap_24 (by decide) ?_
      exact f_zret X hw rfl ⟨rfl, rfl, by simp [aOn, bI, c_1, c_2]⟩ (Nat.le_refl _) (Nat.le_refl _) dX5_isOnMap_25
    · refine lv_iload_n hx hb dX5_isOnMap_10 rfl (lv_at hl 1 rfl) ?_
      refine lv_if_lt (tgt := 24) hx hb dX5_isOnMap_11 (by decide) (fun c_3 => ?_) (fun c_3 => ?_)
      · refine lv_iconst (v := 0) hx hb dX5_isOnMap_24 (by decide) ?_
        exact f_zret X hw rfl ⟨rfl, rfl, by simp [aOn, bI, c_1, c_2, c_3]⟩ (Nat.le_refl _) (Nat.le_refl _) dX5_isOnMap_25
      · refine lv_iload_n hx hb dX5_isOnMap_14 rfl (lv_at hl 1 rfl) ?_
        refine lv_bipush (v := 10) hx hb dX5_isOnMap_15 (by decide) ?_
        refine lv_icmp_ge (tgt := 24) hx hb dX5_isOnMap_17 (by decide) (fun c_4 => ?_) (fun c_4 => ?_)
        · refine lv_iconst (v := 0) hx hb dX5_isOnMap_24 (by decide) ?_
          exact f_zret X hw rfl ⟨rfl, rfl, by simp [aOn, bI, c_1, c_2, c_3, c_4]⟩ (Nat.le_refl _) (Nat.le_refl _) dX5_isOnMap_25
        · refine lv_iconst (v := 1) hx hb dX5_isOnMap_20 (by decide) ?_
          refine lv_goto (tgt := 25) hx hb dX5_isOnMap_21 (by decide) ?_
          exact f_zret X hw rfl ⟨rfl, rfl, by simp [aOn, bI, c_1, c_2, c_3, c_4]⟩ (Nat.le_refl _) (Nat.le_refl _) dX5_isOnMap_25
set_option maxHeartbeats 4000000 in
set_option maxRecDepth 100000 in
theorem c_cellAt (l : Launch) (g : fG) (ad : Nat → Nat) (M : fM) (x y : Int32) : fCi l g yX5_cellAt cX5_cellAt 2 ((some .int)) 0 0 0 0 ad M [.int x, .int y] (fDi ad M (x + 14 * y)) := by
  refine f_body (own := RX5) (by decide +kernel) rfl (Nat.le_of_ble_eq_true rfl) ?_
  intro p e s m args below meth c ls X hw hin hl
  have hx := X.1
  have hb := X.2.1
  have hl : lv_has ls 2 [(0, .int x), (1, .int y)] := hl
  refine lv_iload_n hx hb dX5_cellAt_0 rfl (lv_at hl 0 rfl) ?_
  refine lv_bipush (v := 14) hx hb dX5_cellAt_1 (by decide) ?_
  refine lv_iload_n hx hb dX5_cellAt_3 rfl (lv_at hl 1 rfl) ?_
  refine lv_imul hx hb dX5_cellAt_4 ?_
  refine lv_iadd hx hb dX5_cellAt_5 ?_
  exact f_iret X hw ⟨rfl, rfl, rfl⟩ (Nat.le_refl _) (Nat.le_refl _) dX5_cellAt_6
set_option maxHeartbeats 4000000 in
set_option maxRecDepth 100000 in
theorem c_distance (l : Launch) (g : fG) (ad : Nat → Nat) (M : fM) (a b : Int32) : fCi l g yX5_distance cX5_distance 2 ((some .int)) 1 14 0 0 ad M [.int a, .int b] (fDi ad M (aDist a b)) := by
  refine f_body (own := RX5) (by decide +kernel) rfl (Nat.le_of_ble_eq_true rfl) ?_
  intro p e s m args below meth c ls X hw hin hl
  have hx := X.1
  have hb := X.2.1
  have hl : lv_has ls 2 [(0, .int a), (1, .int b)] := hl
  refine lv_iload_n hx hb dX5_distance_0 rfl (lv_at hl 0 rfl) ?_
  refine lv_bipush (v := 14) hx hb dX5_distance_1 (by decide) ?_
  refine lv_irem hx hb dX5_distance_3 (by decide) ?_
  refine lv_iload_n hx hb dX5_distance_4 rfl (lv_at hl 1 rfl) ?_
  refine lv_bipush (v := 14) hx hb dX5_distance_5 (by decide) ?_
  refine lv_irem hx hb dX5_distance_7 (by decide) ?_
  refine lv_isub hx hb dX5_distance_8 ?_
  refine va_mabs hx hb (X.2.2.1.trans hl.1.symm) X.2.2.2.1 (X.2.2.2.2.1 _ wq381) (X.2.2.2.2.1 _ wq382) (X.2.2.2.2.1 _ wq18) (X.2.2.2.2.1 _ wq383) (Nat.le_of_ble_eq_true rfl) (Nat.le_of_ble_eq_true rfl) (Nat.zero_le _) (Nat.zero_le _) dX5_distance_9 ?_
  refine lv_iload_n hx hb dX5_distance_12 rfl (lv_at hl 0 rfl) ?_
  refine lv_bipush (v := 14) hx hb dX5_distance_13 (by decide) ?_
  refine lv_idiv hx hb dX5_distance_15 (by decide) ?_
  refine lv_iload_n hx hb dX5_distance_16 rfl (lv_at hl 1 rfl) ?_
  refine lv_bipush (v := 14) hx hb dX5_distance_17 (by decide) ?_
  refine lv_idiv hx hb dX5_distance_19 (by decide) ?_
  refine lv_isub hx hb dX5_distance_20 ?_
  refine va_mabs hx hb (X.2.2.1.trans hl.1.symm) X.2.2.2.1 (X.2.2.2.2.1 _ wq381) (X.2.2.2.2.1 _ wq382) (X.2.2.2.2.1 _ wq18) (X.2.2.2.2.1 _ wq383) (Nat.le_of_ble_eq_true rfl) (Nat.le_of_ble_eq_true rfl) (Nat.zero_le _) (Nat.zero_le _) dX5_distance_21 ?_
  refine lv_iadd hx hb dX5_distance_24 ?_
  exact f_iret X hw ⟨rfl, rfl, rfl⟩ (Nat.le_refl _) (Nat.le_refl _) dX5_distance_25
set_option maxHeartbeats 4000000 in
set_option maxRecDepth 100000 in
theorem c_areNear (l : Launch) (g : fG) (ad : Nat → Nat) (M : fM) (a b : Int32) : fCi l g yX5_areNear cX5_areNear 4 ((some .boolean)) 0 0 0 0 ad M [.int a, .int b] (fDi ad M (bI (aNear a b))) := by
  refine f_body (own := RX5) (by decide +kernel) rfl (Nat.le_of_ble_eq_true rfl) ?_
  intro p e s m args below meth c ls X hw hin hl
  have hx := X.1
  have hb := X.2.1
  have hl : lv_has ls 4 [(0, .int a), (1, .int b)] := hl
  refine lv_iload_n hx hb dX5_areNear_0 rfl (lv_at hl 0 rfl) ?_
  refine lv_bipush (v := 14) hx hb dX5_areNear_1 (by decide) ?_
  refine lv_irem hx hb dX5_areNear_3 (by decide) ?_
  refine lv_iload_n hx hb dX5_areNear_4 rfl (lv_at hl 1 rfl) ?_
  refine lv_bipush (v := 14) hx hb dX5_areNear_5 (by decide) ?_
  refine lv_irem hx hb dX5_areNear_7 (by decide) ?_
  refine lv_isub hx hb dX5_areNear_8 ?_
  refine lv_istore_n (lv' := [(2, .int ((a - a / 14 * 14) - (b - b / 14 * 14))), (0, .int a), (1, .int b)]) hx hb dX5_areNear_9 rfl hl (by decide) rfl (fun ls hl => ?_)
  refine lv_iload_n hx hb dX5_areNear_10 rfl (lv_at hl 1 rfl) ?_
  refine lv_bipush (v := 14) hx hb dX5_areNear_11 (by decide) ?_
  refine lv_idiv hx hb dX5_areNear_13 (by decide) ?_
  refine lv_iload_n hx hb dX5_areNear_14 rfl (lv_at hl 2 rfl) ?_
  refine lv_bipush (v := 14) hx hb dX5_areNear_15 (by decide) ?_
  refine lv_idiv hx hb dX5_areNear_17 (by decide) ?_
  refine lv_isub hx hb dX5_areNear_18 ?_
  refine lv_istore_n (lv' := [(3, .int ((a / 14) - (b / 14))), (2, .int ((a - a / 14 * 14) - (b - b / 14 * 14))), (0, .int a), (1, .int b)]) hx hb dX5_areNear_19 rfl hl (by decide) rfl (fun ls hl => ?_)
  refine lv_iload_n hx hb dX5_areNear_20 rfl (lv_at hl 2 rfl) ?_
  refine lv_iload_n hx hb dX5_areNear_21 rfl (lv_at hl 3 rfl) ?_
  refine lv_icmp_eq (tgt := 43) hx hb dX5_areNear_22 (by decide) (fun c_1 => ?_) (fun c_1 => ?_)
  · refine lv_iconst (v := 0) hx hb dX5_areNear_43 (by decide) ?_
    exact f_zret X hw rfl ⟨rfl, rfl, by simp [aNear, bI, iMod, c_1]⟩ (Nat.le_refl _) (Nat.le_refl _) dX5_areNear_44
  · refine lv_iload_n hx hb dX5_areNear_25 rfl (lv_at hl 1 rfl) ?_
    refine lv_iload_n hx hb dX5_areNear_26 rfl (lv_at hl 1 rfl) ?_
    refine lv_imul hx hb dX5_areNear_27 ?_
    refine lv_iconst (v := 1) hx hb dX5_areNear_28 (by decide) ?_
    refine lv_icmp_gt (tgt := 43) hx hb dX5_areNear_29 (by decide) (fun c_2 => ?_) (fun c_2 => ?_)
    · refine lv_iconst (v := 0) hx hb dX5_areNear_43 (by decide) ?_
      exact f_zret X hw rfl ⟨rfl, rfl, by simp [aNear, bI, iMod, c_1, c_2]⟩ (Nat.le_refl _) (Nat.le_refl _) dX5_areNear_44
    · refine lv_iload_n hx hb dX5_areNear_32 rfl (lv_at hl 0 rfl) ?_
      refine lv_iload_n hx hb dX5_areNear_33 rfl (lv_at hl 0 rfl) ?_
      refine lv_imul hx hb dX5_areNear_34 ?_
      refine lv_iconst (v := 1) hx hb dX5_areNear_35 (by decide) ?_
      refine lv_icmp_gt (tgt := 43) hx hb dX5_areNear_36 (by decide) (fun c_3 => ?_) (fun c_3 => ?_)
      · refine lv_iconst (v := 0) hx hb dX5_areNear_43 (by decide) ?_
        exact f_zret X hw rfl ⟨rfl, rfl, by simp [aNear, bI, iMod, c_1, c_2, c_3]⟩ (Nat.le_refl _) (Nat.le_refl _) dX5_areNear_44
      · refine lv_iconst (v := 1) hx hb dX5_areNear_39 (by decide) ?_
        refine lv_goto (tgt := 44) hx hb dX5_areNear_40 (by decide) ?_
        exact f_zret X hw rfl ⟨rfl, rfl, by simp [aNear, bI, iMod, c_1, c_2, c_3]⟩ (Nat.le_refl _) (Nat.le_refl _) dX5_areNear_44
set_option maxHeartbeats 4000000 in
set_option maxRecDepth 100000 in
theorem c_housesThatAre (l : Launch) (g : fG) (ad : Nat → Nat) (M : fM) {b : Nat} {T : fTn} (hT : isTown g ad M b T) (p0 : Int32) : fCi l g yX4_housesThatAre cX4_housesThatAre 4 ((some .int)) 3 64 0 0 ad M [.ref (ad b), .int p0] (fDi ad M (cntH (tH T) p0 (tHn T))) := by
  refine f_body (own := RX4) (by decide +kernel) rfl (Nat.le_of_ble_eq_true rfl) ?_
  intro p e s m args below meth c ls X hw hin hl
  have hx := X.1
  have hb := X.2.1
  have hl : lv_has ls 4 [(0, .ref (ad b)), (1, .int p0)] := hl
  obtain ⟨hT0, hTh, hTp, hTe, hHs, hPs, hEs, hn1, hn2, hn3, hA⟩ := hT
  refine lv_iconst (v := 0) hx hb dX4_housesThatAre_0 (by decide) ?_
  refine lv_istore_n (lv' := [(2, .int 0), (0, .ref (ad b)), (1, .int p0)]) hx hb dX4_housesThatAre_1 rfl hl (by decide) rfl (fun ls hl => ?_)
  refine lv_iconst (v := 0) hx hb dX4_housesThatAre_2 (by decide) ?_
  refine lv_istore_n (lv' := [(3, .int 0), (2, .int 0), (0, .ref (ad b)), (1, .int p0)]) hx hb dX4_housesThatAre_3 rfl hl (by decide) rfl (fun ls hl => ?_)
  have loop4 : ∀ (n4 k : Nat), k ≤ tHn T → tHn T < k + n4 → ∀ (ls : Array Slot) (H : Heap) (locs : List Loc), fw g ad M s H locs → lv_has ls 4 [(0, .ref (ad b)), (1, .int p0), (2, .int (cntH (tH T) p0 k)), (3, .int (nI k))] → W p l e (fR 3 64 0 0) s m args below meth c H locs 0 0 (MQ below (fQi g (fDi ad M (cntH (tH T) p0 (tHn T)))) args s 0 0 (fA g)) (F0 m 4 ls []) := by
    intro n4
    induction n4 with
    | zero => intro k h1 h2; omega
    | succ n4 ih4 =>
      intro k hk_k hn_k ls H locs hw hl
      refine lv_iload_n hx hb dX4_housesThatAre_4 rfl (lv_at hl 3 rfl) ?_
      refine lv_aload_n hx hb dX4_housesThatAre_5 rfl (lv_at hl 0 rfl) ?_
      refine f_get X hw hT0 fc5 1 (by decide) wq81 rfl (v := .ref (ad (b + 1))) rfl dX4_housesThatAre_6 ?_
      refine fk_di (fcVe X hw (c_size l g ad M hTh) (fList_obj hTh) rfl wq114 kVJx4a65c_size_8abf5 ⟨(Nat.le_of_ble_eq_true rfl), (Nat.le_of_ble_eq_true rfl)⟩ rfl hl.1 rfl (Nat.le_of_ble_eq_true rfl) dX4_housesThatAre_9 ⟨Nat.le_refl _, Nat.le_refl _⟩) hw (fun H locs hw => ?_)
      refine lv_icmp_ge (tgt := 42) hx hb dX4_housesThatAre_12 (by decide) (fun c_1 => ?_) (fun c_1 => ?_)
      · have c_1 := nI_le' c_1 (by omega) (by omega)
        refine lv_iload_n hx hb dX4_housesThatAre_42 rfl (lv_at hl 2 rfl) ?_
        exact f_iret X hw ⟨rfl, rfl, by rw [show k = tHn T by omega]⟩ (Nat.le_refl _) (Nat.le_refl _) dX4_housesThatAre_43
      · have c_1 := nI_nle' c_1 (by omega) (by omega)
        refine lv_aload_n hx hb dX4_housesThatAre_15 rfl (lv_at hl 0 rfl) ?_
        refine f_get X hw hT0 fc5 1 (by decide) wq81 rfl (v := .ref (ad (b + 1))) rfl dX4_housesThatAre_16 ?_
        refine lv_iload_n hx hb dX4_housesThatAre_19 rfl (lv_at hl 3 rfl) ?_
        refine fk_dr (fcVe X hw (c_get l g ad M hTh (by omega)) (fList_obj hTh) rfl wq211 kVJx4a65c_get_915e3 ⟨(Nat.le_of_ble_eq_true rfl), (Nat.le_of_ble_eq_true rfl)⟩ rfl hl.1 rfl (Nat.le_of_ble_eq_true rfl) dX4_housesThatAre_20 ⟨Nat.le_refl _, Nat.le_refl _⟩) hw (fun H locs hw => ?_)
        refine f_cast X hw (hHs k (by omega)) fc3 wq118 dX4_housesThatAre_23 ?_
        refine f_getN X hw (hHs k (by omega)) fc3 3 (by decide) wn132 rfl (v := .int ((tH T k) 3)) rfl dX4_housesThatAre_26 ?_
        refine lv_iload_n hx hb dX4_housesThatAre_29 rfl (lv_at hl 1 rfl) ?_
        refine lv_icmp_ne (tgt := 36) hx hb dX4_housesThatAre_30 (by decide) (fun c_2 => ?_) (fun c_2 => ?_)
        · refine lv_iinc (v := nI (k + 1)) (lv' := [(3, .int (nI (k + 1))), (0, .ref (ad b)), (1, .int p0), (2, .int (cntH (tH T) p0 k))]) hx hb dX4_housesThatAre_36 hl (k := 3) rfl (nI_1 k) (by decide) rfl (fun ls hl => ?_)
          refine lv_goto (tgt := 4) hx hb dX4_housesThatAre_39 (by decide) ?_
          exact ih4 (k + 1) (by omega) (by omega) ls _ _ hw (by rw [show (cntH (tH T) p0 (k + 1)) = (cntH (tH T) p0 k) from (by rw [cntH]; simp only [c_1, c_2, if_true, if_false])]; exact lv_sub hl [1, 2, 3, 0] rfl)
        · refine lv_iinc (v := (cntH (tH T) p0 k) + 1) (lv' := [(2, .int ((cntH (tH T) p0 k) + 1)), (0, .ref (ad b)), (1, .int p0), (3, .int (nI k))]) hx hb dX4_housesThatAre_33 hl (k := 2) rfl rfl (by decide) rfl (fun ls hl => ?_)
          refine lv_iinc (v := nI (k + 1)) (lv' := [(3, .int (nI (k + 1))), (2, .int ((cntH (tH T) p0 k) + 1)), (0, .ref (ad b)), (1, .int p0)]) hx hb dX4_housesThatAre_36 hl (k := 3) rfl (nI_1 k) (by decide) rfl (fun ls hl => ?_)
          refine lv_goto (tgt := 4) hx hb dX4_housesThatAre_39 (by decide) ?_
          exact ih4 (k + 1) (by omega) (by omega) ls _ _ hw (by rw [show (cntH (tH T) p0 (k + 1)) = ((cntH (tH T) p0 k) + 1) from (by rw [cntH]; simp only [c_1, c_2, if_true, if_false])]; exact lv_sub hl [2, 3, 1, 0] rfl)
  exact loop4 (tHn T + 1) 0 (by omega) (by omega) ls _ _ hw (lv_sub hl [2, 3, 1, 0] rfl)
