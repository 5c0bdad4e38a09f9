set_option maxHeartbeats 4000000 in
set_option maxRecDepth 100000 in
theorem c_isOnMap (l : Launch) (g : fG) (ad : Nat → Nat) (M : fM) (x y : Int32) : fCi l g yX5_isOnMap cX5_isOnMap 2 ((some .boolean)) 0 0 0 0 ad M [.int x, .int y] (fDi ad M (bI (aOn x y))) := by
  refine f_body (own := RX5) (by decide +kernel) rfl (Nat.le_of_ble_eq_true rfl) ?_
  intro p e s m args below meth c ls X hw hin hl
  have hx := X.1
  have hb := X.2.1
  have hl : lv_has ls 2 [(0, .int x), (1, .int y)] := hl
  refine lv_iload_n hx hb dX5_isOnMap_0 rfl (lv_at hl 0 rfl) ?_
  refine lv_if_lt (tgt := 24) hx hb dX5_isOnMap_1 (by decide) (fun c_1 => ?_) (fun c_1 => ?_)
  · refine lv_iconst (v := 0) hx hb dX5_isOnMap_24 (by decide) ?_
    exact f_zret X hw rfl ⟨rfl, rfl, by simp [aOn, bI, c_1]⟩ (Nat.le_refl _) (Nat.le_refl _) dX5_isOnMap_25
  · refine lv_iload_n hx hb dX5_isOnMap_4 rfl (lv_at hl 0 rfl) ?_
    refine lv_bipush (v := 14) hx hb dX5_isOnMap_5 (by decide) ?_
    refine lv_icmp_ge (tgt := 24) hx hb dX5_isOnMap_7 (by decide) (fun c_2 => ?_) (fun c_2 => ?_)
    · refine lv_iconst (v := 0) hx hb dX5_isOnMap_24 (by decide) ?_
      exact f_zret X hw rfl ⟨rfl, rfl, by simp [aOn, bI, c_1, c_2]⟩ (Nat.le_refl _) (Nat.le_refl _) dX5_isOnMap_25
    · refine lv_iload_n hx hb dX5_isOnMap_10 rfl (lv_at hl 1 rfl) ?_
      refine lv_if_lt (tgt := 24) hx hb dX5_isOnMap_11 (by decide) (fun c_3 => ?_) (fun c_3 => ?_)
      · refine lv_iconst (v := 0) hx hb dX5_isOnMap_24 (by decide) ?_
        exact f_zret X hw rfl ⟨rfl, rfl, by simp [aOn, bI, c_1, c_2, c_3]⟩ (Nat.le_refl _) (Nat.le_refl _) dX5_isOnMap_25
      · refine lv_iload_n hx hb dX5_isOnMap_14 rfl (lv_at hl 1 rfl) ?_
        refine lv_bipush (v := 10) hx hb dX5_isOnMap_15 (by decide) ?_
        refine lv_icmp_ge (tgt := 24) hx hb dX5_isOnMap_17 (by decide) (fun c_4 => ?_) (fun c_4 => ?_)
        · refine lv_iconst (v := 0) hx hb dX5_isOnMap_24 (by decide) ?_
          exact f_zret X hw rfl ⟨rfl, rfl, by simp [aOn, bI, c_1, c_2, c_3, c_4]⟩ (Nat.le_refl _) (Nat.le_refl _) dX5_isOnMap_25
        · refine lv_iconst (v := 1) hx hb dX5_isOnMap_20 (by decide) ?_
          refine lv_goto (tgt := 25) hx hb dX5_isOnMap_21 (by decide) ?_
          exact f_zret X hw rfl ⟨rfl, rfl, by simp [aOn, bI, c_1, c_2, c_3, c_4]⟩ (Nat.le_refl _) (Nat.le_refl _) dX5_isOnMap_25
set_option maxHeartbeats 4000000 in
set_option maxRecDepth 100000 in
theorem c_cellAt (l : Launch) (g : fG) (ad : Nat → Nat) (M : fM) (x y : Int32) : fCi l g yX5_cellAt cX5_cellAt 2 ((some .int)) 0 0 0 0 ad M [.int x, .int y] (fDi ad M (x + 14 * y)) := by
  refine f_body (own := RX5) (by decide +kernel) rfl (Nat.le_of_ble_eq_true rfl) ?_
  intro p e s m args below meth c ls X hw hin hl
  have hx := X.1
  have hb := X.2.1
  have hl : lv_has ls 2 [(0, .int x), (1, .int y)] := hl
  refine lv_iload_n hx hb dX5_cellAt_0 rfl (lv_at hl 0 rfl) ?_
  refine lv_bipush (v := 14) hx hb dX5_cellAt_1 (by decide) ?_
  refine lv_iload_n hx hb dX5_cellAt_3 rfl (lv_at hl 1 rfl) ?_
  refine lv_imul hx hb dX5_cellAt_4 ?_
  refine lv_iadd hx hb dX5_cellAt_5 ?_
  exact f_iret X hw ⟨rfl, rfl, rfl⟩ (Nat.le_refl _) (Nat.le_refl _) dX5_cellAt_6
set_option maxHeartbeats 4000000 in
set_option maxRecDepth 100000 in
theorem c_distance (l : Launch) (g : fG) (ad : Nat → Nat) (M : fM) (a b : Int32) : fCi l g yX5_distance cX5_distance 2 ((some .int)) 1 14 0 0 ad M [.int a, .int b] (fDi ad M (aDist a b)) := by
  refine f_body (own := RX5) (by decide +kernel) rfl (Nat.le_of_ble_eq_true rfl) ?_
  intro p e s m args below meth c ls X hw hin hl
  have hx := X.1
  have hb := X.2.1
  have hl : lv_has ls 2 [(0, .int a), (1, .int b)] := hl
  refine lv_iload_n hx hb dX5_distance_0 rfl (lv_at hl 0 rfl) ?_
  refine lv_bipush (v := 14) hx hb dX5_distance_1 (by decide) ?_
  refine lv_irem hx hb dX5_distance_3 (by decide) ?_
  refine lv_iload_n hx hb dX5_distance_4 rfl (lv_at hl 1 rfl) ?_
  refine lv_bipush (v := 14) hx hb dX5_distance_5 (by decide) ?_
  refine lv_irem hx hb dX5_distance_7 (by decide) ?_
  refine lv_isub hx hb dX5_distance_8 ?_
  refine va_mabs hx hb (X.2.2.1.trans hl.1.symm) X.2.2.2.1 (X.2.2.2.2.1 _ wq331) (X.2.2.2.2.1 _ wq332) (X.2.2.2.2.1 _ wq18) (X.2.2.2.2.1 _ wq333) (Nat.le_of_ble_eq_true rfl) (Nat.le_of_ble_eq_true rfl) (Nat.zero_le _) (Nat.zero_le _) dX5_distance_9 ?_
  refine lv_iload_n hx hb dX5_distance_12 rfl (lv_at hl 0 rfl) ?_
  refine lv_bipush (v := 14) hx hb dX5_distance_13 (by decide) ?_
  refine lv_idiv hx hb dX5_distance_15 (by decide) ?_
  refine lv_iload_n hx hb dX5_distance_16 rfl (lv_at hl 1 rfl) ?_
  refine lv_bipush (v := 14) hx hb dX5_distance_17 (by decide) ?_
  refine lv_idiv hx hb dX5_distance_19 (by decide) ?_
  refine lv_isub hx hb dX5_distance_20 ?_
  refine va_mabs hx hb (X.2.2.1.trans hl.1.symm) X.2.2.2.1 (X.2.2.2.2.1 _ wq331) (X.2.2.2.2.1 _ wq332) (X.2.2.2.2.1 _ wq18) (X.2.2.2.2.1 _ wq333) (Nat.le_of_ble_eq_true rfl) (Nat.le_of_ble_eq_true rfl) (Nat.zero_le _) (Nat.zero_le _) dX5_distance_21 ?_
  refine lv_iadd hx hb dX5_distance_24 ?_
  exact f_iret X hw ⟨rfl, rfl, rfl⟩ (Nat.le_refl _) (Nat.le_refl _) dX5_distance_25
set_option maxHeartbeats 4000000 in
set_option maxRecDepth 100000 in
theorem c_areNear (l : Launch) (g : fG) (ad : Nat → Nat) (M : fM) (a b : Int32) : fCi l g yX5_areNear cX5_areNear 4 ((some .boolean)) 0 0 0 0 ad M [.int a, .int b] (fDi ad M (bI (aNear a b))) := by
  refine f_body (own := RX5) (by decide +kernel) rfl (Nat.le_of_ble_eq_true rfl) ?_
  intro p e s m args below meth c ls X hw hin hl
  have hx := X.1
  have hb := X.2.1
  have hl : lv_has ls 4 [(0, .int a), (1, .int b)] := hl
  refine lv_iload_n hx hb dX5_areNear_0 rfl (lv_at hl 0 rfl) ?_
  refine lv_bipush (v := 14) hx hb dX5_areNear_1 (by decide) ?_
  refine lv_irem hx hb dX5_areNear_3 (by decide) ?_
  refine lv_iload_n hx hb dX5_areNear_4 rfl (lv_at hl 1 rfl) ?_
  refine lv_bipush (v := 14) hx hb dX5_areNear_5 (by decide) ?_
  refine lv_irem hx hb dX5_areNear_7 (by decide) ?_
  refine lv_isub hx hb dX5_areNear_8 ?_
  refine lv_istore_n (lv' := [(2, .int ((a - a / 14 * 14) - (b - b / 14 * 14))), (0, .int a), (1, .int b)]) hx hb dX5_areNear_9 rfl hl (by decide) rfl (fun ls hl => ?_)
  refine lv_iload_n hx hb dX5_areNear_10 rfl (lv_at hl 1 rfl) ?_
  refine lv_bipush (v := 14) hx hb dX5_areNear_11 (by decide) ?_
  refine lv_idiv hx hb dX5_areNear_13 (by decide) ?_
  refine lv_iload_n hx hb dX5_areNear_14 rfl (lv_at hl 2 rfl) ?_
  refine lv_bipush (v := 14) hx hb dX5_areNear_15 (by decide) ?_
  refine lv_idiv hx hb dX5_areNear_17 (by decide) ?_
  refine lv_isub hx hb dX5_areNear_18 ?_
  refine lv_istore_n (lv' := [(3, .int ((a / 14) - (b / 14))), (2, .int ((a - a / 14 * 14) - (b - b / 14 * 14))), (0, .int a), (1, .int b)]) hx hb dX5_areNear_19 rfl hl (by decide) rfl (fun ls hl => ?_)
  refine lv_iload_n hx hb dX5_areNear_20 rfl (lv_at hl 2 rfl) ?_
  refine lv_iload_n hx hb dX5_areNear_21 rfl (lv_at hl 3 rfl) ?_
  refine lv_icmp_eq (tgt := 43) hx hb dX5_areNear_22 (by decide) (fun c_1 => ?_) (fun c_1 => ?_)
  · refine lv_iconst (v := 0) hx hb dX5_areNear_43 (by decide) ?_
    exact f_zret X hw rfl ⟨rfl, rfl, by simp [aNear, bI, iMod, c_1]⟩ (Nat.le_refl _) (Nat.le_refl _) dX5_areNear_44
  · refine lv_iload_n hx hb dX5_areNear_25 rfl (lv_at hl 1 rfl) ?_
    refine lv_iload_n hx hb dX5_areNear_26 rfl (lv_at hl 1 rfl) ?_
    refine lv_imul hx hb dX5_areNear_27 ?_
    refine lv_iconst (v := 1) hx hb dX5_areNear_28 (by decide) ?_
    refine lv_icmp_gt (tgt := 43) hx hb dX5_areNear_29 (by decide) (fun c_2 => ?_) (fun c_2 => ?_)
    · refine lv_iconst (v := 0) hx hb dX5_areNear_43 (by decide) ?_
      exact f_zret X hw rfl ⟨rfl, rfl, by simp [aNear, bI, iMod, c_1, c_2]⟩ (Nat.le_refl _) (Nat.le_refl _) dX5_areNear_44
    · refine lv_iload_n hx hb dX5_areNear_32 rfl (lv_at hl 0 rfl) ?_
      refine lv_iload_n hx hb dX5_areNear_33 rfl (lv_at hl 0 rfl) ?_
      refine lv_imul hx hb dX5_areNear_34 ?_
      refine lv_iconst (v := 1) hx hb dX5_areNear_35 (by decide) ?_
      refine lv_icmp_gt (tgt := 43) hx hb dX5_areNear_36 (by decide) (fun c_3 => ?_) (fun c_3 => ?_)
      · refine lv_iconst (v := 0) hx hb dX5_areNear_43 (by decide) ?_
        exact f_zret X hw rfl ⟨rfl, rfl, by simp [aNear, bI, iMod, c_1, c_2, c_3]⟩ (Nat.le_refl _) (Nat.le_refl _) dX5_areNear_44
      · refine lv_iconst (v := 1) hx hb dX5_areNear_39 (by decide) ?_
        refine lv_goto (tgt := 44) hx hb dX5_areNear_40 (by decide) ?_
        exact f_zret X hw rfl ⟨rfl, rfl, by simp [aNear, bI, iMod, c_1, c_2, c_3]⟩ (Nat.le_refl _) (Nat.le_refl _) dX5_areNear_44
set_option maxHeartbeats 4000000 in
set_option maxRecDepth 100000 in
theorem c_housesThatAre (l : Launch) (g : fG) (ad : Nat → Nat) (M : fM) {b : Nat} {T : fTn} (hT : isTown g ad M b T) (p0 : Int32) : fCi l g yX4_housesThatAre cX4_housesThatAre 4 ((some .int)) 3 64 0 0 ad M [.ref (ad b), .int p0] (fDi ad M (cntH (tH T) p0 (tHn T))) := by
  refine f_body (own := RX4) (by decide +kernel) rfl (Nat.le_of_ble_eq_true rfl) ?_
  intro p e s m args below meth c ls X hw hin hl
  have hx := X.1
  have hb := X.2.1
  have hl : lv_has ls 4 [(0, .ref (ad b)), (1, .int p0)] := hl
  obtain ⟨hT0, hTh, hTp, hTe, hHs, hPs, hEs, hn1, hn2, hn3, hA⟩ := hT
  refine lv_iconst (v := 0) hx hb dX4_housesThatAre_0 (by decide) ?_
  refine lv_istore_n (lv' := [(2, .int 0), (0, .ref (ad b)), (1, .int p0)]) hx hb dX4_housesThatAre_1 rfl hl (by decide) rfl (fun ls hl => ?_)
  refine lv_iconst (v := 0) hx hb dX4_housesThatAre_2 (by decide) ?_
  refine lv_istore_n (lv' := [(3, .int 0), (2, .int 0), (0, .ref (ad b)), (1, .int p0)]) hx hb dX4_housesThatAre_3 rfl hl (by decide) rfl (fun ls hl => ?_)
  have loop4 : ∀ (n4 k : Nat), k ≤ tHn T → tHn T < k + n4 → ∀ (ls : Array Slot) (H : Heap) (locs : List Loc), fw g ad M s H locs → lv_has ls 4 [(0, .ref (ad b)), (1, .int p0), (2, .int (cntH (tH T) p0 k)), (3, .int (nI k))] → W p l e (fR 3 64 0 0) s m args below meth c H locs 0 0 (MQ below (fQi g (fDi ad M (cntH (tH T) p0 (tHn T)))) args s 0 0 (fA g)) (F0 m 4 ls []) := by
    intro n4
    induction n4 with
    | zero => intro k h1 h2; omega
    | succ n4 ih4 =>
      intro k hk_k hn_k ls H locs hw hl
      refine lv_iload_n hx hb dX4_housesThatAre_4 rfl (lv_at hl 3 rfl) ?_
      refine lv_aload_n hx hb dX4_housesThatAre_5 rfl (lv_at hl 0 rfl) ?_
      refine f_get X hw hT0 fc5 1 (by decide) wq83 rfl (v := .ref (ad (b + 1))) rfl dX4_housesThatAre_6 ?_
      refine fk_di (fcVe X hw (c_size l g ad M hTh) (fList_obj hTh) rfl wq229 kVJx4a65c_size_8abf5 ⟨(Nat.le_of_ble_eq_true rfl), (Nat.le_of_ble_eq_true rfl)⟩ rfl hl.1 rfl (Nat.le_of_ble_eq_true rfl) dX4_housesThatAre_9 ⟨Nat.le_refl _, Nat.le_refl _⟩) hw (fun H locs hw => ?_)
      refine lv_icmp_ge (tgt := 42) hx hb dX4_housesThatAre_12 (by decide) (fun c_1 => ?_) (fun c_1 => ?_)
      · have c_1 := nI_le' (a := (tHn T)) (b := k) c_1 (by omega) (by omega)
        refine lv_iload_n hx hb dX4_housesThatAre_42 rfl (lv_at hl 2 rfl) ?_
        exact f_iret X hw ⟨rfl, rfl, by rw [show k = tHn T by omega]⟩ (Nat.le_refl _) (Nat.le_refl _) dX4_housesThatAre_43
      · have c_1 := nI_nle' (a := (tHn T)) (b := k) c_1 (by omega) (by omega)
        refine lv_aload_n hx hb dX4_housesThatAre_15 rfl (lv_at hl 0 rfl) ?_
        refine f_get X hw hT0 fc5 1 (by decide) wq83 rfl (v := .ref (ad (b + 1))) rfl dX4_housesThatAre_16 ?_
        refine lv_iload_n hx hb dX4_housesThatAre_19 rfl (lv_at hl 3 rfl) ?_
        refine fk_dr (fcVe X hw (c_get l g ad M hTh (by omega)) (fList_obj hTh) rfl wq234 kVJx4a65c_get_915e3 ⟨(Nat.le_of_ble_eq_true rfl), (Nat.le_of_ble_eq_true rfl)⟩ rfl hl.1 rfl (Nat.le_of_ble_eq_true rfl) dX4_housesThatAre_20 ⟨Nat.le_refl _, Nat.le_refl _⟩) hw (fun H locs hw => ?_)
        refine f_cast X hw (hHs k (by omega)) fc3 wq300 dX4_housesThatAre_23 ?_
        refine f_getN X hw (hHs k (by omega)) fc3 3 (by decide) wn408 rfl (v := .int ((tH T k) 3)) rfl dX4_housesThatAre_26 ?_
        refine lv_iload_n hx hb dX4_housesThatAre_29 rfl (lv_at hl 1 rfl) ?_
        refine lv_icmp_ne (tgt := 36) hx hb dX4_housesThatAre_30 (by decide) (fun c_2 => ?_) (fun c_2 => ?_)
        · refine lv_iinc (v := nI (k + 1)) (lv' := [(3, .int (nI (k + 1))), (0, .ref (ad b)), (1, .int p0), (2, .int (cntH (tH T) p0 k))]) hx hb dX4_housesThatAre_36 hl (k := 3) rfl (nI_1 k) (by decide) rfl (fun ls hl => ?_)
          refine lv_goto (tgt := 4) hx hb dX4_housesThatAre_39 (by decide) ?_
          exact ih4 (k + 1) (by omega) (by omega) ls _ _ hw (by rw [show (cntH (tH T) p0 (k + 1)) = (cntH (tH T) p0 k) from (by rw [cntH]; simp only [c_1, c_2, if_true, if_false])]; exact lv_sub hl [1, 2, 3, 0] rfl)
        · refine lv_iinc (v := (cntH (tH T) p0 k) + 1) (lv' := [(2, .int ((cntH (tH T) p0 k) + 1)), (0, .ref (ad b)), (1, .int p0), (3, .int (nI k))]) hx hb dX4_housesThatAre_33 hl (k := 2) rfl rfl (by decide) rfl (fun ls hl => ?_)
          refine lv_iinc (v := nI (k + 1)) (lv' := [(3, .int (nI (k + 1))), (2, .int ((cntH (tH T) p0 k) + 1)), (0, .ref (ad b)), (1, .int p0)]) hx hb dX4_housesThatAre_36 hl (k := 3) rfl (nI_1 k) (by decide) rfl (fun ls hl => ?_)
          refine lv_goto (tgt := 4) hx hb dX4_housesThatAre_39 (by decide) ?_
          exact ih4 (k + 1) (by omega) (by omega) ls _ _ hw (by rw [show (cntH (tH T) p0 (k + 1)) = ((cntH (tH T) p0 k) + 1) from (by rw [cntH]; simp only [c_1, c_2, if_true, if_false])]; exact lv_sub hl [2, 3, 1, 0] rfl)
  exact loop4 (tHn T + 1) 0 (by omega) (by omega) ls _ _ hw (lv_sub hl [2, 3, 1, 0] rfl)
set_option maxHeartbeats 4000000 in
set_option maxRecDepth 100000 in
theorem c_sumOverHouses (l : Launch) (g : fG) (ad : Nat → Nat) (M : fM) {b : Nat} {T : fTn} (hT : isTown g ad M b T) (p0 : Int32) : fCi l g yX4_sumOverHouses cX4_sumOverHouses 4 ((some .int)) 3 64 0 0 ad M [.ref (ad b), .int p0] (fDi ad M (sumH (tH T) p0 (tHn T))) := by
  refine f_body (own := RX4) (by decide +kernel) rfl (Nat.le_of_ble_eq_true rfl) ?_
  intro p e s m args below meth c ls X hw hin hl
  have hx := X.1
  have hb := X.2.1
  have hl : lv_has ls 4 [(0, .ref (ad b)), (1, .int p0)] := hl
  obtain ⟨hT0, hTh, hTp, hTe, hHs, hPs, hEs, hn1, hn2, hn3, hA⟩ := hT
  refine lv_iconst (v := 0) hx hb dX4_sumOverHouses_0 (by decide) ?_
  refine lv_istore_n (lv' := [(2, .int 0), (0, .ref (ad b)), (1, .int p0)]) hx hb dX4_sumOverHouses_1 rfl hl (by decide) rfl (fun ls hl => ?_)
  refine lv_iconst (v := 0) hx hb dX4_sumOverHouses_2 (by decide) ?_
  refine lv_istore_n (lv' := [(3, .int 0), (2, .int 0), (0, .ref (ad b)), (1, .int p0)]) hx hb dX4_sumOverHouses_3 rfl hl (by decide) rfl (fun ls hl => ?_)
  have loop4 : ∀ (n4 k : Nat), k ≤ tHn T → tHn T < k + n4 → ∀ (ls : Array Slot) (H : Heap) (locs : List Loc), fw g ad M s H locs → lv_has ls 4 [(0, .ref (ad b)), (1, .int p0), (2, .int (sumH (tH T) p0 k)), (3, .int (nI k))] → W p l e (fR 3 64 0 0) s m args below meth c H locs 0 0 (MQ below (fQi g (fDi ad M (sumH (tH T) p0 (tHn T)))) args s 0 0 (fA g)) (F0 m 4 ls []) := by
    intro n4
    induction n4 with
    | zero => intro k h1 h2; omega
    | succ n4 ih4 =>
      intro k hk_k hn_k ls H locs hw hl
      refine lv_iload_n hx hb dX4_sumOverHouses_4 rfl (lv_at hl 3 rfl) ?_
      refine lv_aload_n hx hb dX4_sumOverHouses_5 rfl (lv_at hl 0 rfl) ?_
      refine f_get X hw hT0 fc5 1 (by decide) wq83 rfl (v := .ref (ad (b + 1))) rfl dX4_sumOverHouses_6 ?_
      refine fk_di (fcVe X hw (c_size l g ad M hTh) (fList_obj hTh) rfl wq229 kVJx4a65c_size_8abf5 ⟨(Nat.le_of_ble_eq_true rfl), (Nat.le_of_ble_eq_true rfl)⟩ rfl hl.1 rfl (Nat.le_of_ble_eq_true rfl) dX4_sumOverHouses_9 ⟨Nat.le_refl _, Nat.le_refl _⟩) hw (fun H locs hw => ?_)
      refine lv_icmp_ge (tgt := 39) hx hb dX4_sumOverHouses_12 (by decide) (fun c_1 => ?_) (fun c_1 => ?_)
      · have c_1 := nI_le' (a := (tHn T)) (b := k) c_1 (by omega) (by omega)
        refine lv_iload_n hx hb dX4_sumOverHouses_39 rfl (lv_at hl 2 rfl) ?_
        exact f_iret X hw ⟨rfl, rfl, by rw [show k = tHn T by omega]⟩ (Nat.le_refl _) (Nat.le_refl _) dX4_sumOverHouses_40
      · have c_1 := nI_nle' (a := (tHn T)) (b := k) c_1 (by omega) (by omega)
        refine lv_iload_n hx hb dX4_sumOverHouses_15 rfl (lv_at hl 2 rfl) ?_
        refine lv_aload_n hx hb dX4_sumOverHouses_16 rfl (lv_at hl 0 rfl) ?_
        refine f_get X hw hT0 fc5 1 (by decide) wq83 rfl (v := .ref (ad (b + 1))) rfl dX4_sumOverHouses_17 ?_
        refine lv_iload_n hx hb dX4_sumOverHouses_20 rfl (lv_at hl 3 rfl) ?_
        refine fk_dr (fcVe X hw (c_get l g ad M hTh (by omega)) (fList_obj hTh) rfl wq234 kVJx4a65c_get_915e3 ⟨(Nat.le_of_ble_eq_true rfl), (Nat.le_of_ble_eq_true rfl)⟩ rfl hl.1 rfl (Nat.le_of_ble_eq_true rfl) dX4_sumOverHouses_21 ⟨Nat.le_refl _, Nat.le_refl _⟩) hw (fun H locs hw => ?_)
        refine f_cast X hw (hHs k (by omega)) fc3 wq300 dX4_sumOverHouses_24 ?_
        refine lv_iload_n hx hb dX4_sumOverHouses_27 rfl (lv_at hl 1 rfl) ?_
        refine fk_di (fcV X hw (c_X2_tell l g ad M (hHs k (by omega)) p0) (hHs k (by omega)) rfl wq388 kVX2_tell ⟨(Nat.le_of_ble_eq_true rfl), (Nat.le_of_ble_eq_true rfl)⟩ rfl hl.1 rfl (Nat.le_of_ble_eq_true rfl) dX4_sumOverHouses_28 ⟨Nat.le_refl _, Nat.le_refl _⟩) hw (fun H locs hw => ?_)
        refine lv_iadd hx hb dX4_sumOverHouses_31 ?_
        refine lv_istore_n (lv' := [(2, .int ((sumH (tH T) p0 k) + (hTell (tH T k) p0))), (0, .ref (ad b)), (1, .int p0), (3, .int (nI k))]) hx hb dX4_sumOverHouses_32 rfl hl (by decide) rfl (fun ls hl => ?_)
        refine lv_iinc (v := nI (k + 1)) (lv' := [(3, .int (nI (k + 1))), (2, .int ((sumH (tH T) p0 k) + (hTell (tH T k) p0))), (0, .ref (ad b)), (1, .int p0)]) hx hb dX4_sumOverHouses_33 hl (k := 3) rfl (nI_1 k) (by decide) rfl (fun ls hl => ?_)
        refine lv_goto (tgt := 4) hx hb dX4_sumOverHouses_36 (by decide) ?_
        exact ih4 (k + 1) (by omega) (by omega) ls _ _ hw (lv_sub hl [2, 3, 1, 0] rfl)
  exact loop4 (tHn T + 1) 0 (by omega) (by omega) ls _ _ hw (lv_sub hl [2, 3, 1, 0] rfl)
set_option maxHeartbeats 4000000 in
set_option maxRecDepth 100000 in
theorem c_waterOfPonds (l : Launch) (g : fG) (ad : Nat → Nat) (M : fM) {b : Nat} {T : fTn} (hT : isTown g ad M b T) : fCi l g yX4_waterOfPonds cX4_waterOfPonds 3 ((some .int)) 3 64 0 0 ad M [.ref (ad b)] (fDi ad M (sumP (tP T) (tPn T))) := by
  refine f_body (own := RX4) (by decide +kernel) rfl (Nat.le_of_ble_eq_true rfl) ?_
  intro p e s m args below meth c ls X hw hin hl
  have hx := X.1
  have hb := X.2.1
  have hl : lv_has ls 3 [(0, .ref (ad b))] := hl
  obtain ⟨hT0, hTh, hTp, hTe, hHs, hPs, hEs, hn1, hn2, hn3, hA⟩ := hT
  refine lv_iconst (v := 0) hx hb dX4_waterOfPonds_0 (by decide) ?_
  refine lv_istore_n (lv' := [(1, .int 0), (0, .ref (ad b))]) hx hb dX4_waterOfPonds_1 rfl hl (by decide) rfl (fun ls hl => ?_)
  refine lv_iconst (v := 0) hx hb dX4_waterOfPonds_2 (by decide) ?_
  refine lv_istore_n (lv' := [(2, .int 0), (1, .int 0), (0, .ref (ad b))]) hx hb dX4_waterOfPonds_3 rfl hl (by decide) rfl (fun ls hl => ?_)
  have loop4 : ∀ (n4 k : Nat), k ≤ tPn T → tPn T < k + n4 → ∀ (ls : Array Slot) (H : Heap) (locs : List Loc), fw g ad M s H locs → lv_has ls 3 [(0, .ref (ad b)), (1, .int (sumP (tP T) k)), (2, .int (nI k))] → W p l e (fR 3 64 0 0) s m args below meth c H locs 0 0 (MQ below (fQi g (fDi ad M (sumP (tP T) (tPn T)))) args s 0 0 (fA g)) (F0 m 4 ls []) := by
    intro n4
    induction n4 with
    | zero => intro k h1 h2; omega
    | succ n4 ih4 =>
      intro k hk_k hn_k ls H locs hw hl
      refine lv_iload_n hx hb dX4_waterOfPonds_4 rfl (lv_at hl 2 rfl) ?_
      refine lv_aload_n hx hb dX4_waterOfPonds_5 rfl (lv_at hl 0 rfl) ?_
      refine f_get X hw hT0 fc5 2 (by decide) wq85 rfl (v := .ref (ad (b + 2))) rfl dX4_waterOfPonds_6 ?_
      refine fk_di (fcVe X hw (c_size l g ad M hTp) (fList_obj hTp) rfl wq229 kVJx4a65c_size_8abf5 ⟨(Nat.le_of_ble_eq_true rfl), (Nat.le_of_ble_eq_true rfl)⟩ rfl hl.1 rfl (Nat.le_of_ble_eq_true rfl) dX4_waterOfPonds_9 ⟨Nat.le_refl _, Nat.le_refl _⟩) hw (fun H locs hw => ?_)
      refine lv_icmp_ge (tgt := 38) hx hb dX4_waterOfPonds_12 (by decide) (fun c_1 => ?_) (fun c_1 => ?_)
      · have c_1 := nI_le' (a := (tPn T)) (b := k) c_1 (by omega) (by omega)
        refine lv_iload_n hx hb dX4_waterOfPonds_38 rfl (lv_at hl 1 rfl) ?_
        exact f_iret X hw ⟨rfl, rfl, by rw [show k = tPn T by omega]⟩ (Nat.le_refl _) (Nat.le_refl _) dX4_waterOfPonds_39
      · have c_1 := nI_nle' (a := (tPn T)) (b := k) c_1 (by omega) (by omega)
        refine lv_iload_n hx hb dX4_waterOfPonds_15 rfl (lv_at hl 1 rfl) ?_
        refine lv_aload_n hx hb dX4_waterOfPonds_16 rfl (lv_at hl 0 rfl) ?_
        refine f_get X hw hT0 fc5 2 (by decide) wq85 rfl (v := .ref (ad (b + 2))) rfl dX4_waterOfPonds_17 ?_
        refine lv_iload_n hx hb dX4_waterOfPonds_20 rfl (lv_at hl 2 rfl) ?_
        refine fk_dr (fcVe X hw (c_get l g ad M hTp (by omega)) (fList_obj hTp) rfl wq234 kVJx4a65c_get_915e3 ⟨(Nat.le_of_ble_eq_true rfl), (Nat.le_of_ble_eq_true rfl)⟩ rfl hl.1 rfl (Nat.le_of_ble_eq_true rfl) dX4_waterOfPonds_21 ⟨Nat.le_refl _, Nat.le_refl _⟩) hw (fun H locs hw => ?_)
        refine f_cast X hw (hPs k (by omega)) fc4 wq235 dX4_waterOfPonds_24 ?_
        refine f_getN X hw (hPs k (by omega)) fc4 1 (by decide) wn497 rfl (v := .int ((tP T k) 1)) rfl dX4_waterOfPonds_27 ?_
        refine lv_iadd hx hb dX4_waterOfPonds_30 ?_
        refine lv_istore_n (lv' := [(1, .int ((sumP (tP T) k) + ((tP T k) 1))), (0, .ref (ad b)), (2, .int (nI k))]) hx hb dX4_waterOfPonds_31 rfl hl (by decide) rfl (fun ls hl => ?_)
        refine lv_iinc (v := nI (k + 1)) (lv' := [(2, .int (nI (k + 1))), (1, .int ((sumP (tP T) k) + ((tP T k) 1))), (0, .ref (ad b))]) hx hb dX4_waterOfPonds_32 hl (k := 2) rfl (nI_1 k) (by decide) rfl (fun ls hl => ?_)
        refine lv_goto (tgt := 4) hx hb dX4_waterOfPonds_35 (by decide) ?_
        exact ih4 (k + 1) (by omega) (by omega) ls _ _ hw (lv_sub hl [2, 1, 0] rfl)
  exact loop4 (tPn T + 1) 0 (by omega) (by omega) ls _ _ hw (lv_sub hl [2, 1, 0] rfl)
set_option maxHeartbeats 4000000 in
set_option maxRecDepth 100000 in
theorem c_enginesOn (l : Launch) (g : fG) (ad : Nat → Nat) (M : fM) {b : Nat} {T : fTn} (hT : isTown g ad M b T) (p0 : Int32) : fCi l g yX4_enginesOn cX4_enginesOn 4 ((some .int)) 3 64 0 0 ad M [.ref (ad b), .int p0] (fDi ad M (cntE (tE T) p0 (tEn T))) := by
  refine f_body (own := RX4) (by decide +kernel) rfl (Nat.le_of_ble_eq_true rfl) ?_
  intro p e s m args below meth c ls X hw hin hl
  have hx := X.1
  have hb := X.2.1
  have hl : lv_has ls 4 [(0, .ref (ad b)), (1, .int p0)] := hl
  obtain ⟨hT0, hTh, hTp, hTe, hHs, hPs, hEs, hn1, hn2, hn3, hA⟩ := hT
  refine lv_iconst (v := 0) hx hb dX4_enginesOn_0 (by decide) ?_
  refine lv_istore_n (lv' := [(2, .int 0), (0, .ref (ad b)), (1, .int p0)]) hx hb dX4_enginesOn_1 rfl hl (by decide) rfl (fun ls hl => ?_)
  refine lv_iconst (v := 0) hx hb dX4_enginesOn_2 (by decide) ?_
  refine lv_istore_n (lv' := [(3, .int 0), (2, .int 0), (0, .ref (ad b)), (1, .int p0)]) hx hb dX4_enginesOn_3 rfl hl (by decide) rfl (fun ls hl => ?_)
  have loop4 : ∀ (n4 k : Nat), k ≤ tEn T → tEn T < k + n4 → ∀ (ls : Array Slot) (H : Heap) (locs : List Loc), fw g ad M s H locs → lv_has ls 4 [(0, .ref (ad b)), (1, .int p0), (2, .int (cntE (tE T) p0 k)), (3, .int (nI k))] → W p l e (fR 3 64 0 0) s m args below meth c H locs 0 0 (MQ below (fQi g (fDi ad M (cntE (tE T) p0 (tEn T)))) args s 0 0 (fA g)) (F0 m 4 ls []) := by
    intro n4
    induction n4 with
    | zero => intro k h1 h2; omega
    | succ n4 ih4 =>
      intro k hk_k hn_k ls H locs hw hl
      refine lv_iload_n hx hb dX4_enginesOn_4 rfl (lv_at hl 3 rfl) ?_
      refine lv_aload_n hx hb dX4_enginesOn_5 rfl (lv_at hl 0 rfl) ?_
      refine f_get X hw hT0 fc5 3 (by decide) wq87 rfl (v := .ref (ad (b + 3))) rfl dX4_enginesOn_6 ?_
      refine fk_di (fcVe X hw (c_size l g ad M hTe) (fList_obj hTe) rfl wq229 kVJx4a65c_size_8abf5 ⟨(Nat.le_of_ble_eq_true rfl), (Nat.le_of_ble_eq_true rfl)⟩ rfl hl.1 rfl (Nat.le_of_ble_eq_true rfl) dX4_enginesOn_9 ⟨Nat.le_refl _, Nat.le_refl _⟩) hw (fun H locs hw => ?_)
      refine lv_icmp_ge (tgt := 42) hx hb dX4_enginesOn_12 (by decide) (fun c_1 => ?_) (fun c_1 => ?_)
      · have c_1 := nI_le' (a := (tEn T)) (b := k) c_1 (by omega) (by omega)
        refine lv_iload_n hx hb dX4_enginesOn_42 rfl (lv_at hl 2 rfl) ?_
        exact f_iret X hw ⟨rfl, rfl, by rw [show k = tEn T by omega]⟩ (Nat.le_refl _) (Nat.le_refl _) dX4_enginesOn_43
      · have c_1 := nI_nle' (a := (tEn T)) (b := k) c_1 (by omega) (by omega)
        refine lv_aload_n hx hb dX4_enginesOn_15 rfl (lv_at hl 0 rfl) ?_
        refine f_get X hw hT0 fc5 3 (by decide) wq87 rfl (v := .ref (ad (b + 3))) rfl dX4_enginesOn_16 ?_
        refine lv_iload_n hx hb dX4_enginesOn_19 rfl (lv_at hl 3 rfl) ?_
        refine fk_dr (fcVe X hw (c_get l g ad M hTe (by omega)) (fList_obj hTe) rfl wq234 kVJx4a65c_get_915e3 ⟨(Nat.le_of_ble_eq_true rfl), (Nat.le_of_ble_eq_true rfl)⟩ rfl hl.1 rfl (Nat.le_of_ble_eq_true rfl) dX4_enginesOn_20 ⟨Nat.le_refl _, Nat.le_refl _⟩) hw (fun H locs hw => ?_)
        refine f_cast X hw (hEs k (by omega)) fc1 wq281 dX4_enginesOn_23 ?_
        refine f_getN X hw (hEs k (by omega)) fc1 0 (by decide) wn514 rfl (v := .int ((tE T k) 0)) rfl dX4_enginesOn_26 ?_
        refine lv_iload_n hx hb dX4_enginesOn_29 rfl (lv_at hl 1 rfl) ?_
        refine lv_icmp_ne (tgt := 36) hx hb dX4_enginesOn_30 (by decide) (fun c_2 => ?_) (fun c_2 => ?_)
        · refine lv_iinc (v := nI (k + 1)) (lv' := [(3, .int (nI (k + 1))), (0, .ref (ad b)), (1, .int p0), (2, .int (cntE (tE T) p0 k))]) hx hb dX4_enginesOn_36 hl (k := 3) rfl (nI_1 k) (by decide) rfl (fun ls hl => ?_)
          refine lv_goto (tgt := 4) hx hb dX4_enginesOn_39 (by decide) ?_
          exact ih4 (k + 1) (by omega) (by omega) ls _ _ hw (by rw [show (cntE (tE T) p0 (k + 1)) = (cntE (tE T) p0 k) from (by rw [cntE]; simp only [c_1, c_2, if_true, if_false])]; exact lv_sub hl [1, 2, 3, 0] rfl)
        · refine lv_iinc (v := (cntE (tE T) p0 k) + 1) (lv' := [(2, .int ((cntE (tE T) p0 k) + 1)), (0, .ref (ad b)), (1, .int p0), (3, .int (nI k))]) hx hb dX4_enginesOn_33 hl (k := 2) rfl rfl (by decide) rfl (fun ls hl => ?_)
          refine lv_iinc (v := nI (k + 1)) (lv' := [(3, .int (nI (k + 1))), (2, .int ((cntE (tE T) p0 k) + 1)), (0, .ref (ad b)), (1, .int p0)]) hx hb dX4_enginesOn_36 hl (k := 3) rfl (nI_1 k) (by decide) rfl (fun ls hl => ?_)
          refine lv_goto (tgt := 4) hx hb dX4_enginesOn_39 (by decide) ?_
          exact ih4 (k + 1) (by omega) (by omega) ls _ _ hw (by rw [show (cntE (tE T) p0 (k + 1)) = ((cntE (tE T) p0 k) + 1) from (by rw [cntE]; simp only [c_1, c_2, if_true, if_false])]; exact lv_sub hl [2, 3, 1, 0] rfl)
  exact loop4 (tEn T + 1) 0 (by omega) (by omega) ls _ _ hw (lv_sub hl [2, 3, 1, 0] rfl)
set_option maxHeartbeats 4000000 in
set_option maxRecDepth 100000 in
theorem c_isGoal (l : Launch) (g : fG) (ad : Nat → Nat) (M : fM) {b : Nat} {T : fTn} (hT : isTown g ad M b T) (p0 : Int32) : fCi l g yX4_isGoal cX4_isGoal 3 ((some .boolean)) 3 64 0 0 ad M [.ref (ad b), .int p0] (fDi ad M (bI (anyGoal (tE T) p0 (tEn T)))) := by
  refine f_body (own := RX4) (by decide +kernel) rfl (Nat.le_of_ble_eq_true rfl) ?_
  intro p e s m args below meth c ls X hw hin hl
  have hx := X.1
  have hb := X.2.1
  have hl : lv_has ls 3 [(0, .ref (ad b)), (1, .int p0)] := hl
  obtain ⟨hT0, hTh, hTp, hTe, hHs, hPs, hEs, hn1, hn2, hn3, hA⟩ := hT
  refine lv_iconst (v := 0) hx hb dX4_isGoal_0 (by decide) ?_
  refine lv_istore_n (lv' := [(2, .int 0), (0, .ref (ad b)), (1, .int p0)]) hx hb dX4_isGoal_1 rfl hl (by decide) rfl (fun ls hl => ?_)
  have loop2 : ∀ (n2 k : Nat), k ≤ tEn T → tEn T < k + n2 → ∀ (hg : anyGoal (tE T) p0 k = false) (ls : Array Slot) (H : Heap) (locs : List Loc), fw g ad M s H locs → lv_has ls 3 [(0, .ref (ad b)), (1, .int p0), (2, .int (nI k))] → W p l e (fR 3 64 0 0) s m args below meth c H locs 0 0 (MQ below (fQi g (fDi ad M (bI (anyGoal (tE T) p0 (tEn T))))) args s 0 0 (fA g)) (F0 m 2 ls []) := by
    intro n2
    induction n2 with
    | zero => intro k h1 h2; omega
    | succ n2 ih2 =>
      intro k hk_k hn_k hg ls H locs hw hl
      refine lv_iload_n hx hb dX4_isGoal_2 rfl (lv_at hl 2 rfl) ?_
      refine lv_aload_n hx hb dX4_isGoal_3 rfl (lv_at hl 0 rfl) ?_
      refine f_get X hw hT0 fc5 3 (by decide) wq87 rfl (v := .ref (ad (b + 3))) rfl dX4_isGoal_4 ?_
      refine fk_di (fcVe X hw (c_size l g ad M hTe) (fList_obj hTe) rfl wq229 kVJx4a65c_size_8abf5 ⟨(Nat.le_of_ble_eq_true rfl), (Nat.le_of_ble_eq_true rfl)⟩ rfl hl.1 rfl (Nat.le_of_ble_eq_true rfl) dX4_isGoal_7 ⟨Nat.le_refl _, Nat.le_refl _⟩) hw (fun H locs hw => ?_)
      refine lv_icmp_ge (tgt := 39) hx hb dX4_isGoal_10 (by decide) (fun c_1 => ?_) (fun c_1 => ?_)
      · have c_1 := nI_le' (a := (tEn T)) (b := k) c_1 (by omega) (by omega)
        refine lv_iconst (v := 0) hx hb dX4_isGoal_39 (by decide) ?_
        exact f_zret X hw rfl ⟨rfl, rfl, by rw [← (show k = tEn T by omega), hg]; rfl⟩ (Nat.le_refl _) (Nat.le_refl _) dX4_isGoal_40
      · have c_1 := nI_nle' (a := (tEn T)) (b := k) c_1 (by omega) (by omega)
        refine lv_aload_n hx hb dX4_isGoal_13 rfl (lv_at hl 0 rfl) ?_
        refine f_get X hw hT0 fc5 3 (by decide) wq87 rfl (v := .ref (ad (b + 3))) rfl dX4_isGoal_14 ?_
        refine lv_iload_n hx hb dX4_isGoal_17 rfl (lv_at hl 2 rfl) ?_
        refine fk_dr (fcVe X hw (c_get l g ad M hTe (by omega)) (fList_obj hTe) rfl wq234 kVJx4a65c_get_915e3 ⟨(Nat.le_of_ble_eq_true rfl), (Nat.le_of_ble_eq_true rfl)⟩ rfl hl.1 rfl (Nat.le_of_ble_eq_true rfl) dX4_isGoal_18 ⟨Nat.le_refl _, Nat.le_refl _⟩) hw (fun H locs hw => ?_)
        refine f_cast X hw (hEs k (by omega)) fc1 wq281 dX4_isGoal_21 ?_
        refine f_getN X hw (hEs k (by omega)) fc1 6 (by decide) wn529 rfl (v := .int ((tE T k) 6)) rfl dX4_isGoal_24 ?_
        refine lv_iload_n hx hb dX4_isGoal_27 rfl (lv_at hl 1 rfl) ?_
        refine lv_icmp_ne (tgt := 33) hx hb dX4_isGoal_28 (by decide) (fun c_2 => ?_) (fun c_2 => ?_)
        · refine lv_iinc (v := nI (k + 1)) (lv' := [(2, .int (nI (k + 1))), (0, .ref (ad b)), (1, .int p0)]) hx hb dX4_isGoal_33 hl (k := 2) rfl (nI_1 k) (by decide) rfl (fun ls hl => ?_)
          refine lv_goto (tgt := 2) hx hb dX4_isGoal_36 (by decide) ?_
          exact ih2 (k + 1) (by omega) (by omega) (by rw [anyGoal, hg]; simp [c_2]) ls _ _ hw (lv_sub hl [1, 2, 0] rfl)
        · refine lv_iconst (v := 1) hx hb dX4_isGoal_31 (by decide) ?_
          exact f_zret X hw rfl ⟨rfl, rfl, by rw [anyGoal_t (show k < tEn T by omega) c_2]; rfl⟩ (Nat.le_refl _) (Nat.le_refl _) dX4_isGoal_32
  exact loop2 (tEn T + 1) 0 (by omega) (by omega) rfl ls _ _ hw (lv_sub hl [1, 2, 0] rfl)
set_option maxHeartbeats 4000000 in
set_option maxRecDepth 100000 in
theorem c_heatNear (l : Launch) (g : fG) (ad : Nat → Nat) (M : fM) {b : Nat} {T : fTn} (hT : isTown g ad M b T) (p0 : Int32) : fCi l g yX4_heatNear cX4_heatNear 5 ((some .int)) 3 64 0 0 ad M [.ref (ad b), .int p0] (fDi ad M (heatN (tH T) p0 (tHn T))) := by
  refine f_body (own := RX4) (by decide +kernel) rfl (Nat.le_of_ble_eq_true rfl) ?_
  intro p e s m args below meth c ls X hw hin hl
  have hx := X.1
  have hb := X.2.1
  have hl : lv_has ls 5 [(0, .ref (ad b)), (1, .int p0)] := hl
  obtain ⟨hT0, hTh, hTp, hTe, hHs, hPs, hEs, hn1, hn2, hn3, hA⟩ := hT
  refine lv_iconst (v := 0) hx hb dX4_heatNear_0 (by decide) ?_
  refine lv_istore_n (lv' := [(2, .int 0), (0, .ref (ad b)), (1, .int p0)]) hx hb dX4_heatNear_1 rfl hl (by decide) rfl (fun ls hl => ?_)
  refine lv_iconst (v := 0) hx hb dX4_heatNear_2 (by decide) ?_
  refine lv_istore_n (lv' := [(3, .int 0), (2, .int 0), (0, .ref (ad b)), (1, .int p0)]) hx hb dX4_heatNear_3 rfl hl (by decide) rfl (fun ls hl => ?_)
  have loop4 : ∀ (n4 k : Nat), k ≤ tHn T → tHn T < k + n4 → ∀ (ls : Array Slot) (H : Heap) (locs : List Loc), fw g ad M s H locs → lv_has ls 5 [(0, .ref (ad b)), (1, .int p0), (2, .int (heatN (tH T) p0 k)), (3, .int (nI k))] → W p l e (fR 3 64 0 0) s m args below meth c H locs 0 0 (MQ below (fQi g (fDi ad M (heatN (tH T) p0 (tHn T)))) args s 0 0 (fA g)) (F0 m 4 ls []) := by
    intro n4
    induction n4 with
    | zero => intro k h1 h2; omega
    | succ n4 ih4 =>
      intro k hk_k hn_k ls H locs hw hl
      refine lv_iload_n hx hb dX4_heatNear_4 rfl (lv_at hl 3 rfl) ?_
      refine lv_aload_n hx hb dX4_heatNear_5 rfl (lv_at hl 0 rfl) ?_
      refine f_get X hw hT0 fc5 1 (by decide) wq83 rfl (v := .ref (ad (b + 1))) rfl dX4_heatNear_6 ?_
      refine fk_di (fcVe X hw (c_size l g ad M hTh) (fList_obj hTh) rfl wq229 kVJx4a65c_size_8abf5 ⟨(Nat.le_of_ble_eq_true rfl), (Nat.le_of_ble_eq_true rfl)⟩ rfl hl.1 rfl (Nat.le_of_ble_eq_true rfl) dX4_heatNear_9 ⟨Nat.le_refl _, Nat.le_refl _⟩) hw (fun H locs hw => ?_)
      refine lv_icmp_ge (tgt := 63) hx hb dX4_heatNear_12 (by decide) (fun c_1 => ?_) (fun c_1 => ?_)
      · have c_1 := nI_le' (a := (tHn T)) (b := k) c_1 (by omega) (by omega)
        refine lv_iload_n hx hb dX4_heatNear_63 rfl (lv_at hl 2 rfl) ?_
        exact f_iret X hw ⟨rfl, rfl, by rw [show k = tHn T by omega]⟩ (Nat.le_refl _) (Nat.le_refl _) dX4_heatNear_64
      · have c_1 := nI_nle' (a := (tHn T)) (b := k) c_1 (by omega) (by omega)
        refine lv_aload_n hx hb dX4_heatNear_15 rfl (lv_at hl 0 rfl) ?_
        refine f_get X hw hT0 fc5 1 (by decide) wq83 rfl (v := .ref (ad (b + 1))) rfl dX4_heatNear_16 ?_
        refine lv_iload_n hx hb dX4_heatNear_19 rfl (lv_at hl 3 rfl) ?_
        refine fk_dr (fcVe X hw (c_get l g ad M hTh (by omega)) (fList_obj hTh) rfl wq234 kVJx4a65c_get_915e3 ⟨(Nat.le_of_ble_eq_true rfl), (Nat.le_of_ble_eq_true rfl)⟩ rfl hl.1 rfl (Nat.le_of_ble_eq_true rfl) dX4_heatNear_20 ⟨Nat.le_refl _, Nat.le_refl _⟩) hw (fun H locs hw => ?_)
        refine f_cast X hw (hHs k (by omega)) fc3 wq300 dX4_heatNear_23 ?_
        refine lv_astore (lv' := [(4, .ref (ad (b + 100 + k))), (0, .ref (ad b)), (1, .int p0), (2, .int (heatN (tH T) p0 k)), (3, .int (nI k))]) hx hb dX4_heatNear_26 hl (by decide) rfl (fun ls hl => ?_)
        refine lv_aload hx hb dX4_heatNear_28 (lv_at hl 0 rfl) ?_
        refine f_getN X hw (hHs k (by omega)) fc3 3 (by decide) wn408 rfl (v := .int ((tH T k) 3)) rfl dX4_heatNear_30 ?_
        refine lv_iconst (v := 1) hx hb dX4_heatNear_33 (by decide) ?_
        refine lv_icmp_ne (tgt := 57) hx hb dX4_heatNear_34 (by decide) (fun c_2 => ?_) (fun c_2 => ?_)
        · refine lv_iinc (v := nI (k + 1)) (lv' := [(3, .int (nI (k + 1))), (4, .ref (ad (b + 100 + k))), (0, .ref (ad b)), (1, .int p0), (2, .int (heatN (tH T) p0 k))]) hx hb dX4_heatNear_57 hl (k := 4) rfl (nI_1 k) (by decide) rfl (fun ls hl => ?_)
          refine lv_goto (tgt := 4) hx hb dX4_heatNear_60 (by decide) ?_
          exact ih4 (k + 1) (by omega) (by omega) ls _ _ hw (by rw [show (heatN (tH T) p0 (k + 1)) = (heatN (tH T) p0 k) from (by rw [heatN]; simp only [c_1, c_2, if_true, if_false, Bool.false_eq_true])]; exact lv_sub hl [2, 3, 4, 0] rfl)
        · refine lv_aload hx hb dX4_heatNear_37 (lv_at hl 0 rfl) ?_
          refine f_getN X hw (hHs k (by omega)) fc3 0 (by decide) wn402 rfl (v := .int ((tH T k) 0)) rfl dX4_heatNear_39 ?_
          refine lv_iload_n hx hb dX4_heatNear_42 rfl (lv_at hl 2 rfl) ?_
          refine fk_di (fcSN X hw (c_areNear l g ad M (tH T k 0) p0) wn236 kSX5_areNear ⟨(Nat.le_of_ble_eq_true rfl), (Nat.le_of_ble_eq_true rfl)⟩ rfl hl.1 rfl (Nat.le_of_ble_eq_true rfl) dX4_heatNear_43 ⟨Nat.le_refl _, Nat.le_refl _⟩) hw (fun H locs hw => ?_)
          refine lv_if_eq (tgt := 57) hx hb dX4_heatNear_46 (by decide) (fun c_3 => ?_) (fun c_3 => ?_)
          · have c_3 := bI_f.mp c_3
            refine lv_iinc (v := nI (k + 1)) (lv' := [(3, .int (nI (k + 1))), (4, .ref (ad (b + 100 + k))), (0, .ref (ad b)), (1, .int p0), (2, .int (heatN (tH T) p0 k))]) hx hb dX4_heatNear_57 hl (k := 4) rfl (nI_1 k) (by decide) rfl (fun ls hl => ?_)
            refine lv_goto (tgt := 4) hx hb dX4_heatNear_60 (by decide) ?_
            exact ih4 (k + 1) (by omega) (by omega) ls _ _ hw (by rw [show (heatN (tH T) p0 (k + 1)) = (heatN (tH T) p0 k) from (by rw [heatN]; simp only [c_1, c_2, c_3, if_true, if_false, Bool.false_eq_true])]; exact lv_sub hl [2, 3, 4, 0] rfl)
          · have c_3 := bI_nf.mp c_3
            refine lv_iload_n hx hb dX4_heatNear_49 rfl (lv_at hl 3 rfl) ?_
            refine lv_aload hx hb dX4_heatNear_50 (lv_at hl 0 rfl) ?_
            refine f_getN X hw (hHs k (by omega)) fc3 4 (by decide) wn410 rfl (v := .int ((tH T k) 4)) rfl dX4_heatNear_52 ?_
            refine lv_iadd hx hb dX4_heatNear_55 ?_
            refine lv_istore_n (lv' := [(2, .int ((heatN (tH T) p0 k) + ((tH T k) 4))), (4, .ref (ad (b + 100 + k))), (0, .ref (ad b)), (1, .int p0), (3, .int (nI k))]) hx hb dX4_heatNear_56 rfl hl (by decide) rfl (fun ls hl => ?_)
            refine lv_iinc (v := nI (k + 1)) (lv' := [(3, .int (nI (k + 1))), (2, .int ((heatN (tH T) p0 k) + ((tH T k) 4))), (4, .ref (ad (b + 100 + k))), (0, .ref (ad b)), (1, .int p0)]) hx hb dX4_heatNear_57 hl (k := 4) rfl (nI_1 k) (by decide) rfl (fun ls hl => ?_)
            refine lv_goto (tgt := 4) hx hb dX4_heatNear_60 (by decide) ?_
            exact ih4 (k + 1) (by omega) (by omega) ls _ _ hw (by rw [show (heatN (tH T) p0 (k + 1)) = ((heatN (tH T) p0 k) + ((tH T k) 4)) from (by rw [heatN]; simp only [c_1, c_2, c_3, if_true, if_false, Bool.false_eq_true])]; exact lv_sub hl [3, 4, 1, 0] rfl)
  exact loop4 (tHn T + 1) 0 (by omega) (by omega) ls _ _ hw (lv_sub hl [2, 3, 1, 0] rfl)
set_option maxHeartbeats 4000000 in
set_option maxRecDepth 100000 in
theorem c_pondBy (l : Launch) (g : fG) (ad : Nat → Nat) (M : fM) {b : Nat} {T : fTn} (hT : isTown g ad M b T) {le : Nat} {f : Nat → Int32} (hle : M le = some (.inr (1, eV f))) : fCi l g yX4_pondBy cX4_pondBy 3 ((some .int)) 3 64 0 0 ad M [.ref (ad b), .ref (ad le)] (fDi ad M (pondOf T f)) := by
  refine f_body (own := RX4) (by decide +kernel) rfl (Nat.le_of_ble_eq_true rfl) ?_
  intro p e s m args below meth c ls X hw hin hl
  have hx := X.1
  have hb := X.2.1
  have hl : lv_has ls 3 [(0, .ref (ad b)), (1, .ref (ad le))] := hl
  obtain ⟨hT0, hTh, hTp, hTe, hHs, hPs, hEs, hn1, hn2, hn3, hA⟩ := hT
  refine lv_iconst (v := 0) hx hb dX4_pondBy_0 (by decide) ?_
  refine lv_istore_n (lv' := [(2, .int 0), (0, .ref (ad b)), (1, .ref (ad le))]) hx hb dX4_pondBy_1 rfl hl (by decide) rfl (fun ls hl => ?_)
  have loop2 : ∀ (n2 k : Nat), k ≤ tPn T → tPn T < k + n2 → ∀ (hg : ∀ j, j < k → (fun i => aNear (tP T i 0) (f 0)) j = false) (ls : Array Slot) (H : Heap) (locs : List Loc), fw g ad M s H locs → lv_has ls 3 [(0, .ref (ad b)), (1, .ref (ad le)), (2, .int (nI k))] → W p l e (fR 3 64 0 0) s m args below meth c H locs 0 0 (MQ below (fQi g (fDi ad M (pondOf T f))) args s 0 0 (fA g)) (F0 m 2 ls []) := by
    intro n2
    induction n2 with
    | zero => intro k h1 h2; omega
    | succ n2 ih2 =>
      intro k hk_k hn_k hg ls H locs hw hl
      refine lv_iload_n hx hb dX4_pondBy_2 rfl (lv_at hl 2 rfl) ?_
      refine lv_aload_n hx hb dX4_pondBy_3 rfl (lv_at hl 0 rfl) ?_
      refine f_get X hw hT0 fc5 2 (by decide) wq85 rfl (v := .ref (ad (b + 2))) rfl dX4_pondBy_4 ?_
      refine fk_di (fcVe X hw (c_size l g ad M hTp) (fList_obj hTp) rfl wq229 kVJx4a65c_size_8abf5 ⟨(Nat.le_of_ble_eq_true rfl), (Nat.le_of_ble_eq_true rfl)⟩ rfl hl.1 rfl (Nat.le_of_ble_eq_true rfl) dX4_pondBy_7 ⟨Nat.le_refl _, Nat.le_refl _⟩) hw (fun H locs hw => ?_)
      refine lv_icmp_ge (tgt := 52) hx hb dX4_pondBy_10 (by decide) (fun c_1 => ?_) (fun c_1 => ?_)
      · have c_1 := nI_le' (a := (tPn T)) (b := k) c_1 (by omega) (by omega)
        refine lv_iconst (v := (-1)) hx hb dX4_pondBy_52 (by decide) ?_
        exact f_iret X hw ⟨rfl, rfl, by unfold pondOf; split; exact jFirst_none (by rw [← (show k = tPn T by omega)]; exact hg); rfl⟩ (Nat.le_refl _) (Nat.le_refl _) dX4_pondBy_53
      · have c_1 := nI_nle' (a := (tPn T)) (b := k) c_1 (by omega) (by omega)
        refine lv_aload_n hx hb dX4_pondBy_13 rfl (lv_at hl 1 rfl) ?_
        refine fk_di (fcV X hw (c_X0_stands l g ad M hle) hle rfl wq230 kVX0_stands ⟨(Nat.le_of_ble_eq_true rfl), (Nat.le_of_ble_eq_true rfl)⟩ rfl hl.1 rfl (Nat.le_of_ble_eq_true rfl) dX4_pondBy_14 ⟨Nat.le_refl _, Nat.le_refl _⟩) hw (fun H locs hw => ?_)
        refine lv_if_eq (tgt := 52) hx hb dX4_pondBy_17 (by decide) (fun c_2 => ?_) (fun c_2 => ?_)
        · have c_2 := bI_f.mp c_2
          refine lv_iconst (v := (-1)) hx hb dX4_pondBy_52 (by decide) ?_
          exact f_iret X hw ⟨rfl, rfl, by unfold pondOf; rw [c_2]; rfl⟩ (Nat.le_refl _) (Nat.le_refl _) dX4_pondBy_53
        · have c_2 := bI_nf.mp c_2
          refine lv_aload_n hx hb dX4_pondBy_20 rfl (lv_at hl 0 rfl) ?_
          refine f_get X hw hT0 fc5 2 (by decide) wq85 rfl (v := .ref (ad (b + 2))) rfl dX4_pondBy_21 ?_
          refine lv_iload_n hx hb dX4_pondBy_24 rfl (lv_at hl 2 rfl) ?_
          refine fk_dr (fcVe X hw (c_get l g ad M hTp (by omega)) (fList_obj hTp) rfl wq234 kVJx4a65c_get_915e3 ⟨(Nat.le_of_ble_eq_true rfl), (Nat.le_of_ble_eq_true rfl)⟩ rfl hl.1 rfl (Nat.le_of_ble_eq_true rfl) dX4_pondBy_25 ⟨Nat.le_refl _, Nat.le_refl _⟩) hw (fun H locs hw => ?_)
          refine f_cast X hw (hPs k (by omega)) fc4 wq235 dX4_pondBy_28 ?_
          refine f_getN X hw (hPs k (by omega)) fc4 0 (by decide) wn495 rfl (v := .int ((tP T k) 0)) rfl dX4_pondBy_31 ?_
          refine lv_aload_n hx hb dX4_pondBy_34 rfl (lv_at hl 1 rfl) ?_
          refine f_getN X hw hle fc1 0 (by decide) wn514 rfl (v := .int (f 0)) rfl dX4_pondBy_35 ?_
          refine fk_di (fcSN X hw (c_areNear l g ad M (tP T k 0) (f 0)) wn236 kSX5_areNear ⟨(Nat.le_of_ble_eq_true rfl), (Nat.le_of_ble_eq_true rfl)⟩ rfl hl.1 rfl (Nat.le_of_ble_eq_true rfl) dX4_pondBy_38 ⟨Nat.le_refl _, Nat.le_refl _⟩) hw (fun H locs hw => ?_)
          refine lv_if_eq (tgt := 46) hx hb dX4_pondBy_41 (by decide) (fun c_3 => ?_) (fun c_3 => ?_)
          · have c_3 := bI_f.mp c_3
            refine lv_iinc (v := nI (k + 1)) (lv' := [(2, .int (nI (k + 1))), (0, .ref (ad b)), (1, .ref (ad le))]) hx hb dX4_pondBy_46 hl (k := 2) rfl (nI_1 k) (by decide) rfl (fun ls hl => ?_)
            refine lv_goto (tgt := 2) hx hb dX4_pondBy_49 (by decide) ?_
            exact ih2 (k + 1) (by omega) (by omega) (f_lts hg c_3) ls _ _ hw (lv_sub hl [1, 2, 0] rfl)
          · have c_3 := bI_nf.mp c_3
            refine lv_iload_n hx hb dX4_pondBy_44 rfl (lv_at hl 2 rfl) ?_
            exact f_iret X hw ⟨rfl, rfl, by unfold pondOf; rw [if_pos c_2]; exact jFirst_at (by omega) c_3 hg⟩ (Nat.le_refl _) (Nat.le_refl _) dX4_pondBy_45
  exact loop2 (tPn T + 1) 0 (by omega) (by omega) (fun j h => absurd h (Nat.not_lt_zero _)) ls _ _ hw (lv_sub hl [1, 2, 0] rfl)
set_option maxHeartbeats 4000000 in
set_option maxRecDepth 100000 in
theorem c_isEngine (l : Launch) (g : fG) (ad : Nat → Nat) (M : fM) {b : Nat} {T : fTn} (hT : isTown g ad M b T) (x : Int32) : fCi l g yX4_isEngine cX4_isEngine 2 ((some .boolean)) 1 20 0 0 ad M [.ref (ad b), .int x] (fDi ad M (bI (isIx (tEn T) x))) := by
  refine f_body (own := RX4) (by decide +kernel) rfl (Nat.le_of_ble_eq_true rfl) ?_
  intro p e s m args below meth c ls X hw hin hl
  have hx := X.1
  have hb := X.2.1
  have hl : lv_has ls 2 [(0, .ref (ad b)), (1, .int x)] := hl
  obtain ⟨hT0, hTh, hTp, hTe, hHs, hPs, hEs, hn1, hn2, hn3, hA⟩ := hT
  refine lv_iload_n hx hb dX4_isEngine_0 rfl (lv_at hl 1 rfl) ?_
  refine lv_if_lt (tgt := 19) hx hb dX4_isEngine_1 (by decide) (fun c_1 => ?_) (fun c_1 => ?_)
  · refine lv_iconst (v := 0) hx hb dX4_isEngine_19 (by decide) ?_
    exact f_zret X hw rfl ⟨rfl, rfl, by simp [isIx, bI, c_1]⟩ (Nat.le_refl _) (Nat.le_refl _) dX4_isEngine_20
  · refine lv_iload_n hx hb dX4_isEngine_4 rfl (lv_at hl 1 rfl) ?_
    refine lv_aload_n hx hb dX4_isEngine_5 rfl (lv_at hl 0 rfl) ?_
    refine f_get X hw hT0 fc5 3 (by decide) wq87 rfl (v := .ref (ad (b + 3))) rfl dX4_isEngine_6 ?_
    refine fk_di (fcVe X hw (c_size l g ad M hTe) (fList_obj hTe) rfl wq229 kVJx4a65c_size_8abf5 ⟨(Nat.le_of_ble_eq_true rfl), (Nat.le_of_ble_eq_true rfl)⟩ rfl hl.1 rfl (Nat.le_of_ble_eq_true rfl) dX4_isEngine_9 ⟨Nat.le_refl _, Nat.le_refl _⟩) hw (fun H locs hw => ?_)
    refine lv_icmp_ge (tgt := 19) hx hb dX4_isEngine_12 (by decide) (fun c_2 => ?_) (fun c_2 => ?_)
    · refine lv_iconst (v := 0) hx hb dX4_isEngine_19 (by decide) ?_
      exact f_zret X hw rfl ⟨rfl, rfl, by simp [isIx, bI, c_1, c_2]⟩ (Nat.le_refl _) (Nat.le_refl _) dX4_isEngine_20
    · refine lv_iconst (v := 1) hx hb dX4_isEngine_15 (by decide) ?_
      refine lv_goto (tgt := 20) hx hb dX4_isEngine_16 (by decide) ?_
      exact f_zret X hw rfl ⟨rfl, rfl, by simp [isIx, bI, c_1, c_2]⟩ (Nat.le_refl _) (Nat.le_refl _) dX4_isEngine_20
set_option maxHeartbeats 4000000 in
set_option maxRecDepth 100000 in
theorem c_isHouse (l : Launch) (g : fG) (ad : Nat → Nat) (M : fM) {b : Nat} {T : fTn} (hT : isTown g ad M b T) (x : Int32) : fCi l g yX4_isHouse cX4_isHouse 2 ((some .boolean)) 1 20 0 0 ad M [.ref (ad b), .int x] (fDi ad M (bI (isIx (tHn T) x))) := by
  refine f_body (own := RX4) (by decide +kernel) rfl (Nat.le_of_ble_eq_true rfl) ?_
  intro p e s m args below meth c ls X hw hin hl
  have hx := X.1
  have hb := X.2.1
  have hl : lv_has ls 2 [(0, .ref (ad b)), (1, .int x)] := hl
  obtain ⟨hT0, hTh, hTp, hTe, hHs, hPs, hEs, hn1, hn2, hn3, hA⟩ := hT
  refine lv_iload_n hx hb dX4_isHouse_0 rfl (lv_at hl 1 rfl) ?_
  refine lv_if_lt (tgt := 19) hx hb dX4_isHouse_1 (by decide) (fun c_1 => ?_) (fun c_1 => ?_)
  · refine lv_iconst (v := 0) hx hb dX4_isHouse_19 (by decide) ?_
    exact f_zret X hw rfl ⟨rfl, rfl, by simp [isIx, bI, c_1]⟩ (Nat.le_refl _) (Nat.le_refl _) dX4_isHouse_20
  · refine lv_iload_n hx hb dX4_isHouse_4 rfl (lv_at hl 1 rfl) ?_
    refine lv_aload_n hx hb dX4_isHouse_5 rfl (lv_at hl 0 rfl) ?_
    refine f_get X hw hT0 fc5 1 (by decide) wq83 rfl (v := .ref (ad (b + 1))) rfl dX4_isHouse_6 ?_
    refine fk_di (fcVe X hw (c_size l g ad M hTh) (fList_obj hTh) rfl wq229 kVJx4a65c_size_8abf5 ⟨(Nat.le_of_ble_eq_true rfl), (Nat.le_of_ble_eq_true rfl)⟩ rfl hl.1 rfl (Nat.le_of_ble_eq_true rfl) dX4_isHouse_9 ⟨Nat.le_refl _, Nat.le_refl _⟩) hw (fun H locs hw => ?_)
    refine lv_icmp_ge (tgt := 19) hx hb dX4_isHouse_12 (by decide) (fun c_2 => ?_) (fun c_2 => ?_)
    · refine lv_iconst (v := 0) hx hb dX4_isHouse_19 (by decide) ?_
      exact f_zret X hw rfl ⟨rfl, rfl, by simp [isIx, bI, c_1, c_2]⟩ (Nat.le_refl _) (Nat.le_refl _) dX4_isHouse_20
    · refine lv_iconst (v := 1) hx hb dX4_isHouse_15 (by decide) ?_
      refine lv_goto (tgt := 20) hx hb dX4_isHouse_16 (by decide) ?_
      exact f_zret X hw rfl ⟨rfl, rfl, by simp [isIx, bI, c_1, c_2]⟩ (Nat.le_refl _) (Nat.le_refl _) dX4_isHouse_20
/- hosesLead below -/
set_option maxHeartbeats 4000000 in
set_option maxRecDepth 100000 in
theorem c_hosesLead (l : Launch) (g : fG) (ad : Nat → Nat) (M : fM) {b : Nat} {T : fTn} (hT : isTown g ad M b T) (p0 p1 : Int32) : fCi l g yX4_hosesLead cX4_hosesLead 5 ((some .boolean)) 3 64 0 0 ad M [.ref (ad b), .int p0, .int p1] (fDi ad M (bI (leadsN T p1 7 p0))) := by
  refine f_body (own := RX4) (by decide +kernel) rfl (Nat.le_of_ble_eq_true rfl) ?_
  intro p e s m args below meth c ls X hw hin hl
  have hx := X.1
  have hb := X.2.1
  have hl : lv_has ls 5 [(0, .ref (ad b)), (1, .int p0), (2, .int p1)] := hl
  obtain ⟨hT0, hTh, hTp, hTe, hHs, hPs, hEs, hn1, hn2, hn3, hA⟩ := hT
  refine lv_iload_n hx hb dX4_hosesLead_0 rfl (lv_at hl 1 rfl) ?_
  refine lv_istore_n (lv' := [(3, .int p0), (0, .ref (ad b)), (1, .int p0), (2, .int p1)]) hx hb dX4_hosesLead_1 rfl hl (by decide) rfl (fun ls hl => ?_)
  refine lv_iconst (v := 0) hx hb dX4_hosesLead_2 (by decide) ?_
  refine lv_istore (lv' := [(4, .int 0), (3, .int p0), (0, .ref (ad b)), (1, .int p0), (2, .int p1)]) hx hb dX4_hosesLead_3 hl (by decide) rfl (fun ls hl => ?_)
  have loop5 : ∀ (n5 k : Nat), k ≤ 7 → 7 < k + n5 → ∀ (a : Int32) (hg : leadsN T p1 (7 - k) a = leadsN T p1 7 p0) (ls : Array Slot) (H : Heap) (locs : List Loc), fw g ad M s H locs → lv_has ls 5 [(0, .ref (ad b)), (1, .int p0), (2, .int p1), (3, .int a), (4, .int (nI k))] → W p l e (fR 3 64 0 0) s m args below meth c H locs 0 0 (MQ below (fQi g (fDi ad M (bI (leadsN T p1 7 p0)))) args s 0 0 (fA g)) (F0 m 5 ls []) := by
    intro n5
    induction n5 with
    | zero => intro k h1 h2; omega
    | succ n5 ih5 =>
      intro k hk_k hn_k a hg ls H locs hw hl
      refine lv_iload hx hb dX4_hosesLead_5 (lv_at hl 4 rfl) ?_
      refine lv_bipush (v := 6) hx hb dX4_hosesLead_7 (by decide) ?_
      refine lv_icmp_gt (tgt := 48) hx hb dX4_hosesLead_9 (by decide) (fun c_1 => ?_) (fun c_1 => ?_)
      · have c_1 := nI_lt' (a := 6) (b := k) c_1 (by omega) (by omega)
        refine lv_iconst (v := 0) hx hb dX4_hosesLead_48 (by decide) ?_
        exact f_zret X hw rfl ⟨rfl, rfl, by rw [← hg, show 7 - k = 0 by omega]; rfl⟩ (Nat.le_refl _) (Nat.le_refl _) dX4_hosesLead_49
      · have c_1 := nI_nlt' (a := 6) (b := k) c_1 (by omega) (by omega)
        refine lv_aload_n hx hb dX4_hosesLead_12 rfl (lv_at hl 0 rfl) ?_
        refine lv_iload_n hx hb dX4_hosesLead_13 rfl (lv_at hl 3 rfl) ?_
        refine fk_di (fcV X hw (c_isEngine l g ad M ⟨hT0, hTh, hTp, hTe, hHs, hPs, hEs, hn1, hn2, hn3, hA⟩ a) hT0 rfl wq309 kVX4_isEngine ⟨(Nat.le_of_ble_eq_true rfl), (Nat.le_of_ble_eq_true rfl)⟩ rfl hl.1 rfl (Nat.le_of_ble_eq_true rfl) dX4_hosesLead_14 ⟨Nat.le_refl _, Nat.le_refl _⟩) hw (fun H locs hw => ?_)
        refine lv_if_eq (tgt := 48) hx hb dX4_hosesLead_17 (by decide) (fun c_2 => ?_) (fun c_2 => ?_)
        · have c_2 := bI_f.mp c_2
          refine lv_iconst (v := 0) hx hb dX4_hosesLead_48 (by decide) ?_
          exact f_zret X hw rfl ⟨rfl, rfl, by rw [← hg, show 7 - k = (7 - (k + 1)) + 1 by omega, leadsN, c_2]; rfl⟩ (Nat.le_refl _) (Nat.le_refl _) dX4_hosesLead_49
        · have c_2 := bI_nf.mp c_2
          obtain ⟨j, hj, rfl⟩ := isIx_t c_2 (by omega)
          refine lv_iload_n hx hb dX4_hosesLead_20 rfl (lv_at hl 3 rfl) ?_
          refine lv_iload_n hx hb dX4_hosesLead_21 rfl (lv_at hl 2 rfl) ?_
          refine lv_icmp_ne (tgt := 27) hx hb dX4_hosesLead_22 (by decide) (fun c_3 => ?_) (fun c_3 => ?_)
          · refine lv_aload_n hx hb dX4_hosesLead_27 rfl (lv_at hl 0 rfl) ?_
            refine f_get X hw hT0 fc5 3 (by decide) wq87 rfl (v := .ref (ad (b + 3))) rfl dX4_hosesLead_28 ?_
            refine lv_iload_n hx hb dX4_hosesLead_31 rfl (lv_at hl 3 rfl) ?_
            refine fk_dr (fcVe X hw (c_get l g ad M hTe (by omega)) (fList_obj hTe) rfl wq234 kVJx4a65c_get_915e3 ⟨(Nat.le_of_ble_eq_true rfl), (Nat.le_of_ble_eq_true rfl)⟩ rfl hl.1 rfl (Nat.le_of_ble_eq_true rfl) dX4_hosesLead_32 ⟨Nat.le_refl _, Nat.le_refl _⟩) hw (fun H locs hw => ?_)
            refine f_cast X hw (hEs j (by omega)) fc1 wq281 dX4_hosesLead_35 ?_
            refine f_getN X hw (hEs j (by omega)) fc1 7 (by decide) wn531 rfl (v := .int ((tE T j) 7)) rfl dX4_hosesLead_38 ?_
            refine lv_istore_n (lv' := [(3, .int ((tE T j) 7)), (0, .ref (ad b)), (1, .int p0), (2, .int p1), (4, .int (nI k))]) hx hb dX4_hosesLead_41 rfl hl (by decide) rfl (fun ls hl => ?_)
            refine lv_iinc (v := nI (k + 1)) (lv' := [(4, .int (nI (k + 1))), (3, .int ((tE T j) 7)), (0, .ref (ad b)), (1, .int p0), (2, .int p1)]) hx hb dX4_hosesLead_42 hl (k := 4) rfl (nI_1 k) (by decide) rfl (fun ls hl => ?_)
            refine lv_goto (tgt := 5) hx hb dX4_hosesLead_45 (by decide) ?_
            refine ih5 (k + 1) (by omega) (by omega) (tE T j 7) ?_ ls _ _ hw (lv_sub hl [2, 3, 4, 1, 0] rfl)
            rw [← hg, show 7 - k = (7 - (k + 1)) + 1 by omega, leadsN, isIx_nI hj (by omega), nI_clamp (show j < 2 ^ 31 by omega)]
            simp [c_3]
          · refine lv_iconst (v := 1) hx hb dX4_hosesLead_25 (by decide) ?_
            exact f_zret X hw rfl ⟨rfl, rfl, by rw [← hg, show 7 - k = (7 - (k + 1)) + 1 by omega, leadsN, isIx_nI hj (by omega)]; simp [c_3, bI]⟩ (Nat.le_refl _) (Nat.le_refl _) dX4_hosesLead_26
  exact loop5 8 0 (by omega) (by omega) p0 rfl ls _ _ hw (lv_sub hl [2, 3, 4, 1, 0] rfl)
set_option maxHeartbeats 4000000 in
set_option maxRecDepth 100000 in
theorem c_waitsForWater (l : Launch) (g : fG) (ad : Nat → Nat) (M : fM) {b : Nat} {T : fTn} (hT : isTown g ad M b T) (p0 : Int32) : fCi l g yX4_waitsForWater cX4_waitsForWater 4 ((some .boolean)) 3 64 0 0 ad M [.ref (ad b), .int p0] (fDi ad M (bI (waits (tE T) p0 (tEn T)))) := by
  refine f_body (own := RX4) (by decide +kernel) rfl (Nat.le_of_ble_eq_true rfl) ?_
  intro p e s m args below meth c ls X hw hin hl
  have hx := X.1
  have hb := X.2.1
  have hl : lv_has ls 4 [(0, .ref (ad b)), (1, .int p0)] := hl
  obtain ⟨hT0, hTh, hTp, hTe, hHs, hPs, hEs, hn1, hn2, hn3, hA⟩ := hT
  refine lv_iconst (v := 0) hx hb dX4_waitsForWater_0 (by decide) ?_
  refine lv_istore_n (lv' := [(2, .int 0), (0, .ref (ad b)), (1, .int p0)]) hx hb dX4_waitsForWater_1 rfl hl (by decide) rfl (fun ls hl => ?_)
  have loop2 : ∀ (n2 k : Nat), k ≤ tEn T → tEn T < k + n2 → ∀ (hg : waits (tE T) p0 k = false) (ls : Array Slot) (H : Heap) (locs : List Loc), fw g ad M s H locs → lv_has ls 4 [(0, .ref (ad b)), (1, .int p0), (2, .int (nI k))] → W p l e (fR 3 64 0 0) s m args below meth c H locs 0 0 (MQ below (fQi g (fDi ad M (bI (waits (tE T) p0 (tEn T))))) args s 0 0 (fA g)) (F0 m 2 ls []) := by
    intro n2
    induction n2 with
    | zero => intro k h1 h2; omega
    | succ n2 ih2 =>
      intro k hk_k hn_k hg ls H locs hw hl
      refine lv_iload_n hx hb dX4_waitsForWater_2 rfl (lv_at hl 2 rfl) ?_
      refine lv_aload_n hx hb dX4_waitsForWater_3 rfl (lv_at hl 0 rfl) ?_
      refine f_get X hw hT0 fc5 3 (by decide) wq87 rfl (v := .ref (ad (b + 3))) rfl dX4_waitsForWater_4 ?_
      refine fk_di (fcVe X hw (c_size l g ad M hTe) (fList_obj hTe) rfl wq229 kVJx4a65c_size_8abf5 ⟨(Nat.le_of_ble_eq_true rfl), (Nat.le_of_ble_eq_true rfl)⟩ rfl hl.1 rfl (Nat.le_of_ble_eq_true rfl) dX4_waitsForWater_7 ⟨Nat.le_refl _, Nat.le_refl _⟩) hw (fun H locs hw => ?_)
      refine lv_icmp_ge (tgt := 48) hx hb dX4_waitsForWater_10 (by decide) (fun c_1 => ?_) (fun c_1 => ?_)
      · have c_1 := nI_le' (a := (tEn T)) (b := k) c_1 (by omega) (by omega)
        refine lv_iconst (v := 0) hx hb dX4_waitsForWater_48 (by decide) ?_
        exact f_zret X hw rfl ⟨rfl, rfl, by rw [← (show k = tEn T by omega), hg]; rfl⟩ (Nat.le_refl _) (Nat.le_refl _) dX4_waitsForWater_49
      · have c_1 := nI_nle' (a := (tEn T)) (b := k) c_1 (by omega) (by omega)
        refine lv_aload_n hx hb dX4_waitsForWater_13 rfl (lv_at hl 0 rfl) ?_
        refine f_get X hw hT0 fc5 3 (by decide) wq87 rfl (v := .ref (ad (b + 3))) rfl dX4_waitsForWater_14 ?_
        refine lv_iload_n hx hb dX4_waitsForWater_17 rfl (lv_at hl 2 rfl) ?_
        refine fk_dr (fcVe X hw (c_get l g ad M hTe (by omega)) (fList_obj hTe) rfl wq234 kVJx4a65c_get_915e3 ⟨(Nat.le_of_ble_eq_true rfl), (Nat.le_of_ble_eq_true rfl)⟩ rfl hl.1 rfl (Nat.le_of_ble_eq_true rfl) dX4_waitsForWater_18 ⟨Nat.le_refl _, Nat.le_refl _⟩) hw (fun H locs hw => ?_)
        refine f_cast X hw (hEs k (by omega)) fc1 wq281 dX4_waitsForWater_21 ?_
        refine lv_astore_n (lv' := [(3, .ref (ad (b + 300 + k))), (0, .ref (ad b)), (1, .int p0), (2, .int (nI k))]) hx hb dX4_waitsForWater_24 rfl hl (by decide) rfl (fun ls hl => ?_)
        refine lv_aload_n hx hb dX4_waitsForWater_25 rfl (lv_at hl 0 rfl) ?_
        refine f_getN X hw (hEs k (by omega)) fc1 10 (by decide) wn538 rfl (v := .int ((tE T k) 10)) rfl dX4_waitsForWater_26 ?_
        refine lv_if_ne (tgt := 42) hx hb dX4_waitsForWater_29 (by decide) (fun c_2 => ?_) (fun c_2 => ?_)
        · refine lv_iinc (v := nI (k + 1)) (lv' := [(2, .int (nI (k + 1))), (3, .ref (ad (b + 300 + k))), (0, .ref (ad b)), (1, .int p0)]) hx hb dX4_waitsForWater_42 hl (k := 3) rfl (nI_1 k) (by decide) rfl (fun ls hl => ?_)
          refine lv_goto (tgt := 2) hx hb dX4_waitsForWater_45 (by decide) ?_
          exact ih2 (k + 1) (by omega) (by omega) (by rw [waits, hg]; simp [c_2]) ls _ _ hw (lv_sub hl [2, 3, 0] rfl)
        · refine lv_aload_n hx hb dX4_waitsForWater_32 rfl (lv_at hl 0 rfl) ?_
          refine f_getN X hw (hEs k (by omega)) fc1 7 (by decide) wn531 rfl (v := .int ((tE T k) 7)) rfl dX4_waitsForWater_33 ?_
          refine lv_iload_n hx hb dX4_waitsForWater_36 rfl (lv_at hl 2 rfl) ?_
          refine lv_icmp_ne (tgt := 42) hx hb dX4_waitsForWater_37 (by decide) (fun c_3 => ?_) (fun c_3 => ?_)
          · refine lv_iinc (v := nI (k + 1)) (lv' := [(2, .int (nI (k + 1))), (3, .ref (ad (b + 300 + k))), (0, .ref (ad b)), (1, .int p0)]) hx hb dX4_waitsForWater_42 hl (k := 3) rfl (nI_1 k) (by decide) rfl (fun ls hl => ?_)
            refine lv_goto (tgt := 2) hx hb dX4_waitsForWater_45 (by decide) ?_
            exact ih2 (k + 1) (by omega) (by omega) (by rw [waits, hg]; simp [c_3]) ls _ _ hw (lv_sub hl [2, 3, 0] rfl)
          · refine lv_iconst (v := 1) hx hb dX4_waitsForWater_40 (by decide) ?_
            exact f_zret X hw rfl ⟨rfl, rfl, by rw [waits_t (show k < tEn T by omega) c_2 c_3]; rfl⟩ (Nat.le_refl _) (Nat.le_refl _) dX4_waitsForWater_41
  exact loop2 (tEn T + 1) 0 (by omega) (by omega) rfl ls _ _ hw (lv_sub hl [1, 2, 0] rfl)
set_option maxHeartbeats 4000000 in
set_option maxRecDepth 100000 in
theorem c_nextToAsk (l : Launch) (g : fG) (ad : Nat → Nat) (M : fM) {b : Nat} {T : fTn} (hT : isTown g ad M b T) : fCi l g yX4_nextToAsk cX4_nextToAsk 2 ((some .int)) 4 87 0 0 ad M [.ref (ad b)] (fDi ad M (nextE T)) := by
  refine f_body (own := RX4) (by decide +kernel) rfl (Nat.le_of_ble_eq_true rfl) ?_
  intro p e s m args below meth c ls X hw hin hl
  have hx := X.1
  have hb := X.2.1
  have hl : lv_has ls 2 [(0, .ref (ad b))] := hl
  obtain ⟨hT0, hTh, hTp, hTe, hHs, hPs, hEs, hn1, hn2, hn3, hA⟩ := hT
  refine lv_iconst (v := 0) hx hb dX4_nextToAsk_0 (by decide) ?_
  refine lv_istore_n (lv' := [(1, .int 0), (0, .ref (ad b))]) hx hb dX4_nextToAsk_1 rfl hl (by decide) rfl (fun ls hl => ?_)
  have loop2 : ∀ (n2 k : Nat), k ≤ tEn T → tEn T < k + n2 → ∀ (hg : ∀ j, j < k → (fun i => decide (tE T i 10 = 0) && !(waits (tE T) (nI i) (tEn T))) j = false) (ls : Array Slot) (H : Heap) (locs : List Loc), fw g ad M s H locs → lv_has ls 2 [(0, .ref (ad b)), (1, .int (nI k))] → W p l e (fR 4 87 0 0) s m args below meth c H locs 0 0 (MQ below (fQi g (fDi ad M (nextE T))) args s 0 0 (fA g)) (F0 m 2 ls []) := by
    intro n2
    induction n2 with
    | zero => intro k h1 h2; omega
    | succ n2 ih2 =>
      intro k hk_k hn_k hg ls H locs hw hl
      refine lv_iload_n hx hb dX4_nextToAsk_2 rfl (lv_at hl 1 rfl) ?_
      refine lv_aload_n hx hb dX4_nextToAsk_3 rfl (lv_at hl 0 rfl) ?_
      refine f_get X hw hT0 fc5 3 (by decide) wq87 rfl (v := .ref (ad (b + 3))) rfl dX4_nextToAsk_4 ?_
      refine fk_di (fcVe X hw (c_size l g ad M hTe) (fList_obj hTe) rfl wq229 kVJx4a65c_size_8abf5 ⟨(Nat.le_of_ble_eq_true rfl), (Nat.le_of_ble_eq_true rfl)⟩ rfl hl.1 rfl (Nat.le_of_ble_eq_true rfl) dX4_nextToAsk_7 ⟨Nat.le_refl _, Nat.le_refl _⟩) hw (fun H locs hw => ?_)
      refine lv_icmp_ge (tgt := 46) hx hb dX4_nextToAsk_10 (by decide) (fun c_1 => ?_) (fun c_1 => ?_)
      · have c_1 := nI_le' (a := (tEn T)) (b := k) c_1 (by omega) (by omega)
        refine lv_iconst (v := (-1)) hx hb dX4_nextToAsk_46 (by decide) ?_
        exact f_iret X hw ⟨rfl, rfl, jFirst_none (fun j hj => hg j (by omega))⟩ (Nat.le_refl _) (Nat.le_refl _) dX4_nextToAsk_47
      · have c_1 := nI_nle' (a := (tEn T)) (b := k) c_1 (by omega) (by omega)
        refine lv_aload_n hx hb dX4_nextToAsk_13 rfl (lv_at hl 0 rfl) ?_
        refine f_get X hw hT0 fc5 3 (by decide) wq87 rfl (v := .ref (ad (b + 3))) rfl dX4_nextToAsk_14 ?_
        refine lv_iload_n hx hb dX4_nextToAsk_17 rfl (lv_at hl 1 rfl) ?_
        refine fk_dr (fcVe X hw (c_get l g ad M hTe (by omega)) (fList_obj hTe) rfl wq234 kVJx4a65c_get_915e3 ⟨(Nat.le_of_ble_eq_true rfl), (Nat.le_of_ble_eq_true rfl)⟩ rfl hl.1 rfl (Nat.le_of_ble_eq_true rfl) dX4_nextToAsk_18 ⟨Nat.le_refl _, Nat.le_refl _⟩) hw (fun H locs hw => ?_)
        refine f_cast X hw (hEs k (by omega)) fc1 wq281 dX4_nextToAsk_21 ?_
        refine f_getN X hw (hEs k (by omega)) fc1 10 (by decide) wn538 rfl (v := .int ((tE T k) 10)) rfl dX4_nextToAsk_24 ?_
        refine lv_if_ne (tgt := 40) hx hb dX4_nextToAsk_27 (by decide) (fun c_2 => ?_) (fun c_2 => ?_)
        · refine lv_iinc (v := nI (k + 1)) (lv' := [(1, .int (nI (k + 1))), (0, .ref (ad b))]) hx hb dX4_nextToAsk_40 hl (k := 1) rfl (nI_1 k) (by decide) rfl (fun ls hl => ?_)
          refine lv_goto (tgt := 2) hx hb dX4_nextToAsk_43 (by decide) ?_
          exact ih2 (k + 1) (by omega) (by omega) (f_lts hg (by simp [c_2])) ls _ _ hw (lv_sub hl [1, 0] rfl)
        · refine lv_aload_n hx hb dX4_nextToAsk_30 rfl (lv_at hl 0 rfl) ?_
          refine lv_iload_n hx hb dX4_nextToAsk_31 rfl (lv_at hl 1 rfl) ?_
          refine fk_di (fcV X hw (c_waitsForWater l g ad M ⟨hT0, hTh, hTp, hTe, hHs, hPs, hEs, hn1, hn2, hn3, hA⟩ (nI k)) hT0 rfl wq305 kVX4_waitsForWater ⟨(Nat.le_of_ble_eq_true rfl), (Nat.le_of_ble_eq_true rfl)⟩ rfl hl.1 rfl (Nat.le_of_ble_eq_true rfl) dX4_nextToAsk_32 ⟨Nat.le_refl _, Nat.le_refl _⟩) hw (fun H locs hw => ?_)
          refine lv_if_ne (tgt := 40) hx hb dX4_nextToAsk_35 (by decide) (fun c_3 => ?_) (fun c_3 => ?_)
          · have c_3 := bI_nf.mp c_3
            refine lv_iinc (v := nI (k + 1)) (lv' := [(1, .int (nI (k + 1))), (0, .ref (ad b))]) hx hb dX4_nextToAsk_40 hl (k := 1) rfl (nI_1 k) (by decide) rfl (fun ls hl => ?_)
            refine lv_goto (tgt := 2) hx hb dX4_nextToAsk_43 (by decide) ?_
            exact ih2 (k + 1) (by omega) (by omega) (f_lts hg (by simp [c_3])) ls _ _ hw (lv_sub hl [1, 0] rfl)
          · have c_3 := bI_f.mp c_3
            refine lv_iload_n hx hb dX4_nextToAsk_38 rfl (lv_at hl 1 rfl) ?_
            exact f_iret X hw ⟨rfl, rfl, jFirst_at (show k < tEn T by omega) (by simp [c_2, c_3]) hg⟩ (Nat.le_refl _) (Nat.le_refl _) dX4_nextToAsk_39
  exact loop2 (tEn T + 1) 0 (by omega) (by omega) (fun j h => absurd h (Nat.not_lt_zero _)) ls _ _ hw (lv_sub hl [1, 0] rfl)
set_option maxHeartbeats 4000000 in
set_option maxRecDepth 100000 in
theorem c_tell (l : Launch) (g : fG) (ad : Nat → Nat) (M : fM) {b : Nat} {T : fTn} (hT : isTown g ad M b T) (p0 : Int32) : fCi l g yX4_tell cX4_tell 2 ((some .int)) 4 87 0 0 ad M [.ref (ad b), .int p0] (fDi ad M (tTell T p0)) := by
  refine f_body (own := RX4) (by decide +kernel) rfl (Nat.le_of_ble_eq_true rfl) ?_
  intro p e s m args below meth c ls X hw hin hl
  have hx := X.1
  have hb := X.2.1
  have hl : lv_has ls 2 [(0, .ref (ad b)), (1, .int p0)] := hl
  obtain ⟨hT0, hTh, hTp, hTe, hHs, hPs, hEs, hn1, hn2, hn3, hA⟩ := hT
  refine lv_iload_n hx hb dX4_tell_0 rfl (lv_at hl 1 rfl) ?_
  by_cases k_1 : p0 = 0
  · refine lv_tableIn (off := 51) (tgt := 52) hx hb dX4_tell_1 (by rw [k_1]; decide) (by rw [k_1]; decide) (by rw [k_1]; rfl) (by decide) ?_
    refine lv_aload_n hx hb dX4_tell_52 rfl (lv_at hl 0 rfl) ?_
    refine f_get X hw hT0 fc5 0 (by decide) wq82 rfl (v := .int (tM T)) rfl dX4_tell_53 ?_
    exact f_iret X hw ⟨rfl, rfl, by rw [k_1]; rfl⟩ (Nat.le_refl _) (Nat.le_refl _) dX4_tell_56
  by_cases k_2 : p0 = 1
  · refine lv_tableIn (off := 56) (tgt := 57) hx hb dX4_tell_1 (by rw [k_2]; decide) (by rw [k_2]; decide) (by rw [k_2]; rfl) (by decide) ?_
    refine lv_aload_n hx hb dX4_tell_57 rfl (lv_at hl 0 rfl) ?_
    refine f_get X hw hT0 fc5 1 (by decide) wq83 rfl (v := .ref (ad (b + 1))) rfl dX4_tell_58 ?_
    refine fk_di (fcVe X hw (c_size l g ad M hTh) (fList_obj hTh) rfl wq229 kVJx4a65c_size_8abf5 ⟨(Nat.le_of_ble_eq_true rfl), (Nat.le_of_ble_eq_true rfl)⟩ rfl hl.1 rfl (Nat.le_of_ble_eq_true rfl) dX4_tell_61 ⟨Nat.le_refl _, Nat.le_refl _⟩) hw (fun H locs hw => ?_)
    exact f_iret X hw ⟨rfl, rfl, by rw [k_2]; rfl⟩ (Nat.le_refl _) (Nat.le_refl _) dX4_tell_64
  by_cases k_3 : p0 = 2
  · refine lv_tableIn (off := 64) (tgt := 65) hx hb dX4_tell_1 (by rw [k_3]; decide) (by rw [k_3]; decide) (by rw [k_3]; rfl) (by decide) ?_
    refine lv_aload_n hx hb dX4_tell_65 rfl (lv_at hl 0 rfl) ?_
    refine lv_iconst (v := 1) hx hb dX4_tell_66 (by decide) ?_
    refine fk_di (fcV X hw (c_housesThatAre l g ad M ⟨hT0, hTh, hTp, hTe, hHs, hPs, hEs, hn1, hn2, hn3, hA⟩ 1) hT0 rfl wq376 kVX4_housesThatAre ⟨(Nat.le_of_ble_eq_true rfl), (Nat.le_of_ble_eq_true rfl)⟩ rfl hl.1 rfl (Nat.le_of_ble_eq_true rfl) dX4_tell_67 ⟨Nat.le_refl _, Nat.le_refl _⟩) hw (fun H locs hw => ?_)
    exact f_iret X hw ⟨rfl, rfl, by rw [k_3]; rfl⟩ (Nat.le_refl _) (Nat.le_refl _) dX4_tell_70
  by_cases k_4 : p0 = 3
  · refine lv_tableIn (off := 70) (tgt := 71) hx hb dX4_tell_1 (by rw [k_4]; decide) (by rw [k_4]; decide) (by rw [k_4]; rfl) (by decide) ?_
    refine lv_aload_n hx hb dX4_tell_71 rfl (lv_at hl 0 rfl) ?_
    refine lv_iconst (v := 2) hx hb dX4_tell_72 (by decide) ?_
    refine fk_di (fcV X hw (c_housesThatAre l g ad M ⟨hT0, hTh, hTp, hTe, hHs, hPs, hEs, hn1, hn2, hn3, hA⟩ 2) hT0 rfl wq376 kVX4_housesThatAre ⟨(Nat.le_of_ble_eq_true rfl), (Nat.le_of_ble_eq_true rfl)⟩ rfl hl.1 rfl (Nat.le_of_ble_eq_true rfl) dX4_tell_73 ⟨Nat.le_refl _, Nat.le_refl _⟩) hw (fun H locs hw => ?_)
    exact f_iret X hw ⟨rfl, rfl, by rw [k_4]; rfl⟩ (Nat.le_refl _) (Nat.le_refl _) dX4_tell_76
  by_cases k_5 : p0 = 4
  · refine lv_tableIn (off := 76) (tgt := 77) hx hb dX4_tell_1 (by rw [k_5]; decide) (by rw [k_5]; decide) (by rw [k_5]; rfl) (by decide) ?_
    refine lv_aload_n hx hb dX4_tell_77 rfl (lv_at hl 0 rfl) ?_
    refine lv_iconst (v := 3) hx hb dX4_tell_78 (by decide) ?_
    refine fk_di (fcV X hw (c_housesThatAre l g ad M ⟨hT0, hTh, hTp, hTe, hHs, hPs, hEs, hn1, hn2, hn3, hA⟩ 3) hT0 rfl wq376 kVX4_housesThatAre ⟨(Nat.le_of_ble_eq_true rfl), (Nat.le_of_ble_eq_true rfl)⟩ rfl hl.1 rfl (Nat.le_of_ble_eq_true rfl) dX4_tell_79 ⟨Nat.le_refl _, Nat.le_refl _⟩) hw (fun H locs hw => ?_)
    exact f_iret X hw ⟨rfl, rfl, by rw [k_5]; rfl⟩ (Nat.le_refl _) (Nat.le_refl _) dX4_tell_82
  by_cases k_6 : p0 = 5
  · refine lv_tableIn (off := 82) (tgt := 83) hx hb dX4_tell_1 (by rw [k_6]; decide) (by rw [k_6]; decide) (by rw [k_6]; rfl) (by decide) ?_
    refine lv_aload_n hx hb dX4_tell_83 rfl (lv_at hl 0 rfl) ?_
    refine f_get X hw hT0 fc5 2 (by decide) wq85 rfl (v := .ref (ad (b + 2))) rfl dX4_tell_84 ?_
    refine fk_di (fcVe X hw (c_size l g ad M hTp) (fList_obj hTp) rfl wq229 kVJx4a65c_size_8abf5 ⟨(Nat.le_of_ble_eq_true rfl), (Nat.le_of_ble_eq_true rfl)⟩ rfl hl.1 rfl (Nat.le_of_ble_eq_true rfl) dX4_tell_87 ⟨Nat.le_refl _, Nat.le_refl _⟩) hw (fun H locs hw => ?_)
    exact f_iret X hw ⟨rfl, rfl, by rw [k_6]; rfl⟩ (Nat.le_refl _) (Nat.le_refl _) dX4_tell_90
  by_cases k_7 : p0 = 6
  · refine lv_tableIn (off := 90) (tgt := 91) hx hb dX4_tell_1 (by rw [k_7]; decide) (by rw [k_7]; decide) (by rw [k_7]; rfl) (by decide) ?_
    refine lv_aload_n hx hb dX4_tell_91 rfl (lv_at hl 0 rfl) ?_
    refine f_get X hw hT0 fc5 3 (by decide) wq87 rfl (v := .ref (ad (b + 3))) rfl dX4_tell_92 ?_
    refine fk_di (fcVe X hw (c_size l g ad M hTe) (fList_obj hTe) rfl wq229 kVJx4a65c_size_8abf5 ⟨(Nat.le_of_ble_eq_true rfl), (Nat.le_of_ble_eq_true rfl)⟩ rfl hl.1 rfl (Nat.le_of_ble_eq_true rfl) dX4_tell_95 ⟨Nat.le_refl _, Nat.le_refl _⟩) hw (fun H locs hw => ?_)
    exact f_iret X hw ⟨rfl, rfl, by rw [k_7]; rfl⟩ (Nat.le_refl _) (Nat.le_refl _) dX4_tell_98
  by_cases k_8 : p0 = 7
  · refine lv_tableIn (off := 98) (tgt := 99) hx hb dX4_tell_1 (by rw [k_8]; decide) (by rw [k_8]; decide) (by rw [k_8]; rfl) (by decide) ?_
    refine lv_aload_n hx hb dX4_tell_99 rfl (lv_at hl 0 rfl) ?_
    refine fk_di (fcV X hw (c_waterOfPonds l g ad M ⟨hT0, hTh, hTp, hTe, hHs, hPs, hEs, hn1, hn2, hn3, hA⟩) hT0 rfl wq380 kVX4_waterOfPonds ⟨(Nat.le_of_ble_eq_true rfl), (Nat.le_of_ble_eq_true rfl)⟩ rfl hl.1 rfl (Nat.le_of_ble_eq_true rfl) dX4_tell_100 ⟨Nat.le_refl _, Nat.le_refl _⟩) hw (fun H locs hw => ?_)
    exact f_iret X hw ⟨rfl, rfl, by rw [k_8]; rfl⟩ (Nat.le_refl _) (Nat.le_refl _) dX4_tell_103
  by_cases k_9 : p0 = 8
  · refine lv_tableIn (off := 103) (tgt := 104) hx hb dX4_tell_1 (by rw [k_9]; decide) (by rw [k_9]; decide) (by rw [k_9]; rfl) (by decide) ?_
    refine lv_aload_n hx hb dX4_tell_104 rfl (lv_at hl 0 rfl) ?_
    refine lv_iconst (v := 4) hx hb dX4_tell_105 (by decide) ?_
    refine fk_di (fcV X hw (c_sumOverHouses l g ad M ⟨hT0, hTh, hTp, hTe, hHs, hPs, hEs, hn1, hn2, hn3, hA⟩ 4) hT0 rfl wq384 kVX4_sumOverHouses ⟨(Nat.le_of_ble_eq_true rfl), (Nat.le_of_ble_eq_true rfl)⟩ rfl hl.1 rfl (Nat.le_of_ble_eq_true rfl) dX4_tell_106 ⟨Nat.le_refl _, Nat.le_refl _⟩) hw (fun H locs hw => ?_)
    exact f_iret X hw ⟨rfl, rfl, by rw [k_9]; rfl⟩ (Nat.le_refl _) (Nat.le_refl _) dX4_tell_109
  refine lv_tableOut (tgt := 110) hx hb dX4_tell_1 (f_tout (lo := 0) (hi := 8) (by intro k a b; rcases (show k = 0 ∨ k = 1 ∨ k = 2 ∨ k = 3 ∨ k = 4 ∨ k = 5 ∨ k = 6 ∨ k = 7 ∨ k = 8 by omega) with rfl | rfl | rfl | rfl | rfl | rfl | rfl | rfl | rfl <;> assumption)) (by decide) ?_
  refine lv_aload_n hx hb dX4_tell_110 rfl (lv_at hl 0 rfl) ?_
  refine lv_bipush (v := 6) hx hb dX4_tell_111 (by decide) ?_
  refine fk_di (fcV X hw (c_sumOverHouses l g ad M ⟨hT0, hTh, hTp, hTe, hHs, hPs, hEs, hn1, hn2, hn3, hA⟩ 6) hT0 rfl wq384 kVX4_sumOverHouses ⟨(Nat.le_of_ble_eq_true rfl), (Nat.le_of_ble_eq_true rfl)⟩ rfl hl.1 rfl (Nat.le_of_ble_eq_true rfl) dX4_tell_113 ⟨Nat.le_refl _, Nat.le_refl _⟩) hw (fun H locs hw => ?_)
  exact f_iret X hw ⟨rfl, rfl, by simp only [tTell, k_1, k_2, k_3, k_4, k_5, k_6, k_7, k_8, k_9, if_false]⟩ (Nat.le_refl _) (Nat.le_refl _) dX4_tell_116
set_option maxHeartbeats 4000000 in
set_option maxRecDepth 100000 in
theorem c_tellEngine (l : Launch) (g : fG) (ad : Nat → Nat) (M : fM) {b : Nat} {T : fTn} (hT : isTown g ad M b T) {le : Nat} {f : Nat → Int32} (hle : M le = some (.inr (1, eV f))) (p0 : Int32) : fCi l g yX4_tellEngine cX4_tellEngine 3 ((some .int)) 4 87 0 0 ad M [.ref (ad b), .ref (ad le), .int p0] (fDi ad M (eTell T f p0)) := by
  refine f_body (own := RX4) (by decide +kernel) rfl (Nat.le_of_ble_eq_true rfl) ?_
  intro p e s m args below meth c ls X hw hin hl
  have hx := X.1
  have hb := X.2.1
  have hl : lv_has ls 3 [(0, .ref (ad b)), (1, .ref (ad le)), (2, .int p0)] := hl
  obtain ⟨hT0, hTh, hTp, hTe, hHs, hPs, hEs, hn1, hn2, hn3, hA⟩ := hT
  refine lv_iload_n hx hb dX4_tellEngine_0 rfl (lv_at hl 2 rfl) ?_
  by_cases k_1 : p0 = 0
  · refine lv_tableIn (off := 51) (tgt := 52) hx hb dX4_tellEngine_1 (by rw [k_1]; decide) (by rw [k_1]; decide) (by rw [k_1]; rfl) (by decide) ?_
    refine lv_aload_n hx hb dX4_tellEngine_52 rfl (lv_at hl 1 rfl) ?_
    refine f_getN X hw hle fc1 0 (by decide) wn514 rfl (v := .int (f 0)) rfl dX4_tellEngine_53 ?_
    exact f_iret X hw ⟨rfl, rfl, by rw [k_1]; rfl⟩ (Nat.le_refl _) (Nat.le_refl _) dX4_tellEngine_56
  by_cases k_2 : p0 = 1
  · refine lv_tableIn (off := 56) (tgt := 57) hx hb dX4_tellEngine_1 (by rw [k_2]; decide) (by rw [k_2]; decide) (by rw [k_2]; rfl) (by decide) ?_
    refine lv_aload_n hx hb dX4_tellEngine_57 rfl (lv_at hl 1 rfl) ?_
    refine f_getN X hw hle fc1 1 (by decide) wn517 rfl (v := .int (f 1)) rfl dX4_tellEngine_58 ?_
    exact f_iret X hw ⟨rfl, rfl, by rw [k_2]; rfl⟩ (Nat.le_refl _) (Nat.le_refl _) dX4_tellEngine_61
  by_cases k_3 : p0 = 2
  · refine lv_tableIn (off := 61) (tgt := 62) hx hb dX4_tellEngine_1 (by rw [k_3]; decide) (by rw [k_3]; decide) (by rw [k_3]; rfl) (by decide) ?_
    refine lv_aload_n hx hb dX4_tellEngine_62 rfl (lv_at hl 1 rfl) ?_
    refine f_getN X hw hle fc1 2 (by decide) wn519 rfl (v := .int (f 2)) rfl dX4_tellEngine_63 ?_
    exact f_iret X hw ⟨rfl, rfl, by rw [k_3]; rfl⟩ (Nat.le_refl _) (Nat.le_refl _) dX4_tellEngine_66
  by_cases k_4 : p0 = 3
  · refine lv_tableIn (off := 66) (tgt := 67) hx hb dX4_tellEngine_1 (by rw [k_4]; decide) (by rw [k_4]; decide) (by rw [k_4]; rfl) (by decide) ?_
    refine lv_aload_n hx hb dX4_tellEngine_67 rfl (lv_at hl 1 rfl) ?_
    refine f_getN X hw hle fc1 3 (by decide) wn521 rfl (v := .int (f 3)) rfl dX4_tellEngine_68 ?_
    exact f_iret X hw ⟨rfl, rfl, by rw [k_4]; rfl⟩ (Nat.le_refl _) (Nat.le_refl _) dX4_tellEngine_71
  by_cases k_5 : p0 = 4
  · refine lv_tableIn (off := 71) (tgt := 72) hx hb dX4_tellEngine_1 (by rw [k_5]; decide) (by rw [k_5]; decide) (by rw [k_5]; rfl) (by decide) ?_
    refine lv_aload_n hx hb dX4_tellEngine_72 rfl (lv_at hl 1 rfl) ?_
    refine f_getN X hw hle fc1 4 (by decide) wn524 rfl (v := .int (f 4)) rfl dX4_tellEngine_73 ?_
    exact f_iret X hw ⟨rfl, rfl, by rw [k_5]; rfl⟩ (Nat.le_refl _) (Nat.le_refl _) dX4_tellEngine_76
  by_cases k_6 : p0 = 5
  · refine lv_tableIn (off := 76) (tgt := 77) hx hb dX4_tellEngine_1 (by rw [k_6]; decide) (by rw [k_6]; decide) (by rw [k_6]; rfl) (by decide) ?_
    refine lv_aload_n hx hb dX4_tellEngine_77 rfl (lv_at hl 1 rfl) ?_
    refine f_getN X hw hle fc1 5 (by decide) wn526 rfl (v := .int (f 5)) rfl dX4_tellEngine_78 ?_
    exact f_iret X hw ⟨rfl, rfl, by rw [k_6]; rfl⟩ (Nat.le_refl _) (Nat.le_refl _) dX4_tellEngine_81
  by_cases k_7 : p0 = 6
  · refine lv_tableIn (off := 81) (tgt := 82) hx hb dX4_tellEngine_1 (by rw [k_7]; decide) (by rw [k_7]; decide) (by rw [k_7]; rfl) (by decide) ?_
    refine lv_aload_n hx hb dX4_tellEngine_82 rfl (lv_at hl 1 rfl) ?_
    refine f_getN X hw hle fc1 7 (by decide) wn531 rfl (v := .int (f 7)) rfl dX4_tellEngine_83 ?_
    exact f_iret X hw ⟨rfl, rfl, by rw [k_7]; rfl⟩ (Nat.le_refl _) (Nat.le_refl _) dX4_tellEngine_86
  by_cases k_8 : p0 = 7
  · refine lv_tableIn (off := 86) (tgt := 87) hx hb dX4_tellEngine_1 (by rw [k_8]; decide) (by rw [k_8]; decide) (by rw [k_8]; rfl) (by decide) ?_
    refine lv_aload_n hx hb dX4_tellEngine_87 rfl (lv_at hl 0 rfl) ?_
    refine lv_aload_n hx hb dX4_tellEngine_88 rfl (lv_at hl 1 rfl) ?_
    refine fk_di (fcV X hw (c_pondBy l g ad M ⟨hT0, hTh, hTp, hTe, hHs, hPs, hEs, hn1, hn2, hn3, hA⟩ hle) hT0 rfl wq225 kVX4_pondBy ⟨(Nat.le_of_ble_eq_true rfl), (Nat.le_of_ble_eq_true rfl)⟩ rfl hl.1 rfl (Nat.le_of_ble_eq_true rfl) dX4_tellEngine_89 ⟨Nat.le_refl _, Nat.le_refl _⟩) hw (fun H locs hw => ?_)
    exact f_iret X hw ⟨rfl, rfl, by rw [k_8]; rfl⟩ (Nat.le_refl _) (Nat.le_refl _) dX4_tellEngine_92
  by_cases k_9 : p0 = 8
  · refine lv_tableIn (off := 92) (tgt := 93) hx hb dX4_tellEngine_1 (by rw [k_9]; decide) (by rw [k_9]; decide) (by rw [k_9]; rfl) (by decide) ?_
    refine lv_aload_n hx hb dX4_tellEngine_93 rfl (lv_at hl 1 rfl) ?_
    refine f_getN X hw hle fc1 9 (by decide) wn536 rfl (v := .int (f 9)) rfl dX4_tellEngine_94 ?_
    exact f_iret X hw ⟨rfl, rfl, by rw [k_9]; rfl⟩ (Nat.le_refl _) (Nat.le_refl _) dX4_tellEngine_97
  refine lv_tableOut (tgt := 98) hx hb dX4_tellEngine_1 (f_tout (lo := 0) (hi := 8) (by intro k a b; rcases (show k = 0 ∨ k = 1 ∨ k = 2 ∨ k = 3 ∨ k = 4 ∨ k = 5 ∨ k = 6 ∨ k = 7 ∨ k = 8 by omega) with rfl | rfl | rfl | rfl | rfl | rfl | rfl | rfl | rfl <;> assumption)) (by decide) ?_
  refine lv_aload_n hx hb dX4_tellEngine_98 rfl (lv_at hl 1 rfl) ?_
  refine fk_di (fcV X hw (c_X0_canPump l g ad M hle) hle rfl wq239 kVX0_canPump ⟨(Nat.le_of_ble_eq_true rfl), (Nat.le_of_ble_eq_true rfl)⟩ rfl hl.1 rfl (Nat.le_of_ble_eq_true rfl) dX4_tellEngine_99 ⟨Nat.le_refl _, Nat.le_refl _⟩) hw (fun H locs hw => ?_)
  exact f_iret X hw ⟨rfl, rfl, by simp only [eTell, k_1, k_2, k_3, k_4, k_5, k_6, k_7, k_8, k_9, if_false]⟩ (Nat.le_refl _) (Nat.le_refl _) dX4_tellEngine_102
