set_option maxHeartbeats 4000000 in
set_option maxRecDepth 100000 in
theorem c_send (l : Launch) (g : fG) (ad : Nat → Nat) (M : fM) {b : Nat} {T : fTn} (hT : isTown g ad M b T) {e0 : Nat} (he : e0 < tEn T) : fCv l g yX4_sendThroughHose cX4_sendThroughHose 4 4 87 0 0 ad M [.ref (ad b), .ref (ad (b + 300 + e0))] (fTw g ad M b (sendT T e0)) := by
  refine f_body (own := RX4) (by decide +kernel) rfl (Nat.le_of_ble_eq_true rfl) ?_
  intro p e s m args below meth c ls X hw hin hl
  have hx := X.1
  have hb := X.2.1
  have hl : lv_has ls 4 [(0, .ref (ad b)), (1, .ref (ad (b + 300 + e0)))] := hl
  obtain ⟨hT0, hTh, hTp, hTe, hHs, hPs, hEs, hn1, hn2, hn3, hA⟩ := id hT
  have hle := hEs e0 he
  refine lv_aload_n hx hb dX4_sendThroughHose_0 rfl (lv_at hl 1 rfl) ?_
  refine f_getN X hw hle fc1 7 (by decide) wn531 rfl (v := .int ((tE T e0) 7)) rfl dX4_sendThroughHose_1 ?_
  refine lv_bipush (v := 100) hx hb dX4_sendThroughHose_4 (by decide) ?_
  refine lv_isub hx hb dX4_sendThroughHose_6 ?_
  refine lv_istore_n (lv' := [(2, .int (((tE T e0) 7) - 100)), (0, .ref (ad b)), (1, .ref (ad (b + 300 + e0)))]) hx hb dX4_sendThroughHose_7 rfl hl (by decide) rfl (fun ls hl => ?_)
  refine lv_aload_n hx hb dX4_sendThroughHose_8 rfl (lv_at hl 1 rfl) ?_
  refine lv_aload_n hx hb dX4_sendThroughHose_9 rfl (lv_at hl 2 rfl) ?_
  refine f_getN X hw hle fc1 7 (by decide) wn531 rfl (v := .int ((tE T e0) 7)) rfl dX4_sendThroughHose_10 ?_
  refine fk_di (fcV X hw (c_isEngine l g ad M ⟨hT0, hTh, hTp, hTe, hHs, hPs, hEs, hn1, hn2, hn3, hA⟩ (tE T e0 7)) hT0 rfl wq309 kVX4_isEngine ⟨(Nat.le_of_ble_eq_true rfl), (Nat.le_of_ble_eq_true rfl)⟩ rfl hl.1 rfl (Nat.le_of_ble_eq_true rfl) dX4_sendThroughHose_13 ⟨Nat.le_refl _, Nat.le_refl _⟩) hw (fun H locs hw => ?_)
  refine lv_if_eq (tgt := 64) hx hb dX4_sendThroughHose_16 (by decide) (fun c_1 => ?_) (fun c_1 => ?_)
  · have c_1 := bI_f.mp c_1
    refine lv_aload_n hx hb dX4_sendThroughHose_64 rfl (lv_at hl 1 rfl) ?_
    refine lv_iload_n hx hb dX4_sendThroughHose_65 rfl (lv_at hl 0 rfl) ?_
    refine fk_di (fcV X hw (c_isHouse l g ad M ⟨hT0, hTh, hTp, hTe, hHs, hPs, hEs, hn1, hn2, hn3, hA⟩ (tE T e0 7 - 100)) hT0 rfl wq337 kVX4_isHouse ⟨(Nat.le_of_ble_eq_true rfl), (Nat.le_of_ble_eq_true rfl)⟩ rfl hl.1 rfl (Nat.le_of_ble_eq_true rfl) dX4_sendThroughHose_66 ⟨Nat.le_refl _, Nat.le_refl _⟩) hw (fun H locs hw => ?_)
    refine lv_if_eq (tgt := 106) hx hb dX4_sendThroughHose_69 (by decide) (fun c_2 => ?_) (fun c_2 => ?_)
    · have c_2 := bI_f.mp c_2
      exact f_vret X hw ⟨rfl, by unfold sendT; rw [if_neg (by rw [c_1]; exact Bool.false_ne_true), if_neg (by rw [c_2]; exact Bool.false_ne_true)]; exact hT, fOut_rf⟩ (Nat.le_refl _) (Nat.le_refl _) dX4_sendThroughHose_106
    · have c_2 := bI_nf.mp c_2
      obtain ⟨j, hj, ej⟩ := isIx_t c_2 (by omega)
      refine lv_aload_n hx hb dX4_sendThroughHose_72 rfl (lv_at hl 1 rfl) ?_
      refine f_get X hw hT0 fc5 1 (by decide) wq83 rfl (v := .ref (ad (b + 1))) rfl dX4_sendThroughHose_73 ?_
      refine lv_iload_n hx hb dX4_sendThroughHose_76 rfl (lv_at hl 0 rfl) ?_
      rw [ej]
      refine fk_dr (fcVe X hw (c_get l g ad M hTh (by omega)) (fList_obj hTh) rfl wq234 kVJx4a65c_get_915e3 ⟨(Nat.le_of_ble_eq_true rfl), (Nat.le_of_ble_eq_true rfl)⟩ rfl hl.1 rfl (Nat.le_of_ble_eq_true rfl) dX4_sendThroughHose_77 ⟨Nat.le_refl _, Nat.le_refl _⟩) hw (fun H locs hw => ?_)
      refine f_cast X hw (hHs j (by omega)) fc3 wq300 dX4_sendThroughHose_80 ?_
      refine lv_astore_n (lv' := [(3, .ref (ad (b + 100 + j))), (2, .int (((tE T e0) 7) - 100)), (0, .ref (ad b)), (1, .ref (ad (b + 300 + e0)))]) hx hb dX4_sendThroughHose_83 rfl hl (by decide) rfl (fun ls hl => ?_)
      refine lv_aload_n hx hb dX4_sendThroughHose_84 rfl (lv_at hl 0 rfl) ?_
      refine lv_aload_n hx hb dX4_sendThroughHose_85 rfl (lv_at hl 3 rfl) ?_
      refine f_getN X hw hle fc1 9 (by decide) wn536 rfl (v := .int ((tE T e0) 9)) rfl dX4_sendThroughHose_86 ?_
      refine lv_aload_n hx hb dX4_sendThroughHose_89 rfl (lv_at hl 3 rfl) ?_
      refine f_getN X hw hle fc1 0 (by decide) wn514 rfl (v := .int ((tE T e0) 0)) rfl dX4_sendThroughHose_90 ?_
      refine lv_aload_n hx hb dX4_sendThroughHose_93 rfl (lv_at hl 0 rfl) ?_
      refine f_getN X hw (hHs j (by omega)) fc3 0 (by decide) wn402 rfl (v := .int ((tH T j) 0)) rfl dX4_sendThroughHose_94 ?_
      refine fk_di (fcSN X hw (c_distance l g ad M (tE T e0 0) (tH T j 0)) wn328 kSX5_distance ⟨(Nat.le_of_ble_eq_true rfl), (Nat.le_of_ble_eq_true rfl)⟩ rfl hl.1 rfl (Nat.le_of_ble_eq_true rfl) dX4_sendThroughHose_97 ⟨Nat.le_refl _, Nat.le_refl _⟩) hw (fun H locs hw => ?_)
      refine fk_di (fcS X hw (c_arriving l g ad M (tE T e0 9) (aDist (tE T e0 0) (tH T j 0))) wq334 kSX4_arriving ⟨(Nat.le_of_ble_eq_true rfl), (Nat.le_of_ble_eq_true rfl)⟩ rfl hl.1 rfl (Nat.le_of_ble_eq_true rfl) dX4_sendThroughHose_100 ⟨Nat.le_refl _, Nat.le_refl _⟩) hw (fun H locs hw => ?_)
      refine fk_dv (fcV X hw (c_X2_takeWater l g ad M (hHs j (by omega)) (arrivesI (tE T e0 9) (aDist (tE T e0 0) (tH T j 0)))) (hHs j (by omega)) rfl wq341 kVX2_takeWater ⟨(Nat.le_of_ble_eq_true rfl), (Nat.le_of_ble_eq_true rfl)⟩ rfl hl.1 rfl (Nat.le_of_ble_eq_true rfl) dX4_sendThroughHose_103 ⟨Nat.le_refl _, Nat.le_refl _⟩) hw (fun H locs hw => ?_)
      have hw : fw g ad (fU M (b + 100 + j) (.inr (3, hV (upd (upd (tH T j) 5 (tH T j 5 + arrivesI (tE T e0 9) (aDist (tE T e0 0) (tH T j 0)))) 6 (tH T j 6 + arrivesI (tE T e0 9) (aDist (tE T e0 0) (tH T j 0))))))) s H locs := hw
      have hM_b___100___j : (fU M (b + 100 + j) (.inr (3, hV (upd (upd (tH T j) 5 (tH T j 5 + arrivesI (tE T e0 9) (aDist (tE T e0 0) (tH T j 0)))) 6 (tH T j 6 + arrivesI (tE T e0 9) (aDist (tE T e0 0) (tH T j 0))))))) (b + 100 + j) = some (.inr (3, hV (upd (upd (tH T j) 5 (tH T j 5 + arrivesI (tE T e0 9) (aDist (tE T e0 0) (tH T j 0)))) 6 (tH T j 6 + arrivesI (tE T e0 9) (aDist (tE T e0 0) (tH T j 0)))))) := fU_s
      exact f_vret X hw ⟨rfl, by unfold sendT; rw [if_neg (by rw [c_1]; exact Bool.false_ne_true), if_pos c_2, ej, nI_clamp (show j < 2 ^ 31 by omega)]; exact isTown_setH hT hj, fOut_U fOut_rf (by omega)⟩ (Nat.le_refl _) (Nat.le_refl _) dX4_sendThroughHose_106
  · have c_1 := bI_nf.mp c_1
    obtain ⟨j, hj, ej⟩ := isIx_t c_1 (by omega)
    refine lv_aload_n hx hb dX4_sendThroughHose_19 rfl (lv_at hl 1 rfl) ?_
    refine f_get X hw hT0 fc5 3 (by decide) wq87 rfl (v := .ref (ad (b + 3))) rfl dX4_sendThroughHose_20 ?_
    refine lv_aload_n hx hb dX4_sendThroughHose_23 rfl (lv_at hl 2 rfl) ?_
    refine f_getN X hw hle fc1 7 (by decide) wn531 rfl (v := .int ((tE T e0) 7)) rfl dX4_sendThroughHose_24 ?_
    rw [ej]
    refine fk_dr (fcVe X hw (c_get l g ad M hTe (by omega)) (fList_obj hTe) rfl wq234 kVJx4a65c_get_915e3 ⟨(Nat.le_of_ble_eq_true rfl), (Nat.le_of_ble_eq_true rfl)⟩ rfl hl.1 rfl (Nat.le_of_ble_eq_true rfl) dX4_sendThroughHose_27 ⟨Nat.le_refl _, Nat.le_refl _⟩) hw (fun H locs hw => ?_)
    refine f_cast X hw (hEs j (by omega)) fc1 wq281 dX4_sendThroughHose_30 ?_
    refine lv_astore_n (lv' := [(3, .ref (ad (b + 300 + j))), (2, .int (((tE T e0) 7) - 100)), (0, .ref (ad b)), (1, .ref (ad (b + 300 + e0)))]) hx hb dX4_sendThroughHose_33 rfl hl (by decide) rfl (fun ls hl => ?_)
    refine lv_aload_n hx hb dX4_sendThroughHose_34 rfl (lv_at hl 0 rfl) ?_
    refine lv_dup hx hb dX4_sendThroughHose_35 rfl ?_
    refine f_getN X hw (hEs j (by omega)) fc1 8 (by decide) wn534 rfl (v := .int ((tE T j) 8)) rfl dX4_sendThroughHose_36 ?_
    refine lv_aload_n hx hb dX4_sendThroughHose_39 rfl (lv_at hl 3 rfl) ?_
    refine f_getN X hw hle fc1 9 (by decide) wn536 rfl (v := .int ((tE T e0) 9)) rfl dX4_sendThroughHose_40 ?_
    refine lv_aload_n hx hb dX4_sendThroughHose_43 rfl (lv_at hl 3 rfl) ?_
    refine f_getN X hw hle fc1 0 (by decide) wn514 rfl (v := .int ((tE T e0) 0)) rfl dX4_sendThroughHose_44 ?_
    refine lv_aload_n hx hb dX4_sendThroughHose_47 rfl (lv_at hl 0 rfl) ?_
    refine f_getN X hw (hEs j (by omega)) fc1 0 (by decide) wn514 rfl (v := .int ((tE T j) 0)) rfl dX4_sendThroughHose_48 ?_
    refine fk_di (fcSN X hw (c_distance l g ad M (tE T e0 0) (tE T j 0)) wn328 kSX5_distance ⟨(Nat.le_of_ble_eq_true rfl), (Nat.le_of_ble_eq_true rfl)⟩ rfl hl.1 rfl (Nat.le_of_ble_eq_true rfl) dX4_sendThroughHose_51 ⟨Nat.le_refl _, Nat.le_refl _⟩) hw (fun H locs hw => ?_)
    refine fk_di (fcS X hw (c_arriving l g ad M (tE T e0 9) (aDist (tE T e0 0) (tE T j 0))) wq334 kSX4_arriving ⟨(Nat.le_of_ble_eq_true rfl), (Nat.le_of_ble_eq_true rfl)⟩ rfl hl.1 rfl (Nat.le_of_ble_eq_true rfl) dX4_sendThroughHose_54 ⟨Nat.le_refl _, Nat.le_refl _⟩) hw (fun H locs hw => ?_)
    refine lv_iadd hx hb dX4_sendThroughHose_57 ?_
    refine f_putN X hw (hEs j (by omega)) fc1 8 (by decide) wn534 rfl rfl (v := .int (((tE T j) 8) + (arrivesI (tE T e0 9) (aDist (tE T e0 0) (tE T j 0))))) rfl rfl (Nat.le_of_ble_eq_true rfl) dX4_sendThroughHose_58 (fun H locs hw => ?_)
    have hw : fw g ad (fU M (b + 300 + j) (.inr (1, eV (upd (tE T j) 8 (((tE T j) 8) + (arrivesI (tE T e0 9) (aDist (tE T e0 0) (tE T j 0)))))))) s H locs := hw
    have hM_b___300___j : (fU M (b + 300 + j) (.inr (1, eV (upd (tE T j) 8 (((tE T j) 8) + (arrivesI (tE T e0 9) (aDist (tE T e0 0) (tE T j 0)))))))) (b + 300 + j) = some (.inr (1, eV (upd (tE T j) 8 (((tE T j) 8) + (arrivesI (tE T e0 9) (aDist (tE T e0 0) (tE T j 0))))))) := fU_s
    refine lv_goto (tgt := 106) hx hb dX4_sendThroughHose_61 (by decide) ?_
    exact f_vret X hw ⟨rfl, by unfold sendT; rw [if_pos c_1, ej, nI_clamp (show j < 2 ^ 31 by omega)]; exact isTown_setE hT hj (hA j hj), fOut_U fOut_rf (by omega)⟩ (Nat.le_refl _) (Nat.le_refl _) dX4_sendThroughHose_106
set_option maxHeartbeats 4000000 in
set_option maxRecDepth 100000 in
theorem c_moveWater (l : Launch) (g : fG) (ad : Nat → Nat) (M : fM) {b : Nat} {T : fTn} (hT : isTown g ad M b T) : fCv l g yX4_moveWater cX4_moveWater 4 5 111 0 0 ad M [.ref (ad b)] (fTw g ad M b (moveT T)) := by
  refine f_body (own := RX4) (by decide +kernel) rfl (Nat.le_of_ble_eq_true rfl) ?_
  intro p e s m args below meth c ls X hw hin hl
  have hx := X.1
  have hb := X.2.1
  have hl : lv_has ls 4 [(0, .ref (ad b))] := hl
  obtain ⟨hT0, hTh, hTp, hTe, hHs, hPs, hEs, hn1, hn2, hn3, hA⟩ := id hT
  refine lv_iconst (v := 0) hx hb dX4_moveWater_0 (by decide) ?_
  refine lv_istore_n (lv' := [(1, .int 0), (0, .ref (ad b))]) hx hb dX4_moveWater_1 rfl hl (by decide) rfl (fun ls hl => ?_)
  have loop2 : ∀ (n2 k : Nat), k ≤ tHn T → tHn T < k + n2 → ∀ (M2 : fM) (hT : isTown g ad M2 b (mH hReset k T)) (ho : fOut b M M2) (ls : Array Slot) (H : Heap) (locs : List Loc), fw g ad M2 s H locs → lv_has ls 4 [(0, .ref (ad b)), (1, .int (nI k))] → W p l e (fR 5 111 0 0) s m args below meth c H locs 0 0 (MQ below (fQv g (fTw g ad M b (moveT T))) args s 0 0 (fA g)) (F0 m 2 ls []) := by
    intro n2
    induction n2 with
    | zero => intro k h1 h2; omega
    | succ n2 ih2 =>
      intro k hk_k hn_k M2 hT ho ls H locs hw hl
      obtain ⟨hT0, hTh, hTp, hTe, hHs, hPs, hEs, hn1, hn2, hn3, hA⟩ := id hT
      have hTh : fList g ad M2 (b + 1) (b + 4) (b + 100) (tHn T) := hTh
      have hTp : fList g ad M2 (b + 2) (b + 5) (b + 200) (tPn T) := hTp
      have hTe : fList g ad M2 (b + 3) (b + 6) (b + 300) (tEn T) := hTe
      have hn1 : tHn T ≤ 30 := hn1
      have hn2 : tPn T ≤ 6 := hn2
      have hn3 : tEn T ≤ 6 := hn3
      have hHs : ∀ i, i < tHn T → M2 (b + 100 + i) = some (.inr (3, hV (tH (mH hReset k T) i))) := hHs
      have hPs : ∀ i, i < tPn T → M2 (b + 200 + i) = some (.inr (4, pV (tP (mH hReset k T) i))) := hPs
      have hEs : ∀ i, i < tEn T → M2 (b + 300 + i) = some (.inr (1, eV (tE (mH hReset k T) i))) := hEs
      have hA : ∀ i, i < tEn T → tE (mH hReset k T) i 10 = 0 ∨ tE (mH hReset k T) i 10 = 1 := hA
      have hel : k < tHn T → M2 (b + 100 + k) = some (.inr (3, hV (tH T k))) := fun h => by rw [hHs k h]; exact congrArg (fun f => some (Sum.inr (3, hV f))) (mH_ge (Nat.le_refl k))
      refine lv_iload_n hx hb dX4_moveWater_2 rfl (lv_at hl 1 rfl) ?_
      refine lv_aload_n hx hb dX4_moveWater_3 rfl (lv_at hl 0 rfl) ?_
      refine f_get X hw hT0 fc5 1 (by decide) wq83 rfl (v := .ref (ad (b + 1))) rfl dX4_moveWater_4 ?_
      refine fk_di (fcVe X hw (c_size l g ad M2 hTh) (fList_obj hTh) rfl wq229 kVJx4a65c_size_8abf5 ⟨(Nat.le_of_ble_eq_true rfl), (Nat.le_of_ble_eq_true rfl)⟩ rfl hl.1 rfl (Nat.le_of_ble_eq_true rfl) dX4_moveWater_7 ⟨Nat.le_refl _, Nat.le_refl _⟩) hw (fun H locs hw => ?_)
      refine lv_icmp_ge (tgt := 34) hx hb dX4_moveWater_10 (by decide) (fun c_1 => ?_) (fun c_1 => ?_)
      · have c_1 := nI_le' (a := (tHn T)) (b := k) c_1 (by omega) (by omega)
        obtain rfl : k = tHn T := by omega
        obtain ⟨T1, eT1⟩ : ∃ z, z = mH hReset (tHn T) T := ⟨_, rfl⟩
        rw [← eT1] at hT
        obtain ⟨hT0, hTh, hTp, hTe, hHs, hPs, hEs, hn1, hn2, hn3, hA⟩ := id hT
        refine lv_iconst (v := 0) hx hb dX4_moveWater_34 (by decide) ?_
        refine lv_istore_n (lv' := [(1, .int 0), (0, .ref (ad b))]) hx hb dX4_moveWater_35 rfl hl (by decide) rfl (fun ls hl => ?_)
        have loop36 : ∀ (n36 k : Nat), k ≤ tEn T1 → tEn T1 < k + n36 → ∀ (M36 : fM) (hT : isTown g ad M36 b (mE eReset k T1)) (ho : fOut b M M36) (ls : Array Slot) (H : Heap) (locs : List Loc), fw g ad M36 s H locs → lv_has ls 4 [(0, .ref (ad b)), (1, .int (nI k))] → W p l e (fR 5 111 0 0) s m args below meth c H locs 0 0 (MQ below (fQv g (fTw g ad M b (moveT T))) args s 0 0 (fA g)) (F0 m 36 ls []) := by
          intro n36
          induction n36 with
          | zero => intro k h1 h2; omega
          | succ n36 ih36 =>
            intro k hk_k hn_k M36 hT ho ls H locs hw hl
            obtain ⟨hT0, hTh, hTp, hTe, hHs, hPs, hEs, hn1, hn2, hn3, hA⟩ := id hT
            have hTh : fList g ad M36 (b + 1) (b + 4) (b + 100) (tHn T1) := hTh
            have hTp : fList g ad M36 (b + 2) (b + 5) (b + 200) (tPn T1) := hTp
            have hTe : fList g ad M36 (b + 3) (b + 6) (b + 300) (tEn T1) := hTe
            have hn1 : tHn T1 ≤ 30 := hn1
            have hn2 : tPn T1 ≤ 6 := hn2
            have hn3 : tEn T1 ≤ 6 := hn3
            have hHs : ∀ i, i < tHn T1 → M36 (b + 100 + i) = some (.inr (3, hV (tH (mE eReset k T1) i))) := hHs
            have hPs : ∀ i, i < tPn T1 → M36 (b + 200 + i) = some (.inr (4, pV (tP (mE eReset k T1) i))) := hPs
            have hEs : ∀ i, i < tEn T1 → M36 (b + 300 + i) = some (.inr (1, eV (tE (mE eReset k T1) i))) := hEs
            have hA : ∀ i, i < tEn T1 → tE (mE eReset k T1) i 10 = 0 ∨ tE (mE eReset k T1) i 10 = 1 := hA
            have hel : k < tEn T1 → M36 (b + 300 + k) = some (.inr (1, eV (tE T1 k))) := fun h => by rw [hEs k h]; exact congrArg (fun f => some (Sum.inr (1, eV f))) (mE_ge (Nat.le_refl k))
            refine lv_iload_n hx hb dX4_moveWater_36 rfl (lv_at hl 1 rfl) ?_
            refine lv_aload_n hx hb dX4_moveWater_37 rfl (lv_at hl 0 rfl) ?_
            refine f_get X hw hT0 fc5 3 (by decide) wq87 rfl (v := .ref (ad (b + 3))) rfl dX4_moveWater_38 ?_
            refine fk_di (fcVe X hw (c_size l g ad M36 hTe) (fList_obj hTe) rfl wq229 kVJx4a65c_size_8abf5 ⟨(Nat.le_of_ble_eq_true rfl), (Nat.le_of_ble_eq_true rfl)⟩ rfl hl.1 rfl (Nat.le_of_ble_eq_true rfl) dX4_moveWater_41 ⟨Nat.le_refl _, Nat.le_refl _⟩) hw (fun H locs hw => ?_)
            refine lv_icmp_ge (tgt := 80) hx hb dX4_moveWater_44 (by decide) (fun c_2 => ?_) (fun c_2 => ?_)
            · have c_2 := nI_le' (a := (tEn T1)) (b := k) c_2 (by omega) (by omega)
              obtain rfl : k = tEn T1 := by omega
              obtain ⟨T2, eT2⟩ : ∃ z, z = mE eReset (tEn T1) T1 := ⟨_, rfl⟩
              rw [← eT2] at hT
              obtain ⟨hT0, hTh, hTp, hTe, hHs, hPs, hEs, hn1, hn2, hn3, hA⟩ := id hT
              refine lv_iconst (v := 0) hx hb dX4_moveWater_80 (by decide) ?_
              refine lv_istore_n (lv' := [(1, .int 0), (0, .ref (ad b))]) hx hb dX4_moveWater_81 rfl hl (by decide) rfl (fun ls hl => ?_)
              have loop82 : ∀ (n82 k : Nat), k ≤ tEn T2 → tEn T2 < k + n82 → ∀ (M82 : fM) (hT : isTown g ad M82 b (turnsT k T2)) (ho : fOut b M M82) (ls : Array Slot) (H : Heap) (locs : List Loc), fw g ad M82 s H locs → lv_has ls 4 [(0, .ref (ad b)), (1, .int (nI k))] → W p l e (fR 5 111 0 0) s m args below meth c H locs 0 0 (MQ below (fQv g (fTw g ad M b (moveT T))) args s 0 0 (fA g)) (F0 m 82 ls []) := by
                intro n82
                induction n82 with
                | zero => intro k h1 h2; omega
                | succ n82 ih82 =>
                  intro k hk_k hn_k M82 hT ho ls H locs hw hl
                  have hnn := turnsT_n k T2
                  obtain ⟨T9, e9⟩ : ∃ z, z = turnsT k T2 := ⟨_, rfl⟩
                  rw [← e9] at hT hnn
                  obtain ⟨hq1, hq2, hq3, hq4⟩ := hnn
                  obtain ⟨hT0, hTh, hTp, hTe, hHs, hPs, hEs, hn1, hn2, hn3, hA⟩ := id hT
                  rw [hq3] at hTe hn3
                  refine lv_iload_n hx hb dX4_moveWater_82 rfl (lv_at hl 1 rfl) ?_
                  refine lv_aload_n hx hb dX4_moveWater_83 rfl (lv_at hl 0 rfl) ?_
                  refine f_get X hw hT0 fc5 3 (by decide) wq87 rfl (v := .ref (ad (b + 3))) rfl dX4_moveWater_84 ?_
                  refine fk_di (fcVe X hw (c_size l g ad M82 hTe) (fList_obj hTe) rfl wq229 kVJx4a65c_size_8abf5 ⟨(Nat.le_of_ble_eq_true rfl), (Nat.le_of_ble_eq_true rfl)⟩ rfl hl.1 rfl (Nat.le_of_ble_eq_true rfl) dX4_moveWater_87 ⟨Nat.le_refl _, Nat.le_refl _⟩) hw (fun H locs hw => ?_)
                  refine lv_icmp_ge (tgt := 134) hx hb dX4_moveWater_90 (by decide) (fun c_3 => ?_) (fun c_3 => ?_)
                  · have c_3 := nI_le' (a := (tEn T2)) (b := k) c_3 (by omega) (by omega)
                    obtain rfl : k = tEn T2 := by omega
                    obtain ⟨T3, eT3⟩ : ∃ z, z = turnsT (tEn T2) T2 := ⟨_, rfl⟩
                    rw [e9, ← eT3] at hT
                    obtain ⟨hT0, hTh, hTp, hTe, hHs, hPs, hEs, hn1, hn2, hn3, hA⟩ := id hT
                    refine lv_iconst (v := 0) hx hb dX4_moveWater_134 (by decide) ?_
                    refine lv_istore_n (lv' := [(1, .int 0), (0, .ref (ad b))]) hx hb dX4_moveWater_135 rfl hl (by decide) rfl (fun ls hl => ?_)
                    have loop136 : ∀ (n136 k : Nat), k ≤ tEn T3 → tEn T3 < k + n136 → ∀ (M136 : fM) (hT : isTown g ad M136 b (mE eSpend k T3)) (ho : fOut b M M136) (ls : Array Slot) (H : Heap) (locs : List Loc), fw g ad M136 s H locs → lv_has ls 4 [(0, .ref (ad b)), (1, .int (nI k))] → W p l e (fR 5 111 0 0) s m args below meth c H locs 0 0 (MQ below (fQv g (fTw g ad M b (moveT T))) args s 0 0 (fA g)) (F0 m 136 ls []) := by
                      intro n136
                      induction n136 with
                      | zero => intro k h1 h2; omega
                      | succ n136 ih136 =>
                        intro k hk_k hn_k M136 hT ho ls H locs hw hl
                        obtain ⟨hT0, hTh, hTp, hTe, hHs, hPs, hEs, hn1, hn2, hn3, hA⟩ := id hT
                        have hTh : fList g ad M136 (b + 1) (b + 4) (b + 100) (tHn T3) := hTh
                        have hTp : fList g ad M136 (b + 2) (b + 5) (b + 200) (tPn T3) := hTp
                        have hTe : fList g ad M136 (b + 3) (b + 6) (b + 300) (tEn T3) := hTe
                        have hn1 : tHn T3 ≤ 30 := hn1
                        have hn2 : tPn T3 ≤ 6 := hn2
                        have hn3 : tEn T3 ≤ 6 := hn3
                        have hHs : ∀ i, i < tHn T3 → M136 (b + 100 + i) = some (.inr (3, hV (tH (mE eSpend k T3) i))) := hHs
                        have hPs : ∀ i, i < tPn T3 → M136 (b + 200 + i) = some (.inr (4, pV (tP (mE eSpend k T3) i))) := hPs
                        have hEs : ∀ i, i < tEn T3 → M136 (b + 300 + i) = some (.inr (1, eV (tE (mE eSpend k T3) i))) := hEs
                        have hA : ∀ i, i < tEn T3 → tE (mE eSpend k T3) i 10 = 0 ∨ tE (mE eSpend k T3) i 10 = 1 := hA
                        have hel : k < tEn T3 → M136 (b + 300 + k) = some (.inr (1, eV (tE T3 k))) := fun h => by rw [hEs k h]; exact congrArg (fun f => some (Sum.inr (1, eV f))) (mE_ge (Nat.le_refl k))
                        refine lv_iload_n hx hb dX4_moveWater_136 rfl (lv_at hl 1 rfl) ?_
                        refine lv_aload_n hx hb dX4_moveWater_137 rfl (lv_at hl 0 rfl) ?_
                        refine f_get X hw hT0 fc5 3 (by decide) wq87 rfl (v := .ref (ad (b + 3))) rfl dX4_moveWater_138 ?_
                        refine fk_di (fcVe X hw (c_size l g ad M136 hTe) (fList_obj hTe) rfl wq229 kVJx4a65c_size_8abf5 ⟨(Nat.le_of_ble_eq_true rfl), (Nat.le_of_ble_eq_true rfl)⟩ rfl hl.1 rfl (Nat.le_of_ble_eq_true rfl) dX4_moveWater_141 ⟨Nat.le_refl _, Nat.le_refl _⟩) hw (fun H locs hw => ?_)
                        refine lv_icmp_ge (tgt := 167) hx hb dX4_moveWater_144 (by decide) (fun c_4 => ?_) (fun c_4 => ?_)
                        · have c_4 := nI_le' (a := (tEn T3)) (b := k) c_4 (by omega) (by omega)
                          exact f_vret X hw ⟨rfl, by rw [show k = tEn T3 by omega] at hT; rw [show moveT T = mE eSpend (tEn T3) T3 from by rw [show tEn T3 = tEn T from by rw [eT3, (turnsT_n _ _).2.2.1, eT2, eT1], eT3, eT2, eT1]; rfl]; exact hT, ho⟩ (Nat.le_refl _) (Nat.le_refl _) dX4_moveWater_167
                        · have c_4 := nI_nle' (a := (tEn T3)) (b := k) c_4 (by omega) (by omega)
                          refine lv_aload_n hx hb dX4_moveWater_147 rfl (lv_at hl 0 rfl) ?_
                          refine f_get X hw hT0 fc5 3 (by decide) wq87 rfl (v := .ref (ad (b + 3))) rfl dX4_moveWater_148 ?_
                          refine lv_iload_n hx hb dX4_moveWater_151 rfl (lv_at hl 1 rfl) ?_
                          refine fk_dr (fcVe X hw (c_get l g ad M136 hTe (by omega)) (fList_obj hTe) rfl wq234 kVJx4a65c_get_915e3 ⟨(Nat.le_of_ble_eq_true rfl), (Nat.le_of_ble_eq_true rfl)⟩ rfl hl.1 rfl (Nat.le_of_ble_eq_true rfl) dX4_moveWater_152 ⟨Nat.le_refl _, Nat.le_refl _⟩) hw (fun H locs hw => ?_)
                          refine f_cast X hw (hel (by omega)) fc1 wq281 dX4_moveWater_155 ?_
                          refine fk_dv (fcV X hw (c_X0_spendSteam l g ad M136 (hel (by omega))) (hel (by omega)) rfl wq345 kVX0_spendSteam ⟨(Nat.le_of_ble_eq_true rfl), (Nat.le_of_ble_eq_true rfl)⟩ rfl hl.1 rfl (Nat.le_of_ble_eq_true rfl) dX4_moveWater_158 ⟨Nat.le_refl _, Nat.le_refl _⟩) hw (fun H locs hw => ?_)
                          have hw : fw g ad (fU M136 (b + 300 + k) (.inr (1, eV (eSpend (tE T3 k))))) s H locs := hw
                          have hT0 : (fU M136 (b + 300 + k) (.inr (1, eV (eSpend (tE T3 k))))) b = some (.inr (5, [.int (tM T3), .ref (ad (b + 1)), .ref (ad (b + 2)), .ref (ad (b + 3))])) := (fU_n (by omega)).trans hT0
                          have hTh : fList g ad (fU M136 (b + 300 + k) (.inr (1, eV (eSpend (tE T3 k))))) (b + 1) (b + 4) (b + 100) (tHn T3) := fList_V hTh (fU_n (by omega)) (fU_n (by omega))
                          have hTp : fList g ad (fU M136 (b + 300 + k) (.inr (1, eV (eSpend (tE T3 k))))) (b + 2) (b + 5) (b + 200) (tPn T3) := fList_V hTp (fU_n (by omega)) (fU_n (by omega))
                          have hTe : fList g ad (fU M136 (b + 300 + k) (.inr (1, eV (eSpend (tE T3 k))))) (b + 3) (b + 6) (b + 300) (tEn T3) := fList_V hTe (fU_n (by omega)) (fU_n (by omega))
                          have hM_b___300___k : (fU M136 (b + 300 + k) (.inr (1, eV (eSpend (tE T3 k))))) (b + 300 + k) = some (.inr (1, eV (eSpend (tE T3 k)))) := fU_s
                          refine lv_iinc (v := nI (k + 1)) (lv' := [(1, .int (nI (k + 1))), (0, .ref (ad b))]) hx hb dX4_moveWater_161 hl (k := 1) rfl (nI_1 k) (by decide) rfl (fun ls hl => ?_)
                          refine lv_goto (tgt := 136) hx hb dX4_moveWater_164 (by decide) ?_
                          exact ih136 (k + 1) (by omega) (by omega) (fU M136 (b + 300 + k) (.inr (1, eV (eSpend (tE T3 k))))) (by rw [← mE_step]; exact isTown_setE hT (by omega) (by rw [eSpend_a]; exact (by have := hA k (by omega); rwa [mE_ge (Nat.le_refl k)] at this))) (fOut_U ho (by omega)) ls _ _ hw (lv_sub hl [1, 0] rfl)
                    exact loop136 (tEn T3 + 1) 0 (by omega) (by omega) M82 (by rw [mE_0]; exact hT) ho ls _ _ hw (lv_sub hl [1, 0] rfl)
                  · have c_3 := nI_nle' (a := (tEn T2)) (b := k) c_3 (by omega) (by omega)
                    refine lv_aload_n hx hb dX4_moveWater_93 rfl (lv_at hl 0 rfl) ?_
                    refine fk_di (fcV X hw (c_nextToAsk l g ad M82 hT) hT0 rfl wq301 kVX4_nextToAsk ⟨(Nat.le_of_ble_eq_true rfl), (Nat.le_of_ble_eq_true rfl)⟩ rfl hl.1 rfl (Nat.le_of_ble_eq_true rfl) dX4_moveWater_94 ⟨Nat.le_refl _, Nat.le_refl _⟩) hw (fun H locs hw => ?_)
                    refine lv_istore_n (lv' := [(2, .int (nextE T9)), (0, .ref (ad b)), (1, .int (nI k))]) hx hb dX4_moveWater_97 rfl hl (by decide) rfl (fun ls hl => ?_)
                    refine lv_aload_n hx hb dX4_moveWater_98 rfl (lv_at hl 1 rfl) ?_
                    refine lv_iload_n hx hb dX4_moveWater_99 rfl (lv_at hl 0 rfl) ?_
                    refine fk_di (fcV X hw (c_isEngine l g ad M82 hT (nextE T9)) hT0 rfl wq309 kVX4_isEngine ⟨(Nat.le_of_ble_eq_true rfl), (Nat.le_of_ble_eq_true rfl)⟩ rfl hl.1 rfl (Nat.le_of_ble_eq_true rfl) dX4_moveWater_100 ⟨Nat.le_refl _, Nat.le_refl _⟩) hw (fun H locs hw => ?_)
                    refine lv_if_eq (tgt := 128) hx hb dX4_moveWater_103 (by decide) (fun c_5 => ?_) (fun c_5 => ?_)
                    · have c_5 := bI_f.mp c_5
                      refine lv_iinc (v := nI (k + 1)) (lv' := [(1, .int (nI (k + 1))), (2, .int (nextE T9)), (0, .ref (ad b))]) hx hb dX4_moveWater_128 hl (k := 2) rfl (nI_1 k) (by decide) rfl (fun ls hl => ?_)
                      refine lv_goto (tgt := 82) hx hb dX4_moveWater_131 (by decide) ?_
                      exact ih82 (k + 1) (by omega) (by omega) M82 (by show isTown g ad M82 b (turnT (turnsT k T2)); rw [← e9]; unfold turnT; rw [if_neg (by rw [c_5]; exact Bool.false_ne_true)]; exact hT) ho ls _ _ hw (lv_sub hl [2, 0] rfl)
                    · have c_5 := bI_nf.mp c_5
                      obtain ⟨j, hj, ej⟩ := isIx_t c_5 (by omega)
                      rw [hq3] at hj
                      refine lv_aload_n hx hb dX4_moveWater_106 rfl (lv_at hl 1 rfl) ?_
                      refine f_get X hw hT0 fc5 3 (by decide) wq87 rfl (v := .ref (ad (b + 3))) rfl dX4_moveWater_107 ?_
                      refine lv_iload_n hx hb dX4_moveWater_110 rfl (lv_at hl 0 rfl) ?_
                      rw [ej]
                      refine fk_dr (fcVe X hw (c_get l g ad M82 hTe (by omega)) (fList_obj hTe) rfl wq234 kVJx4a65c_get_915e3 ⟨(Nat.le_of_ble_eq_true rfl), (Nat.le_of_ble_eq_true rfl)⟩ rfl hl.1 rfl (Nat.le_of_ble_eq_true rfl) dX4_moveWater_111 ⟨Nat.le_refl _, Nat.le_refl _⟩) hw (fun H locs hw => ?_)
                      refine f_cast X hw (hEs j (by rw [hq3]; omega)) fc1 wq281 dX4_moveWater_114 ?_
                      refine lv_astore_n (lv' := [(3, .ref (ad (b + 300 + j))), (2, .int (nextE T9)), (0, .ref (ad b)), (1, .int (nI k))]) hx hb dX4_moveWater_117 rfl hl (by decide) rfl (fun ls hl => ?_)
                      refine lv_aload_n hx hb dX4_moveWater_118 rfl (lv_at hl 2 rfl) ?_
                      refine lv_aload_n hx hb dX4_moveWater_119 rfl (lv_at hl 0 rfl) ?_
                      refine fk_tv (fcV X hw (c_ask l g ad M82 hT (e0 := j) (by omega)) hT0 rfl wq313 kVX4_ask ⟨(Nat.le_of_ble_eq_true rfl), (Nat.le_of_ble_eq_true rfl)⟩ rfl hl.1 rfl (Nat.le_of_ble_eq_true rfl) dX4_moveWater_120 ⟨Nat.le_refl _, Nat.le_refl _⟩) hw (fun Ma H locs hTa hoa hw => ?_)
                      refine lv_aload_n hx hb dX4_moveWater_123 rfl (lv_at hl 2 rfl) ?_
                      refine lv_aload_n hx hb dX4_moveWater_124 rfl (lv_at hl 0 rfl) ?_
                      refine fk_tv (fcV X hw (c_send l g ad Ma hTa (e0 := j) (by rw [(askT_n T9 j).2.2.1]; omega)) hTa.1 rfl wq324 kVX4_sendThroughHose ⟨(Nat.le_of_ble_eq_true rfl), (Nat.le_of_ble_eq_true rfl)⟩ rfl hl.1 rfl (Nat.le_of_ble_eq_true rfl) dX4_moveWater_125 ⟨Nat.le_refl _, Nat.le_refl _⟩) hw (fun Mb H locs hTb hob hw => ?_)
                      refine lv_iinc (v := nI (k + 1)) (lv' := [(1, .int (nI (k + 1))), (3, .ref (ad (b + 300 + j))), (2, .int (nextE T9)), (0, .ref (ad b))]) hx hb dX4_moveWater_128 hl (k := 3) rfl (nI_1 k) (by decide) rfl (fun ls hl => ?_)
                      refine lv_goto (tgt := 82) hx hb dX4_moveWater_131 (by decide) ?_
                      exact ih82 (k + 1) (by omega) (by omega) Mb (by show isTown g ad Mb b (turnT (turnsT k T2)); rw [← e9]; unfold turnT; rw [if_pos c_5, ej, nI_clamp (show j < 2 ^ 31 by omega)]; exact hTb) (fOut_tr (fOut_tr ho hoa) hob) ls _ _ hw (lv_sub hl [3, 0] rfl)
              exact loop82 (tEn T2 + 1) 0 (by omega) (by omega) M36 hT ho ls _ _ hw (lv_sub hl [1, 0] rfl)
            · have c_2 := nI_nle' (a := (tEn T1)) (b := k) c_2 (by omega) (by omega)
              refine lv_aload_n hx hb dX4_moveWater_47 rfl (lv_at hl 0 rfl) ?_
              refine f_get X hw hT0 fc5 3 (by decide) wq87 rfl (v := .ref (ad (b + 3))) rfl dX4_moveWater_48 ?_
              refine lv_iload_n hx hb dX4_moveWater_51 rfl (lv_at hl 1 rfl) ?_
              refine fk_dr (fcVe X hw (c_get l g ad M36 hTe (by omega)) (fList_obj hTe) rfl wq234 kVJx4a65c_get_915e3 ⟨(Nat.le_of_ble_eq_true rfl), (Nat.le_of_ble_eq_true rfl)⟩ rfl hl.1 rfl (Nat.le_of_ble_eq_true rfl) dX4_moveWater_52 ⟨Nat.le_refl _, Nat.le_refl _⟩) hw (fun H locs hw => ?_)
              refine f_cast X hw (hel (by omega)) fc1 wq281 dX4_moveWater_55 ?_
              refine lv_astore_n (lv' := [(2, .ref (ad (b + 300 + k))), (0, .ref (ad b)), (1, .int (nI k))]) hx hb dX4_moveWater_58 rfl hl (by decide) rfl (fun ls hl => ?_)
              refine lv_aload_n hx hb dX4_moveWater_59 rfl (lv_at hl 0 rfl) ?_
              refine lv_iconst (v := 0) hx hb dX4_moveWater_60 (by decide) ?_
              refine f_putN X hw (hel (by omega)) fc1 8 (by decide) wn534 rfl rfl (v := .int 0) rfl rfl (Nat.le_of_ble_eq_true rfl) dX4_moveWater_61 (fun H locs hw => ?_)
              have hw : fw g ad (fU M36 (b + 300 + k) (.inr (1, eV (upd (tE T1 k) 8 0)))) s H locs := hw
              have hT0 : (fU M36 (b + 300 + k) (.inr (1, eV (upd (tE T1 k) 8 0)))) b = some (.inr (5, [.int (tM T1), .ref (ad (b + 1)), .ref (ad (b + 2)), .ref (ad (b + 3))])) := (fU_n (by omega)).trans hT0
              have hTh : fList g ad (fU M36 (b + 300 + k) (.inr (1, eV (upd (tE T1 k) 8 0)))) (b + 1) (b + 4) (b + 100) (tHn T1) := fList_V hTh (fU_n (by omega)) (fU_n (by omega))
              have hTp : fList g ad (fU M36 (b + 300 + k) (.inr (1, eV (upd (tE T1 k) 8 0)))) (b + 2) (b + 5) (b + 200) (tPn T1) := fList_V hTp (fU_n (by omega)) (fU_n (by omega))
              have hTe : fList g ad (fU M36 (b + 300 + k) (.inr (1, eV (upd (tE T1 k) 8 0)))) (b + 3) (b + 6) (b + 300) (tEn T1) := fList_V hTe (fU_n (by omega)) (fU_n (by omega))
              have hM_b___300___k : (fU M36 (b + 300 + k) (.inr (1, eV (upd (tE T1 k) 8 0)))) (b + 300 + k) = some (.inr (1, eV (upd (tE T1 k) 8 0))) := fU_s
              refine lv_aload_n hx hb dX4_moveWater_64 rfl (lv_at hl 0 rfl) ?_
              refine lv_iconst (v := 0) hx hb dX4_moveWater_65 (by decide) ?_
              refine f_putN X hw hM_b___300___k fc1 9 (by decide) wn536 rfl rfl (v := .int 0) rfl rfl (Nat.le_of_ble_eq_true rfl) dX4_moveWater_66 (fun H locs hw => ?_)
              have hw : fw g ad (fU (fU M36 (b + 300 + k) (.inr (1, eV (upd (tE T1 k) 8 0)))) (b + 300 + k) (.inr (1, eV (upd (upd (tE T1 k) 8 0) 9 0)))) s H locs := hw
              rw [fU_U] at hw
              have hT0 : (fU M36 (b + 300 + k) (.inr (1, eV (upd (upd (tE T1 k) 8 0) 9 0)))) b = some (.inr (5, [.int (tM T1), .ref (ad (b + 1)), .ref (ad (b + 2)), .ref (ad (b + 3))])) := ((fU_n (by omega)).trans (fU_n (by omega)).symm).trans hT0
              have hTh : fList g ad (fU M36 (b + 300 + k) (.inr (1, eV (upd (upd (tE T1 k) 8 0) 9 0)))) (b + 1) (b + 4) (b + 100) (tHn T1) := fList_V hTh ((fU_n (by omega)).trans (fU_n (by omega)).symm) ((fU_n (by omega)).trans (fU_n (by omega)).symm)
              have hTp : fList g ad (fU M36 (b + 300 + k) (.inr (1, eV (upd (upd (tE T1 k) 8 0) 9 0)))) (b + 2) (b + 5) (b + 200) (tPn T1) := fList_V hTp ((fU_n (by omega)).trans (fU_n (by omega)).symm) ((fU_n (by omega)).trans (fU_n (by omega)).symm)
              have hTe : fList g ad (fU M36 (b + 300 + k) (.inr (1, eV (upd (upd (tE T1 k) 8 0) 9 0)))) (b + 3) (b + 6) (b + 300) (tEn T1) := fList_V hTe ((fU_n (by omega)).trans (fU_n (by omega)).symm) ((fU_n (by omega)).trans (fU_n (by omega)).symm)
              have hM_b___300___k : (fU M36 (b + 300 + k) (.inr (1, eV (upd (upd (tE T1 k) 8 0) 9 0)))) (b + 300 + k) = some (.inr (1, eV (upd (upd (tE T1 k) 8 0) 9 0))) := fU_s
              refine lv_aload_n hx hb dX4_moveWater_69 rfl (lv_at hl 0 rfl) ?_
              refine lv_iconst (v := 0) hx hb dX4_moveWater_70 (by decide) ?_
              refine f_putN X hw hM_b___300___k fc1 10 (by decide) wn538 rfl rfl (v := .int 0) rfl rfl (Nat.le_of_ble_eq_true rfl) dX4_moveWater_71 (fun H locs hw => ?_)
              have hw : fw g ad (fU (fU M36 (b + 300 + k) (.inr (1, eV (upd (upd (tE T1 k) 8 0) 9 0)))) (b + 300 + k) (.inr (1, eV (upd (upd (upd (tE T1 k) 8 0) 9 0) 10 0)))) s H locs := hw
              rw [fU_U] at hw
              have hT0 : (fU M36 (b + 300 + k) (.inr (1, eV (upd (upd (upd (tE T1 k) 8 0) 9 0) 10 0)))) b = some (.inr (5, [.int (tM T1), .ref (ad (b + 1)), .ref (ad (b + 2)), .ref (ad (b + 3))])) := ((fU_n (by omega)).trans (fU_n (by omega)).symm).trans hT0
              have hTh : fList g ad (fU M36 (b + 300 + k) (.inr (1, eV (upd (upd (upd (tE T1 k) 8 0) 9 0) 10 0)))) (b + 1) (b + 4) (b + 100) (tHn T1) := fList_V hTh ((fU_n (by omega)).trans (fU_n (by omega)).symm) ((fU_n (by omega)).trans (fU_n (by omega)).symm)
              have hTp : fList g ad (fU M36 (b + 300 + k) (.inr (1, eV (upd (upd (upd (tE T1 k) 8 0) 9 0) 10 0)))) (b + 2) (b + 5) (b + 200) (tPn T1) := fList_V hTp ((fU_n (by omega)).trans (fU_n (by omega)).symm) ((fU_n (by omega)).trans (fU_n (by omega)).symm)
              have hTe : fList g ad (fU M36 (b + 300 + k) (.inr (1, eV (upd (upd (upd (tE T1 k) 8 0) 9 0) 10 0)))) (b + 3) (b + 6) (b + 300) (tEn T1) := fList_V hTe ((fU_n (by omega)).trans (fU_n (by omega)).symm) ((fU_n (by omega)).trans (fU_n (by omega)).symm)
              have hM_b___300___k : (fU M36 (b + 300 + k) (.inr (1, eV (upd (upd (upd (tE T1 k) 8 0) 9 0) 10 0)))) (b + 300 + k) = some (.inr (1, eV (upd (upd (upd (tE T1 k) 8 0) 9 0) 10 0))) := fU_s
              refine lv_iinc (v := nI (k + 1)) (lv' := [(1, .int (nI (k + 1))), (2, .ref (ad (b + 300 + k))), (0, .ref (ad b))]) hx hb dX4_moveWater_74 hl (k := 2) rfl (nI_1 k) (by decide) rfl (fun ls hl => ?_)
              refine lv_goto (tgt := 36) hx hb dX4_moveWater_77 (by decide) ?_
              exact ih36 (k + 1) (by omega) (by omega) (fU M36 (b + 300 + k) (.inr (1, eV (upd (upd (upd (tE T1 k) 8 0) 9 0) 10 0)))) (by rw [← mE_step]; exact isTown_setE hT (by omega) (Or.inl rfl)) (fOut_U ho (by omega)) ls _ _ hw (lv_sub hl [2, 0] rfl)
        exact loop36 (tEn T1 + 1) 0 (by omega) (by omega) M2 (by rw [mE_0]; exact hT) ho ls _ _ hw (lv_sub hl [1, 0] rfl)
      · have c_1 := nI_nle' (a := (tHn T)) (b := k) c_1 (by omega) (by omega)
        refine lv_aload_n hx hb dX4_moveWater_13 rfl (lv_at hl 0 rfl) ?_
        refine f_get X hw hT0 fc5 1 (by decide) wq83 rfl (v := .ref (ad (b + 1))) rfl dX4_moveWater_14 ?_
        refine lv_iload_n hx hb dX4_moveWater_17 rfl (lv_at hl 1 rfl) ?_
        refine fk_dr (fcVe X hw (c_get l g ad M2 hTh (by omega)) (fList_obj hTh) rfl wq234 kVJx4a65c_get_915e3 ⟨(Nat.le_of_ble_eq_true rfl), (Nat.le_of_ble_eq_true rfl)⟩ rfl hl.1 rfl (Nat.le_of_ble_eq_true rfl) dX4_moveWater_18 ⟨Nat.le_refl _, Nat.le_refl _⟩) hw (fun H locs hw => ?_)
        refine f_cast X hw (hel (by omega)) fc3 wq300 dX4_moveWater_21 ?_
        refine lv_iconst (v := 0) hx hb dX4_moveWater_24 (by decide) ?_
        refine f_putN X hw (hel (by omega)) fc3 5 (by decide) wn412 rfl rfl (v := .int 0) rfl rfl (Nat.le_of_ble_eq_true rfl) dX4_moveWater_25 (fun H locs hw => ?_)
        have hw : fw g ad (fU M2 (b + 100 + k) (.inr (3, hV (upd (tH T k) 5 0)))) s H locs := hw
        have hT0 : (fU M2 (b + 100 + k) (.inr (3, hV (upd (tH T k) 5 0)))) b = some (.inr (5, [.int (tM T), .ref (ad (b + 1)), .ref (ad (b + 2)), .ref (ad (b + 3))])) := (fU_n (by omega)).trans hT0
        have hTh : fList g ad (fU M2 (b + 100 + k) (.inr (3, hV (upd (tH T k) 5 0)))) (b + 1) (b + 4) (b + 100) (tHn T) := fList_V hTh (fU_n (by omega)) (fU_n (by omega))
        have hTp : fList g ad (fU M2 (b + 100 + k) (.inr (3, hV (upd (tH T k) 5 0)))) (b + 2) (b + 5) (b + 200) (tPn T) := fList_V hTp (fU_n (by omega)) (fU_n (by omega))
        have hTe : fList g ad (fU M2 (b + 100 + k) (.inr (3, hV (upd (tH T k) 5 0)))) (b + 3) (b + 6) (b + 300) (tEn T) := fList_V hTe (fU_n (by omega)) (fU_n (by omega))
        have hM_b___100___k : (fU M2 (b + 100 + k) (.inr (3, hV (upd (tH T k) 5 0)))) (b + 100 + k) = some (.inr (3, hV (upd (tH T k) 5 0))) := fU_s
        refine lv_iinc (v := nI (k + 1)) (lv' := [(1, .int (nI (k + 1))), (0, .ref (ad b))]) hx hb dX4_moveWater_28 hl (k := 1) rfl (nI_1 k) (by decide) rfl (fun ls hl => ?_)
        refine lv_goto (tgt := 2) hx hb dX4_moveWater_31 (by decide) ?_
        exact ih2 (k + 1) (by omega) (by omega) (fU M2 (b + 100 + k) (.inr (3, hV (upd (tH T k) 5 0)))) (by rw [← mH_step]; exact isTown_setH hT (by omega)) (fOut_U ho (by omega)) ls _ _ hw (lv_sub hl [1, 0] rfl)
  exact loop2 (tHn T + 1) 0 (by omega) (by omega) M (by rw [mH_0]; exact hT) fOut_rf ls _ _ hw (lv_sub hl [1, 0] rfl)
