set_option maxHeartbeats 4000000 in
set_option maxRecDepth 100000 in
theorem c_arriving (l : Launch) (g : fG) (ad : Nat → Nat) (M : fM) (a b : Int32) : fCi l g yX4_arriving cX4_arriving 2 ((some .int)) 0 0 0 0 ad M [.int a, .int b] (fDi ad M (arrivesI a b)) := by
  refine f_body (own := RX4) (by decide +kernel) rfl (Nat.le_of_ble_eq_true rfl) ?_
  intro p e s m args below meth c ls X hw hin hl
  have hx := X.1
  have hb := X.2.1
  have hl : lv_has ls 2 [(0, .int a), (1, .int b)] := hl
  refine lv_iload_n hx hb dX4_arriving_0 rfl (lv_at hl 0 rfl) ?_
  refine lv_iload_n hx hb dX4_arriving_1 rfl (lv_at hl 0 rfl) ?_
  refine lv_iload_n hx hb dX4_arriving_2 rfl (lv_at hl 1 rfl) ?_
  refine lv_iconst (v := 2) hx hb dX4_arriving_3 (by decide) ?_
  refine lv_idiv hx hb dX4_arriving_4 (by decide) ?_
  refine lv_imul hx hb dX4_arriving_5 ?_
  refine lv_bipush (v := 10) hx hb dX4_arriving_6 (by decide) ?_
  refine lv_idiv hx hb dX4_arriving_8 (by decide) ?_
  refine lv_isub hx hb dX4_arriving_9 ?_
  exact f_iret X hw ⟨rfl, rfl, rfl⟩ (Nat.le_refl _) (Nat.le_refl _) dX4_arriving_10
set_option maxHeartbeats 4000000 in
set_option maxRecDepth 100000 in
theorem c_takeUpHoses (l : Launch) (g : fG) (ad : Nat → Nat) (M : fM) {b : Nat} {T : fTn} (hT : isTown g ad M b T) (p0 : Int32) : fCv l g yX4_takeUpHosesOfAndTo cX4_takeUpHosesOfAndTo 4 3 64 0 0 ad M [.ref (ad b), .int p0] (fTw g ad M b (mEi (upHose p0) (tEn T) T)) := by
  refine f_body (own := RX4) (by decide +kernel) rfl (Nat.le_of_ble_eq_true rfl) ?_
  intro p e s m args below meth c ls X hw hin hl
  have hx := X.1
  have hb := X.2.1
  have hl : lv_has ls 4 [(0, .ref (ad b)), (1, .int p0)] := hl
  obtain ⟨hT0, hTh, hTp, hTe, hHs, hPs, hEs, hn1, hn2, hn3, hA⟩ := id hT
  refine lv_iconst (v := 0) hx hb dX4_takeUpHosesOfAndTo_0 (by decide) ?_
  refine lv_istore_n (lv' := [(2, .int 0), (0, .ref (ad b)), (1, .int p0)]) hx hb dX4_takeUpHosesOfAndTo_1 rfl hl (by decide) rfl (fun ls hl => ?_)
  have loop2 : ∀ (n2 k : Nat), k ≤ tEn T → tEn T < k + n2 → ∀ (M2 : fM) (hT : isTown g ad M2 b (mEi (upHose p0) k T)) (ho : fOut b M M2) (ls : Array Slot) (H : Heap) (locs : List Loc), fw g ad M2 s H locs → lv_has ls 4 [(0, .ref (ad b)), (1, .int p0), (2, .int (nI k))] → W p l e (fR 3 64 0 0) s m args below meth c H locs 0 0 (MQ below (fQv g (fTw g ad M b (mEi (upHose p0) (tEn T) T))) args s 0 0 (fA g)) (F0 m 2 ls []) := by
    intro n2
    induction n2 with
    | zero => intro k h1 h2; omega
    | succ n2 ih2 =>
      intro k hk_k hn_k M2 hT ho ls H locs hw hl
      obtain ⟨hT0, hTh, hTp, hTe, hHs, hPs, hEs, hn1, hn2, hn3, hA⟩ := id hT
      have hTh : fList g ad M2 (b + 1) (b + 4) (b + 100) (tHn T) := hTh
      have hTp : fList g ad M2 (b + 2) (b + 5) (b + 200) (tPn T) := hTp
      have hTe : fList g ad M2 (b + 3) (b + 6) (b + 300) (tEn T) := hTe
      have hn1 : tHn T ≤ 30 := hn1
      have hn2 : tPn T ≤ 6 := hn2
      have hn3 : tEn T ≤ 6 := hn3
      have hHs : ∀ i, i < tHn T → M2 (b + 100 + i) = some (.inr (3, hV (tH (mEi (upHose p0) k T) i))) := hHs
      have hPs : ∀ i, i < tPn T → M2 (b + 200 + i) = some (.inr (4, pV (tP (mEi (upHose p0) k T) i))) := hPs
      have hEs : ∀ i, i < tEn T → M2 (b + 300 + i) = some (.inr (1, eV (tE (mEi (upHose p0) k T) i))) := hEs
      have hA : ∀ i, i < tEn T → tE (mEi (upHose p0) k T) i 10 = 0 ∨ tE (mEi (upHose p0) k T) i 10 = 1 := hA
      have hel : k < tEn T → M2 (b + 300 + k) = some (.inr (1, eV (tE T k))) := fun h => by rw [hEs k h]; exact congrArg (fun f => some (Sum.inr (1, eV f))) (mEi_ge (Nat.le_refl k))
      refine lv_iload_n hx hb dX4_takeUpHosesOfAndTo_2 rfl (lv_at hl 2 rfl) ?_
      refine lv_aload_n hx hb dX4_takeUpHosesOfAndTo_3 rfl (lv_at hl 0 rfl) ?_
      refine f_get X hw hT0 fc5 3 (by decide) wq87 rfl (v := .ref (ad (b + 3))) rfl dX4_takeUpHosesOfAndTo_4 ?_
      refine fk_di (fcVe X hw (c_size l g ad M2 hTe) (fList_obj hTe) rfl wq229 kVJx4a65c_size_8abf5 ⟨(Nat.le_of_ble_eq_true rfl), (Nat.le_of_ble_eq_true rfl)⟩ rfl hl.1 rfl (Nat.le_of_ble_eq_true rfl) dX4_takeUpHosesOfAndTo_7 ⟨Nat.le_refl _, Nat.le_refl _⟩) hw (fun H locs hw => ?_)
      refine lv_icmp_ge (tgt := 49) hx hb dX4_takeUpHosesOfAndTo_10 (by decide) (fun c_1 => ?_) (fun c_1 => ?_)
      · have c_1 := nI_le' (a := (tEn T)) (b := k) c_1 (by omega) (by omega)
        exact f_vret X hw ⟨rfl, by rw [← (show k = tEn T by omega)]; exact hT, ho⟩ (Nat.le_refl _) (Nat.le_refl _) dX4_takeUpHosesOfAndTo_49
      · have c_1 := nI_nle' (a := (tEn T)) (b := k) c_1 (by omega) (by omega)
        refine lv_aload_n hx hb dX4_takeUpHosesOfAndTo_13 rfl (lv_at hl 0 rfl) ?_
        refine f_get X hw hT0 fc5 3 (by decide) wq87 rfl (v := .ref (ad (b + 3))) rfl dX4_takeUpHosesOfAndTo_14 ?_
        refine lv_iload_n hx hb dX4_takeUpHosesOfAndTo_17 rfl (lv_at hl 2 rfl) ?_
        refine fk_dr (fcVe X hw (c_get l g ad M2 hTe (by omega)) (fList_obj hTe) rfl wq234 kVJx4a65c_get_915e3 ⟨(Nat.le_of_ble_eq_true rfl), (Nat.le_of_ble_eq_true rfl)⟩ rfl hl.1 rfl (Nat.le_of_ble_eq_true rfl) dX4_takeUpHosesOfAndTo_18 ⟨Nat.le_refl _, Nat.le_refl _⟩) hw (fun H locs hw => ?_)
        refine f_cast X hw (hel (by omega)) fc1 wq281 dX4_takeUpHosesOfAndTo_21 ?_
        refine lv_astore_n (lv' := [(3, .ref (ad (b + 300 + k))), (0, .ref (ad b)), (1, .int p0), (2, .int (nI k))]) hx hb dX4_takeUpHosesOfAndTo_24 rfl hl (by decide) rfl (fun ls hl => ?_)
        refine lv_iload_n hx hb dX4_takeUpHosesOfAndTo_25 rfl (lv_at hl 3 rfl) ?_
        refine lv_iload_n hx hb dX4_takeUpHosesOfAndTo_26 rfl (lv_at hl 2 rfl) ?_
        refine lv_icmp_eq (tgt := 38) hx hb dX4_takeUpHosesOfAndTo_27 (by decide) (fun c_2 => ?_) (fun c_2 => ?_)
        · refine lv_aload_n hx hb dX4_takeUpHosesOfAndTo_38 rfl (lv_at hl 0 rfl) ?_
          refine lv_iconst (v := (-1)) hx hb dX4_takeUpHosesOfAndTo_39 (by decide) ?_
          refine f_putN X hw (hel (by omega)) fc1 7 (by decide) wn531 rfl rfl (v := .int (-1)) rfl rfl (Nat.le_of_ble_eq_true rfl) dX4_takeUpHosesOfAndTo_40 (fun H locs hw => ?_)
          have hw : fw g ad (fU M2 (b + 300 + k) (.inr (1, eV (upd (tE T k) 7 (-1))))) s H locs := hw
          have hT0 : (fU M2 (b + 300 + k) (.inr (1, eV (upd (tE T k) 7 (-1))))) b = some (.inr (5, [.int (tM T), .ref (ad (b + 1)), .ref (ad (b + 2)), .ref (ad (b + 3))])) := (fU_n (by omega)).trans hT0
          have hTh : fList g ad (fU M2 (b + 300 + k) (.inr (1, eV (upd (tE T k) 7 (-1))))) (b + 1) (b + 4) (b + 100) (tHn T) := fList_V hTh (fU_n (by omega)) (fU_n (by omega))
          have hTp : fList g ad (fU M2 (b + 300 + k) (.inr (1, eV (upd (tE T k) 7 (-1))))) (b + 2) (b + 5) (b + 200) (tPn T) := fList_V hTp (fU_n (by omega)) (fU_n (by omega))
          have hTe : fList g ad (fU M2 (b + 300 + k) (.inr (1, eV (upd (tE T k) 7 (-1))))) (b + 3) (b + 6) (b + 300) (tEn T) := fList_V hTe (fU_n (by omega)) (fU_n (by omega))
          have hM_b___300___k : (fU M2 (b + 300 + k) (.inr (1, eV (upd (tE T k) 7 (-1))))) (b + 300 + k) = some (.inr (1, eV (upd (tE T k) 7 (-1)))) := fU_s
          refine lv_iinc (v := nI (k + 1)) (lv' := [(2, .int (nI (k + 1))), (3, .ref (ad (b + 300 + k))), (0, .ref (ad b)), (1, .int p0)]) hx hb dX4_takeUpHosesOfAndTo_43 hl (k := 3) rfl (nI_1 k) (by decide) rfl (fun ls hl => ?_)
          refine lv_goto (tgt := 2) hx hb dX4_takeUpHosesOfAndTo_46 (by decide) ?_
          exact ih2 (k + 1) (by omega) (by omega) (fU M2 (b + 300 + k) (.inr (1, eV (upd (tE T k) 7 (-1))))) (by rw [← mEi_step]; rw [show upHose p0 k (tE T k) = upd (tE T k) 7 (-1) from by unfold upHose; simp only [c_2, if_true, if_false]]; exact isTown_setE hT (by omega) (by have := hA k (by omega); rwa [mEi_ge (Nat.le_refl k)] at this)) (fOut_U ho (by omega)) ls _ _ hw (lv_sub hl [2, 3, 0] rfl)
        · refine lv_aload_n hx hb dX4_takeUpHosesOfAndTo_30 rfl (lv_at hl 0 rfl) ?_
          refine f_getN X hw (hel (by omega)) fc1 7 (by decide) wn531 rfl (v := .int ((tE T k) 7)) rfl dX4_takeUpHosesOfAndTo_31 ?_
          refine lv_iload_n hx hb dX4_takeUpHosesOfAndTo_34 rfl (lv_at hl 2 rfl) ?_
          refine lv_icmp_ne (tgt := 43) hx hb dX4_takeUpHosesOfAndTo_35 (by decide) (fun c_3 => ?_) (fun c_3 => ?_)
          · refine lv_iinc (v := nI (k + 1)) (lv' := [(2, .int (nI (k + 1))), (3, .ref (ad (b + 300 + k))), (0, .ref (ad b)), (1, .int p0)]) hx hb dX4_takeUpHosesOfAndTo_43 hl (k := 3) rfl (nI_1 k) (by decide) rfl (fun ls hl => ?_)
            refine lv_goto (tgt := 2) hx hb dX4_takeUpHosesOfAndTo_46 (by decide) ?_
            exact ih2 (k + 1) (by omega) (by omega) M2 (by rw [← mEi_step]; rw [show upHose p0 k (tE T k) = tE (mEi (upHose p0) k T) k from by rw [mEi_ge (Nat.le_refl k)]; unfold upHose; simp only [c_2, c_3, if_false]]; rw [sE_same]; exact hT) ho ls _ _ hw (lv_sub hl [2, 3, 0] rfl)
          · refine lv_aload_n hx hb dX4_takeUpHosesOfAndTo_38 rfl (lv_at hl 0 rfl) ?_
            refine lv_iconst (v := (-1)) hx hb dX4_takeUpHosesOfAndTo_39 (by decide) ?_
            refine f_putN X hw (hel (by omega)) fc1 7 (by decide) wn531 rfl rfl (v := .int (-1)) rfl rfl (Nat.le_of_ble_eq_true rfl) dX4_takeUpHosesOfAndTo_40 (fun H locs hw => ?_)
            have hw : fw g ad (fU M2 (b + 300 + k) (.inr (1, eV (upd (tE T k) 7 (-1))))) s H locs := hw
            have hT0 : (fU M2 (b + 300 + k) (.inr (1, eV (upd (tE T k) 7 (-1))))) b = some (.inr (5, [.int (tM T), .ref (ad (b + 1)), .ref (ad (b + 2)), .ref (ad (b + 3))])) := (fU_n (by omega)).trans hT0
            have hTh : fList g ad (fU M2 (b + 300 + k) (.inr (1, eV (upd (tE T k) 7 (-1))))) (b + 1) (b + 4) (b + 100) (tHn T) := fList_V hTh (fU_n (by omega)) (fU_n (by omega))
            have hTp : fList g ad (fU M2 (b + 300 + k) (.inr (1, eV (upd (tE T k) 7 (-1))))) (b + 2) (b + 5) (b + 200) (tPn T) := fList_V hTp (fU_n (by omega)) (fU_n (by omega))
            have hTe : fList g ad (fU M2 (b + 300 + k) (.inr (1, eV (upd (tE T k) 7 (-1))))) (b + 3) (b + 6) (b + 300) (tEn T) := fList_V hTe (fU_n (by omega)) (fU_n (by omega))
            have hM_b___300___k : (fU M2 (b + 300 + k) (.inr (1, eV (upd (tE T k) 7 (-1))))) (b + 300 + k) = some (.inr (1, eV (upd (tE T k) 7 (-1)))) := fU_s
            refine lv_iinc (v := nI (k + 1)) (lv' := [(2, .int (nI (k + 1))), (3, .ref (ad (b + 300 + k))), (0, .ref (ad b)), (1, .int p0)]) hx hb dX4_takeUpHosesOfAndTo_43 hl (k := 3) rfl (nI_1 k) (by decide) rfl (fun ls hl => ?_)
            refine lv_goto (tgt := 2) hx hb dX4_takeUpHosesOfAndTo_46 (by decide) ?_
            exact ih2 (k + 1) (by omega) (by omega) (fU M2 (b + 300 + k) (.inr (1, eV (upd (tE T k) 7 (-1))))) (by rw [← mEi_step]; rw [show upHose p0 k (tE T k) = upd (tE T k) 7 (-1) from by unfold upHose; simp only [c_2, c_3, if_true, if_false]]; exact isTown_setE hT (by omega) (by have := hA k (by omega); rwa [mEi_ge (Nat.le_refl k)] at this)) (fOut_U ho (by omega)) ls _ _ hw (lv_sub hl [2, 3, 0] rfl)
  exact loop2 (tEn T + 1) 0 (by omega) (by omega) M (by rw [mEi_0]; exact hT) fOut_rf ls _ _ hw (lv_sub hl [1, 2, 0] rfl)
set_option maxHeartbeats 4000000 in
set_option maxRecDepth 100000 in
theorem c_fireAndDrive (l : Launch) (g : fG) (ad : Nat → Nat) (M : fM) {b : Nat} {T : fTn} (hT : isTown g ad M b T) : fCv l g yX4_fireAndDrive cX4_fireAndDrive 2 3 64 0 0 ad M [.ref (ad b)] (fTw g ad M b (mE eGo (tEn T) T)) := by
  refine f_body (own := RX4) (by decide +kernel) rfl (Nat.le_of_ble_eq_true rfl) ?_
  intro p e s m args below meth c ls X hw hin hl
  have hx := X.1
  have hb := X.2.1
  have hl : lv_has ls 2 [(0, .ref (ad b))] := hl
  obtain ⟨hT0, hTh, hTp, hTe, hHs, hPs, hEs, hn1, hn2, hn3, hA⟩ := id hT
  refine lv_iconst (v := 0) hx hb dX4_fireAndDrive_0 (by decide) ?_
  refine lv_istore_n (lv' := [(1, .int 0), (0, .ref (ad b))]) hx hb dX4_fireAndDrive_1 rfl hl (by decide) rfl (fun ls hl => ?_)
  have loop2 : ∀ (n2 k : Nat), k ≤ tEn T → tEn T < k + n2 → ∀ (M2 : fM) (hT : isTown g ad M2 b (mE eGo k T)) (ho : fOut b M M2) (ls : Array Slot) (H : Heap) (locs : List Loc), fw g ad M2 s H locs → lv_has ls 2 [(0, .ref (ad b)), (1, .int (nI k))] → W p l e (fR 3 64 0 0) s m args below meth c H locs 0 0 (MQ below (fQv g (fTw g ad M b (mE eGo (tEn T) T))) args s 0 0 (fA g)) (F0 m 2 ls []) := by
    intro n2
    induction n2 with
    | zero => intro k h1 h2; omega
    | succ n2 ih2 =>
      intro k hk_k hn_k M2 hT ho ls H locs hw hl
      obtain ⟨hT0, hTh, hTp, hTe, hHs, hPs, hEs, hn1, hn2, hn3, hA⟩ := id hT
      have hTh : fList g ad M2 (b + 1) (b + 4) (b + 100) (tHn T) := hTh
      have hTp : fList g ad M2 (b + 2) (b + 5) (b + 200) (tPn T) := hTp
      have hTe : fList g ad M2 (b + 3) (b + 6) (b + 300) (tEn T) := hTe
      have hn1 : tHn T ≤ 30 := hn1
      have hn2 : tPn T ≤ 6 := hn2
      have hn3 : tEn T ≤ 6 := hn3
      have hHs : ∀ i, i < tHn T → M2 (b + 100 + i) = some (.inr (3, hV (tH (mE eGo k T) i))) := hHs
      have hPs : ∀ i, i < tPn T → M2 (b + 200 + i) = some (.inr (4, pV (tP (mE eGo k T) i))) := hPs
      have hEs : ∀ i, i < tEn T → M2 (b + 300 + i) = some (.inr (1, eV (tE (mE eGo k T) i))) := hEs
      have hA : ∀ i, i < tEn T → tE (mE eGo k T) i 10 = 0 ∨ tE (mE eGo k T) i 10 = 1 := hA
      have hel : k < tEn T → M2 (b + 300 + k) = some (.inr (1, eV (tE T k))) := fun h => by rw [hEs k h]; exact congrArg (fun f => some (Sum.inr (1, eV f))) (mE_ge (Nat.le_refl k))
      refine lv_iload_n hx hb dX4_fireAndDrive_2 rfl (lv_at hl 1 rfl) ?_
      refine lv_aload_n hx hb dX4_fireAndDrive_3 rfl (lv_at hl 0 rfl) ?_
      refine f_get X hw hT0 fc5 3 (by decide) wq87 rfl (v := .ref (ad (b + 3))) rfl dX4_fireAndDrive_4 ?_
      refine fk_di (fcVe X hw (c_size l g ad M2 hTe) (fList_obj hTe) rfl wq229 kVJx4a65c_size_8abf5 ⟨(Nat.le_of_ble_eq_true rfl), (Nat.le_of_ble_eq_true rfl)⟩ rfl hl.1 rfl (Nat.le_of_ble_eq_true rfl) dX4_fireAndDrive_7 ⟨Nat.le_refl _, Nat.le_refl _⟩) hw (fun H locs hw => ?_)
      refine lv_icmp_ge (tgt := 47) hx hb dX4_fireAndDrive_10 (by decide) (fun c_1 => ?_) (fun c_1 => ?_)
      · have c_1 := nI_le' (a := (tEn T)) (b := k) c_1 (by omega) (by omega)
        exact f_vret X hw ⟨rfl, by rw [← (show k = tEn T by omega)]; exact hT, ho⟩ (Nat.le_refl _) (Nat.le_refl _) dX4_fireAndDrive_47
      · have c_1 := nI_nle' (a := (tEn T)) (b := k) c_1 (by omega) (by omega)
        refine lv_aload_n hx hb dX4_fireAndDrive_13 rfl (lv_at hl 0 rfl) ?_
        refine f_get X hw hT0 fc5 3 (by decide) wq87 rfl (v := .ref (ad (b + 3))) rfl dX4_fireAndDrive_14 ?_
        refine lv_iload_n hx hb dX4_fireAndDrive_17 rfl (lv_at hl 1 rfl) ?_
        refine fk_dr (fcVe X hw (c_get l g ad M2 hTe (by omega)) (fList_obj hTe) rfl wq234 kVJx4a65c_get_915e3 ⟨(Nat.le_of_ble_eq_true rfl), (Nat.le_of_ble_eq_true rfl)⟩ rfl hl.1 rfl (Nat.le_of_ble_eq_true rfl) dX4_fireAndDrive_18 ⟨Nat.le_refl _, Nat.le_refl _⟩) hw (fun H locs hw => ?_)
        refine f_cast X hw (hel (by omega)) fc1 wq281 dX4_fireAndDrive_21 ?_
        refine fk_dv (fcV X hw (c_X0_fire l g ad M2 (hel (by omega))) (hel (by omega)) rfl wq282 kVX0_fire ⟨(Nat.le_of_ble_eq_true rfl), (Nat.le_of_ble_eq_true rfl)⟩ rfl hl.1 rfl (Nat.le_of_ble_eq_true rfl) dX4_fireAndDrive_24 ⟨Nat.le_refl _, Nat.le_refl _⟩) hw (fun H locs hw => ?_)
        have hw : fw g ad (fU M2 (b + 300 + k) (.inr (1, eV (eFire (tE T k))))) s H locs := hw
        have hT0 : (fU M2 (b + 300 + k) (.inr (1, eV (eFire (tE T k))))) b = some (.inr (5, [.int (tM T), .ref (ad (b + 1)), .ref (ad (b + 2)), .ref (ad (b + 3))])) := (fU_n (by omega)).trans hT0
        have hTh : fList g ad (fU M2 (b + 300 + k) (.inr (1, eV (eFire (tE T k))))) (b + 1) (b + 4) (b + 100) (tHn T) := fList_V hTh (fU_n (by omega)) (fU_n (by omega))
        have hTp : fList g ad (fU M2 (b + 300 + k) (.inr (1, eV (eFire (tE T k))))) (b + 2) (b + 5) (b + 200) (tPn T) := fList_V hTp (fU_n (by omega)) (fU_n (by omega))
        have hTe : fList g ad (fU M2 (b + 300 + k) (.inr (1, eV (eFire (tE T k))))) (b + 3) (b + 6) (b + 300) (tEn T) := fList_V hTe (fU_n (by omega)) (fU_n (by omega))
        have hM_b___300___k : (fU M2 (b + 300 + k) (.inr (1, eV (eFire (tE T k))))) (b + 300 + k) = some (.inr (1, eV (eFire (tE T k)))) := fU_s
        refine lv_aload_n hx hb dX4_fireAndDrive_27 rfl (lv_at hl 0 rfl) ?_
        refine f_get X hw hT0 fc5 3 (by decide) wq87 rfl (v := .ref (ad (b + 3))) rfl dX4_fireAndDrive_28 ?_
        refine lv_iload_n hx hb dX4_fireAndDrive_31 rfl (lv_at hl 1 rfl) ?_
        refine fk_dr (fcVe X hw (c_get l g ad (fU M2 (b + 300 + k) (.inr (1, eV (eFire (tE T k))))) hTe (by omega)) (fList_obj hTe) rfl wq234 kVJx4a65c_get_915e3 ⟨(Nat.le_of_ble_eq_true rfl), (Nat.le_of_ble_eq_true rfl)⟩ rfl hl.1 rfl (Nat.le_of_ble_eq_true rfl) dX4_fireAndDrive_32 ⟨Nat.le_refl _, Nat.le_refl _⟩) hw (fun H locs hw => ?_)
        refine f_cast X hw hM_b___300___k fc1 wq281 dX4_fireAndDrive_35 ?_
        refine fk_dv (fcV X hw (c_X0_driveAMinute l g ad (fU M2 (b + 300 + k) (.inr (1, eV (eFire (tE T k))))) hM_b___300___k) hM_b___300___k rfl wq292 kVX0_driveAMinute ⟨(Nat.le_of_ble_eq_true rfl), (Nat.le_of_ble_eq_true rfl)⟩ rfl hl.1 rfl (Nat.le_of_ble_eq_true rfl) dX4_fireAndDrive_38 ⟨Nat.le_refl _, Nat.le_refl _⟩) hw (fun H locs hw => ?_)
        have hw : fw g ad (fU (fU M2 (b + 300 + k) (.inr (1, eV (eFire (tE T k))))) (b + 300 + k) (.inr (1, eV (eDrive (eFire (tE T k)))))) s H locs := hw
        rw [fU_U] at hw
        have hT0 : (fU M2 (b + 300 + k) (.inr (1, eV (eDrive (eFire (tE T k)))))) b = some (.inr (5, [.int (tM T), .ref (ad (b + 1)), .ref (ad (b + 2)), .ref (ad (b + 3))])) := ((fU_n (by omega)).trans (fU_n (by omega)).symm).trans hT0
        have hTh : fList g ad (fU M2 (b + 300 + k) (.inr (1, eV (eDrive (eFire (tE T k)))))) (b + 1) (b + 4) (b + 100) (tHn T) := fList_V hTh ((fU_n (by omega)).trans (fU_n (by omega)).symm) ((fU_n (by omega)).trans (fU_n (by omega)).symm)
        have hTp : fList g ad (fU M2 (b + 300 + k) (.inr (1, eV (eDrive (eFire (tE T k)))))) (b + 2) (b + 5) (b + 200) (tPn T) := fList_V hTp ((fU_n (by omega)).trans (fU_n (by omega)).symm) ((fU_n (by omega)).trans (fU_n (by omega)).symm)
        have hTe : fList g ad (fU M2 (b + 300 + k) (.inr (1, eV (eDrive (eFire (tE T k)))))) (b + 3) (b + 6) (b + 300) (tEn T) := fList_V hTe ((fU_n (by omega)).trans (fU_n (by omega)).symm) ((fU_n (by omega)).trans (fU_n (by omega)).symm)
        have hM_b___300___k : (fU M2 (b + 300 + k) (.inr (1, eV (eDrive (eFire (tE T k)))))) (b + 300 + k) = some (.inr (1, eV (eDrive (eFire (tE T k))))) := fU_s
        refine lv_iinc (v := nI (k + 1)) (lv' := [(1, .int (nI (k + 1))), (0, .ref (ad b))]) hx hb dX4_fireAndDrive_41 hl (k := 1) rfl (nI_1 k) (by decide) rfl (fun ls hl => ?_)
        refine lv_goto (tgt := 2) hx hb dX4_fireAndDrive_44 (by decide) ?_
        exact ih2 (k + 1) (by omega) (by omega) (fU M2 (b + 300 + k) (.inr (1, eV (eDrive (eFire (tE T k)))))) (by rw [← mE_step]; exact isTown_setE hT (by omega) (by show eDrive (eFire (tE T k)) 10 = 0 ∨ eDrive (eFire (tE T k)) 10 = 1; rw [eDrive_a, eFire_a]; exact (by have := hA k (by omega); rwa [mE_ge (Nat.le_refl k)] at this))) (fOut_U ho (by omega)) ls _ _ hw (lv_sub hl [1, 0] rfl)
  exact loop2 (tEn T + 1) 0 (by omega) (by omega) M (by rw [mE_0]; exact hT) fOut_rf ls _ _ hw (lv_sub hl [1, 0] rfl)
set_option maxHeartbeats 4000000 in
set_option maxRecDepth 100000 in
theorem c_ask (l : Launch) (g : fG) (ad : Nat → Nat) (M : fM) {b : Nat} {T : fTn} (hT : isTown g ad M b T) {e0 : Nat} (he : e0 < tEn T) : fCv l g yX4_ask cX4_ask 5 4 87 0 0 ad M [.ref (ad b), .ref (ad (b + 300 + e0))] (fTw g ad M b (askT T e0)) := by
  refine f_body (own := RX4) (by decide +kernel) rfl (Nat.le_of_ble_eq_true rfl) ?_
  intro p e s m args below meth c ls X hw hin hl
  have hx := X.1
  have hb := X.2.1
  have hl : lv_has ls 5 [(0, .ref (ad b)), (1, .ref (ad (b + 300 + e0)))] := hl
  obtain ⟨hT0, hTh, hTp, hTe, hHs, hPs, hEs, hn1, hn2, hn3, hA⟩ := id hT
  have hle := hEs e0 he
  refine lv_aload_n hx hb dX4_ask_0 rfl (lv_at hl 1 rfl) ?_
  refine lv_iconst (v := 1) hx hb dX4_ask_1 (by decide) ?_
  refine f_putN X hw hle fc1 10 (by decide) wn538 rfl rfl (v := .int 1) rfl rfl (Nat.le_of_ble_eq_true rfl) dX4_ask_2 (fun H locs hw => ?_)
  have hw : fw g ad (fU M (b + 300 + e0) (.inr (1, eV (upd (tE T e0) 10 1)))) s H locs := hw
  have hT0 : (fU M (b + 300 + e0) (.inr (1, eV (upd (tE T e0) 10 1)))) b = some (.inr (5, [.int (tM T), .ref (ad (b + 1)), .ref (ad (b + 2)), .ref (ad (b + 3))])) := (fU_n (by omega)).trans hT0
  have hTh : fList g ad (fU M (b + 300 + e0) (.inr (1, eV (upd (tE T e0) 10 1)))) (b + 1) (b + 4) (b + 100) (tHn T) := fList_V hTh (fU_n (by omega)) (fU_n (by omega))
  have hTp : fList g ad (fU M (b + 300 + e0) (.inr (1, eV (upd (tE T e0) 10 1)))) (b + 2) (b + 5) (b + 200) (tPn T) := fList_V hTp (fU_n (by omega)) (fU_n (by omega))
  have hTe : fList g ad (fU M (b + 300 + e0) (.inr (1, eV (upd (tE T e0) 10 1)))) (b + 3) (b + 6) (b + 300) (tEn T) := fList_V hTe (fU_n (by omega)) (fU_n (by omega))
  have hle : (fU M (b + 300 + e0) (.inr (1, eV (upd (tE T e0) 10 1)))) (b + 300 + e0) = some (.inr (1, eV (upd (tE T e0) 10 1))) := fU_s
  refine lv_aload_n hx hb dX4_ask_5 rfl (lv_at hl 1 rfl) ?_
  refine f_getN X hw hle fc1 7 (by decide) wn531 rfl (v := .int ((tE T e0) 7)) rfl dX4_ask_6 ?_
  refine lv_iconst (v := (-1)) hx hb dX4_ask_9 (by decide) ?_
  refine lv_icmp_ne (tgt := 14) hx hb dX4_ask_10 (by decide) (fun c_1 => ?_) (fun c_1 => ?_)
  · refine lv_aload_n hx hb dX4_ask_14 rfl (lv_at hl 1 rfl) ?_
    refine fk_di (fcV X hw (c_X0_canPump l g ad (fU M (b + 300 + e0) (.inr (1, eV (upd (tE T e0) 10 1)))) hle) hle rfl wq239 kVX0_canPump ⟨(Nat.le_of_ble_eq_true rfl), (Nat.le_of_ble_eq_true rfl)⟩ rfl hl.1 rfl (Nat.le_of_ble_eq_true rfl) dX4_ask_15 ⟨Nat.le_refl _, Nat.le_refl _⟩) hw (fun H locs hw => ?_)
    refine f_top (y := ePump (tE T e0)) ePump_ask ?_
    refine lv_istore_n (lv' := [(2, .int (ePump (tE T e0))), (0, .ref (ad b)), (1, .ref (ad (b + 300 + e0)))]) hx hb dX4_ask_18 rfl hl (by decide) rfl (fun ls hl => ?_)
    refine lv_aload_n hx hb dX4_ask_19 rfl (lv_at hl 2 rfl) ?_
    refine f_getN X hw hle fc1 8 (by decide) wn534 rfl (v := .int ((tE T e0) 8)) rfl dX4_ask_20 ?_
    refine lv_istore_n (lv' := [(3, .int ((tE T e0) 8)), (2, .int (ePump (tE T e0))), (0, .ref (ad b)), (1, .ref (ad (b + 300 + e0)))]) hx hb dX4_ask_23 rfl hl (by decide) rfl (fun ls hl => ?_)
    refine lv_aload_n hx hb dX4_ask_24 rfl (lv_at hl 2 rfl) ?_
    refine lv_aload_n hx hb dX4_ask_25 rfl (lv_at hl 3 rfl) ?_
    refine fk_di (fcV X hw (c_pondBy l g ad (fU M (b + 300 + e0) (.inr (1, eV (upd (tE T e0) 10 1)))) (T := sE T e0 (upd (tE T e0) 10 1)) (isTown_setE hT he (Or.inr rfl)) hle) hT0 rfl wq225 kVX4_pondBy ⟨(Nat.le_of_ble_eq_true rfl), (Nat.le_of_ble_eq_true rfl)⟩ rfl hl.1 rfl (Nat.le_of_ble_eq_true rfl) dX4_ask_26 ⟨Nat.le_refl _, Nat.le_refl _⟩) hw (fun H locs hw => ?_)
    refine f_top (y := pondOf T (tE T e0)) pondOf_ask ?_
    refine lv_istore (lv' := [(4, .int (pondOf T (tE T e0))), (3, .int ((tE T e0) 8)), (2, .int (ePump (tE T e0))), (0, .ref (ad b)), (1, .ref (ad (b + 300 + e0)))]) hx hb dX4_ask_29 hl (by decide) rfl (fun ls hl => ?_)
    refine lv_iload hx hb dX4_ask_31 (lv_at hl 0 rfl) ?_
    refine lv_if_lt (tgt := 69) hx hb dX4_ask_33 (by decide) (fun c_2 => ?_) (fun c_2 => ?_)
    · refine lv_aload_n hx hb dX4_ask_69 rfl (lv_at hl 4 rfl) ?_
      refine lv_iload_n hx hb dX4_ask_70 rfl (lv_at hl 1 rfl) ?_
      refine lv_iload_n hx hb dX4_ask_71 rfl (lv_at hl 2 rfl) ?_
      refine va_mmin hx hb (X.2.2.1.trans hl.1.symm) X.2.2.2.1 (X.2.2.2.2.1 _ wq323) (X.2.2.2.2.1 _ wq287) (X.2.2.2.2.1 _ wq18) (X.2.2.2.2.1 _ wq288) (Nat.le_of_ble_eq_true rfl) (Nat.le_of_ble_eq_true rfl) (Nat.zero_le _) (Nat.zero_le _) dX4_ask_72 ?_
      refine f_top (y := iMin ((tE T e0) 8) (ePump (tE T e0))) rfl ?_
      refine f_putN X hw hle fc1 9 (by decide) wn536 rfl rfl (v := .int (iMin ((tE T e0) 8) (ePump (tE T e0)))) rfl rfl (Nat.le_of_ble_eq_true rfl) dX4_ask_75 (fun H locs hw => ?_)
      have hw : fw g ad (fU (fU M (b + 300 + e0) (.inr (1, eV (upd (tE T e0) 10 1)))) (b + 300 + e0) (.inr (1, eV (upd (upd (tE T e0) 10 1) 9 (iMin ((tE T e0) 8) (ePump (tE T e0))))))) s H locs := hw
      rw [fU_U] at hw
      have hT0 : (fU M (b + 300 + e0) (.inr (1, eV (upd (upd (tE T e0) 10 1) 9 (iMin ((tE T e0) 8) (ePump (tE T e0))))))) b = some (.inr (5, [.int (tM T), .ref (ad (b + 1)), .ref (ad (b + 2)), .ref (ad (b + 3))])) := ((fU_n (by omega)).trans (fU_n (by omega)).symm).trans hT0
      have hTh : fList g ad (fU M (b + 300 + e0) (.inr (1, eV (upd (upd (tE T e0) 10 1) 9 (iMin ((tE T e0) 8) (ePump (tE T e0))))))) (b + 1) (b + 4) (b + 100) (tHn T) := fList_V hTh ((fU_n (by omega)).trans (fU_n (by omega)).symm) ((fU_n (by omega)).trans (fU_n (by omega)).symm)
      have hTp : fList g ad (fU M (b + 300 + e0) (.inr (1, eV (upd (upd (tE T e0) 10 1) 9 (iMin ((tE T e0) 8) (ePump (tE T e0))))))) (b + 2) (b + 5) (b + 200) (tPn T) := fList_V hTp ((fU_n (by omega)).trans (fU_n (by omega)).symm) ((fU_n (by omega)).trans (fU_n (by omega)).symm)
      have hTe : fList g ad (fU M (b + 300 + e0) (.inr (1, eV (upd (upd (tE T e0) 10 1) 9 (iMin ((tE T e0) 8) (ePump (tE T e0))))))) (b + 3) (b + 6) (b + 300) (tEn T) := fList_V hTe ((fU_n (by omega)).trans (fU_n (by omega)).symm) ((fU_n (by omega)).trans (fU_n (by omega)).symm)
      have hle : (fU M (b + 300 + e0) (.inr (1, eV (upd (upd (tE T e0) 10 1) 9 (iMin ((tE T e0) 8) (ePump (tE T e0))))))) (b + 300 + e0) = some (.inr (1, eV (upd (upd (tE T e0) 10 1) 9 (iMin ((tE T e0) 8) (ePump (tE T e0)))))) := fU_s
      exact f_vret X hw ⟨rfl, by unfold askT; rw [if_neg c_1, if_neg (by simp only [isIx, Bool.and_eq_true, decide_eq_true_eq]; intro z; exact z.1 c_2)]; exact isTown_setE hT he (Or.inr rfl), fOut_U fOut_rf (by omega)⟩ (Nat.le_refl _) (Nat.le_refl _) dX4_ask_78
    · refine lv_iload hx hb dX4_ask_36 (lv_at hl 0 rfl) ?_
      refine lv_aload_n hx hb dX4_ask_38 rfl (lv_at hl 3 rfl) ?_
      refine f_get X hw hT0 fc5 2 (by decide) wq85 rfl (v := .ref (ad (b + 2))) rfl dX4_ask_39 ?_
      refine fk_di (fcVe X hw (c_size l g ad (fU M (b + 300 + e0) (.inr (1, eV (upd (tE T e0) 10 1)))) hTp) (fList_obj hTp) rfl wq229 kVJx4a65c_size_8abf5 ⟨(Nat.le_of_ble_eq_true rfl), (Nat.le_of_ble_eq_true rfl)⟩ rfl hl.1 rfl (Nat.le_of_ble_eq_true rfl) dX4_ask_42 ⟨Nat.le_refl _, Nat.le_refl _⟩) hw (fun H locs hw => ?_)
      refine lv_icmp_ge (tgt := 69) hx hb dX4_ask_45 (by decide) (fun c_3 => ?_) (fun c_3 => ?_)
      · refine lv_aload_n hx hb dX4_ask_69 rfl (lv_at hl 4 rfl) ?_
        refine lv_iload_n hx hb dX4_ask_70 rfl (lv_at hl 1 rfl) ?_
        refine lv_iload_n hx hb dX4_ask_71 rfl (lv_at hl 2 rfl) ?_
        refine va_mmin hx hb (X.2.2.1.trans hl.1.symm) X.2.2.2.1 (X.2.2.2.2.1 _ wq323) (X.2.2.2.2.1 _ wq287) (X.2.2.2.2.1 _ wq18) (X.2.2.2.2.1 _ wq288) (Nat.le_of_ble_eq_true rfl) (Nat.le_of_ble_eq_true rfl) (Nat.zero_le _) (Nat.zero_le _) dX4_ask_72 ?_
        refine f_top (y := iMin ((tE T e0) 8) (ePump (tE T e0))) rfl ?_
        refine f_putN X hw hle fc1 9 (by decide) wn536 rfl rfl (v := .int (iMin ((tE T e0) 8) (ePump (tE T e0)))) rfl rfl (Nat.le_of_ble_eq_true rfl) dX4_ask_75 (fun H locs hw => ?_)
        have hw : fw g ad (fU (fU M (b + 300 + e0) (.inr (1, eV (upd (tE T e0) 10 1)))) (b + 300 + e0) (.inr (1, eV (upd (upd (tE T e0) 10 1) 9 (iMin ((tE T e0) 8) (ePump (tE T e0))))))) s H locs := hw
        rw [fU_U] at hw
        have hT0 : (fU M (b + 300 + e0) (.inr (1, eV (upd (upd (tE T e0) 10 1) 9 (iMin ((tE T e0) 8) (ePump (tE T e0))))))) b = some (.inr (5, [.int (tM T), .ref (ad (b + 1)), .ref (ad (b + 2)), .ref (ad (b + 3))])) := ((fU_n (by omega)).trans (fU_n (by omega)).symm).trans hT0
        have hTh : fList g ad (fU M (b + 300 + e0) (.inr (1, eV (upd (upd (tE T e0) 10 1) 9 (iMin ((tE T e0) 8) (ePump (tE T e0))))))) (b + 1) (b + 4) (b + 100) (tHn T) := fList_V hTh ((fU_n (by omega)).trans (fU_n (by omega)).symm) ((fU_n (by omega)).trans (fU_n (by omega)).symm)
        have hTp : fList g ad (fU M (b + 300 + e0) (.inr (1, eV (upd (upd (tE T e0) 10 1) 9 (iMin ((tE T e0) 8) (ePump (tE T e0))))))) (b + 2) (b + 5) (b + 200) (tPn T) := fList_V hTp ((fU_n (by omega)).trans (fU_n (by omega)).symm) ((fU_n (by omega)).trans (fU_n (by omega)).symm)
        have hTe : fList g ad (fU M (b + 300 + e0) (.inr (1, eV (upd (upd (tE T e0) 10 1) 9 (iMin ((tE T e0) 8) (ePump (tE T e0))))))) (b + 3) (b + 6) (b + 300) (tEn T) := fList_V hTe ((fU_n (by omega)).trans (fU_n (by omega)).symm) ((fU_n (by omega)).trans (fU_n (by omega)).symm)
        have hle : (fU M (b + 300 + e0) (.inr (1, eV (upd (upd (tE T e0) 10 1) 9 (iMin ((tE T e0) 8) (ePump (tE T e0))))))) (b + 300 + e0) = some (.inr (1, eV (upd (upd (tE T e0) 10 1) 9 (iMin ((tE T e0) 8) (ePump (tE T e0)))))) := fU_s
        exact f_vret X hw ⟨rfl, by unfold askT; rw [if_neg c_1, if_neg (by simp only [isIx, Bool.and_eq_true, decide_eq_true_eq]; intro z; exact z.2 c_3)]; exact isTown_setE hT he (Or.inr rfl), fOut_U fOut_rf (by omega)⟩ (Nat.le_refl _) (Nat.le_refl _) dX4_ask_78
      · have hix : isIx (tPn T) (pondOf T (tE T e0)) = true := by simp only [isIx, Bool.and_eq_true, decide_eq_true_eq]; exact ⟨c_2, c_3⟩
        obtain ⟨j, hj, ej⟩ := isIx_t hix (by omega)
        refine lv_iload_n hx hb dX4_ask_48 rfl (lv_at hl 1 rfl) ?_
        refine lv_aload_n hx hb dX4_ask_49 rfl (lv_at hl 3 rfl) ?_
        refine f_get X hw hT0 fc5 2 (by decide) wq85 rfl (v := .ref (ad (b + 2))) rfl dX4_ask_50 ?_
        refine lv_iload hx hb dX4_ask_53 (lv_at hl 0 rfl) ?_
        rw [ej]
        refine fk_dr (fcVe X hw (c_get l g ad (fU M (b + 300 + e0) (.inr (1, eV (upd (tE T e0) 10 1)))) hTp (by omega)) (fList_obj hTp) rfl wq234 kVJx4a65c_get_915e3 ⟨(Nat.le_of_ble_eq_true rfl), (Nat.le_of_ble_eq_true rfl)⟩ rfl hl.1 rfl (Nat.le_of_ble_eq_true rfl) dX4_ask_55 ⟨Nat.le_refl _, Nat.le_refl _⟩) hw (fun H locs hw => ?_)
        refine f_cast X hw ((fU_n (by omega)).trans (hPs j (by omega))) fc4 wq235 dX4_ask_58 ?_
        refine lv_iload_n hx hb dX4_ask_61 rfl (lv_at hl 2 rfl) ?_
        refine lv_iload_n hx hb dX4_ask_62 rfl (lv_at hl 1 rfl) ?_
        refine lv_isub hx hb dX4_ask_63 ?_
        refine fk_di (fcV X hw (c_X3_giveUpTo l g ad (fU M (b + 300 + e0) (.inr (1, eV (upd (tE T e0) 10 1)))) ((fU_n (by omega)).trans (hPs j (by omega))) (ePump (tE T e0) - tE T e0 8)) ((fU_n (by omega)).trans (hPs j (by omega))) rfl wq317 kVX3_giveUpTo ⟨(Nat.le_of_ble_eq_true rfl), (Nat.le_of_ble_eq_true rfl)⟩ rfl hl.1 rfl (Nat.le_of_ble_eq_true rfl) dX4_ask_64 ⟨Nat.le_refl _, Nat.le_refl _⟩) hw (fun H locs hw => ?_)
        have hw : fw g ad (fU (fU M (b + 300 + e0) (.inr (1, eV (upd (tE T e0) 10 1)))) (b + 200 + j) (.inr (4, pV (upd (tP T j) 1 (tP T j 1 - pGive (tP T j) (ePump (tE T e0) - tE T e0 8)))))) s H locs := hw
        have hT0 : (fU (fU M (b + 300 + e0) (.inr (1, eV (upd (tE T e0) 10 1)))) (b + 200 + j) (.inr (4, pV (upd (tP T j) 1 (tP T j 1 - pGive (tP T j) (ePump (tE T e0) - tE T e0 8)))))) b = some (.inr (5, [.int (tM T), .ref (ad (b + 1)), .ref (ad (b + 2)), .ref (ad (b + 3))])) := (fU_n (by omega)).trans hT0
        have hTh : fList g ad (fU (fU M (b + 300 + e0) (.inr (1, eV (upd (tE T e0) 10 1)))) (b + 200 + j) (.inr (4, pV (upd (tP T j) 1 (tP T j 1 - pGive (tP T j) (ePump (tE T e0) - tE T e0 8)))))) (b + 1) (b + 4) (b + 100) (tHn T) := fList_V hTh (fU_n (by omega)) (fU_n (by omega))
        have hTp : fList g ad (fU (fU M (b + 300 + e0) (.inr (1, eV (upd (tE T e0) 10 1)))) (b + 200 + j) (.inr (4, pV (upd (tP T j) 1 (tP T j 1 - pGive (tP T j) (ePump (tE T e0) - tE T e0 8)))))) (b + 2) (b + 5) (b + 200) (tPn T) := fList_V hTp (fU_n (by omega)) (fU_n (by omega))
        have hTe : fList g ad (fU (fU M (b + 300 + e0) (.inr (1, eV (upd (tE T e0) 10 1)))) (b + 200 + j) (.inr (4, pV (upd (tP T j) 1 (tP T j 1 - pGive (tP T j) (ePump (tE T e0) - tE T e0 8)))))) (b + 3) (b + 6) (b + 300) (tEn T) := fList_V hTe (fU_n (by omega)) (fU_n (by omega))
        have hle : (fU (fU M (b + 300 + e0) (.inr (1, eV (upd (tE T e0) 10 1)))) (b + 200 + j) (.inr (4, pV (upd (tP T j) 1 (tP T j 1 - pGive (tP T j) (ePump (tE T e0) - tE T e0 8)))))) (b + 300 + e0) = some (.inr (1, eV (upd (tE T e0) 10 1))) := (fU_n (by omega)).trans hle
        have hM_b___200___j : (fU (fU M (b + 300 + e0) (.inr (1, eV (upd (tE T e0) 10 1)))) (b + 200 + j) (.inr (4, pV (upd (tP T j) 1 (tP T j 1 - pGive (tP T j) (ePump (tE T e0) - tE T e0 8)))))) (b + 200 + j) = some (.inr (4, pV (upd (tP T j) 1 (tP T j 1 - pGive (tP T j) (ePump (tE T e0) - tE T e0 8))))) := fU_s
        refine lv_iadd hx hb dX4_ask_67 ?_
        refine lv_istore_n (lv' := [(3, .int (((tE T e0) 8) + (pGive (tP T j) (ePump (tE T e0) - tE T e0 8)))), (4, .int (pondOf T (tE T e0))), (2, .int (ePump (tE T e0))), (0, .ref (ad b)), (1, .ref (ad (b + 300 + e0)))]) hx hb dX4_ask_68 rfl hl (by decide) rfl (fun ls hl => ?_)
        refine lv_aload_n hx hb dX4_ask_69 rfl (lv_at hl 4 rfl) ?_
        refine lv_iload_n hx hb dX4_ask_70 rfl (lv_at hl 0 rfl) ?_
        refine lv_iload_n hx hb dX4_ask_71 rfl (lv_at hl 2 rfl) ?_
        refine va_mmin hx hb (X.2.2.1.trans hl.1.symm) X.2.2.2.1 (X.2.2.2.2.1 _ wq323) (X.2.2.2.2.1 _ wq287) (X.2.2.2.2.1 _ wq18) (X.2.2.2.2.1 _ wq288) (Nat.le_of_ble_eq_true rfl) (Nat.le_of_ble_eq_true rfl) (Nat.zero_le _) (Nat.zero_le _) dX4_ask_72 ?_
        refine f_top (y := iMin (((tE T e0) 8) + (pGive (tP T j) (ePump (tE T e0) - tE T e0 8))) (ePump (tE T e0))) rfl ?_
        refine f_putN X hw hle fc1 9 (by decide) wn536 rfl rfl (v := .int (iMin (((tE T e0) 8) + (pGive (tP T j) (ePump (tE T e0) - tE T e0 8))) (ePump (tE T e0)))) rfl rfl (Nat.le_of_ble_eq_true rfl) dX4_ask_75 (fun H locs hw => ?_)
        have hw : fw g ad (fU (fU (fU M (b + 300 + e0) (.inr (1, eV (upd (tE T e0) 10 1)))) (b + 200 + j) (.inr (4, pV (upd (tP T j) 1 (tP T j 1 - pGive (tP T j) (ePump (tE T e0) - tE T e0 8)))))) (b + 300 + e0) (.inr (1, eV (upd (upd (tE T e0) 10 1) 9 (iMin (((tE T e0) 8) + (pGive (tP T j) (ePump (tE T e0) - tE T e0 8))) (ePump (tE T e0))))))) s H locs := hw
        have hT0 : (fU (fU (fU M (b + 300 + e0) (.inr (1, eV (upd (tE T e0) 10 1)))) (b + 200 + j) (.inr (4, pV (upd (tP T j) 1 (tP T j 1 - pGive (tP T j) (ePump (tE T e0) - tE T e0 8)))))) (b + 300 + e0) (.inr (1, eV (upd (upd (tE T e0) 10 1) 9 (iMin (((tE T e0) 8) + (pGive (tP T j) (ePump (tE T e0) - tE T e0 8))) (ePump (tE T e0))))))) b = some (.inr (5, [.int (tM T), .ref (ad (b + 1)), .ref (ad (b + 2)), .ref (ad (b + 3))])) := (fU_n (by omega)).trans hT0
        have hTh : fList g ad (fU (fU (fU M (b + 300 + e0) (.inr (1, eV (upd (tE T e0) 10 1)))) (b + 200 + j) (.inr (4, pV (upd (tP T j) 1 (tP T j 1 - pGive (tP T j) (ePump (tE T e0) - tE T e0 8)))))) (b + 300 + e0) (.inr (1, eV (upd (upd (tE T e0) 10 1) 9 (iMin (((tE T e0) 8) + (pGive (tP T j) (ePump (tE T e0) - tE T e0 8))) (ePump (tE T e0))))))) (b + 1) (b + 4) (b + 100) (tHn T) := fList_V hTh (fU_n (by omega)) (fU_n (by omega))
        have hTp : fList g ad (fU (fU (fU M (b + 300 + e0) (.inr (1, eV (upd (tE T e0) 10 1)))) (b + 200 + j) (.inr (4, pV (upd (tP T j) 1 (tP T j 1 - pGive (tP T j) (ePump (tE T e0) - tE T e0 8)))))) (b + 300 + e0) (.inr (1, eV (upd (upd (tE T e0) 10 1) 9 (iMin (((tE T e0) 8) + (pGive (tP T j) (ePump (tE T e0) - tE T e0 8))) (ePump (tE T e0))))))) (b + 2) (b + 5) (b + 200) (tPn T) := fList_V hTp (fU_n (by omega)) (fU_n (by omega))
        have hTe : fList g ad (fU (fU (fU M (b + 300 + e0) (.inr (1, eV (upd (tE T e0) 10 1)))) (b + 200 + j) (.inr (4, pV (upd (tP T j) 1 (tP T j 1 - pGive (tP T j) (ePump (tE T e0) - tE T e0 8)))))) (b + 300 + e0) (.inr (1, eV (upd (upd (tE T e0) 10 1) 9 (iMin (((tE T e0) 8) + (pGive (tP T j) (ePump (tE T e0) - tE T e0 8))) (ePump (tE T e0))))))) (b + 3) (b + 6) (b + 300) (tEn T) := fList_V hTe (fU_n (by omega)) (fU_n (by omega))
        have hM_b___200___j : (fU (fU (fU M (b + 300 + e0) (.inr (1, eV (upd (tE T e0) 10 1)))) (b + 200 + j) (.inr (4, pV (upd (tP T j) 1 (tP T j 1 - pGive (tP T j) (ePump (tE T e0) - tE T e0 8)))))) (b + 300 + e0) (.inr (1, eV (upd (upd (tE T e0) 10 1) 9 (iMin (((tE T e0) 8) + (pGive (tP T j) (ePump (tE T e0) - tE T e0 8))) (ePump (tE T e0))))))) (b + 200 + j) = some (.inr (4, pV (upd (tP T j) 1 (tP T j 1 - pGive (tP T j) (ePump (tE T e0) - tE T e0 8))))) := (fU_n (by omega)).trans hM_b___200___j
        have hle : (fU (fU (fU M (b + 300 + e0) (.inr (1, eV (upd (tE T e0) 10 1)))) (b + 200 + j) (.inr (4, pV (upd (tP T j) 1 (tP T j 1 - pGive (tP T j) (ePump (tE T e0) - tE T e0 8)))))) (b + 300 + e0) (.inr (1, eV (upd (upd (tE T e0) 10 1) 9 (iMin (((tE T e0) 8) + (pGive (tP T j) (ePump (tE T e0) - tE T e0 8))) (ePump (tE T e0))))))) (b + 300 + e0) = some (.inr (1, eV (upd (upd (tE T e0) 10 1) 9 (iMin (((tE T e0) 8) + (pGive (tP T j) (ePump (tE T e0) - tE T e0 8))) (ePump (tE T e0)))))) := fU_s
        exact f_vret X hw ⟨rfl, by unfold askT; rw [if_neg c_1, if_pos hix, ej, nI_clamp (show j < 2 ^ 31 by omega)]; rw [fU_c (l := b + 300 + e0) (k := b + 200 + j) (by omega), fU_U]; exact isTown_setE (isTown_setP hT hj) he (Or.inr rfl), fOut_U (fOut_U (fOut_U fOut_rf (by omega)) (by omega)) (by omega)⟩ (Nat.le_refl _) (Nat.le_refl _) dX4_ask_78
  · exact f_vret X hw ⟨rfl, by unfold askT; rw [if_pos c_1]; exact isTown_setE hT he (Or.inr rfl), fOut_U fOut_rf (by omega)⟩ (Nat.le_refl _) (Nat.le_refl _) dX4_ask_13
