theorem cop_F {F G : Nat → Nat → Int32} {k : Nat} (h : ∀ j, j < k → F j = G j) : ∀ j, j < k + 1 → (fun j => if j = k then G k else F j) j = G j := fun j hj => by
  show (if j = k then G k else F j) = G j
  by_cases e : j = k
  · rw [if_pos e, e]
  · rw [if_neg e]; exact h j (by omega)
theorem cop_A {F G : Nat → Nat → Int32} {x : Nat → Int32} {k : Nat} (h : ∀ j, j < k → F j = G j) : ∀ j, j < k → (fun j => if j = k then x else F j) j = G j := fun j hj => by
  show (if j = k then x else F j) = G j
  rw [if_neg (by omega)]; exact h j hj
set_option maxHeartbeats 4000000 in
set_option maxRecDepth 100000 in
theorem c_copyFrom (l : Launch) (g : fG) (ad : Nat → Nat) (M : fM) {b b2 : Nat} {S T : fTn} (hT : isTown g ad M b S) (hT2 : isTown g ad M b2 T) (hbb : b + 1000 ≤ b2 ∨ b2 + 1000 ≤ b) (hb : b ≤ 3000) (hb2 : b2 ≤ 3000) (hc1 : tHn S ≤ tHn T) (hc2 : tPn S ≤ tPn T) (hc3 : tEn S ≤ tEn T) : fCv l g yX4_copyFrom cX4_copyFrom 3 7 170 (2 * (tHn T - tHn S) + 2 * (tPn T - tPn S) + 2 * (tEn T - tEn S)) (50 * (tHn T - tHn S) + 45 * (tPn T - tPn S) + 54 * (tEn T - tEn S)) ad M [.ref (ad b), .ref (ad b2)] (fCopy g ad M b T) := by
  refine f_body (own := RX4) (by decide +kernel) rfl (Nat.le_of_ble_eq_true rfl) ?_
  intro p e s m args below meth c ls X hw hin hl
  have hx := X.1
  have hb := X.2.1
  have hl : lv_has ls 3 [(0, .ref (ad b)), (1, .ref (ad b2))] := hl
  obtain ⟨hT0, hTh, hTp, hTe, hHs, hPs, hEs, hn1, hn2, hn3, hA⟩ := id hT
  obtain ⟨hT02, hTh2, hTp2, hTe2, hHs2, hPs2, hEs2, hn12, hn22, hn32, hA2⟩ := id hT2
  obtain ⟨ado, hado⟩ : ∃ z, z = ad := ⟨_, rfl⟩
  obtain ⟨Mo, hMo⟩ : ∃ z, z = M := ⟨_, rfl⟩
  obtain ⟨Q9, hQ9⟩ : ∃ z, z = MQ below (fQv g (fCopy g ad M b T)) args s (2 * (tHn T - tHn S) + 2 * (tPn T - tPn S) + 2 * (tEn T - tEn S)) (50 * (tHn T - tHn S) + 45 * (tPn T - tPn S) + 54 * (tEn T - tEn S)) (fA g) := ⟨_, rfl⟩
  show W p l e (fR 7 170 (2 * (tHn T - tHn S) + 2 * (tPn T - tPn S) + 2 * (tEn T - tEn S)) (50 * (tHn T - tHn S) + 45 * (tPn T - tPn S) + 54 * (tEn T - tEn S))) s m args below meth c _ _ 0 0 (MQ below (fQv g (fCopy g ad M b T)) args s (2 * (tHn T - tHn S) + 2 * (tPn T - tPn S) + 2 * (tEn T - tEn S)) (50 * (tHn T - tHn S) + 45 * (tPn T - tPn S) + 54 * (tEn T - tEn S)) (fA g)) (F0 m 0 ls [])
  rw [← hQ9]
  refine lv_aload_n hx hb dX4_copyFrom_0 rfl (lv_at hl 0 rfl) ?_
  refine lv_aload_n hx hb dX4_copyFrom_1 rfl (lv_at hl 1 rfl) ?_
  refine f_get X hw hT02 fc5 0 (by decide) wq82 rfl (v := .int (tM T)) rfl dX4_copyFrom_2 ?_
  refine f_put X hw hT0 fc5 0 (by decide) wq82 rfl rfl (v := .int (tM T)) rfl rfl (Nat.le_of_ble_eq_true rfl) dX4_copyFrom_5 (fun H locs hw => ?_)
  have hw : fw g ad (fU M b (.inr (5, [.int (tM T), .ref (ad (b + 1)), .ref (ad (b + 2)), .ref (ad (b + 3))]))) s H locs := hw
  have hTh : fList g ad (fU M b (.inr (5, [.int (tM T), .ref (ad (b + 1)), .ref (ad (b + 2)), .ref (ad (b + 3))]))) (b + 1) (b + 4) (b + 100) (tHn S) := fList_V hTh (fU_n (by omega)) (fU_n (by omega))
  have hTp : fList g ad (fU M b (.inr (5, [.int (tM T), .ref (ad (b + 1)), .ref (ad (b + 2)), .ref (ad (b + 3))]))) (b + 2) (b + 5) (b + 200) (tPn S) := fList_V hTp (fU_n (by omega)) (fU_n (by omega))
  have hTe : fList g ad (fU M b (.inr (5, [.int (tM T), .ref (ad (b + 1)), .ref (ad (b + 2)), .ref (ad (b + 3))]))) (b + 3) (b + 6) (b + 300) (tEn S) := fList_V hTe (fU_n (by omega)) (fU_n (by omega))
  have hT02 : (fU M b (.inr (5, [.int (tM T), .ref (ad (b + 1)), .ref (ad (b + 2)), .ref (ad (b + 3))]))) b2 = some (.inr (5, [.int (tM T), .ref (ad (b2 + 1)), .ref (ad (b2 + 2)), .ref (ad (b2 + 3))])) := (fU_n (by omega)).trans hT02
  have hTh2 : fList g ad (fU M b (.inr (5, [.int (tM T), .ref (ad (b + 1)), .ref (ad (b + 2)), .ref (ad (b + 3))]))) (b2 + 1) (b2 + 4) (b2 + 100) (tHn T) := fList_V hTh2 (fU_n (by omega)) (fU_n (by omega))
  have hTp2 : fList g ad (fU M b (.inr (5, [.int (tM T), .ref (ad (b + 1)), .ref (ad (b + 2)), .ref (ad (b + 3))]))) (b2 + 2) (b2 + 5) (b2 + 200) (tPn T) := fList_V hTp2 (fU_n (by omega)) (fU_n (by omega))
  have hTe2 : fList g ad (fU M b (.inr (5, [.int (tM T), .ref (ad (b + 1)), .ref (ad (b + 2)), .ref (ad (b + 3))]))) (b2 + 3) (b2 + 6) (b2 + 300) (tEn T) := fList_V hTe2 (fU_n (by omega)) (fU_n (by omega))
  have hT0 : (fU M b (.inr (5, [.int (tM T), .ref (ad (b + 1)), .ref (ad (b + 2)), .ref (ad (b + 3))]))) b = some (.inr (5, [.int (tM T), .ref (ad (b + 1)), .ref (ad (b + 2)), .ref (ad (b + 3))])) := fU_s
  refine lv_iconst (v := 0) hx hb dX4_copyFrom_8 (by decide) ?_
  refine lv_istore_n (lv' := [(2, .int 0), (0, .ref (ad b)), (1, .ref (ad b2))]) hx hb dX4_copyFrom_9 rfl hl (by decide) rfl (fun ls hl => ?_)
  have hT := isTown_setM (x := tM T) hT
  have hr : fReg b (b + 1000) ado Mo ad (fU M b (.inr (5, [.int (tM T), .ref (ad (b + 1)), .ref (ad (b + 2)), .ref (ad (b + 3))]))) := by rw [hado, hMo]; exact fReg_U fReg_rf (by omega)
  have hT2 := isTown_reg hT2 (fReg_U (lo := b) (hi := b + 1000) fReg_rf (by omega) : fReg b (b + 1000) ad M ad (fU M b (.inr (5, [.int (tM T), .ref (ad (b + 1)), .ref (ad (b + 2)), .ref (ad (b + 3))])))) (by omega) (by omega)
  have hk : ad b = ado b := by rw [hado]
  have loop10 : ∀ (n k : Nat), k ≤ tHn T → tHn T < k + n → ∀ (c9 : Nat) (F9 : Nat → Nat → Int32), (∀ i, i < k → F9 i = tH T i) → k ≤ c9 → tHn S ≤ c9 → (c9 = tHn S ∨ c9 = k) → ∀ (ad : Nat → Nat) (M : fM) (hT : isTown g ad M b (tM T, (c9, F9), (tPn S, tP S), (tEn S, tE S))) (hT2 : isTown g ad M b2 T) (hr : fReg b (b + 1000) ado Mo ad M) (hk : ad b = ado b) (ls : Array Slot) (H : Heap) (locs : List Loc), fw g ad M s H locs → lv_has ls 3 [(2, .int (nI k)), (0, .ref (ad b)), (1, .ref (ad b2))] → W p l e (fR 7 170 (2 * (tHn T - tHn S) + 2 * (tPn T - tPn S) + 2 * (tEn T - tEn S)) (50 * (tHn T - tHn S) + 45 * (tPn T - tPn S) + 54 * (tEn T - tEn S))) s m args below meth c H locs (2 * (c9 - tHn S)) (50 * (c9 - tHn S)) Q9 (F0 m 10 ls []) := by
    intro n
    induction n with
    | zero => intro k h1 h2; omega
    | succ n ih =>
      intro k hk_ hn_ c9 F9 hF hc1 hc2 hc3 ad M hT hT2 hr hk ls H locs hw hl
      have seg : k < tHn T → ∀ (c9 : Nat) (F9 : Nat → Nat → Int32), (∀ i, i < k → F9 i = tH T i) → k < c9 → tHn S ≤ c9 → (c9 = tHn S ∨ c9 = k + 1) → ∀ (ad : Nat → Nat) (M : fM) (hT : isTown g ad M b (tM T, (c9, F9), (tPn S, tP S), (tEn S, tE S))) (hT2 : isTown g ad M b2 T) (hr : fReg b (b + 1000) ado Mo ad M) (hk : ad b = ado b) (ls : Array Slot) (H : Heap) (locs : List Loc), fw g ad M s H locs → lv_has ls 3 [(2, .int (nI k)), (0, .ref (ad b)), (1, .ref (ad b2))] → W p l e (fR 7 170 (2 * (tHn T - tHn S) + 2 * (tPn T - tPn S) + 2 * (tEn T - tEn S)) (50 * (tHn T - tHn S) + 45 * (tPn T - tPn S) + 54 * (tEn T - tEn S))) s m args below meth c H locs (2 * (c9 - tHn S)) (50 * (c9 - tHn S)) Q9 (F0 m 50 ls []) := by
        intro hkN c9 F9 hF hc1 hc2 hc3 ad M hT hT2 hr hk ls H locs hw hl
        obtain ⟨hT0, hTh, hTp, hTe, hHs, hPs, hEs, hn1, hn2, hn3, hA⟩ := id hT
        obtain ⟨hT02, hTh2, hTp2, hTe2, hHs2, hPs2, hEs2, hn12, hn22, hn32, hA2⟩ := id hT2
        have hTh : fList g ad M (b + 1) (b + 4) (b + 100) c9 := hTh
        have hcn : c9 ≤ 30 := hn1
        have hHs : ∀ i, i < c9 → M (b + 100 + i) = some (.inr (3, hV (F9 i))) := hHs
        refine lv_aload_n hx hb dX4_copyFrom_50 rfl (lv_at hl 1 rfl) ?_
        refine f_get X hw hT0 fc5 1 (by decide) wq83 rfl (v := .ref (ad (b + 1))) rfl dX4_copyFrom_51 ?_
        refine lv_iload_n hx hb dX4_copyFrom_54 rfl (lv_at hl 0 rfl) ?_
        refine fk_dr (fcVe X hw (c_get l g ad M hTh (by omega)) (fList_obj hTh) rfl wq234 kVJx4a65c_get_915e3 ⟨(Nat.le_of_ble_eq_true rfl), (Nat.le_of_ble_eq_true rfl)⟩ rfl hl.1 rfl (Nat.le_of_ble_eq_true rfl) dX4_copyFrom_55 ⟨(by dsimp only [fR]; omega), (by dsimp only [fR]; omega)⟩) hw (fun H locs hw => ?_)
        refine f_cast X hw (hHs k (by omega)) fc3 wq300 dX4_copyFrom_58 ?_
        refine lv_aload_n hx hb dX4_copyFrom_61 rfl (lv_at hl 2 rfl) ?_
        refine f_get X hw hT02 fc5 1 (by decide) wq83 rfl (v := .ref (ad (b2 + 1))) rfl dX4_copyFrom_62 ?_
        refine lv_iload_n hx hb dX4_copyFrom_65 rfl (lv_at hl 0 rfl) ?_
        refine fk_dr (fcVe X hw (c_get l g ad M hTh2 (by omega)) (fList_obj hTh2) rfl wq234 kVJx4a65c_get_915e3 ⟨(Nat.le_of_ble_eq_true rfl), (Nat.le_of_ble_eq_true rfl)⟩ rfl hl.1 rfl (Nat.le_of_ble_eq_true rfl) dX4_copyFrom_66 ⟨(by dsimp only [fR]; omega), (by dsimp only [fR]; omega)⟩) hw (fun H locs hw => ?_)
        refine f_cast X hw (hHs2 k (by omega)) fc3 wq300 dX4_copyFrom_69 ?_
        refine fk_dv (fcV X hw (c_X2_copyFrom l g ad M (hHs k (by omega)) (hHs2 k (by omega)) (by omega)) (hHs k (by omega)) rfl wq485 kVX2_copyFrom ⟨(Nat.le_of_ble_eq_true rfl), (Nat.le_of_ble_eq_true rfl)⟩ rfl hl.1 rfl (Nat.le_of_ble_eq_true rfl) dX4_copyFrom_72 ⟨(by dsimp only [fR]; omega), (by dsimp only [fR]; omega)⟩) hw (fun H locs hw => ?_)
        have hw : fw g ad (fU M (b + 100 + k) (.inr (3, hV (tH T k)))) s H locs := hw
        have hT0 : (fU M (b + 100 + k) (.inr (3, hV (tH T k)))) b = some (.inr (5, [.int (tM T), .ref (ad (b + 1)), .ref (ad (b + 2)), .ref (ad (b + 3))])) := (fU_n (by omega)).trans hT0
        have hTh : fList g ad (fU M (b + 100 + k) (.inr (3, hV (tH T k)))) (b + 1) (b + 4) (b + 100) c9 := fList_V hTh (fU_n (by omega)) (fU_n (by omega))
        have hT02 : (fU M (b + 100 + k) (.inr (3, hV (tH T k)))) b2 = some (.inr (5, [.int (tM T), .ref (ad (b2 + 1)), .ref (ad (b2 + 2)), .ref (ad (b2 + 3))])) := (fU_n (by omega)).trans hT02
        have hTh2 : fList g ad (fU M (b + 100 + k) (.inr (3, hV (tH T k)))) (b2 + 1) (b2 + 4) (b2 + 100) (tHn T) := fList_V hTh2 (fU_n (by omega)) (fU_n (by omega))
        have hTp2 : fList g ad (fU M (b + 100 + k) (.inr (3, hV (tH T k)))) (b2 + 2) (b2 + 5) (b2 + 200) (tPn T) := fList_V hTp2 (fU_n (by omega)) (fU_n (by omega))
        have hTe2 : fList g ad (fU M (b + 100 + k) (.inr (3, hV (tH T k)))) (b2 + 3) (b2 + 6) (b2 + 300) (tEn T) := fList_V hTe2 (fU_n (by omega)) (fU_n (by omega))
        have hM_b___100___k : (fU M (b + 100 + k) (.inr (3, hV (tH T k)))) (b + 100 + k) = some (.inr (3, hV (tH T k))) := fU_s
        refine lv_iinc (v := nI (k + 1)) (lv' := [(2, .int (nI (k + 1))), (0, .ref (ad b)), (1, .ref (ad b2))]) hx hb dX4_copyFrom_75 hl (k := 0) rfl (nI_1 k) (by decide) rfl (fun ls hl => ?_)
        refine lv_goto (tgt := 10) hx hb dX4_copyFrom_78 (by decide) ?_
        have hT := isTown_setH (f := tH T k) hT (show k < c9 by omega)
        have hq : fReg b (b + 1000) ad M ad (fU M (b + 100 + k) (.inr (3, hV (tH T k)))) := fReg_U fReg_rf (by omega)
        have hT2 := isTown_reg hT2 hq (by omega) (by omega)
        exact ih (k + 1) (by omega) (by omega) c9 _ (cop_F hF) (by omega) (by omega) (by omega) ad _ hT hT2 (fReg_tr hr hq) hk ls _ _ hw (lv_sub hl [0, 1, 2] rfl)
      obtain ⟨hT0, hTh, hTp, hTe, hHs, hPs, hEs, hn1, hn2, hn3, hA⟩ := id hT
      obtain ⟨hT02, hTh2, hTp2, hTe2, hHs2, hPs2, hEs2, hn12, hn22, hn32, hA2⟩ := id hT2
      have hTh : fList g ad M (b + 1) (b + 4) (b + 100) c9 := hTh
      have hcn : c9 ≤ 30 := hn1
      have hHs : ∀ i, i < c9 → M (b + 100 + i) = some (.inr (3, hV (F9 i))) := hHs
      refine lv_iload_n hx hb dX4_copyFrom_10 rfl (lv_at hl 0 rfl) ?_
      refine lv_aload_n hx hb dX4_copyFrom_11 rfl (lv_at hl 2 rfl) ?_
      refine f_get X hw hT02 fc5 1 (by decide) wq83 rfl (v := .ref (ad (b2 + 1))) rfl dX4_copyFrom_12 ?_
      refine fk_di (fcVe X hw (c_size l g ad M hTh2) (fList_obj hTh2) rfl wq229 kVJx4a65c_size_8abf5 ⟨(Nat.le_of_ble_eq_true rfl), (Nat.le_of_ble_eq_true rfl)⟩ rfl hl.1 rfl (Nat.le_of_ble_eq_true rfl) dX4_copyFrom_15 ⟨(by dsimp only [fR]; omega), (by dsimp only [fR]; omega)⟩) hw (fun H locs hw => ?_)
      refine lv_icmp_ge (tgt := 81) hx hb dX4_copyFrom_18 (by decide) (fun c_1 => ?_) (fun c_1 => ?_)
      · have c_1 := nI_le' (a := (tHn T)) (b := k) c_1 (by omega) (by omega)
        refine lv_iconst (v := 0) hx hb dX4_copyFrom_81 (by decide) ?_
        refine lv_istore_n (lv' := [(2, .int 0), (0, .ref (ad b)), (1, .ref (ad b2))]) hx hb dX4_copyFrom_82 rfl hl (by decide) rfl (fun ls hl => ?_)
        obtain rfl : c9 = tHn T := by omega
        have hT := isTown_cong (T := (tM T, (tHn T, tH T), (tPn S, tP S), (tEn S, tE S))) hT rfl rfl rfl rfl (fun i (hi : i < tHn T) => hF i (by omega)) (fun _ _ => rfl) (fun _ _ => rfl)
        have loop83 : ∀ (n k : Nat), k ≤ tPn T → tPn T < k + n → ∀ (c9 : Nat) (F9 : Nat → Nat → Int32), (∀ i, i < k → F9 i = tP T i) → k ≤ c9 → tPn S ≤ c9 → (c9 = tPn S ∨ c9 = k) → ∀ (ad : Nat → Nat) (M : fM) (hT : isTown g ad M b (tM T, (tHn T, tH T), (c9, F9), (tEn S, tE S))) (hT2 : isTown g ad M b2 T) (hr : fReg b (b + 1000) ado Mo ad M) (hk : ad b = ado b) (ls : Array Slot) (H : Heap) (locs : List Loc), fw g ad M s H locs → lv_has ls 3 [(2, .int (nI k)), (0, .ref (ad b)), (1, .ref (ad b2))] → W p l e (fR 7 170 (2 * (tHn T - tHn S) + 2 * (tPn T - tPn S) + 2 * (tEn T - tEn S)) (50 * (tHn T - tHn S) + 45 * (tPn T - tPn S) + 54 * (tEn T - tEn S))) s m args below meth c H locs (2 * (tHn T - tHn S) + 2 * (c9 - tPn S)) (50 * (tHn T - tHn S) + 45 * (c9 - tPn S)) Q9 (F0 m 83 ls []) := by
          intro n
          induction n with
          | zero => intro k h1 h2; omega
          | succ n ih =>
            intro k hk_ hn_ c9 F9 hF hc1 hc2 hc3 ad M hT hT2 hr hk ls H locs hw hl
            have seg : k < tPn T → ∀ (c9 : Nat) (F9 : Nat → Nat → Int32), (∀ i, i < k → F9 i = tP T i) → k < c9 → tPn S ≤ c9 → (c9 = tPn S ∨ c9 = k + 1) → ∀ (ad : Nat → Nat) (M : fM) (hT : isTown g ad M b (tM T, (tHn T, tH T), (c9, F9), (tEn S, tE S))) (hT2 : isTown g ad M b2 T) (hr : fReg b (b + 1000) ado Mo ad M) (hk : ad b = ado b) (ls : Array Slot) (H : Heap) (locs : List Loc), fw g ad M s H locs → lv_has ls 3 [(2, .int (nI k)), (0, .ref (ad b)), (1, .ref (ad b2))] → W p l e (fR 7 170 (2 * (tHn T - tHn S) + 2 * (tPn T - tPn S) + 2 * (tEn T - tEn S)) (50 * (tHn T - tHn S) + 45 * (tPn T - tPn S) + 54 * (tEn T - tEn S))) s m args below meth c H locs (2 * (tHn T - tHn S) + 2 * (c9 - tPn S)) (50 * (tHn T - tHn S) + 45 * (c9 - tPn S)) Q9 (F0 m 122 ls []) := by
              intro hkN c9 F9 hF hc1 hc2 hc3 ad M hT hT2 hr hk ls H locs hw hl
              obtain ⟨hT0, hTh, hTp, hTe, hHs, hPs, hEs, hn1, hn2, hn3, hA⟩ := id hT
              obtain ⟨hT02, hTh2, hTp2, hTe2, hHs2, hPs2, hEs2, hn12, hn22, hn32, hA2⟩ := id hT2
              have hTp : fList g ad M (b + 2) (b + 5) (b + 200) c9 := hTp
              have hcn : c9 ≤ 6 := hn2
              have hPs : ∀ i, i < c9 → M (b + 200 + i) = some (.inr (4, pV (F9 i))) := hPs
              refine lv_aload_n hx hb dX4_copyFrom_122 rfl (lv_at hl 1 rfl) ?_
              refine f_get X hw hT0 fc5 2 (by decide) wq85 rfl (v := .ref (ad (b + 2))) rfl dX4_copyFrom_123 ?_
              refine lv_iload_n hx hb dX4_copyFrom_126 rfl (lv_at hl 0 rfl) ?_
              refine fk_dr (fcVe X hw (c_get l g ad M hTp (by omega)) (fList_obj hTp) rfl wq234 kVJx4a65c_get_915e3 ⟨(Nat.le_of_ble_eq_true rfl), (Nat.le_of_ble_eq_true rfl)⟩ rfl hl.1 rfl (Nat.le_of_ble_eq_true rfl) dX4_copyFrom_127 ⟨(by dsimp only [fR]; omega), (by dsimp only [fR]; omega)⟩) hw (fun H locs hw => ?_)
              refine f_cast X hw (hPs k (by omega)) fc4 wq235 dX4_copyFrom_130 ?_
              refine lv_aload_n hx hb dX4_copyFrom_133 rfl (lv_at hl 2 rfl) ?_
              refine f_get X hw hT02 fc5 2 (by decide) wq85 rfl (v := .ref (ad (b2 + 2))) rfl dX4_copyFrom_134 ?_
              refine lv_iload_n hx hb dX4_copyFrom_137 rfl (lv_at hl 0 rfl) ?_
              refine fk_dr (fcVe X hw (c_get l g ad M hTp2 (by omega)) (fList_obj hTp2) rfl wq234 kVJx4a65c_get_915e3 ⟨(Nat.le_of_ble_eq_true rfl), (Nat.le_of_ble_eq_true rfl)⟩ rfl hl.1 rfl (Nat.le_of_ble_eq_true rfl) dX4_copyFrom_138 ⟨(by dsimp only [fR]; omega), (by dsimp only [fR]; omega)⟩) hw (fun H locs hw => ?_)
              refine f_cast X hw (hPs2 k (by omega)) fc4 wq235 dX4_copyFrom_141 ?_
              refine fk_dv (fcV X hw (c_X3_copyFrom l g ad M (hPs k (by omega)) (hPs2 k (by omega)) (by omega)) (hPs k (by omega)) rfl wq504 kVX3_copyFrom ⟨(Nat.le_of_ble_eq_true rfl), (Nat.le_of_ble_eq_true rfl)⟩ rfl hl.1 rfl (Nat.le_of_ble_eq_true rfl) dX4_copyFrom_144 ⟨(by dsimp only [fR]; omega), (by dsimp only [fR]; omega)⟩) hw (fun H locs hw => ?_)
              have hw : fw g ad (fU M (b + 200 + k) (.inr (4, pV (tP T k)))) s H locs := hw
              have hT0 : (fU M (b + 200 + k) (.inr (4, pV (tP T k)))) b = some (.inr (5, [.int (tM T), .ref (ad (b + 1)), .ref (ad (b + 2)), .ref (ad (b + 3))])) := (fU_n (by omega)).trans hT0
              have hTp : fList g ad (fU M (b + 200 + k) (.inr (4, pV (tP T k)))) (b + 2) (b + 5) (b + 200) c9 := fList_V hTp (fU_n (by omega)) (fU_n (by omega))
              have hT02 : (fU M (b + 200 + k) (.inr (4, pV (tP T k)))) b2 = some (.inr (5, [.int (tM T), .ref (ad (b2 + 1)), .ref (ad (b2 + 2)), .ref (ad (b2 + 3))])) := (fU_n (by omega)).trans hT02
              have hTh2 : fList g ad (fU M (b + 200 + k) (.inr (4, pV (tP T k)))) (b2 + 1) (b2 + 4) (b2 + 100) (tHn T) := fList_V hTh2 (fU_n (by omega)) (fU_n (by omega))
              have hTp2 : fList g ad (fU M (b + 200 + k) (.inr (4, pV (tP T k)))) (b2 + 2) (b2 + 5) (b2 + 200) (tPn T) := fList_V hTp2 (fU_n (by omega)) (fU_n (by omega))
              have hTe2 : fList g ad (fU M (b + 200 + k) (.inr (4, pV (tP T k)))) (b2 + 3) (b2 + 6) (b2 + 300) (tEn T) := fList_V hTe2 (fU_n (by omega)) (fU_n (by omega))
              have hM_b___200___k : (fU M (b + 200 + k) (.inr (4, pV (tP T k)))) (b + 200 + k) = some (.inr (4, pV (tP T k))) := fU_s
              refine lv_iinc (v := nI (k + 1)) (lv' := [(2, .int (nI (k + 1))), (0, .ref (ad b)), (1, .ref (ad b2))]) hx hb dX4_copyFrom_147 hl (k := 0) rfl (nI_1 k) (by decide) rfl (fun ls hl => ?_)
              refine lv_goto (tgt := 83) hx hb dX4_copyFrom_150 (by decide) ?_
              have hT := isTown_setP (f := tP T k) hT (show k < c9 by omega)
              have hq : fReg b (b + 1000) ad M ad (fU M (b + 200 + k) (.inr (4, pV (tP T k)))) := fReg_U fReg_rf (by omega)
              have hT2 := isTown_reg hT2 hq (by omega) (by omega)
              exact ih (k + 1) (by omega) (by omega) c9 _ (cop_F hF) (by omega) (by omega) (by omega) ad _ hT hT2 (fReg_tr hr hq) hk ls _ _ hw (lv_sub hl [0, 1, 2] rfl)
            obtain ⟨hT0, hTh, hTp, hTe, hHs, hPs, hEs, hn1, hn2, hn3, hA⟩ := id hT
            obtain ⟨hT02, hTh2, hTp2, hTe2, hHs2, hPs2, hEs2, hn12, hn22, hn32, hA2⟩ := id hT2
            have hTp : fList g ad M (b + 2) (b + 5) (b + 200) c9 := hTp
            have hcn : c9 ≤ 6 := hn2
            have hPs : ∀ i, i < c9 → M (b + 200 + i) = some (.inr (4, pV (F9 i))) := hPs
            refine lv_iload_n hx hb dX4_copyFrom_83 rfl (lv_at hl 0 rfl) ?_
            refine lv_aload_n hx hb dX4_copyFrom_84 rfl (lv_at hl 2 rfl) ?_
            refine f_get X hw hT02 fc5 2 (by decide) wq85 rfl (v := .ref (ad (b2 + 2))) rfl dX4_copyFrom_85 ?_
            refine fk_di (fcVe X hw (c_size l g ad M hTp2) (fList_obj hTp2) rfl wq229 kVJx4a65c_size_8abf5 ⟨(Nat.le_of_ble_eq_true rfl), (Nat.le_of_ble_eq_true rfl)⟩ rfl hl.1 rfl (Nat.le_of_ble_eq_true rfl) dX4_copyFrom_88 ⟨(by dsimp only [fR]; omega), (by dsimp only [fR]; omega)⟩) hw (fun H locs hw => ?_)
            refine lv_icmp_ge (tgt := 153) hx hb dX4_copyFrom_91 (by decide) (fun c_2 => ?_) (fun c_2 => ?_)
            · have c_2 := nI_le' (a := (tPn T)) (b := k) c_2 (by omega) (by omega)
              refine lv_iconst (v := 0) hx hb dX4_copyFrom_153 (by decide) ?_
              refine lv_istore_n (lv' := [(2, .int 0), (0, .ref (ad b)), (1, .ref (ad b2))]) hx hb dX4_copyFrom_154 rfl hl (by decide) rfl (fun ls hl => ?_)
              obtain rfl : c9 = tPn T := by omega
              have hT := isTown_cong (T := (tM T, (tHn T, tH T), (tPn T, tP T), (tEn S, tE S))) hT rfl rfl rfl rfl (fun _ _ => rfl) (fun i (hi : i < tPn T) => hF i (by omega)) (fun _ _ => rfl)
              have loop155 : ∀ (n k : Nat), k ≤ tEn T → tEn T < k + n → ∀ (c9 : Nat) (F9 : Nat → Nat → Int32), (∀ i, i < k → F9 i = tE T i) → k ≤ c9 → tEn S ≤ c9 → (c9 = tEn S ∨ c9 = k) → ∀ (ad : Nat → Nat) (M : fM) (hT : isTown g ad M b (tM T, (tHn T, tH T), (tPn T, tP T), (c9, F9))) (hT2 : isTown g ad M b2 T) (hr : fReg b (b + 1000) ado Mo ad M) (hk : ad b = ado b) (ls : Array Slot) (H : Heap) (locs : List Loc), fw g ad M s H locs → lv_has ls 3 [(2, .int (nI k)), (0, .ref (ad b)), (1, .ref (ad b2))] → W p l e (fR 7 170 (2 * (tHn T - tHn S) + 2 * (tPn T - tPn S) + 2 * (tEn T - tEn S)) (50 * (tHn T - tHn S) + 45 * (tPn T - tPn S) + 54 * (tEn T - tEn S))) s m args below meth c H locs (2 * (tHn T - tHn S) + 2 * (tPn T - tPn S) + 2 * (c9 - tEn S)) (50 * (tHn T - tHn S) + 45 * (tPn T - tPn S) + 54 * (c9 - tEn S)) Q9 (F0 m 155 ls []) := by
                intro n
                induction n with
                | zero => intro k h1 h2; omega
                | succ n ih =>
                  intro k hk_ hn_ c9 F9 hF hc1 hc2 hc3 ad M hT hT2 hr hk ls H locs hw hl
                  have seg : k < tEn T → ∀ (c9 : Nat) (F9 : Nat → Nat → Int32), (∀ i, i < k → F9 i = tE T i) → k < c9 → tEn S ≤ c9 → (c9 = tEn S ∨ c9 = k + 1) → ∀ (ad : Nat → Nat) (M : fM) (hT : isTown g ad M b (tM T, (tHn T, tH T), (tPn T, tP T), (c9, F9))) (hT2 : isTown g ad M b2 T) (hr : fReg b (b + 1000) ado Mo ad M) (hk : ad b = ado b) (ls : Array Slot) (H : Heap) (locs : List Loc), fw g ad M s H locs → lv_has ls 3 [(2, .int (nI k)), (0, .ref (ad b)), (1, .ref (ad b2))] → W p l e (fR 7 170 (2 * (tHn T - tHn S) + 2 * (tPn T - tPn S) + 2 * (tEn T - tEn S)) (50 * (tHn T - tHn S) + 45 * (tPn T - tPn S) + 54 * (tEn T - tEn S))) s m args below meth c H locs (2 * (tHn T - tHn S) + 2 * (tPn T - tPn S) + 2 * (c9 - tEn S)) (50 * (tHn T - tHn S) + 45 * (tPn T - tPn S) + 54 * (c9 - tEn S)) Q9 (F0 m 195 ls []) := by
                    intro hkN c9 F9 hF hc1 hc2 hc3 ad M hT hT2 hr hk ls H locs hw hl
                    obtain ⟨hT0, hTh, hTp, hTe, hHs, hPs, hEs, hn1, hn2, hn3, hA⟩ := id hT
                    obtain ⟨hT02, hTh2, hTp2, hTe2, hHs2, hPs2, hEs2, hn12, hn22, hn32, hA2⟩ := id hT2
                    have hTe : fList g ad M (b + 3) (b + 6) (b + 300) c9 := hTe
                    have hcn : c9 ≤ 6 := hn3
                    have hEs : ∀ i, i < c9 → M (b + 300 + i) = some (.inr (1, eV (F9 i))) := hEs
                    refine lv_aload_n hx hb dX4_copyFrom_195 rfl (lv_at hl 1 rfl) ?_
                    refine f_get X hw hT0 fc5 3 (by decide) wq87 rfl (v := .ref (ad (b + 3))) rfl dX4_copyFrom_196 ?_
                    refine lv_iload_n hx hb dX4_copyFrom_199 rfl (lv_at hl 0 rfl) ?_
                    refine fk_dr (fcVe X hw (c_get l g ad M hTe (by omega)) (fList_obj hTe) rfl wq234 kVJx4a65c_get_915e3 ⟨(Nat.le_of_ble_eq_true rfl), (Nat.le_of_ble_eq_true rfl)⟩ rfl hl.1 rfl (Nat.le_of_ble_eq_true rfl) dX4_copyFrom_200 ⟨(by dsimp only [fR]; omega), (by dsimp only [fR]; omega)⟩) hw (fun H locs hw => ?_)
                    refine f_cast X hw (hEs k (by omega)) fc1 wq281 dX4_copyFrom_203 ?_
                    refine lv_aload_n hx hb dX4_copyFrom_206 rfl (lv_at hl 2 rfl) ?_
                    refine f_get X hw hT02 fc5 3 (by decide) wq87 rfl (v := .ref (ad (b2 + 3))) rfl dX4_copyFrom_207 ?_
                    refine lv_iload_n hx hb dX4_copyFrom_210 rfl (lv_at hl 0 rfl) ?_
                    refine fk_dr (fcVe X hw (c_get l g ad M hTe2 (by omega)) (fList_obj hTe2) rfl wq234 kVJx4a65c_get_915e3 ⟨(Nat.le_of_ble_eq_true rfl), (Nat.le_of_ble_eq_true rfl)⟩ rfl hl.1 rfl (Nat.le_of_ble_eq_true rfl) dX4_copyFrom_211 ⟨(by dsimp only [fR]; omega), (by dsimp only [fR]; omega)⟩) hw (fun H locs hw => ?_)
                    refine f_cast X hw (hEs2 k (by omega)) fc1 wq281 dX4_copyFrom_214 ?_
                    refine fk_dv (fcV X hw (c_X0_copyFrom l g ad M (hEs k (by omega)) (hEs2 k (by omega)) (by omega) (hA2 k hkN)) (hEs k (by omega)) rfl wq562 kVX0_copyFrom ⟨(Nat.le_of_ble_eq_true rfl), (Nat.le_of_ble_eq_true rfl)⟩ rfl hl.1 rfl (Nat.le_of_ble_eq_true rfl) dX4_copyFrom_217 ⟨(by dsimp only [fR]; omega), (by dsimp only [fR]; omega)⟩) hw (fun H locs hw => ?_)
                    have hw : fw g ad (fU M (b + 300 + k) (.inr (1, eV (tE T k)))) s H locs := hw
                    have hT0 : (fU M (b + 300 + k) (.inr (1, eV (tE T k)))) b = some (.inr (5, [.int (tM T), .ref (ad (b + 1)), .ref (ad (b + 2)), .ref (ad (b + 3))])) := (fU_n (by omega)).trans hT0
                    have hTe : fList g ad (fU M (b + 300 + k) (.inr (1, eV (tE T k)))) (b + 3) (b + 6) (b + 300) c9 := fList_V hTe (fU_n (by omega)) (fU_n (by omega))
                    have hT02 : (fU M (b + 300 + k) (.inr (1, eV (tE T k)))) b2 = some (.inr (5, [.int (tM T), .ref (ad (b2 + 1)), .ref (ad (b2 + 2)), .ref (ad (b2 + 3))])) := (fU_n (by omega)).trans hT02
                    have hTh2 : fList g ad (fU M (b + 300 + k) (.inr (1, eV (tE T k)))) (b2 + 1) (b2 + 4) (b2 + 100) (tHn T) := fList_V hTh2 (fU_n (by omega)) (fU_n (by omega))
                    have hTp2 : fList g ad (fU M (b + 300 + k) (.inr (1, eV (tE T k)))) (b2 + 2) (b2 + 5) (b2 + 200) (tPn T) := fList_V hTp2 (fU_n (by omega)) (fU_n (by omega))
                    have hTe2 : fList g ad (fU M (b + 300 + k) (.inr (1, eV (tE T k)))) (b2 + 3) (b2 + 6) (b2 + 300) (tEn T) := fList_V hTe2 (fU_n (by omega)) (fU_n (by omega))
                    have hM_b___300___k : (fU M (b + 300 + k) (.inr (1, eV (tE T k)))) (b + 300 + k) = some (.inr (1, eV (tE T k))) := fU_s
                    refine lv_iinc (v := nI (k + 1)) (lv' := [(2, .int (nI (k + 1))), (0, .ref (ad b)), (1, .ref (ad b2))]) hx hb dX4_copyFrom_220 hl (k := 0) rfl (nI_1 k) (by decide) rfl (fun ls hl => ?_)
                    refine lv_goto (tgt := 155) hx hb dX4_copyFrom_223 (by decide) ?_
                    have hT := isTown_setE (f := tE T k) hT (show k < c9 by omega) (hA2 k hkN)
                    have hq : fReg b (b + 1000) ad M ad (fU M (b + 300 + k) (.inr (1, eV (tE T k)))) := fReg_U fReg_rf (by omega)
                    have hT2 := isTown_reg hT2 hq (by omega) (by omega)
                    exact ih (k + 1) (by omega) (by omega) c9 _ (cop_F hF) (by omega) (by omega) (by omega) ad _ hT hT2 (fReg_tr hr hq) hk ls _ _ hw (lv_sub hl [0, 1, 2] rfl)
                  obtain ⟨hT0, hTh, hTp, hTe, hHs, hPs, hEs, hn1, hn2, hn3, hA⟩ := id hT
                  obtain ⟨hT02, hTh2, hTp2, hTe2, hHs2, hPs2, hEs2, hn12, hn22, hn32, hA2⟩ := id hT2
                  have hTe : fList g ad M (b + 3) (b + 6) (b + 300) c9 := hTe
                  have hcn : c9 ≤ 6 := hn3
                  have hEs : ∀ i, i < c9 → M (b + 300 + i) = some (.inr (1, eV (F9 i))) := hEs
                  refine lv_iload_n hx hb dX4_copyFrom_155 rfl (lv_at hl 0 rfl) ?_
                  refine lv_aload_n hx hb dX4_copyFrom_156 rfl (lv_at hl 2 rfl) ?_
                  refine f_get X hw hT02 fc5 3 (by decide) wq87 rfl (v := .ref (ad (b2 + 3))) rfl dX4_copyFrom_157 ?_
                  refine fk_di (fcVe X hw (c_size l g ad M hTe2) (fList_obj hTe2) rfl wq229 kVJx4a65c_size_8abf5 ⟨(Nat.le_of_ble_eq_true rfl), (Nat.le_of_ble_eq_true rfl)⟩ rfl hl.1 rfl (Nat.le_of_ble_eq_true rfl) dX4_copyFrom_160 ⟨(by dsimp only [fR]; omega), (by dsimp only [fR]; omega)⟩) hw (fun H locs hw => ?_)
                  refine lv_icmp_ge (tgt := 226) hx hb dX4_copyFrom_163 (by decide) (fun c_3 => ?_) (fun c_3 => ?_)
                  · have c_3 := nI_le' (a := (tEn T)) (b := k) c_3 (by omega) (by omega)
                    obtain rfl : c9 = tEn T := by omega
                    have hT := isTown_cong (T := (tM T, (tHn T, tH T), (tPn T, tP T), (tEn T, tE T))) hT rfl rfl rfl rfl (fun _ _ => rfl) (fun _ _ => rfl) (fun i (hi : i < tEn T) => hF i (by omega))
                    rw [hQ9, ← hado, ← hMo]
                    exact f_vret X hw ⟨hT, hr, hk⟩ (by omega) (by omega) dX4_copyFrom_226
                  · have c_3 := nI_nle' (a := (tEn T)) (b := k) c_3 (by omega) (by omega)
                    refine lv_iload_n hx hb dX4_copyFrom_166 rfl (lv_at hl 0 rfl) ?_
                    refine lv_aload_n hx hb dX4_copyFrom_167 rfl (lv_at hl 1 rfl) ?_
                    refine f_get X hw hT0 fc5 3 (by decide) wq87 rfl (v := .ref (ad (b + 3))) rfl dX4_copyFrom_168 ?_
                    refine fk_di (fcVe X hw (c_size l g ad M hTe) (fList_obj hTe) rfl wq229 kVJx4a65c_size_8abf5 ⟨(Nat.le_of_ble_eq_true rfl), (Nat.le_of_ble_eq_true rfl)⟩ rfl hl.1 rfl (Nat.le_of_ble_eq_true rfl) dX4_copyFrom_171 ⟨(by dsimp only [fR]; omega), (by dsimp only [fR]; omega)⟩) hw (fun H locs hw => ?_)
                    refine lv_icmp_lt (tgt := 195) hx hb dX4_copyFrom_174 (by decide) (fun c_4 => ?_) (fun c_4 => ?_)
                    · have c_4 := nI_lt' (a := k) (b := c9) c_4 (by omega) (by omega)
                      exact seg (by omega) c9 F9 hF (by omega) (by omega) (by omega) ad M hT hT2 hr hk ls _ _ hw (lv_sub hl [0, 1, 2] rfl)
                    · have c_4 := nI_nlt' (a := k) (b := c9) c_4 (by omega) (by omega)
                      refine lv_aload_n hx hb dX4_copyFrom_177 rfl (lv_at hl 1 rfl) ?_
                      refine f_get X hw hT0 fc5 3 (by decide) wq87 rfl (v := .ref (ad (b + 3))) rfl dX4_copyFrom_178 ?_
                      obtain rfl : k = c9 := by omega
                      refine f_new X hw (b + 300 + k) (by omega) fc1 wq281 wq508 wq23 (fs := [.int 0, .int 0, .int 0, .int 0, .int 0, .int 0, .int 0, .int 0, .int 0, .int 0, .int 0]) (by intro j hj; rcases (show j = 0 ∨ j = 1 ∨ j = 2 ∨ j = 3 ∨ j = 4 ∨ j = 5 ∨ j = 6 ∨ j = 7 ∨ j = 8 ∨ j = 9 ∨ j = 10 by omega) with rfl | rfl | rfl | rfl | rfl | rfl | rfl | rfl | rfl | rfl | rfl <;> rfl) (by dsimp only [fR]; omega) (by dsimp only [fR]; omega) dX4_copyFrom_181 (fun q1 H hw => ?_)
                      obtain ⟨ad1, ea1⟩ : ∃ z, z = fV ad (b + 300 + k) q1 := ⟨_, rfl⟩
                      have eq1 : ad1 (b + 300 + k) = q1 := by rw [ea1]; exact fV_s
                      have eA1 : ∀ l, l ≠ b + 300 + k → ad1 l = ad l := fun l h => by rw [ea1]; exact fV_n h
                      rw [← ea1] at hw
                      obtain ⟨Mn1, em1⟩ : ∃ z, z = fU M (b + 300 + k) (.inr (1, [.int 0, .int 0, .int 0, .int 0, .int 0, .int 0, .int 0, .int 0, .int 0, .int 0, .int 0])) := ⟨_, rfl⟩
                      have eM1 : ∀ l, l ≠ b + 300 + k → Mn1 l = M l := fun l h => by rw [em1]; exact fU_n h
                      have eS1 : Mn1 (b + 300 + k) = some (.inr (1, [.int 0, .int 0, .int 0, .int 0, .int 0, .int 0, .int 0, .int 0, .int 0, .int 0, .int 0])) := by rw [em1]; exact fU_s
                      rw [← em1] at hw
                      refine lv_dup hx hb dX4_copyFrom_184 rfl ?_
                      refine lv_iconst (v := 0) hx hb dX4_copyFrom_185 (by decide) ?_
                      refine lv_iconst (v := 0) hx hb dX4_copyFrom_186 (by decide) ?_
                      refine lv_iconst (v := 0) hx hb dX4_copyFrom_187 (by decide) ?_
                      refine f_adr4 (ad := ad1) (lb := b + 300 + k) eq1 ?_
                      refine fk_dv (fcI X hw (c_X0_init l g ad1 Mn1 (lb := b + 300 + k) (f := f0) eS1 0 0 0) wq509 kIX0_init ⟨(Nat.le_of_ble_eq_true rfl), (Nat.le_of_ble_eq_true rfl)⟩ rfl hl.1 rfl (Nat.le_of_ble_eq_true rfl) dX4_copyFrom_188 ⟨(by dsimp only [fR]; omega), (by dsimp only [fR]; omega)⟩) hw (fun H locs hw => ?_)
                      refine f_adr (ad := ad1) (lb := b + 300 + k) eq1 ?_
                      refine f_adr2 (ad := ad1) (lb := b + 3) (eA1 _ (by omega)) ?_
                      have hLn : fList g ad1 (fU Mn1 (b + 300 + k) (.inr (1, eV (upd (upd (upd (upd (upd (upd f0 0 0) 1 0) 2 0) 3 60) 6 (-1)) 7 (-1))))) (b + 3) (b + 6) (b + 300) k := fList_A hTe (eA1 _ (by omega)) (fun i hi => eA1 _ (by omega)) ((fU_n (by omega)).trans (eM1 _ (by omega))) ((fU_n (by omega)).trans (eM1 _ (by omega)))
                      refine fk_i (fcVe X hw (c_add l g ad1 (fU Mn1 (b + 300 + k) (.inr (1, eV (upd (upd (upd (upd (upd (upd f0 0 0) 1 0) 2 0) 3 60) 6 (-1)) 7 (-1))))) hLn (by omega) (ci := 1) rfl wn901 fU_s (by omega) (by omega) (by omega) (fun i hi => ⟨_, (fU_n (by omega)).trans ((eM1 _ (by omega)).trans (hEs i hi))⟩)) (fList_obj hLn) rfl wq429 kVJx4a65c_add_9ea2d ⟨(Nat.le_of_ble_eq_true rfl), (Nat.le_of_ble_eq_true rfl)⟩ rfl hl.1 rfl (Nat.le_of_ble_eq_true rfl) dX4_copyFrom_191 ⟨(by dsimp only [fR]; omega), (by dsimp only [fR]; omega)⟩) hw (fun r ad3 M3 H locs hp hw => ?_)
                      refine lv_pop hx hb dX4_copyFrom_194 rfl ?_
                      have hTn := isTown_addE (ad1 := ad3) (M1 := M3) (f := (upd (upd (upd (upd (upd (upd f0 0 0) 1 0) 2 0) 3 60) 6 (-1)) 7 (-1))) hT (show k < 6 by omega) hp.1.1 ((hp.1.2.2 _ (by omega) (by omega) (by omega)).trans fU_s) (Or.inl rfl) (fun l a1 a2 a3 a4 => ⟨(hp.1.2.1 l (by omega) (by omega)).trans (eA1 l (by omega)), fun a5 => (hp.1.2.2 l a5 (by omega) (by omega)).trans ((fU_n (by omega)).trans (eM1 l (by omega)))⟩)
                      have hq : fReg b (b + 1000) ad M ad3 M3 := fun l a1 a2 => ⟨(hp.1.2.1 l (by omega) (by omega)).trans (eA1 l (by omega)), (hp.1.2.2 l (by omega) (by omega) (by omega)).trans ((fU_n (by omega)).trans (eM1 l (by omega)))⟩
                      have hT2 := isTown_reg hT2 hq (by omega) (by omega)
                      have hb3 : ad3 b = ad b := (hp.1.2.1 b (by omega) (by omega)).trans (eA1 b (by omega))
                      have hb4 : ad3 b2 = ad b2 := (hp.1.2.1 b2 (by omega) (by omega)).trans (eA1 b2 (by omega))
                      rw [← hb3, ← hb4] at hl
                      have hsg := seg (by omega) (k + 1) _ (cop_A hF) (by omega) (by omega) (by omega) ad3 M3 hTn hT2 (fReg_tr hr hq) (hb3.trans hk) ls _ _ hw (lv_sub hl [0, 1, 2] rfl)
                      rw [show (2 * (tHn T - tHn S) + 2 * (tPn T - tPn S) + 2 * ((k + 1) - tEn S)) = (2 * (tHn T - tHn S) + 2 * (tPn T - tPn S) + 2 * (k - tEn S)) + 1 + 1 by omega, show (50 * (tHn T - tHn S) + 45 * (tPn T - tPn S) + 54 * ((k + 1) - tEn S)) = (50 * (tHn T - tHn S) + 45 * (tPn T - tPn S) + 54 * (k - tEn S)) + 11 + 43 by omega] at hsg
                      exact hsg
              have hlp := loop155 (tEn T + 1) 0 (by omega) (by omega) (tEn S) (tE S) (fun i hi => absurd hi (Nat.not_lt_zero _)) (by omega) (by omega) (by omega) ad _ hT hT2 hr hk ls _ _ hw (lv_sub hl [0, 1, 2] rfl)
              rw [show 2 * (tEn S - tEn S) = 0 by omega, show 54 * (tEn S - tEn S) = 0 by omega] at hlp
              exact hlp
            · have c_2 := nI_nle' (a := (tPn T)) (b := k) c_2 (by omega) (by omega)
              refine lv_iload_n hx hb dX4_copyFrom_94 rfl (lv_at hl 0 rfl) ?_
              refine lv_aload_n hx hb dX4_copyFrom_95 rfl (lv_at hl 1 rfl) ?_
              refine f_get X hw hT0 fc5 2 (by decide) wq85 rfl (v := .ref (ad (b + 2))) rfl dX4_copyFrom_96 ?_
              refine fk_di (fcVe X hw (c_size l g ad M hTp) (fList_obj hTp) rfl wq229 kVJx4a65c_size_8abf5 ⟨(Nat.le_of_ble_eq_true rfl), (Nat.le_of_ble_eq_true rfl)⟩ rfl hl.1 rfl (Nat.le_of_ble_eq_true rfl) dX4_copyFrom_99 ⟨(by dsimp only [fR]; omega), (by dsimp only [fR]; omega)⟩) hw (fun H locs hw => ?_)
              refine lv_icmp_lt (tgt := 122) hx hb dX4_copyFrom_102 (by decide) (fun c_5 => ?_) (fun c_5 => ?_)
              · have c_5 := nI_lt' (a := k) (b := c9) c_5 (by omega) (by omega)
                exact seg (by omega) c9 F9 hF (by omega) (by omega) (by omega) ad M hT hT2 hr hk ls _ _ hw (lv_sub hl [0, 1, 2] rfl)
              · have c_5 := nI_nlt' (a := k) (b := c9) c_5 (by omega) (by omega)
                refine lv_aload_n hx hb dX4_copyFrom_105 rfl (lv_at hl 1 rfl) ?_
                refine f_get X hw hT0 fc5 2 (by decide) wq85 rfl (v := .ref (ad (b + 2))) rfl dX4_copyFrom_106 ?_
                obtain rfl : k = c9 := by omega
                refine f_new X hw (b + 200 + k) (by omega) fc4 wq235 wq489 wq22 (fs := [.int 0, .int 0]) (by intro j hj; rcases (show j = 0 ∨ j = 1 by omega) with rfl | rfl <;> rfl) (by dsimp only [fR]; omega) (by dsimp only [fR]; omega) dX4_copyFrom_109 (fun q1 H hw => ?_)
                obtain ⟨ad1, ea1⟩ : ∃ z, z = fV ad (b + 200 + k) q1 := ⟨_, rfl⟩
                have eq1 : ad1 (b + 200 + k) = q1 := by rw [ea1]; exact fV_s
                have eA1 : ∀ l, l ≠ b + 200 + k → ad1 l = ad l := fun l h => by rw [ea1]; exact fV_n h
                rw [← ea1] at hw
                obtain ⟨Mn1, em1⟩ : ∃ z, z = fU M (b + 200 + k) (.inr (4, [.int 0, .int 0])) := ⟨_, rfl⟩
                have eM1 : ∀ l, l ≠ b + 200 + k → Mn1 l = M l := fun l h => by rw [em1]; exact fU_n h
                have eS1 : Mn1 (b + 200 + k) = some (.inr (4, [.int 0, .int 0])) := by rw [em1]; exact fU_s
                rw [← em1] at hw
                refine lv_dup hx hb dX4_copyFrom_112 rfl ?_
                refine lv_iconst (v := 0) hx hb dX4_copyFrom_113 (by decide) ?_
                refine lv_iconst (v := 0) hx hb dX4_copyFrom_114 (by decide) ?_
                refine f_adr3 (ad := ad1) (lb := b + 200 + k) eq1 ?_
                refine fk_dv (fcI X hw (c_X3_init l g ad1 Mn1 (lb := b + 200 + k) (f := f0) eS1 0 0) wq490 kIX3_init ⟨(Nat.le_of_ble_eq_true rfl), (Nat.le_of_ble_eq_true rfl)⟩ rfl hl.1 rfl (Nat.le_of_ble_eq_true rfl) dX4_copyFrom_115 ⟨(by dsimp only [fR]; omega), (by dsimp only [fR]; omega)⟩) hw (fun H locs hw => ?_)
                refine f_adr (ad := ad1) (lb := b + 200 + k) eq1 ?_
                refine f_adr2 (ad := ad1) (lb := b + 2) (eA1 _ (by omega)) ?_
                have hLn : fList g ad1 (fU Mn1 (b + 200 + k) (.inr (4, pV (upd (upd f0 0 0) 1 0)))) (b + 2) (b + 5) (b + 200) k := fList_A hTp (eA1 _ (by omega)) (fun i hi => eA1 _ (by omega)) ((fU_n (by omega)).trans (eM1 _ (by omega))) ((fU_n (by omega)).trans (eM1 _ (by omega)))
                refine fk_i (fcVe X hw (c_add l g ad1 (fU Mn1 (b + 200 + k) (.inr (4, pV (upd (upd f0 0 0) 1 0)))) hLn (by omega) (ci := 4) rfl wn900 fU_s (by omega) (by omega) (by omega) (fun i hi => ⟨_, (fU_n (by omega)).trans ((eM1 _ (by omega)).trans (hPs i hi))⟩)) (fList_obj hLn) rfl wq429 kVJx4a65c_add_9ea2d ⟨(Nat.le_of_ble_eq_true rfl), (Nat.le_of_ble_eq_true rfl)⟩ rfl hl.1 rfl (Nat.le_of_ble_eq_true rfl) dX4_copyFrom_118 ⟨(by dsimp only [fR]; omega), (by dsimp only [fR]; omega)⟩) hw (fun r ad3 M3 H locs hp hw => ?_)
                refine lv_pop hx hb dX4_copyFrom_121 rfl ?_
                have hTn := isTown_addP (ad1 := ad3) (M1 := M3) (f := (upd (upd f0 0 0) 1 0)) hT (show k < 6 by omega) hp.1.1 ((hp.1.2.2 _ (by omega) (by omega) (by omega)).trans fU_s) (fun l a1 a2 a3 a4 => ⟨(hp.1.2.1 l (by omega) (by omega)).trans (eA1 l (by omega)), fun a5 => (hp.1.2.2 l a5 (by omega) (by omega)).trans ((fU_n (by omega)).trans (eM1 l (by omega)))⟩)
                have hq : fReg b (b + 1000) ad M ad3 M3 := fun l a1 a2 => ⟨(hp.1.2.1 l (by omega) (by omega)).trans (eA1 l (by omega)), (hp.1.2.2 l (by omega) (by omega) (by omega)).trans ((fU_n (by omega)).trans (eM1 l (by omega)))⟩
                have hT2 := isTown_reg hT2 hq (by omega) (by omega)
                have hb3 : ad3 b = ad b := (hp.1.2.1 b (by omega) (by omega)).trans (eA1 b (by omega))
                have hb4 : ad3 b2 = ad b2 := (hp.1.2.1 b2 (by omega) (by omega)).trans (eA1 b2 (by omega))
                rw [← hb3, ← hb4] at hl
                have hsg := seg (by omega) (k + 1) _ (cop_A hF) (by omega) (by omega) (by omega) ad3 M3 hTn hT2 (fReg_tr hr hq) (hb3.trans hk) ls _ _ hw (lv_sub hl [0, 1, 2] rfl)
                rw [show (2 * (tHn T - tHn S) + 2 * ((k + 1) - tPn S)) = (2 * (tHn T - tHn S) + 2 * (k - tPn S)) + 1 + 1 by omega, show (50 * (tHn T - tHn S) + 45 * ((k + 1) - tPn S)) = (50 * (tHn T - tHn S) + 45 * (k - tPn S)) + 2 + 43 by omega] at hsg
                exact hsg
        have hlp := loop83 (tPn T + 1) 0 (by omega) (by omega) (tPn S) (tP S) (fun i hi => absurd hi (Nat.not_lt_zero _)) (by omega) (by omega) (by omega) ad _ hT hT2 hr hk ls _ _ hw (lv_sub hl [0, 1, 2] rfl)
        rw [show 2 * (tPn S - tPn S) = 0 by omega, show 45 * (tPn S - tPn S) = 0 by omega] at hlp
        exact hlp
      · have c_1 := nI_nle' (a := (tHn T)) (b := k) c_1 (by omega) (by omega)
        refine lv_iload_n hx hb dX4_copyFrom_21 rfl (lv_at hl 0 rfl) ?_
        refine lv_aload_n hx hb dX4_copyFrom_22 rfl (lv_at hl 1 rfl) ?_
        refine f_get X hw hT0 fc5 1 (by decide) wq83 rfl (v := .ref (ad (b + 1))) rfl dX4_copyFrom_23 ?_
        refine fk_di (fcVe X hw (c_size l g ad M hTh) (fList_obj hTh) rfl wq229 kVJx4a65c_size_8abf5 ⟨(Nat.le_of_ble_eq_true rfl), (Nat.le_of_ble_eq_true rfl)⟩ rfl hl.1 rfl (Nat.le_of_ble_eq_true rfl) dX4_copyFrom_26 ⟨(by dsimp only [fR]; omega), (by dsimp only [fR]; omega)⟩) hw (fun H locs hw => ?_)
        refine lv_icmp_lt (tgt := 50) hx hb dX4_copyFrom_29 (by decide) (fun c_6 => ?_) (fun c_6 => ?_)
        · have c_6 := nI_lt' (a := k) (b := c9) c_6 (by omega) (by omega)
          exact seg (by omega) c9 F9 hF (by omega) (by omega) (by omega) ad M hT hT2 hr hk ls _ _ hw (lv_sub hl [0, 1, 2] rfl)
        · have c_6 := nI_nlt' (a := k) (b := c9) c_6 (by omega) (by omega)
          refine lv_aload_n hx hb dX4_copyFrom_32 rfl (lv_at hl 1 rfl) ?_
          refine f_get X hw hT0 fc5 1 (by decide) wq83 rfl (v := .ref (ad (b + 1))) rfl dX4_copyFrom_33 ?_
          obtain rfl : k = c9 := by omega
          refine f_new X hw (b + 100 + k) (by omega) fc3 wq300 wq357 wq16 (fs := [.int 0, .int 0, .int 0, .int 0, .int 0, .int 0, .int 0]) (by intro j hj; rcases (show j = 0 ∨ j = 1 ∨ j = 2 ∨ j = 3 ∨ j = 4 ∨ j = 5 ∨ j = 6 by omega) with rfl | rfl | rfl | rfl | rfl | rfl | rfl <;> rfl) (by dsimp only [fR]; omega) (by dsimp only [fR]; omega) dX4_copyFrom_36 (fun q1 H hw => ?_)
          obtain ⟨ad1, ea1⟩ : ∃ z, z = fV ad (b + 100 + k) q1 := ⟨_, rfl⟩
          have eq1 : ad1 (b + 100 + k) = q1 := by rw [ea1]; exact fV_s
          have eA1 : ∀ l, l ≠ b + 100 + k → ad1 l = ad l := fun l h => by rw [ea1]; exact fV_n h
          rw [← ea1] at hw
          obtain ⟨Mn1, em1⟩ : ∃ z, z = fU M (b + 100 + k) (.inr (3, [.int 0, .int 0, .int 0, .int 0, .int 0, .int 0, .int 0])) := ⟨_, rfl⟩
          have eM1 : ∀ l, l ≠ b + 100 + k → Mn1 l = M l := fun l h => by rw [em1]; exact fU_n h
          have eS1 : Mn1 (b + 100 + k) = some (.inr (3, [.int 0, .int 0, .int 0, .int 0, .int 0, .int 0, .int 0])) := by rw [em1]; exact fU_s
          rw [← em1] at hw
          refine lv_dup hx hb dX4_copyFrom_39 rfl ?_
          refine lv_iconst (v := 0) hx hb dX4_copyFrom_40 (by decide) ?_
          refine lv_iconst (v := 0) hx hb dX4_copyFrom_41 (by decide) ?_
          refine lv_iconst (v := 0) hx hb dX4_copyFrom_42 (by decide) ?_
          refine f_adr4 (ad := ad1) (lb := b + 100 + k) eq1 ?_
          refine fk_dv (fcI X hw (c_X2_init l g ad1 Mn1 (lb := b + 100 + k) (f := f0) eS1 0 0 0) wq397 kIX2_init ⟨(Nat.le_of_ble_eq_true rfl), (Nat.le_of_ble_eq_true rfl)⟩ rfl hl.1 rfl (Nat.le_of_ble_eq_true rfl) dX4_copyFrom_43 ⟨(by dsimp only [fR]; omega), (by dsimp only [fR]; omega)⟩) hw (fun H locs hw => ?_)
          refine f_adr (ad := ad1) (lb := b + 100 + k) eq1 ?_
          refine f_adr2 (ad := ad1) (lb := b + 1) (eA1 _ (by omega)) ?_
          have hLn : fList g ad1 (fU Mn1 (b + 100 + k) (.inr (3, hV (upd (upd (upd (upd f0 0 0) 1 0) 2 0) 3 0)))) (b + 1) (b + 4) (b + 100) k := fList_A hTh (eA1 _ (by omega)) (fun i hi => eA1 _ (by omega)) ((fU_n (by omega)).trans (eM1 _ (by omega))) ((fU_n (by omega)).trans (eM1 _ (by omega)))
          refine fk_i (fcVe X hw (c_add l g ad1 (fU Mn1 (b + 100 + k) (.inr (3, hV (upd (upd (upd (upd f0 0 0) 1 0) 2 0) 3 0)))) hLn (by omega) (ci := 3) rfl wn899 fU_s (by omega) (by omega) (by omega) (fun i hi => ⟨_, (fU_n (by omega)).trans ((eM1 _ (by omega)).trans (hHs i hi))⟩)) (fList_obj hLn) rfl wq429 kVJx4a65c_add_9ea2d ⟨(Nat.le_of_ble_eq_true rfl), (Nat.le_of_ble_eq_true rfl)⟩ rfl hl.1 rfl (Nat.le_of_ble_eq_true rfl) dX4_copyFrom_46 ⟨(by dsimp only [fR]; omega), (by dsimp only [fR]; omega)⟩) hw (fun r ad3 M3 H locs hp hw => ?_)
          refine lv_pop hx hb dX4_copyFrom_49 rfl ?_
          have hTn := isTown_addH (ad1 := ad3) (M1 := M3) (f := (upd (upd (upd (upd f0 0 0) 1 0) 2 0) 3 0)) hT (show k < 30 by omega) hp.1.1 ((hp.1.2.2 _ (by omega) (by omega) (by omega)).trans fU_s) (fun l a1 a2 a3 a4 => ⟨(hp.1.2.1 l (by omega) (by omega)).trans (eA1 l (by omega)), fun a5 => (hp.1.2.2 l a5 (by omega) (by omega)).trans ((fU_n (by omega)).trans (eM1 l (by omega)))⟩)
          have hq : fReg b (b + 1000) ad M ad3 M3 := fun l a1 a2 => ⟨(hp.1.2.1 l (by omega) (by omega)).trans (eA1 l (by omega)), (hp.1.2.2 l (by omega) (by omega) (by omega)).trans ((fU_n (by omega)).trans (eM1 l (by omega)))⟩
          have hT2 := isTown_reg hT2 hq (by omega) (by omega)
          have hb3 : ad3 b = ad b := (hp.1.2.1 b (by omega) (by omega)).trans (eA1 b (by omega))
          have hb4 : ad3 b2 = ad b2 := (hp.1.2.1 b2 (by omega) (by omega)).trans (eA1 b2 (by omega))
          rw [← hb3, ← hb4] at hl
          have hsg := seg (by omega) (k + 1) _ (cop_A hF) (by omega) (by omega) (by omega) ad3 M3 hTn hT2 (fReg_tr hr hq) (hb3.trans hk) ls _ _ hw (lv_sub hl [0, 1, 2] rfl)
          rw [show (2 * ((k + 1) - tHn S)) = (2 * (k - tHn S)) + 1 + 1 by omega, show (50 * ((k + 1) - tHn S)) = (50 * (k - tHn S)) + 7 + 43 by omega] at hsg
          exact hsg
  have hlp := loop10 (tHn T + 1) 0 (by omega) (by omega) (tHn S) (tH S) (fun i hi => absurd hi (Nat.not_lt_zero _)) (by omega) (by omega) (by omega) ad _ hT hT2 hr hk ls _ _ hw (lv_sub hl [0, 1, 2] rfl)
  rw [show 2 * (tHn S - tHn S) = 0 by omega, show 50 * (tHn S - tHn S) = 0 by omega] at hlp
  exact hlp
