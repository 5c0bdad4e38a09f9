set_option maxHeartbeats 4000000 in
set_option maxRecDepth 100000 in
theorem c_catchFire (l : Launch) (g : fG) (ad : Nat → Nat) (M : fM) {b : Nat} {T : fTn} (hT : isTown g ad M b T) : fCi l g yX4_catchFire cX4_catchFire 4 ((some .int)) 4 88 0 0 ad M [.ref (ad b)] (fTi g ad M b (catchT T).1 (catchT T).2) := by
  refine f_body (own := RX4) (by decide +kernel) rfl (Nat.le_of_ble_eq_true rfl) ?_
  intro p e s m args below meth c ls X hw hin hl
  have hx := X.1
  have hb := X.2.1
  have hl : lv_has ls 4 [(0, .ref (ad b))] := hl
  obtain ⟨hT0, hTh, hTp, hTe, hHs, hPs, hEs, hn1, hn2, hn3, hA⟩ := id hT
  refine lv_iconst (v := 0) hx hb dX4_catchFire_0 (by decide) ?_
  refine lv_istore_n (lv' := [(1, .int 0), (0, .ref (ad b))]) hx hb dX4_catchFire_1 rfl hl (by decide) rfl (fun ls hl => ?_)
  refine lv_iconst (v := 0) hx hb dX4_catchFire_2 (by decide) ?_
  refine lv_istore_n (lv' := [(2, .int 0), (1, .int 0), (0, .ref (ad b))]) hx hb dX4_catchFire_3 rfl hl (by decide) rfl (fun ls hl => ?_)
  have loop4 : ∀ (n4 k : Nat), k ≤ tHn T → tHn T < k + n4 → ∀ (M4 : fM) (hT : isTown g ad M4 b ((catch1 T k).1)) (ho : fOut b M M4) (ls : Array Slot) (H : Heap) (locs : List Loc), fw g ad M4 s H locs → lv_has ls 4 [(0, .ref (ad b)), (1, .int ((catch1 T k).2)), (2, .int (nI k))] → W p l e (fR 4 88 0 0) s m args below meth c H locs 0 0 (MQ below (fQi g (fTi g ad M b (catchT T).1 (catchT T).2)) args s 0 0 (fA g)) (F0 m 4 ls []) := by
    intro n4
    induction n4 with
    | zero => intro k h1 h2; omega
    | succ n4 ih4 =>
      intro k hk_k hn_k M4 hT ho ls H locs hw hl
      have hnn := catch1_n T k
      obtain ⟨T9, e9⟩ : ∃ z, z = (catch1 T k).1 := ⟨_, rfl⟩
      rw [← e9] at hT hnn
      obtain ⟨hq1, hq2, hq3, hq4⟩ := hnn
      obtain ⟨hT0, hTh, hTp, hTe, hHs, hPs, hEs, hn1, hn2, hn3, hA⟩ := id hT
      rw [hq1] at hTh hn1
      refine lv_iload_n hx hb dX4_catchFire_4 rfl (lv_at hl 2 rfl) ?_
      refine lv_aload_n hx hb dX4_catchFire_5 rfl (lv_at hl 0 rfl) ?_
      refine f_get X hw hT0 fc5 1 (by decide) wq83 rfl (v := .ref (ad (b + 1))) rfl dX4_catchFire_6 ?_
      refine fk_di (fcVe X hw (c_size l g ad M4 hTh) (fList_obj hTh) rfl wq229 kVJx4a65c_size_8abf5 ⟨(Nat.le_of_ble_eq_true rfl), (Nat.le_of_ble_eq_true rfl)⟩ rfl hl.1 rfl (Nat.le_of_ble_eq_true rfl) dX4_catchFire_9 ⟨Nat.le_refl _, Nat.le_refl _⟩) hw (fun H locs hw => ?_)
      refine lv_icmp_ge (tgt := 66) hx hb dX4_catchFire_12 (by decide) (fun c_1 => ?_) (fun c_1 => ?_)
      · have c_1 := nI_le' (a := (tHn T)) (b := k) c_1 (by omega) (by omega)
        obtain rfl : k = tHn T := by omega
        obtain ⟨T1, eT1⟩ : ∃ z, z = (catch1 T (tHn T)).1 := ⟨_, rfl⟩
        rw [e9, ← eT1] at hT
        obtain ⟨hT0, hTh, hTp, hTe, hHs, hPs, hEs, hn1, hn2, hn3, hA⟩ := id hT
        refine lv_iconst (v := 0) hx hb dX4_catchFire_66 (by decide) ?_
        refine lv_istore_n (lv' := [(2, .int 0), (0, .ref (ad b)), (1, .int ((catch1 T (tHn T)).2))]) hx hb dX4_catchFire_67 rfl hl (by decide) rfl (fun ls hl => ?_)
        have loop68 : ∀ (n68 k : Nat), k ≤ tHn T1 → tHn T1 < k + n68 → ∀ (M68 : fM) (hT : isTown g ad M68 b (mH hCatch k T1)) (ho : fOut b M M68) (ls : Array Slot) (H : Heap) (locs : List Loc), fw g ad M68 s H locs → lv_has ls 4 [(0, .ref (ad b)), (1, .int ((catch1 T (tHn T)).2)), (2, .int (nI k))] → W p l e (fR 4 88 0 0) s m args below meth c H locs 0 0 (MQ below (fQi g (fTi g ad M b (catchT T).1 (catchT T).2)) args s 0 0 (fA g)) (F0 m 68 ls []) := by
          intro n68
          induction n68 with
          | zero => intro k h1 h2; omega
          | succ n68 ih68 =>
            intro k hk_k hn_k M68 hT ho ls H locs hw hl
            obtain ⟨hT0, hTh, hTp, hTe, hHs, hPs, hEs, hn1, hn2, hn3, hA⟩ := id hT
            have hTh : fList g ad M68 (b + 1) (b + 4) (b + 100) (tHn T1) := hTh
            have hTp : fList g ad M68 (b + 2) (b + 5) (b + 200) (tPn T1) := hTp
            have hTe : fList g ad M68 (b + 3) (b + 6) (b + 300) (tEn T1) := hTe
            have hn1 : tHn T1 ≤ 30 := hn1
            have hn2 : tPn T1 ≤ 6 := hn2
            have hn3 : tEn T1 ≤ 6 := hn3
            have hHs : ∀ i, i < tHn T1 → M68 (b + 100 + i) = some (.inr (3, hV (tH (mH hCatch k T1) i))) := hHs
            have hPs : ∀ i, i < tPn T1 → M68 (b + 200 + i) = some (.inr (4, pV (tP (mH hCatch k T1) i))) := hPs
            have hEs : ∀ i, i < tEn T1 → M68 (b + 300 + i) = some (.inr (1, eV (tE (mH hCatch k T1) i))) := hEs
            have hA : ∀ i, i < tEn T1 → tE (mH hCatch k T1) i 10 = 0 ∨ tE (mH hCatch k T1) i 10 = 1 := hA
            have hel : k < tHn T1 → M68 (b + 100 + k) = some (.inr (3, hV (tH T1 k))) := fun h => by rw [hHs k h]; exact congrArg (fun f => some (Sum.inr (3, hV f))) (mH_ge (Nat.le_refl k))
            refine lv_iload_n hx hb dX4_catchFire_68 rfl (lv_at hl 2 rfl) ?_
            refine lv_aload_n hx hb dX4_catchFire_69 rfl (lv_at hl 0 rfl) ?_
            refine f_get X hw hT0 fc5 1 (by decide) wq83 rfl (v := .ref (ad (b + 1))) rfl dX4_catchFire_70 ?_
            refine fk_di (fcVe X hw (c_size l g ad M68 hTh) (fList_obj hTh) rfl wq229 kVJx4a65c_size_8abf5 ⟨(Nat.le_of_ble_eq_true rfl), (Nat.le_of_ble_eq_true rfl)⟩ rfl hl.1 rfl (Nat.le_of_ble_eq_true rfl) dX4_catchFire_73 ⟨Nat.le_refl _, Nat.le_refl _⟩) hw (fun H locs hw => ?_)
            refine lv_icmp_ge (tgt := 117) hx hb dX4_catchFire_76 (by decide) (fun c_2 => ?_) (fun c_2 => ?_)
            · have c_2 := nI_le' (a := (tHn T1)) (b := k) c_2 (by omega) (by omega)
              refine lv_iload_n hx hb dX4_catchFire_117 rfl (lv_at hl 1 rfl) ?_
              exact f_iret X hw ⟨rfl, by rw [show k = tHn T1 by omega] at hT; unfold catchT; rw [show tHn T1 = tHn T from by rw [eT1]; exact (catch1_n T _).1] at hT; rw [← eT1]; exact hT, ho, rfl⟩ (Nat.le_refl _) (Nat.le_refl _) dX4_catchFire_118
            · have c_2 := nI_nle' (a := (tHn T1)) (b := k) c_2 (by omega) (by omega)
              refine lv_aload_n hx hb dX4_catchFire_79 rfl (lv_at hl 0 rfl) ?_
              refine f_get X hw hT0 fc5 1 (by decide) wq83 rfl (v := .ref (ad (b + 1))) rfl dX4_catchFire_80 ?_
              refine lv_iload_n hx hb dX4_catchFire_83 rfl (lv_at hl 2 rfl) ?_
              refine fk_dr (fcVe X hw (c_get l g ad M68 hTh (by omega)) (fList_obj hTh) rfl wq234 kVJx4a65c_get_915e3 ⟨(Nat.le_of_ble_eq_true rfl), (Nat.le_of_ble_eq_true rfl)⟩ rfl hl.1 rfl (Nat.le_of_ble_eq_true rfl) dX4_catchFire_84 ⟨Nat.le_refl _, Nat.le_refl _⟩) hw (fun H locs hw => ?_)
              refine f_cast X hw (hel (by omega)) fc3 wq300 dX4_catchFire_87 ?_
              refine lv_astore_n (lv' := [(3, .ref (ad (b + 100 + k))), (0, .ref (ad b)), (1, .int ((catch1 T (tHn T)).2)), (2, .int (nI k))]) hx hb dX4_catchFire_90 rfl hl (by decide) rfl (fun ls hl => ?_)
              refine lv_aload_n hx hb dX4_catchFire_91 rfl (lv_at hl 0 rfl) ?_
              refine f_getN X hw (hel (by omega)) fc3 3 (by decide) wn408 rfl (v := .int ((tH T1 k) 3)) rfl dX4_catchFire_92 ?_
              refine lv_iconst (v := 1) hx hb dX4_catchFire_95 (by decide) ?_
              refine lv_icmp_ne (tgt := 111) hx hb dX4_catchFire_96 (by decide) (fun c_3 => ?_) (fun c_3 => ?_)
              · refine lv_iinc (v := nI (k + 1)) (lv' := [(2, .int (nI (k + 1))), (3, .ref (ad (b + 100 + k))), (0, .ref (ad b)), (1, .int ((catch1 T (tHn T)).2))]) hx hb dX4_catchFire_111 hl (k := 3) rfl (nI_1 k) (by decide) rfl (fun ls hl => ?_)
                refine lv_goto (tgt := 68) hx hb dX4_catchFire_114 (by decide) ?_
                exact ih68 (k + 1) (by omega) (by omega) M68 (by rw [← mH_step]; rw [show hCatch (tH T1 k) = tH (mH hCatch k T1) k from by rw [mH_ge (Nat.le_refl k)]; unfold hCatch; rw [if_neg c_3]]; rw [sH_same]; exact hT) ho ls _ _ hw (lv_sub hl [2, 3, 0] rfl)
              · refine lv_aload_n hx hb dX4_catchFire_99 rfl (lv_at hl 0 rfl) ?_
                refine f_getN X hw (hel (by omega)) fc3 4 (by decide) wn410 rfl (v := .int ((tH T1 k) 4)) rfl dX4_catchFire_100 ?_
                refine lv_if_ne (tgt := 111) hx hb dX4_catchFire_103 (by decide) (fun c_4 => ?_) (fun c_4 => ?_)
                · refine lv_iinc (v := nI (k + 1)) (lv' := [(2, .int (nI (k + 1))), (3, .ref (ad (b + 100 + k))), (0, .ref (ad b)), (1, .int ((catch1 T (tHn T)).2))]) hx hb dX4_catchFire_111 hl (k := 3) rfl (nI_1 k) (by decide) rfl (fun ls hl => ?_)
                  refine lv_goto (tgt := 68) hx hb dX4_catchFire_114 (by decide) ?_
                  exact ih68 (k + 1) (by omega) (by omega) M68 (by rw [← mH_step]; rw [show hCatch (tH T1 k) = tH (mH hCatch k T1) k from by rw [mH_ge (Nat.le_refl k)]; unfold hCatch; rw [if_pos c_3, if_neg c_4]]; rw [sH_same]; exact hT) ho ls _ _ hw (lv_sub hl [2, 3, 0] rfl)
                · refine lv_aload_n hx hb dX4_catchFire_106 rfl (lv_at hl 0 rfl) ?_
                  refine lv_iconst (v := 5) hx hb dX4_catchFire_107 (by decide) ?_
                  refine f_putN X hw (hel (by omega)) fc3 4 (by decide) wn410 rfl rfl (v := .int 5) rfl rfl (Nat.le_of_ble_eq_true rfl) dX4_catchFire_108 (fun H locs hw => ?_)
                  have hw : fw g ad (fU M68 (b + 100 + k) (.inr (3, hV (upd (tH T1 k) 4 5)))) s H locs := hw
                  have hT0 : (fU M68 (b + 100 + k) (.inr (3, hV (upd (tH T1 k) 4 5)))) b = some (.inr (5, [.int (tM T1), .ref (ad (b + 1)), .ref (ad (b + 2)), .ref (ad (b + 3))])) := (fU_n (by omega)).trans hT0
                  have hTh : fList g ad (fU M68 (b + 100 + k) (.inr (3, hV (upd (tH T1 k) 4 5)))) (b + 1) (b + 4) (b + 100) (tHn T1) := fList_V hTh (fU_n (by omega)) (fU_n (by omega))
                  have hTp : fList g ad (fU M68 (b + 100 + k) (.inr (3, hV (upd (tH T1 k) 4 5)))) (b + 2) (b + 5) (b + 200) (tPn T1) := fList_V hTp (fU_n (by omega)) (fU_n (by omega))
                  have hTe : fList g ad (fU M68 (b + 100 + k) (.inr (3, hV (upd (tH T1 k) 4 5)))) (b + 3) (b + 6) (b + 300) (tEn T1) := fList_V hTe (fU_n (by omega)) (fU_n (by omega))
                  have hM_b___100___k : (fU M68 (b + 100 + k) (.inr (3, hV (upd (tH T1 k) 4 5)))) (b + 100 + k) = some (.inr (3, hV (upd (tH T1 k) 4 5))) := fU_s
                  refine lv_iinc (v := nI (k + 1)) (lv' := [(2, .int (nI (k + 1))), (3, .ref (ad (b + 100 + k))), (0, .ref (ad b)), (1, .int ((catch1 T (tHn T)).2))]) hx hb dX4_catchFire_111 hl (k := 3) rfl (nI_1 k) (by decide) rfl (fun ls hl => ?_)
                  refine lv_goto (tgt := 68) hx hb dX4_catchFire_114 (by decide) ?_
                  exact ih68 (k + 1) (by omega) (by omega) (fU M68 (b + 100 + k) (.inr (3, hV (upd (tH T1 k) 4 5)))) (by rw [← mH_step]; rw [show hCatch (tH T1 k) = upd (tH T1 k) 4 5 from by unfold hCatch; rw [if_pos c_3, if_pos c_4]]; exact isTown_setH hT (by omega)) (fOut_U ho (by omega)) ls _ _ hw (lv_sub hl [2, 3, 0] rfl)
        exact loop68 (tHn T1 + 1) 0 (by omega) (by omega) M4 (by rw [mH_0]; exact hT) ho ls _ _ hw (lv_sub hl [1, 2, 0] rfl)
      · have c_1 := nI_nle' (a := (tHn T)) (b := k) c_1 (by omega) (by omega)
        refine lv_aload_n hx hb dX4_catchFire_15 rfl (lv_at hl 0 rfl) ?_
        refine f_get X hw hT0 fc5 1 (by decide) wq83 rfl (v := .ref (ad (b + 1))) rfl dX4_catchFire_16 ?_
        refine lv_iload_n hx hb dX4_catchFire_19 rfl (lv_at hl 2 rfl) ?_
        refine fk_dr (fcVe X hw (c_get l g ad M4 hTh (by omega)) (fList_obj hTh) rfl wq234 kVJx4a65c_get_915e3 ⟨(Nat.le_of_ble_eq_true rfl), (Nat.le_of_ble_eq_true rfl)⟩ rfl hl.1 rfl (Nat.le_of_ble_eq_true rfl) dX4_catchFire_20 ⟨Nat.le_refl _, Nat.le_refl _⟩) hw (fun H locs hw => ?_)
        refine f_cast X hw (hHs k (by rw [hq1]; omega)) fc3 wq300 dX4_catchFire_23 ?_
        refine lv_astore_n (lv' := [(3, .ref (ad (b + 100 + k))), (0, .ref (ad b)), (1, .int ((catch1 T k).2)), (2, .int (nI k))]) hx hb dX4_catchFire_26 rfl hl (by decide) rfl (fun ls hl => ?_)
        refine lv_aload_n hx hb dX4_catchFire_27 rfl (lv_at hl 0 rfl) ?_
        refine f_getN X hw (hHs k (by rw [hq1]; omega)) fc3 3 (by decide) wn408 rfl (v := .int ((tH T9 k) 3)) rfl dX4_catchFire_28 ?_
        refine lv_if_ne (tgt := 60) hx hb dX4_catchFire_31 (by decide) (fun c_5 => ?_) (fun c_5 => ?_)
        · refine lv_iinc (v := nI (k + 1)) (lv' := [(2, .int (nI (k + 1))), (3, .ref (ad (b + 100 + k))), (0, .ref (ad b)), (1, .int ((catch1 T k).2))]) hx hb dX4_catchFire_60 hl (k := 3) rfl (nI_1 k) (by decide) rfl (fun ls hl => ?_)
          refine lv_goto (tgt := 4) hx hb dX4_catchFire_63 (by decide) ?_
          have hc : catch1 T (k + 1) = catch1 T k := by rw [catch1, ← e9, if_neg c_5]
          exact ih4 (k + 1) (by omega) (by omega) M4 (by rw [hc, ← e9]; exact hT) ho ls _ _ hw (by rw [show ((catch1 T (k + 1)).2) = ((catch1 T k).2) from (congrArg Prod.snd hc)]; exact lv_sub hl [2, 3, 0] rfl)
        · refine lv_aload_n hx hb dX4_catchFire_34 rfl (lv_at hl 1 rfl) ?_
          refine lv_aload_n hx hb dX4_catchFire_35 rfl (lv_at hl 0 rfl) ?_
          refine f_getN X hw (hHs k (by rw [hq1]; omega)) fc3 0 (by decide) wn402 rfl (v := .int ((tH T9 k) 0)) rfl dX4_catchFire_36 ?_
          refine fk_di (fcV X hw (c_heatNear l g ad M4 hT (tH T9 k 0)) hT0 rfl wq364 kVX4_heatNear ⟨(Nat.le_of_ble_eq_true rfl), (Nat.le_of_ble_eq_true rfl)⟩ rfl hl.1 rfl (Nat.le_of_ble_eq_true rfl) dX4_catchFire_39 ⟨Nat.le_refl _, Nat.le_refl _⟩) hw (fun H locs hw => ?_)
          rw [hq1]
          refine lv_aload_n hx hb dX4_catchFire_42 rfl (lv_at hl 0 rfl) ?_
          refine f_getN X hw (hHs k (by rw [hq1]; omega)) fc3 5 (by decide) wn412 rfl (v := .int ((tH T9 k) 5)) rfl dX4_catchFire_43 ?_
          refine lv_isub hx hb dX4_catchFire_46 ?_
          refine lv_bipush (v := 40) hx hb dX4_catchFire_47 (by decide) ?_
          refine lv_icmp_lt (tgt := 60) hx hb dX4_catchFire_49 (by decide) (fun c_6 => ?_) (fun c_6 => ?_)
          · refine lv_iinc (v := nI (k + 1)) (lv' := [(2, .int (nI (k + 1))), (3, .ref (ad (b + 100 + k))), (0, .ref (ad b)), (1, .int ((catch1 T k).2))]) hx hb dX4_catchFire_60 hl (k := 3) rfl (nI_1 k) (by decide) rfl (fun ls hl => ?_)
            refine lv_goto (tgt := 4) hx hb dX4_catchFire_63 (by decide) ?_
            have hc : catch1 T (k + 1) = catch1 T k := by rw [catch1, ← e9, if_pos c_5, if_pos c_6]
            exact ih4 (k + 1) (by omega) (by omega) M4 (by rw [hc, ← e9]; exact hT) ho ls _ _ hw (by rw [show ((catch1 T (k + 1)).2) = ((catch1 T k).2) from (congrArg Prod.snd hc)]; exact lv_sub hl [2, 3, 0] rfl)
          · refine lv_aload_n hx hb dX4_catchFire_52 rfl (lv_at hl 0 rfl) ?_
            refine lv_iconst (v := 1) hx hb dX4_catchFire_53 (by decide) ?_
            refine f_putN X hw (hHs k (by rw [hq1]; omega)) fc3 3 (by decide) wn408 rfl rfl (v := .int 1) rfl rfl (Nat.le_of_ble_eq_true rfl) dX4_catchFire_54 (fun H locs hw => ?_)
            have hw : fw g ad (fU M4 (b + 100 + k) (.inr (3, hV (upd (tH T9 k) 3 1)))) s H locs := hw
            have hT0 : (fU M4 (b + 100 + k) (.inr (3, hV (upd (tH T9 k) 3 1)))) b = some (.inr (5, [.int (tM T9), .ref (ad (b + 1)), .ref (ad (b + 2)), .ref (ad (b + 3))])) := (fU_n (by omega)).trans hT0
            have hTh : fList g ad (fU M4 (b + 100 + k) (.inr (3, hV (upd (tH T9 k) 3 1)))) (b + 1) (b + 4) (b + 100) (tHn T) := fList_V hTh (fU_n (by omega)) (fU_n (by omega))
            have hTp : fList g ad (fU M4 (b + 100 + k) (.inr (3, hV (upd (tH T9 k) 3 1)))) (b + 2) (b + 5) (b + 200) (tPn T9) := fList_V hTp (fU_n (by omega)) (fU_n (by omega))
            have hTe : fList g ad (fU M4 (b + 100 + k) (.inr (3, hV (upd (tH T9 k) 3 1)))) (b + 3) (b + 6) (b + 300) (tEn T9) := fList_V hTe (fU_n (by omega)) (fU_n (by omega))
            have hM_b___100___k : (fU M4 (b + 100 + k) (.inr (3, hV (upd (tH T9 k) 3 1)))) (b + 100 + k) = some (.inr (3, hV (upd (tH T9 k) 3 1))) := fU_s
            refine lv_iinc (v := ((catch1 T k).2) + 1) (lv' := [(1, .int (((catch1 T k).2) + 1)), (3, .ref (ad (b + 100 + k))), (0, .ref (ad b)), (2, .int (nI k))]) hx hb dX4_catchFire_57 hl (k := 2) rfl rfl (by decide) rfl (fun ls hl => ?_)
            refine lv_iinc (v := nI (k + 1)) (lv' := [(2, .int (nI (k + 1))), (1, .int (((catch1 T k).2) + 1)), (3, .ref (ad (b + 100 + k))), (0, .ref (ad b))]) hx hb dX4_catchFire_60 hl (k := 3) rfl (nI_1 k) (by decide) rfl (fun ls hl => ?_)
            refine lv_goto (tgt := 4) hx hb dX4_catchFire_63 (by decide) ?_
            have hc : catch1 T (k + 1) = (sH T9 k (upd (tH T9 k) 3 1), (catch1 T k).2 + 1) := by rw [catch1, ← e9, if_pos c_5, if_neg c_6]
            exact ih4 (k + 1) (by omega) (by omega) (fU M4 (b + 100 + k) (.inr (3, hV (upd (tH T9 k) 3 1)))) (by rw [hc]; exact isTown_setH hT (by rw [hq1]; omega)) (fOut_U ho (by omega)) ls _ _ hw (by rw [show ((catch1 T (k + 1)).2) = (((catch1 T k).2) + 1) from (congrArg Prod.snd hc)]; exact lv_sub hl [3, 1, 0] rfl)
  exact loop4 (tHn T + 1) 0 (by omega) (by omega) M hT fOut_rf ls _ _ hw (lv_sub hl [2, 1, 0] rfl)
set_option maxHeartbeats 4000000 in
set_option maxRecDepth 100000 in
theorem c_goOn (l : Launch) (g : fG) (ad : Nat → Nat) (M : fM) {b : Nat} {T : fTn} (hT : isTown g ad M b T) {p0 : Int32} {N : Nat} (hN : p0 = nI N) (hN2 : N < 2 ^ 31) : fCi l g yX4_goOn cX4_goOn 5 ((some .int)) 6 134 0 0 ad M [.ref (ad b), .int p0] (fTi g ad M b (goT T N).1 (goT T N).2) := by
  refine f_body (own := RX4) (by decide +kernel) rfl (Nat.le_of_ble_eq_true rfl) ?_
  intro p e s m args below meth c ls X hw hin hl
  have hx := X.1
  have hb := X.2.1
  have hl : lv_has ls 5 [(0, .ref (ad b)), (1, .int p0)] := hl
  obtain ⟨hT0, hTh, hTp, hTe, hHs, hPs, hEs, hn1, hn2, hn3, hA⟩ := id hT
  refine lv_iconst (v := 0) hx hb dX4_goOn_0 (by decide) ?_
  refine lv_istore_n (lv' := [(2, .int 0), (0, .ref (ad b)), (1, .int p0)]) hx hb dX4_goOn_1 rfl hl (by decide) rfl (fun ls hl => ?_)
  refine lv_iconst (v := 0) hx hb dX4_goOn_2 (by decide) ?_
  refine lv_istore_n (lv' := [(3, .int 0), (2, .int 0), (0, .ref (ad b)), (1, .int p0)]) hx hb dX4_goOn_3 rfl hl (by decide) rfl (fun ls hl => ?_)
  have loop4 : ∀ (n4 k : Nat), k ≤ N → N < k + n4 → ∀ (M4 : fM) (hT : isTown g ad M4 b ((goT T k).1)) (ho : fOut b M M4) (ls : Array Slot) (H : Heap) (locs : List Loc), fw g ad M4 s H locs → lv_has ls 5 [(0, .ref (ad b)), (1, .int p0), (2, .int ((goT T k).2)), (3, .int (nI k))] → W p l e (fR 6 134 0 0) s m args below meth c H locs 0 0 (MQ below (fQi g (fTi g ad M b (goT T N).1 (goT T N).2)) args s 0 0 (fA g)) (F0 m 4 ls []) := by
    intro n4
    induction n4 with
    | zero => intro k h1 h2; omega
    | succ n4 ih4 =>
      intro k hk_k hn_k M4 hT ho ls H locs hw hl
      obtain ⟨T9, e9⟩ : ∃ z, z = (goT T k).1 := ⟨_, rfl⟩
      rw [← e9] at hT
      refine lv_iload_n hx hb dX4_goOn_4 rfl (lv_at hl 3 rfl) ?_
      refine lv_iload_n hx hb dX4_goOn_5 rfl (lv_at hl 1 rfl) ?_
      rw [hN]
      refine lv_icmp_ge (tgt := 76) hx hb dX4_goOn_6 (by decide) (fun c_1 => ?_) (fun c_1 => ?_)
      · have c_1 := nI_le' (a := N) (b := k) c_1 (by omega) (by omega)
        refine lv_iload_n hx hb dX4_goOn_76 rfl (lv_at hl 2 rfl) ?_
        exact f_iret X hw ⟨rfl, by rw [← (show k = N by omega), ← e9]; exact hT, ho, by rw [show k = N by omega]⟩ (Nat.le_refl _) (Nat.le_refl _) dX4_goOn_77
      · have c_1 := nI_nle' (a := N) (b := k) c_1 (by omega) (by omega)
        refine lv_aload_n hx hb dX4_goOn_9 rfl (lv_at hl 0 rfl) ?_
        refine fk_tv (fcV X hw (c_fireAndDrive l g ad M4 hT) hT.1 rfl wq277 kVX4_fireAndDrive ⟨(Nat.le_of_ble_eq_true rfl), (Nat.le_of_ble_eq_true rfl)⟩ rfl hl.1 rfl (Nat.le_of_ble_eq_true rfl) dX4_goOn_10 ⟨Nat.le_refl _, Nat.le_refl _⟩) hw (fun Ma H locs hTa hoa hw => ?_)
        refine lv_aload_n hx hb dX4_goOn_13 rfl (lv_at hl 0 rfl) ?_
        refine fk_tv (fcV X hw (c_moveWater l g ad Ma hTa) hTa.1 rfl wq296 kVX4_moveWater ⟨(Nat.le_of_ble_eq_true rfl), (Nat.le_of_ble_eq_true rfl)⟩ rfl hl.1 rfl (Nat.le_of_ble_eq_true rfl) dX4_goOn_14 ⟨Nat.le_refl _, Nat.le_refl _⟩) hw (fun Mb H locs hT hob hw => ?_)
        obtain ⟨T5, e5⟩ : ∃ z, z = moveT (mE eGo (tEn T9) T9) := ⟨_, rfl⟩
        rw [← e5] at hT
        obtain ⟨hT0, hTh, hTp, hTe, hHs, hPs, hEs, hn1, hn2, hn3, hA⟩ := id hT
        refine lv_iconst (v := 0) hx hb dX4_goOn_17 (by decide) ?_
        refine lv_istore (lv' := [(4, .int 0), (0, .ref (ad b)), (1, .int p0), (2, .int ((goT T k).2)), (3, .int (nI k))]) hx hb dX4_goOn_18 hl (by decide) rfl (fun ls hl => ?_)
        have loop20 : ∀ (n20 k2 : Nat), k2 ≤ tHn T5 → tHn T5 < k2 + n20 → ∀ (M20 : fM) (hT : isTown g ad M20 b (mH hBurn k2 T5)) (ho : fOut b M M20) (ls : Array Slot) (H : Heap) (locs : List Loc), fw g ad M20 s H locs → lv_has ls 5 [(0, .ref (ad b)), (1, .int p0), (2, .int ((goT T k).2)), (3, .int (nI k)), (4, .int (nI k2))] → W p l e (fR 6 134 0 0) s m args below meth c H locs 0 0 (MQ below (fQi g (fTi g ad M b (goT T N).1 (goT T N).2)) args s 0 0 (fA g)) (F0 m 20 ls []) := by
          intro n20
          induction n20 with
          | zero => intro k2 h1 h2; omega
          | succ n20 ih20 =>
            intro k2 hk_k2 hn_k2 M20 hT ho ls H locs hw hl
            obtain ⟨hT0, hTh, hTp, hTe, hHs, hPs, hEs, hn1, hn2, hn3, hA⟩ := id hT
            have hTh : fList g ad M20 (b + 1) (b + 4) (b + 100) (tHn T5) := hTh
            have hTp : fList g ad M20 (b + 2) (b + 5) (b + 200) (tPn T5) := hTp
            have hTe : fList g ad M20 (b + 3) (b + 6) (b + 300) (tEn T5) := hTe
            have hn1 : tHn T5 ≤ 30 := hn1
            have hn2 : tPn T5 ≤ 6 := hn2
            have hn3 : tEn T5 ≤ 6 := hn3
            have hHs : ∀ i, i < tHn T5 → M20 (b + 100 + i) = some (.inr (3, hV (tH (mH hBurn k2 T5) i))) := hHs
            have hPs : ∀ i, i < tPn T5 → M20 (b + 200 + i) = some (.inr (4, pV (tP (mH hBurn k2 T5) i))) := hPs
            have hEs : ∀ i, i < tEn T5 → M20 (b + 300 + i) = some (.inr (1, eV (tE (mH hBurn k2 T5) i))) := hEs
            have hA : ∀ i, i < tEn T5 → tE (mH hBurn k2 T5) i 10 = 0 ∨ tE (mH hBurn k2 T5) i 10 = 1 := hA
            have hel : k2 < tHn T5 → M20 (b + 100 + k2) = some (.inr (3, hV (tH T5 k2))) := fun h => by rw [hHs k2 h]; exact congrArg (fun f => some (Sum.inr (3, hV f))) (mH_ge (Nat.le_refl k2))
            refine lv_iload hx hb dX4_goOn_20 (lv_at hl 4 rfl) ?_
            refine lv_aload_n hx hb dX4_goOn_22 rfl (lv_at hl 0 rfl) ?_
            refine f_get X hw hT0 fc5 1 (by decide) wq83 rfl (v := .ref (ad (b + 1))) rfl dX4_goOn_23 ?_
            refine fk_di (fcVe X hw (c_size l g ad M20 hTh) (fList_obj hTh) rfl wq229 kVJx4a65c_size_8abf5 ⟨(Nat.le_of_ble_eq_true rfl), (Nat.le_of_ble_eq_true rfl)⟩ rfl hl.1 rfl (Nat.le_of_ble_eq_true rfl) dX4_goOn_26 ⟨Nat.le_refl _, Nat.le_refl _⟩) hw (fun H locs hw => ?_)
            refine lv_icmp_ge (tgt := 53) hx hb dX4_goOn_29 (by decide) (fun c_2 => ?_) (fun c_2 => ?_)
            · have c_2 := nI_le' (a := (tHn T5)) (b := k2) c_2 (by omega) (by omega)
              rw [show k2 = tHn T5 by omega] at hT
              refine lv_iload_n hx hb dX4_goOn_53 rfl (lv_at hl 2 rfl) ?_
              refine lv_aload_n hx hb dX4_goOn_54 rfl (lv_at hl 0 rfl) ?_
              refine fk_ti (fcV X hw (c_catchFire l g ad M20 hT) hT.1 rfl wq360 kVX4_catchFire ⟨(Nat.le_of_ble_eq_true rfl), (Nat.le_of_ble_eq_true rfl)⟩ rfl hl.1 rfl (Nat.le_of_ble_eq_true rfl) dX4_goOn_55 ⟨Nat.le_refl _, Nat.le_refl _⟩) hw (fun Mc H locs hTc hoc hw => ?_)
              have hT0 := hTc.1
              refine lv_iadd hx hb dX4_goOn_58 ?_
              refine lv_istore_n (lv' := [(2, .int (((goT T k).2) + ((catchT (mH hBurn (tHn T5) T5)).2))), (0, .ref (ad b)), (1, .int p0), (3, .int (nI k)), (4, .int (nI k2))]) hx hb dX4_goOn_59 rfl hl (by decide) rfl (fun ls hl => ?_)
              refine lv_aload_n hx hb dX4_goOn_60 rfl (lv_at hl 1 rfl) ?_
              refine lv_dup hx hb dX4_goOn_61 rfl ?_
              refine f_get X hw hT0 fc5 0 (by decide) wq82 rfl (v := .int (tM (catchT (mH hBurn (tHn T5) T5)).1)) rfl dX4_goOn_62 ?_
              refine lv_iconst (v := 1) hx hb dX4_goOn_65 (by decide) ?_
              refine lv_iadd hx hb dX4_goOn_66 ?_
              refine f_put X hw hT0 fc5 0 (by decide) wq82 rfl rfl (v := .int ((tM (catchT (mH hBurn (tHn T5) T5)).1) + 1)) rfl rfl (Nat.le_of_ble_eq_true rfl) dX4_goOn_67 (fun H locs hw => ?_)
              have hw : fw g ad (fU Mc b (.inr (5, [.int ((tM (catchT (mH hBurn (tHn T5) T5)).1) + 1), .ref (ad (b + 1)), .ref (ad (b + 2)), .ref (ad (b + 3))]))) s H locs := hw
              have hT0 : (fU Mc b (.inr (5, [.int ((tM (catchT (mH hBurn (tHn T5) T5)).1) + 1), .ref (ad (b + 1)), .ref (ad (b + 2)), .ref (ad (b + 3))]))) b = some (.inr (5, [.int ((tM (catchT (mH hBurn (tHn T5) T5)).1) + 1), .ref (ad (b + 1)), .ref (ad (b + 2)), .ref (ad (b + 3))])) := fU_s
              refine lv_iinc (v := nI (k + 1)) (lv' := [(3, .int (nI (k + 1))), (2, .int (((goT T k).2) + ((catchT (mH hBurn (tHn T5) T5)).2))), (0, .ref (ad b)), (1, .int p0), (4, .int (nI k2))]) hx hb dX4_goOn_70 hl (k := 3) rfl (nI_1 k) (by decide) rfl (fun ls hl => ?_)
              refine lv_goto (tgt := 4) hx hb dX4_goOn_73 (by decide) ?_
              have hn5 := moveT_n (mE eGo (tEn T9) T9)
              rw [← e5] at hn5
              have hg1 : minT T9 = (sM (catchT (mH hBurn (tHn T5) T5)).1 (tM (catchT (mH hBurn (tHn T5) T5)).1 + 1), (catchT (mH hBurn (tHn T5) T5)).2) := by unfold minT; rw [← e5, show tHn T9 = tHn T5 from hn5.1.symm, show tM (catchT (mH hBurn (tHn T5) T5)).1 = tM T9 from (catch1_n _ _).2.2.2.trans hn5.2.2.2]
              have hg : (goT T (k + 1)).1 = sM (catchT (mH hBurn (tHn T5) T5)).1 (tM (catchT (mH hBurn (tHn T5) T5)).1 + 1) := by rw [goT, ← e9, hg1]
              have hg2 : (goT T (k + 1)).2 = (goT T k).2 + (catchT (mH hBurn (tHn T5) T5)).2 := by rw [goT, ← e9, hg1]
              exact ih4 (k + 1) (by omega) (by omega) (fU Mc b (.inr (5, [.int ((tM (catchT (mH hBurn (tHn T5) T5)).1) + 1), .ref (ad (b + 1)), .ref (ad (b + 2)), .ref (ad (b + 3))]))) (by rw [hg]; exact isTown_setM hTc) (fOut_U (fOut_tr ho hoc) (by omega)) ls _ _ hw (by rw [show ((goT T (k + 1)).2) = (((goT T k).2) + ((catchT (mH hBurn (tHn T5) T5)).2)) from hg2]; exact lv_sub hl [2, 3, 1, 0] rfl)
            · have c_2 := nI_nle' (a := (tHn T5)) (b := k2) c_2 (by omega) (by omega)
              refine lv_aload_n hx hb dX4_goOn_32 rfl (lv_at hl 0 rfl) ?_
              refine f_get X hw hT0 fc5 1 (by decide) wq83 rfl (v := .ref (ad (b + 1))) rfl dX4_goOn_33 ?_
              refine lv_iload hx hb dX4_goOn_36 (lv_at hl 4 rfl) ?_
              refine fk_dr (fcVe X hw (c_get l g ad M20 hTh (by omega)) (fList_obj hTh) rfl wq234 kVJx4a65c_get_915e3 ⟨(Nat.le_of_ble_eq_true rfl), (Nat.le_of_ble_eq_true rfl)⟩ rfl hl.1 rfl (Nat.le_of_ble_eq_true rfl) dX4_goOn_38 ⟨Nat.le_refl _, Nat.le_refl _⟩) hw (fun H locs hw => ?_)
              refine f_cast X hw (hel (by omega)) fc3 wq300 dX4_goOn_41 ?_
              refine fk_dv (fcV X hw (c_X2_burn l g ad M20 (hel (by omega))) (hel (by omega)) rfl wq349 kVX2_burnAMinute ⟨(Nat.le_of_ble_eq_true rfl), (Nat.le_of_ble_eq_true rfl)⟩ rfl hl.1 rfl (Nat.le_of_ble_eq_true rfl) dX4_goOn_44 ⟨Nat.le_refl _, Nat.le_refl _⟩) hw (fun H locs hw => ?_)
              have hw : fw g ad (fU M20 (b + 100 + k2) (.inr (3, hV (hBurn (tH T5 k2))))) s H locs := hw
              have hT0 : (fU M20 (b + 100 + k2) (.inr (3, hV (hBurn (tH T5 k2))))) b = some (.inr (5, [.int (tM T5), .ref (ad (b + 1)), .ref (ad (b + 2)), .ref (ad (b + 3))])) := (fU_n (by omega)).trans hT0
              have hTh : fList g ad (fU M20 (b + 100 + k2) (.inr (3, hV (hBurn (tH T5 k2))))) (b + 1) (b + 4) (b + 100) (tHn T5) := fList_V hTh (fU_n (by omega)) (fU_n (by omega))
              have hTp : fList g ad (fU M20 (b + 100 + k2) (.inr (3, hV (hBurn (tH T5 k2))))) (b + 2) (b + 5) (b + 200) (tPn T5) := fList_V hTp (fU_n (by omega)) (fU_n (by omega))
              have hTe : fList g ad (fU M20 (b + 100 + k2) (.inr (3, hV (hBurn (tH T5 k2))))) (b + 3) (b + 6) (b + 300) (tEn T5) := fList_V hTe (fU_n (by omega)) (fU_n (by omega))
              have hM_b___100___k2 : (fU M20 (b + 100 + k2) (.inr (3, hV (hBurn (tH T5 k2))))) (b + 100 + k2) = some (.inr (3, hV (hBurn (tH T5 k2)))) := fU_s
              refine lv_iinc (v := nI (k2 + 1)) (lv' := [(4, .int (nI (k2 + 1))), (0, .ref (ad b)), (1, .int p0), (2, .int ((goT T k).2)), (3, .int (nI k))]) hx hb dX4_goOn_47 hl (k := 4) rfl (nI_1 k2) (by decide) rfl (fun ls hl => ?_)
              refine lv_goto (tgt := 20) hx hb dX4_goOn_50 (by decide) ?_
              exact ih20 (k2 + 1) (by omega) (by omega) (fU M20 (b + 100 + k2) (.inr (3, hV (hBurn (tH T5 k2))))) (by rw [← mH_step]; exact isTown_setH hT (by omega)) (fOut_U ho (by omega)) ls _ _ hw (lv_sub hl [1, 2, 3, 4, 0] rfl)
        exact loop20 (tHn T5 + 1) 0 (by omega) (by omega) Mb (by rw [mH_0]; exact hT) (fOut_tr (fOut_tr ho hoa) hob) ls _ _ hw (lv_sub hl [1, 2, 3, 4, 0] rfl)
  exact loop4 (N + 1) 0 (by omega) (by omega) M hT fOut_rf ls _ _ hw (lv_sub hl [2, 3, 1, 0] rfl)
