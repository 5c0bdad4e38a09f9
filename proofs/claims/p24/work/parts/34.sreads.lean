set_option maxHeartbeats 4000000 in
set_option maxRecDepth 100000 in
theorem c_s_far (l : Launch) (g : fG) (ad : Nat → Nat) (M : fM) (a b : Int32) : fCi l g yX8_far cX8_far 2 ((some .int)) 1 14 0 0 ad M [.int a, .int b] (fDi ad M (aDist a b)) := by
  refine f_body (own := RX8) (by decide +kernel) rfl (Nat.le_of_ble_eq_true rfl) ?_
  intro p e s m args below meth c ls X hw hin hl
  have hx := X.1
  have hb := X.2.1
  have hl : lv_has ls 2 [(0, .int a), (1, .int b)] := hl
  refine lv_iload_n hx hb dX8_far_0 rfl (lv_at hl 0 rfl) ?_
  refine lv_bipush (v := 14) hx hb dX8_far_1 (by decide) ?_
  refine lv_irem hx hb dX8_far_3 (by decide) ?_
  refine lv_iload_n hx hb dX8_far_4 rfl (lv_at hl 1 rfl) ?_
  refine lv_bipush (v := 14) hx hb dX8_far_5 (by decide) ?_
  refine lv_irem hx hb dX8_far_7 (by decide) ?_
  refine lv_isub hx hb dX8_far_8 ?_
  refine va_mabs hx hb (X.2.2.1.trans hl.1.symm) X.2.2.2.1 (X.2.2.2.2.1 _ wq574) (X.2.2.2.2.1 _ wq332) (X.2.2.2.2.1 _ wq18) (X.2.2.2.2.1 _ wq333) (Nat.le_of_ble_eq_true rfl) (Nat.le_of_ble_eq_true rfl) (Nat.zero_le _) (Nat.zero_le _) dX8_far_9 ?_
  refine lv_iload_n hx hb dX8_far_12 rfl (lv_at hl 0 rfl) ?_
  refine lv_bipush (v := 14) hx hb dX8_far_13 (by decide) ?_
  refine lv_idiv hx hb dX8_far_15 (by decide) ?_
  refine lv_iload_n hx hb dX8_far_16 rfl (lv_at hl 1 rfl) ?_
  refine lv_bipush (v := 14) hx hb dX8_far_17 (by decide) ?_
  refine lv_idiv hx hb dX8_far_19 (by decide) ?_
  refine lv_isub hx hb dX8_far_20 ?_
  refine va_mabs hx hb (X.2.2.1.trans hl.1.symm) X.2.2.2.1 (X.2.2.2.2.1 _ wq574) (X.2.2.2.2.1 _ wq332) (X.2.2.2.2.1 _ wq18) (X.2.2.2.2.1 _ wq333) (Nat.le_of_ble_eq_true rfl) (Nat.le_of_ble_eq_true rfl) (Nat.zero_le _) (Nat.zero_le _) dX8_far_21 ?_
  refine lv_iadd hx hb dX8_far_24 ?_
  exact f_iret X hw ⟨rfl, rfl, rfl⟩ (Nat.le_refl _) (Nat.le_refl _) dX8_far_25
set_option maxHeartbeats 4000000 in
set_option maxRecDepth 100000 in
theorem c_s_isNear (l : Launch) (g : fG) (ad : Nat → Nat) (M : fM) (a b : Int32) : fCi l g yX8_isNear cX8_isNear 2 ((some .boolean)) 1 14 0 0 ad M [.int a, .int b] (fDi ad M (bI (sNear a b))) := by
  refine f_body (own := RX8) (by decide +kernel) rfl (Nat.le_of_ble_eq_true rfl) ?_
  intro p e s m args below meth c ls X hw hin hl
  have hx := X.1
  have hb := X.2.1
  have hl : lv_has ls 2 [(0, .int a), (1, .int b)] := hl
  refine lv_iload_n hx hb dX8_isNear_0 rfl (lv_at hl 0 rfl) ?_
  refine lv_iload_n hx hb dX8_isNear_1 rfl (lv_at hl 1 rfl) ?_
  refine lv_icmp_eq (tgt := 40) hx hb dX8_isNear_2 (by decide) (fun c_1 => ?_) (fun c_1 => ?_)
  · refine lv_iconst (v := 0) hx hb dX8_isNear_40 (by decide) ?_
    exact f_zret X hw rfl ⟨rfl, rfl, by simp [sNear, bI, c_1]⟩ (Nat.le_refl _) (Nat.le_refl _) dX8_isNear_41
  · refine lv_iload_n hx hb dX8_isNear_5 rfl (lv_at hl 0 rfl) ?_
    refine lv_bipush (v := 14) hx hb dX8_isNear_6 (by decide) ?_
    refine lv_irem hx hb dX8_isNear_8 (by decide) ?_
    refine lv_iload_n hx hb dX8_isNear_9 rfl (lv_at hl 1 rfl) ?_
    refine lv_bipush (v := 14) hx hb dX8_isNear_10 (by decide) ?_
    refine lv_irem hx hb dX8_isNear_12 (by decide) ?_
    refine lv_isub hx hb dX8_isNear_13 ?_
    refine va_mabs hx hb (X.2.2.1.trans hl.1.symm) X.2.2.2.1 (X.2.2.2.2.1 _ wq574) (X.2.2.2.2.1 _ wq332) (X.2.2.2.2.1 _ wq18) (X.2.2.2.2.1 _ wq333) (Nat.le_of_ble_eq_true rfl) (Nat.le_of_ble_eq_true rfl) (Nat.zero_le _) (Nat.zero_le _) dX8_isNear_14 ?_
    refine lv_iload_n hx hb dX8_isNear_17 rfl (lv_at hl 0 rfl) ?_
    refine lv_bipush (v := 14) hx hb dX8_isNear_18 (by decide) ?_
    refine lv_idiv hx hb dX8_isNear_20 (by decide) ?_
    refine lv_iload_n hx hb dX8_isNear_21 rfl (lv_at hl 1 rfl) ?_
    refine lv_bipush (v := 14) hx hb dX8_isNear_22 (by decide) ?_
    refine lv_idiv hx hb dX8_isNear_24 (by decide) ?_
    refine lv_isub hx hb dX8_isNear_25 ?_
    refine va_mabs hx hb (X.2.2.1.trans hl.1.symm) X.2.2.2.1 (X.2.2.2.2.1 _ wq574) (X.2.2.2.2.1 _ wq332) (X.2.2.2.2.1 _ wq18) (X.2.2.2.2.1 _ wq333) (Nat.le_of_ble_eq_true rfl) (Nat.le_of_ble_eq_true rfl) (Nat.zero_le _) (Nat.zero_le _) dX8_isNear_26 ?_
    refine va_mmax hx hb (X.2.2.1.trans hl.1.symm) X.2.2.2.1 (X.2.2.2.2.1 _ wq575) (X.2.2.2.2.1 _ wq290) (X.2.2.2.2.1 _ wq18) (X.2.2.2.2.1 _ wq291) (Nat.le_of_ble_eq_true rfl) (Nat.le_of_ble_eq_true rfl) (Nat.zero_le _) (Nat.zero_le _) dX8_isNear_29 ?_
    refine lv_iconst (v := 1) hx hb dX8_isNear_32 (by decide) ?_
    refine lv_icmp_ne (tgt := 40) hx hb dX8_isNear_33 (by decide) (fun c_2 => ?_) (fun c_2 => ?_)
    · refine lv_iconst (v := 0) hx hb dX8_isNear_40 (by decide) ?_
      exact f_zret X hw rfl ⟨rfl, rfl, by have z : ¬ iMax (iAbs (iMod a - iMod b)) (iAbs (a / 14 - b / 14)) = 1 := c_2; simp [sNear, bI, c_1, z]⟩ (Nat.le_refl _) (Nat.le_refl _) dX8_isNear_41
    · refine lv_iconst (v := 1) hx hb dX8_isNear_36 (by decide) ?_
      refine lv_goto (tgt := 41) hx hb dX8_isNear_37 (by decide) ?_
      exact f_zret X hw rfl ⟨rfl, rfl, by have z : iMax (iAbs (iMod a - iMod b)) (iAbs (a / 14 - b / 14)) = 1 := c_2; simp [sNear, bI, c_1, z]⟩ (Nat.le_refl _) (Nat.le_refl _) dX8_isNear_41
set_option maxHeartbeats 4000000 in
set_option maxRecDepth 100000 in
theorem c_s_pumps (l : Launch) (g : fG) (ad : Nat → Nat) (M : fM) {le : Nat} {f : Nat → Int32} (hE : M le = some (.inr (7, gV f))) : fCi l g yX6_pumps cX6_pumps 1 ((some .int)) 0 0 0 0 ad M [.ref (ad le)] (fDi ad M (sPump f)) := by
  refine f_body (own := RX6) (by decide +kernel) rfl (Nat.le_of_ble_eq_true rfl) ?_
  intro p e s m args below meth c ls X hw hin hl
  have hx := X.1
  have hb := X.2.1
  have hl : lv_has ls 1 [(0, .ref (ad le))] := hl
  refine lv_aload_n hx hb dX6_pumps_0 rfl (lv_at hl 0 rfl) ?_
  refine f_get X hw hE fc7 5 (by decide) wq778 rfl (v := .int (f 5)) rfl dX6_pumps_1 ?_
  refine lv_if_gt (tgt := 16) hx hb dX6_pumps_4 (by decide) (fun c_1 => ?_) (fun c_1 => ?_)
  · refine lv_iconst (v := 0) hx hb dX6_pumps_16 (by decide) ?_
    refine lv_goto (tgt := 32) hx hb dX6_pumps_17 (by decide) ?_
    exact f_iret X hw ⟨rfl, rfl, by simp [sPump, c_1]⟩ (Nat.le_refl _) (Nat.le_refl _) dX6_pumps_32
  · refine lv_aload_n hx hb dX6_pumps_7 rfl (lv_at hl 0 rfl) ?_
    refine f_get X hw hE fc7 4 (by decide) wq776 rfl (v := .int (f 4)) rfl dX6_pumps_8 ?_
    refine lv_bipush (v := 20) hx hb dX6_pumps_11 (by decide) ?_
    refine lv_icmp_ge (tgt := 20) hx hb dX6_pumps_13 (by decide) (fun c_2 => ?_) (fun c_2 => ?_)
    · refine lv_aload_n hx hb dX6_pumps_20 rfl (lv_at hl 0 rfl) ?_
      refine f_get X hw hE fc7 2 (by decide) wq771 rfl (v := .int (f 2)) rfl dX6_pumps_21 ?_
      refine lv_aload_n hx hb dX6_pumps_24 rfl (lv_at hl 0 rfl) ?_
      refine f_get X hw hE fc7 4 (by decide) wq776 rfl (v := .int (f 4)) rfl dX6_pumps_25 ?_
      refine lv_imul hx hb dX6_pumps_28 ?_
      refine lv_bipush (v := 20) hx hb dX6_pumps_29 (by decide) ?_
      refine lv_idiv hx hb dX6_pumps_31 (by decide) ?_
      exact f_iret X hw ⟨rfl, rfl, by simp [sPump, c_1, c_2]⟩ (Nat.le_refl _) (Nat.le_refl _) dX6_pumps_32
    · refine lv_iconst (v := 0) hx hb dX6_pumps_16 (by decide) ?_
      refine lv_goto (tgt := 32) hx hb dX6_pumps_17 (by decide) ?_
      exact f_iret X hw ⟨rfl, rfl, by simp [sPump, c_1, c_2]⟩ (Nat.le_refl _) (Nat.le_refl _) dX6_pumps_32
set_option maxHeartbeats 4000000 in
set_option maxRecDepth 100000 in
theorem c_s_isStreet (l : Launch) (g : fG) (ad : Nat → Nat) (M : fM) {U : fTn} (hS : isSim g ad M U) (c0 v0 : Int32) (hb0 : ((∃ j, j < tHn U ∧ tH U j 0 = c0) ∨ ∃ j, j < tPn U ∧ tP U j 0 = c0) → 0 = v0) (hb1 : (∀ j, j < tHn U → ¬ tH U j 0 = c0) → (∀ j, j < tPn U → ¬ tP U j 0 = c0) → 1 = v0) : fCi l g yX8_isStreet cX8_isStreet 6 ((some .boolean)) 0 0 0 0 ad M [.ref (ad 3000), .int c0] (fDi ad M v0) := by
  refine f_body (own := RX8) (by decide +kernel) rfl (Nat.le_of_ble_eq_true rfl) ?_
  intro p e s m args below meth c ls X hw hin hl
  have hx := X.1
  have hb := X.2.1
  have hl : lv_has ls 6 [(0, .ref (ad 3000)), (1, .int c0)] := hl
  obtain ⟨hS0, ⟨fHh, hSh, hSH⟩, ⟨fEe, hSe, hSE⟩, ⟨fPp, hSp, hSP⟩, hHs, hEs, hPs, hn1, hn3, hn2⟩ := id hS
  refine lv_aload_n hx hb dX8_isStreet_0 rfl (lv_at hl 0 rfl) ?_
  refine f_get X hw hS0 fc9 1 (by decide) wq622 rfl (v := .ref (ad 3001)) rfl dX8_isStreet_1 ?_
  refine lv_astore_n (lv' := [(2, .ref (ad 3001)), (0, .ref (ad 3000)), (1, .int c0)]) hx hb dX8_isStreet_4 rfl hl (by decide) rfl (fun ls hl => ?_)
  refine lv_aload_n hx hb dX8_isStreet_5 rfl (lv_at hl 0 rfl) ?_
  refine f_alen X hw 4 hSh rfl dX8_isStreet_6 ?_
  refine lv_istore_n (lv' := [(3, .int (nI (tHn U))), (2, .ref (ad 3001)), (0, .ref (ad 3000)), (1, .int c0)]) hx hb dX8_isStreet_7 rfl hl (by decide) rfl (fun ls hl => ?_)
  refine lv_iconst (v := 0) hx hb dX8_isStreet_8 (by decide) ?_
  refine lv_istore (lv' := [(4, .int 0), (3, .int (nI (tHn U))), (2, .ref (ad 3001)), (0, .ref (ad 3000)), (1, .int c0)]) hx hb dX8_isStreet_9 hl (by decide) rfl (fun ls hl => ?_)
  have loopH : ∀ (n11 k : Nat), k ≤ tHn U → tHn U < k + n11 → ∀ (hg : ∀ j, j < k → (fun i => decide (tH U i 0 = c0)) j = false) (ls : Array Slot) (H : Heap) (locs : List Loc), fw g ad M s H locs → lv_has ls 6 [(4, .int (nI k)), (3, .int (nI (tHn U))), (2, .ref (ad 3001)), (0, .ref (ad 3000)), (1, .int c0)] → W p l e (fR 0 0 0 0) s m args below meth c H locs 0 0 (MQ below (fQi g (fDi ad M v0)) args s 0 0 (fA g)) (F0 m 11 ls []) := by
    intro n11
    induction n11 with
    | zero => intro k h1 h2; omega
    | succ n11 ih11 =>
      intro k hk_k hn_k hg ls H locs hw hl
      refine lv_iload hx hb dX8_isStreet_11 (lv_at hl 0 rfl) ?_
      refine lv_iload_n hx hb dX8_isStreet_13 rfl (lv_at hl 1 rfl) ?_
      refine lv_icmp_ge (tgt := 40) hx hb dX8_isStreet_14 (by decide) (fun c_1 => ?_) (fun c_1 => ?_)
      · have c_1 := nI_le' (a := (tHn U)) (b := k) c_1 (by omega) (by omega)
        have hgH : ∀ j, j < tHn U → decide (tH U j 0 = c0) = false := fun j hj => hg j (by omega)
        refine lv_aload_n hx hb dX8_isStreet_40 rfl (lv_at hl 3 rfl) ?_
        refine f_get X hw hS0 fc9 3 (by decide) wq626 rfl (v := .ref (ad 3003)) rfl dX8_isStreet_41 ?_
        refine lv_astore_n (lv' := [(2, .ref (ad 3003)), (4, .int (nI k)), (3, .int (nI (tHn U))), (0, .ref (ad 3000)), (1, .int c0)]) hx hb dX8_isStreet_44 rfl hl (by decide) rfl (fun ls hl => ?_)
        refine lv_aload_n hx hb dX8_isStreet_45 rfl (lv_at hl 0 rfl) ?_
        refine f_alen X hw 3 hSp rfl dX8_isStreet_46 ?_
        refine lv_istore_n (lv' := [(3, .int (nI (tPn U))), (2, .ref (ad 3003)), (4, .int (nI k)), (0, .ref (ad 3000)), (1, .int c0)]) hx hb dX8_isStreet_47 rfl hl (by decide) rfl (fun ls hl => ?_)
        refine lv_iconst (v := 0) hx hb dX8_isStreet_48 (by decide) ?_
        refine lv_istore (lv' := [(4, .int 0), (3, .int (nI (tPn U))), (2, .ref (ad 3003)), (0, .ref (ad 3000)), (1, .int c0)]) hx hb dX8_isStreet_49 hl (by decide) rfl (fun ls hl => ?_)
        have loopP : ∀ (n51 k : Nat), k ≤ tPn U → tPn U < k + n51 → ∀ (hg2 : ∀ j, j < k → decide (tP U j 0 = c0) = false) (ls : Array Slot) (H : Heap) (locs : List Loc), fw g ad M s H locs → lv_has ls 6 [(4, .int (nI k)), (3, .int (nI (tPn U))), (2, .ref (ad 3003)), (0, .ref (ad 3000)), (1, .int c0)] → W p l e (fR 0 0 0 0) s m args below meth c H locs 0 0 (MQ below (fQi g (fDi ad M v0)) args s 0 0 (fA g)) (F0 m 51 ls []) := by
          intro n51
          induction n51 with
          | zero => intro k h1 h2; omega
          | succ n51 ih51 =>
            intro k hk_k hn_k hg2 ls H locs hw hl
            refine lv_iload hx hb dX8_isStreet_51 (lv_at hl 0 rfl) ?_
            refine lv_iload_n hx hb dX8_isStreet_53 rfl (lv_at hl 1 rfl) ?_
            refine lv_icmp_ge (tgt := 79) hx hb dX8_isStreet_54 (by decide) (fun c_2 => ?_) (fun c_2 => ?_)
            · have c_2 := nI_le' (a := (tPn U)) (b := k) c_2 (by omega) (by omega)
              refine lv_iconst (v := 1) hx hb dX8_isStreet_79 (by decide) ?_
              exact f_zret X hw rfl ⟨rfl, rfl, hb1 (fun j hj => of_decide_eq_false (hgH j hj)) (fun j hj => of_decide_eq_false (hg2 j (by omega)))⟩ (Nat.le_refl _) (Nat.le_refl _) dX8_isStreet_80
            · have c_2 := nI_nle' (a := (tPn U)) (b := k) c_2 (by omega) (by omega)
              refine lv_aload_n hx hb dX8_isStreet_57 rfl (lv_at hl 2 rfl) ?_
              refine lv_iload hx hb dX8_isStreet_58 (lv_at hl 0 rfl) ?_
              refine f_aaldQ X hw hSp (vp_in_nI (n := k) (by omega) (by omega)) (q := ad (3200 + k)) (by rw [nI_clamp (by omega)]; exact hSP k (by omega)) dX8_isStreet_60 ?_
              refine lv_astore (lv' := [(5, .ref (ad (3200 + k))), (4, .int (nI k)), (3, .int (nI (tPn U))), (2, .ref (ad 3003)), (0, .ref (ad 3000)), (1, .int c0)]) hx hb dX8_isStreet_61 hl (by decide) rfl (fun ls hl => ?_)
              refine lv_aload hx hb dX8_isStreet_63 (lv_at hl 0 rfl) ?_
              refine lv_iconst (v := 0) hx hb dX8_isStreet_65 (by decide) ?_
              refine f_iald X hw (hPs k (by omega)) (by unfold vp_in; decide) dX8_isStreet_66 ?_
              rw [show (0 : Int32).toNatClampNeg = 0 from rfl]
              refine lv_iload_n hx hb dX8_isStreet_67 rfl (lv_at hl 5 rfl) ?_
              refine lv_icmp_ne (tgt := 73) hx hb dX8_isStreet_68 (by decide) (fun c_3 => ?_) (fun c_3 => ?_)
              · refine lv_iinc (v := nI (k + 1)) (lv' := [(4, .int (nI (k + 1))), (5, .ref (ad (3200 + k))), (3, .int (nI (tPn U))), (2, .ref (ad 3003)), (0, .ref (ad 3000)), (1, .int c0)]) hx hb dX8_isStreet_73 hl (k := 1) rfl (nI_1 k) (by decide) rfl (fun ls hl => ?_)
                refine lv_goto (tgt := 51) hx hb dX8_isStreet_76 (by decide) ?_
                exact ih51 (k + 1) (by omega) (by omega) (f_lts (p := fun j => decide (tP U j 0 = c0)) hg2 (by simp [c_3])) ls _ _ hw (lv_sub hl [0, 2, 3, 4, 5] rfl)
              · refine lv_iconst (v := 0) hx hb dX8_isStreet_71 (by decide) ?_
                exact f_zret X hw rfl ⟨rfl, rfl, (hb0 (Or.inr ⟨k, by omega, by simp [c_3]⟩))⟩ (Nat.le_refl _) (Nat.le_refl _) dX8_isStreet_72
        exact loopP (tPn U + 1) 0 (by omega) (by omega) (fun j h => absurd h (Nat.not_lt_zero _)) ls _ _ hw (lv_sub hl [0, 1, 2, 3, 4] rfl)
      · have c_1 := nI_nle' (a := (tHn U)) (b := k) c_1 (by omega) (by omega)
        refine lv_aload_n hx hb dX8_isStreet_17 rfl (lv_at hl 2 rfl) ?_
        refine lv_iload hx hb dX8_isStreet_18 (lv_at hl 0 rfl) ?_
        refine f_aaldY X hw hSh (vp_in_nI (n := k) (by omega) (by omega)) (q := ad (3100 + k)) (by rw [nI_clamp (by omega)]; exact hSH k (by omega)) dX8_isStreet_20 ?_
        refine lv_astore (lv' := [(5, .ref (ad (3100 + k))), (4, .int (nI k)), (3, .int (nI (tHn U))), (2, .ref (ad 3001)), (0, .ref (ad 3000)), (1, .int c0)]) hx hb dX8_isStreet_21 hl (by decide) rfl (fun ls hl => ?_)
        refine lv_aload hx hb dX8_isStreet_23 (lv_at hl 0 rfl) ?_
        refine f_get X hw (hHs k (by omega)) fc8 0 (by decide) wq718 rfl (v := .int ((tH U k) 0)) rfl dX8_isStreet_25 ?_
        refine lv_iload_n hx hb dX8_isStreet_28 rfl (lv_at hl 5 rfl) ?_
        refine lv_icmp_ne (tgt := 34) hx hb dX8_isStreet_29 (by decide) (fun c_4 => ?_) (fun c_4 => ?_)
        · refine lv_iinc (v := nI (k + 1)) (lv' := [(4, .int (nI (k + 1))), (5, .ref (ad (3100 + k))), (3, .int (nI (tHn U))), (2, .ref (ad 3001)), (0, .ref (ad 3000)), (1, .int c0)]) hx hb dX8_isStreet_34 hl (k := 1) rfl (nI_1 k) (by decide) rfl (fun ls hl => ?_)
          refine lv_goto (tgt := 11) hx hb dX8_isStreet_37 (by decide) ?_
          exact ih11 (k + 1) (by omega) (by omega) (f_lts hg (by simp [c_4])) ls _ _ hw (lv_sub hl [0, 2, 3, 4, 5] rfl)
        · refine lv_iconst (v := 0) hx hb dX8_isStreet_32 (by decide) ?_
          exact f_zret X hw rfl ⟨rfl, rfl, (hb0 (Or.inl ⟨k, by omega, by simp [c_4]⟩))⟩ (Nat.le_refl _) (Nat.le_refl _) dX8_isStreet_33
  exact loopH (tHn U + 1) 0 (by omega) (by omega) (fun j h => absurd h (Nat.not_lt_zero _)) ls _ _ hw (lv_sub hl [0, 1, 2, 3, 4] rfl)
set_option maxHeartbeats 4000000 in
set_option maxRecDepth 100000 in
theorem c_s_isFree (l : Launch) (g : fG) (ad : Nat → Nat) (M : fM) {U : fTn} (hS : isSim g ad M U) (hE0 : tEn U = 0) (c0 : Int32) (b0 : Bool) (hb0 : ((∃ j, j < tHn U ∧ tH U j 0 = c0) ∨ ∃ j, j < tPn U ∧ tP U j 0 = c0) → 0 = bI b0) (hb1 : (∀ j, j < tHn U → ¬ tH U j 0 = c0) → (∀ j, j < tPn U → ¬ tP U j 0 = c0) → 1 = bI b0) : fCi l g yX8_isFree cX8_isFree 6 ((some .boolean)) 1 28 0 0 ad M [.ref (ad 3000), .int c0] (fDi ad M (bI b0)) := by
  refine f_body (own := RX8) (by decide +kernel) rfl (Nat.le_of_ble_eq_true rfl) ?_
  intro p e s m args below meth c ls X hw hin hl
  have hx := X.1
  have hb := X.2.1
  have hl : lv_has ls 6 [(0, .ref (ad 3000)), (1, .int c0)] := hl
  obtain ⟨hS0, ⟨fHh, hSh, hSH⟩, ⟨fEe, hSe, hSE⟩, ⟨fPp, hSp, hSP⟩, hHs, hEs, hPs, hn1, hn3, hn2⟩ := id hS
  refine lv_aload_n hx hb dX8_isFree_0 rfl (lv_at hl 0 rfl) ?_
  refine f_get X hw hS0 fc9 2 (by decide) wq624 rfl (v := .ref (ad 3002)) rfl dX8_isFree_1 ?_
  refine lv_astore_n (lv' := [(2, .ref (ad 3002)), (0, .ref (ad 3000)), (1, .int c0)]) hx hb dX8_isFree_4 rfl hl (by decide) rfl (fun ls hl => ?_)
  refine lv_aload_n hx hb dX8_isFree_5 rfl (lv_at hl 0 rfl) ?_
  refine f_alen X hw 5 hSe rfl dX8_isFree_6 ?_
  refine lv_istore_n (lv' := [(3, .int (nI (tEn U))), (2, .ref (ad 3002)), (0, .ref (ad 3000)), (1, .int c0)]) hx hb dX8_isFree_7 rfl hl (by decide) rfl (fun ls hl => ?_)
  refine lv_iconst (v := 0) hx hb dX8_isFree_8 (by decide) ?_
  refine lv_istore (lv' := [(4, .int 0), (3, .int (nI (tEn U))), (2, .ref (ad 3002)), (0, .ref (ad 3000)), (1, .int c0)]) hx hb dX8_isFree_9 hl (by decide) rfl (fun ls hl => ?_)
  refine lv_iload hx hb dX8_isFree_11 (lv_at hl 0 rfl) ?_
  refine lv_iload_n hx hb dX8_isFree_13 rfl (lv_at hl 1 rfl) ?_
  refine lv_icmp_ge (tgt := 57) hx hb dX8_isFree_14 (by decide) (fun c_1 => ?_) (fun c_1 => absurd (nI_nle' (a := tEn U) (b := 0) c_1 (by omega) (by omega)) (by omega))
  have c_1 := nI_le' (a := (tEn U)) (b := 0) c_1 (by omega) (by omega)
  refine lv_aload_n hx hb dX8_isFree_57 rfl (lv_at hl 3 rfl) ?_
  refine lv_iload_n hx hb dX8_isFree_58 rfl (lv_at hl 4 rfl) ?_
  refine fk_di (fcV X hw (c_s_isStreet l g ad M hS c0 (bI b0) hb0 hb1) hS0 rfl wq645 kVX8_isStreet ⟨(Nat.le_of_ble_eq_true rfl), (Nat.le_of_ble_eq_true rfl)⟩ rfl hl.1 rfl (Nat.le_of_ble_eq_true rfl) dX8_isFree_59 ⟨Nat.le_refl _, Nat.le_refl _⟩) hw (fun H locs hw => ?_)
  exact f_zret X hw (bI_nar _) ⟨rfl, rfl, rfl⟩ (Nat.le_refl _) (Nat.le_refl _) dX8_isFree_62
set_option maxHeartbeats 4000000 in
set_option maxRecDepth 100000 in
theorem c_s_source (l : Launch) (g : fG) (ad : Nat → Nat) (M : fM) {U : fTn} (hS : isSim g ad M U) {le : Nat} {f : Nat → Int32} (hE : M le = some (.inr (7, gV f))) : fCi l g yX8_source cX8_source 3 ((some .int)) 2 36 0 0 ad M [.ref (ad 3000), .ref (ad le)] (fDi ad M (sSrc U f)) := by
  refine f_body (own := RX8) (by decide +kernel) rfl (Nat.le_of_ble_eq_true rfl) ?_
  intro p e s m args below meth c ls X hw hin hl
  have hx := X.1
  have hb := X.2.1
  have hl : lv_has ls 3 [(0, .ref (ad 3000)), (1, .ref (ad le))] := hl
  obtain ⟨hS0, ⟨fHh, hSh, hSH⟩, ⟨fEe, hSe, hSE⟩, ⟨fPp, hSp, hSP⟩, hHs, hEs, hPs, hn1, hn3, hn2⟩ := id hS
  refine lv_aload_n hx hb dX8_source_0 rfl (lv_at hl 1 rfl) ?_
  refine f_get X hw hE fc7 5 (by decide) wq780 rfl (v := .int (f 5)) rfl dX8_source_1 ?_
  refine lv_if_le (tgt := 9) hx hb dX8_source_4 (by decide) (fun c_1 => ?_) (fun c_1 => ?_)
  · refine lv_iconst (v := 0) hx hb dX8_source_9 (by decide) ?_
    refine lv_istore_n (lv' := [(2, .int 0), (0, .ref (ad 3000)), (1, .ref (ad le))]) hx hb dX8_source_10 rfl hl (by decide) rfl (fun ls hl => ?_)
    have loop11 : ∀ (n11 k : Nat), k ≤ tPn U → tPn U < k + n11 → ∀ (hg : ∀ j, j < k → (fun i => sNear (tP U i 0) (f 0)) j = false) (ls : Array Slot) (H : Heap) (locs : List Loc), fw g ad M s H locs → lv_has ls 3 [(2, .int (nI k)), (0, .ref (ad 3000)), (1, .ref (ad le))] → W p l e (fR 2 36 0 0) s m args below meth c H locs 0 0 (MQ below (fQi g (fDi ad M (sSrc U f))) args s 0 0 (fA g)) (F0 m 11 ls []) := by
      intro n11
      induction n11 with
      | zero => intro k h1 h2; omega
      | succ n11 ih11 =>
        intro k hk_k hn_k hg ls H locs hw hl
        refine lv_iload_n hx hb dX8_source_11 rfl (lv_at hl 0 rfl) ?_
        refine lv_aload_n hx hb dX8_source_12 rfl (lv_at hl 1 rfl) ?_
        refine f_get X hw hS0 fc9 3 (by decide) wq626 rfl (v := .ref (ad 3003)) rfl dX8_source_13 ?_
        refine f_alen X hw 3 hSp rfl dX8_source_16 ?_
        refine lv_icmp_ge (tgt := 46) hx hb dX8_source_17 (by decide) (fun c_2 => ?_) (fun c_2 => ?_)
        · have c_2 := nI_le' (a := (tPn U)) (b := k) c_2 (by omega) (by omega)
          refine lv_iconst (v := (-1)) hx hb dX8_source_46 (by decide) ?_
          exact f_iret X hw ⟨rfl, rfl, (jFirst_none (p := fun i => sNear (tP U i 0) (f 0)) (fun j hj => hg j (by omega))).trans (if_neg (Int32.not_lt.mpr c_1)).symm⟩ (Nat.le_refl _) (Nat.le_refl _) dX8_source_47
        · have c_2 := nI_nle' (a := (tPn U)) (b := k) c_2 (by omega) (by omega)
          refine lv_aload_n hx hb dX8_source_20 rfl (lv_at hl 1 rfl) ?_
          refine f_get X hw hS0 fc9 3 (by decide) wq626 rfl (v := .ref (ad 3003)) rfl dX8_source_21 ?_
          refine lv_iload_n hx hb dX8_source_24 rfl (lv_at hl 0 rfl) ?_
          refine f_aaldQ X hw hSp (vp_in_nI (n := k) (by omega) (by omega)) (q := ad (3200 + k)) (by rw [nI_clamp (by omega)]; exact hSP k (by omega)) dX8_source_25 ?_
          refine lv_iconst (v := 0) hx hb dX8_source_26 (by decide) ?_
          refine f_iald X hw (hPs k (by omega)) (by unfold vp_in; decide) dX8_source_27 ?_
          rw [show (0 : Int32).toNatClampNeg = 0 from rfl]
          refine lv_aload_n hx hb dX8_source_28 rfl (lv_at hl 2 rfl) ?_
          refine f_get X hw hE fc7 0 (by decide) wq767 rfl (v := .int (f 0)) rfl dX8_source_29 ?_
          refine fk_di (fcS X hw (c_s_isNear l g ad M (tP U k 0) (f 0)) wq592 kSX8_isNear ⟨(Nat.le_of_ble_eq_true rfl), (Nat.le_of_ble_eq_true rfl)⟩ rfl hl.1 rfl (Nat.le_of_ble_eq_true rfl) dX8_source_32 ⟨Nat.le_refl _, Nat.le_refl _⟩) hw (fun H locs hw => ?_)
          refine lv_if_eq (tgt := 40) hx hb dX8_source_35 (by decide) (fun c_3 => ?_) (fun c_3 => ?_)
          · have c_3 := bI_f.mp c_3
            refine lv_iinc (v := nI (k + 1)) (lv' := [(2, .int (nI (k + 1))), (0, .ref (ad 3000)), (1, .ref (ad le))]) hx hb dX8_source_40 hl (k := 0) rfl (nI_1 k) (by decide) rfl (fun ls hl => ?_)
            refine lv_goto (tgt := 11) hx hb dX8_source_43 (by decide) ?_
            exact ih11 (k + 1) (by omega) (by omega) (f_lts hg (by simp [c_3])) ls _ _ hw (lv_sub hl [0, 1, 2] rfl)
          · have c_3 := bI_nf.mp c_3
            refine lv_iload_n hx hb dX8_source_38 rfl (lv_at hl 0 rfl) ?_
            exact f_iret X hw ⟨rfl, rfl, (jFirst_at (p := fun i => sNear (tP U i 0) (f 0)) (show k < tPn U by omega) (by simp [c_3]) hg).trans (if_neg (Int32.not_lt.mpr c_1)).symm⟩ (Nat.le_refl _) (Nat.le_refl _) dX8_source_39
    exact loop11 (tPn U + 1) 0 (by omega) (by omega) (fun j h => absurd h (Nat.not_lt_zero _)) ls _ _ hw (lv_sub hl [0, 1, 2] rfl)
  · refine lv_iconst (v := (-1)) hx hb dX8_source_7 (by decide) ?_
    exact f_iret X hw ⟨rfl, rfl, (if_pos (Int32.not_le.mp c_1)).symm⟩ (Nat.le_refl _) (Nat.le_refl _) dX8_source_8
set_option maxHeartbeats 4000000 in
set_option maxRecDepth 100000 in
theorem c_s_heatNear (l : Launch) (g : fG) (ad : Nat → Nat) (M : fM) {U : fTn} (hS : isSim g ad M U) (c0 : Int32) : fCi l g yX8_heatNear cX8_heatNear 7 ((some .int)) 2 36 0 0 ad M [.ref (ad 3000), .int c0] (fDi ad M (sHeat (tH U) c0 (tHn U))) := by
  refine f_body (own := RX8) (by decide +kernel) rfl (Nat.le_of_ble_eq_true rfl) ?_
  intro p e s m args below meth c ls X hw hin hl
  have hx := X.1
  have hb := X.2.1
  have hl : lv_has ls 7 [(0, .ref (ad 3000)), (1, .int c0)] := hl
  obtain ⟨hS0, ⟨fHh, hSh, hSH⟩, ⟨fEe, hSe, hSE⟩, ⟨fPp, hSp, hSP⟩, hHs, hEs, hPs, hn1, hn3, hn2⟩ := id hS
  refine lv_iconst (v := 0) hx hb dX8_heatNear_0 (by decide) ?_
  refine lv_istore_n (lv' := [(2, .int 0), (0, .ref (ad 3000)), (1, .int c0)]) hx hb dX8_heatNear_1 rfl hl (by decide) rfl (fun ls hl => ?_)
  refine lv_aload_n hx hb dX8_heatNear_2 rfl (lv_at hl 1 rfl) ?_
  refine f_get X hw hS0 fc9 1 (by decide) wq622 rfl (v := .ref (ad 3001)) rfl dX8_heatNear_3 ?_
  refine lv_astore_n (lv' := [(3, .ref (ad 3001)), (2, .int 0), (0, .ref (ad 3000)), (1, .int c0)]) hx hb dX8_heatNear_6 rfl hl (by decide) rfl (fun ls hl => ?_)
  refine lv_aload_n hx hb dX8_heatNear_7 rfl (lv_at hl 0 rfl) ?_
  refine f_alen X hw 4 hSh rfl dX8_heatNear_8 ?_
  refine lv_istore (lv' := [(4, .int (nI (tHn U))), (3, .ref (ad 3001)), (2, .int 0), (0, .ref (ad 3000)), (1, .int c0)]) hx hb dX8_heatNear_9 hl (by decide) rfl (fun ls hl => ?_)
  refine lv_iconst (v := 0) hx hb dX8_heatNear_11 (by decide) ?_
  refine lv_istore (lv' := [(5, .int 0), (4, .int (nI (tHn U))), (3, .ref (ad 3001)), (2, .int 0), (0, .ref (ad 3000)), (1, .int c0)]) hx hb dX8_heatNear_12 hl (by decide) rfl (fun ls hl => ?_)
  have loop14 : ∀ (n14 k : Nat), k ≤ tHn U → tHn U < k + n14 → ∀ (ls : Array Slot) (H : Heap) (locs : List Loc), fw g ad M s H locs → lv_has ls 7 [(2, .int (sHeat (tH U) c0 k)), (5, .int (nI k)), (4, .int (nI (tHn U))), (3, .ref (ad 3001)), (0, .ref (ad 3000)), (1, .int c0)] → W p l e (fR 2 36 0 0) s m args below meth c H locs 0 0 (MQ below (fQi g (fDi ad M (sHeat (tH U) c0 (tHn U)))) args s 0 0 (fA g)) (F0 m 14 ls []) := by
    intro n14
    induction n14 with
    | zero => intro k h1 h2; omega
    | succ n14 ih14 =>
      intro k hk_k hn_k ls H locs hw hl
      refine lv_iload hx hb dX8_heatNear_14 (lv_at hl 1 rfl) ?_
      refine lv_iload hx hb dX8_heatNear_16 (lv_at hl 2 rfl) ?_
      refine lv_icmp_ge (tgt := 66) hx hb dX8_heatNear_18 (by decide) (fun c_1 => ?_) (fun c_1 => ?_)
      · have c_1 := nI_le' (a := (tHn U)) (b := k) c_1 (by omega) (by omega)
        refine lv_iload_n hx hb dX8_heatNear_66 rfl (lv_at hl 0 rfl) ?_
        exact f_iret X hw ⟨rfl, rfl, by rw [show k = tHn U by omega]⟩ (Nat.le_refl _) (Nat.le_refl _) dX8_heatNear_67
      · have c_1 := nI_nle' (a := (tHn U)) (b := k) c_1 (by omega) (by omega)
        refine lv_aload_n hx hb dX8_heatNear_21 rfl (lv_at hl 3 rfl) ?_
        refine lv_iload hx hb dX8_heatNear_22 (lv_at hl 1 rfl) ?_
        refine f_aaldY X hw hSh (vp_in_nI (n := k) (by omega) (by omega)) (q := ad (3100 + k)) (by rw [nI_clamp (by omega)]; exact hSH k (by omega)) dX8_heatNear_24 ?_
        refine lv_astore (lv' := [(6, .ref (ad (3100 + k))), (2, .int (sHeat (tH U) c0 k)), (5, .int (nI k)), (4, .int (nI (tHn U))), (3, .ref (ad 3001)), (0, .ref (ad 3000)), (1, .int c0)]) hx hb dX8_heatNear_25 hl (by decide) rfl (fun ls hl => ?_)
        refine lv_iload_n hx hb dX8_heatNear_27 rfl (lv_at hl 1 rfl) ?_
        refine lv_aload hx hb dX8_heatNear_28 (lv_at hl 0 rfl) ?_
        refine f_get X hw (hHs k (by omega)) fc8 3 (by decide) wq723 rfl (v := .int ((tH U k) 3)) rfl dX8_heatNear_30 ?_
        refine lv_iconst (v := 1) hx hb dX8_heatNear_33 (by decide) ?_
        refine lv_icmp_ne (tgt := 57) hx hb dX8_heatNear_34 (by decide) (fun c_2 => ?_) (fun c_2 => ?_)
        · refine lv_iconst (v := 0) hx hb dX8_heatNear_57 (by decide) ?_
          refine lv_iadd hx hb dX8_heatNear_58 ?_
          refine lv_istore_n (lv' := [(2, .int ((sHeat (tH U) c0 k) + 0)), (6, .ref (ad (3100 + k))), (5, .int (nI k)), (4, .int (nI (tHn U))), (3, .ref (ad 3001)), (0, .ref (ad 3000)), (1, .int c0)]) hx hb dX8_heatNear_59 rfl hl (by decide) rfl (fun ls hl => ?_)
          refine lv_iinc (v := nI (k + 1)) (lv' := [(5, .int (nI (k + 1))), (2, .int ((sHeat (tH U) c0 k) + 0)), (6, .ref (ad (3100 + k))), (4, .int (nI (tHn U))), (3, .ref (ad 3001)), (0, .ref (ad 3000)), (1, .int c0)]) hx hb dX8_heatNear_60 hl (k := 2) rfl (nI_1 k) (by decide) rfl (fun ls hl => ?_)
          refine lv_goto (tgt := 14) hx hb dX8_heatNear_63 (by decide) ?_
          exact ih14 (k + 1) (by omega) (by omega) ls _ _ hw (by rw [show (sHeat (tH U) c0 (k + 1)) = ((sHeat (tH U) c0 k) + 0) from (by simp [sHeat, c_1, c_2])]; exact lv_sub hl [1, 0, 3, 4, 5, 6] rfl)
        · refine lv_aload hx hb dX8_heatNear_37 (lv_at hl 0 rfl) ?_
          refine f_get X hw (hHs k (by omega)) fc8 0 (by decide) wq718 rfl (v := .int ((tH U k) 0)) rfl dX8_heatNear_39 ?_
          refine lv_iload_n hx hb dX8_heatNear_42 rfl (lv_at hl 6 rfl) ?_
          refine fk_di (fcS X hw (c_s_isNear l g ad M (tH U k 0) c0) wq592 kSX8_isNear ⟨(Nat.le_of_ble_eq_true rfl), (Nat.le_of_ble_eq_true rfl)⟩ rfl hl.1 rfl (Nat.le_of_ble_eq_true rfl) dX8_heatNear_43 ⟨Nat.le_refl _, Nat.le_refl _⟩) hw (fun H locs hw => ?_)
          refine lv_if_eq (tgt := 57) hx hb dX8_heatNear_46 (by decide) (fun c_3 => ?_) (fun c_3 => ?_)
          · have c_3 := bI_f.mp c_3
            refine lv_iconst (v := 0) hx hb dX8_heatNear_57 (by decide) ?_
            refine lv_iadd hx hb dX8_heatNear_58 ?_
            refine lv_istore_n (lv' := [(2, .int ((sHeat (tH U) c0 k) + 0)), (6, .ref (ad (3100 + k))), (5, .int (nI k)), (4, .int (nI (tHn U))), (3, .ref (ad 3001)), (0, .ref (ad 3000)), (1, .int c0)]) hx hb dX8_heatNear_59 rfl hl (by decide) rfl (fun ls hl => ?_)
            refine lv_iinc (v := nI (k + 1)) (lv' := [(5, .int (nI (k + 1))), (2, .int ((sHeat (tH U) c0 k) + 0)), (6, .ref (ad (3100 + k))), (4, .int (nI (tHn U))), (3, .ref (ad 3001)), (0, .ref (ad 3000)), (1, .int c0)]) hx hb dX8_heatNear_60 hl (k := 2) rfl (nI_1 k) (by decide) rfl (fun ls hl => ?_)
            refine lv_goto (tgt := 14) hx hb dX8_heatNear_63 (by decide) ?_
            exact ih14 (k + 1) (by omega) (by omega) ls _ _ hw (by rw [show (sHeat (tH U) c0 (k + 1)) = ((sHeat (tH U) c0 k) + 0) from (by simp [sHeat, c_1, c_2, c_3])]; exact lv_sub hl [1, 0, 3, 4, 5, 6] rfl)
          · have c_3 := bI_nf.mp c_3
            refine lv_aload hx hb dX8_heatNear_49 (lv_at hl 0 rfl) ?_
            refine f_get X hw (hHs k (by omega)) fc8 4 (by decide) wq725 rfl (v := .int ((tH U k) 4)) rfl dX8_heatNear_51 ?_
            refine lv_goto (tgt := 58) hx hb dX8_heatNear_54 (by decide) ?_
            refine lv_iadd hx hb dX8_heatNear_58 ?_
            refine lv_istore_n (lv' := [(2, .int ((sHeat (tH U) c0 k) + ((tH U k) 4))), (6, .ref (ad (3100 + k))), (5, .int (nI k)), (4, .int (nI (tHn U))), (3, .ref (ad 3001)), (0, .ref (ad 3000)), (1, .int c0)]) hx hb dX8_heatNear_59 rfl hl (by decide) rfl (fun ls hl => ?_)
            refine lv_iinc (v := nI (k + 1)) (lv' := [(5, .int (nI (k + 1))), (2, .int ((sHeat (tH U) c0 k) + ((tH U k) 4))), (6, .ref (ad (3100 + k))), (4, .int (nI (tHn U))), (3, .ref (ad 3001)), (0, .ref (ad 3000)), (1, .int c0)]) hx hb dX8_heatNear_60 hl (k := 2) rfl (nI_1 k) (by decide) rfl (fun ls hl => ?_)
            refine lv_goto (tgt := 14) hx hb dX8_heatNear_63 (by decide) ?_
            exact ih14 (k + 1) (by omega) (by omega) ls _ _ hw (by rw [show (sHeat (tH U) c0 (k + 1)) = ((sHeat (tH U) c0 k) + ((tH U k) 4)) from (by simp [sHeat, c_1, c_2, c_3])]; exact lv_sub hl [1, 0, 3, 4, 5, 6] rfl)
  exact loop14 (tHn U + 1) 0 (by omega) (by omega) ls _ _ hw (lv_sub hl [3, 0, 1, 2, 4, 5] rfl)
set_option maxHeartbeats 4000000 in
set_option maxRecDepth 100000 in
theorem c_s_with (l : Launch) (g : fG) (ad : Nat → Nat) (M : fM) {U : fTn} (hS : isSim g ad M U) (w0 : Int32) : fCi l g yX8_with cX8_with 7 ((some .int)) 0 0 0 0 ad M [.ref (ad 3000), .int w0] (fDi ad M (cntH (tH U) w0 (tHn U))) := by
  refine f_body (own := RX8) (by decide +kernel) rfl (Nat.le_of_ble_eq_true rfl) ?_
  intro p e s m args below meth c ls X hw hin hl
  have hx := X.1
  have hb := X.2.1
  have hl : lv_has ls 7 [(0, .ref (ad 3000)), (1, .int w0)] := hl
  obtain ⟨hS0, ⟨fHh, hSh, hSH⟩, ⟨fEe, hSe, hSE⟩, ⟨fPp, hSp, hSP⟩, hHs, hEs, hPs, hn1, hn3, hn2⟩ := id hS
  refine lv_iconst (v := 0) hx hb dX8_with_0 (by decide) ?_
  refine lv_istore_n (lv' := [(2, .int 0), (0, .ref (ad 3000)), (1, .int w0)]) hx hb dX8_with_1 rfl hl (by decide) rfl (fun ls hl => ?_)
  refine lv_aload_n hx hb dX8_with_2 rfl (lv_at hl 1 rfl) ?_
  refine f_get X hw hS0 fc9 1 (by decide) wq622 rfl (v := .ref (ad 3001)) rfl dX8_with_3 ?_
  refine lv_astore_n (lv' := [(3, .ref (ad 3001)), (2, .int 0), (0, .ref (ad 3000)), (1, .int w0)]) hx hb dX8_with_6 rfl hl (by decide) rfl (fun ls hl => ?_)
  refine lv_aload_n hx hb dX8_with_7 rfl (lv_at hl 0 rfl) ?_
  refine f_alen X hw 4 hSh rfl dX8_with_8 ?_
  refine lv_istore (lv' := [(4, .int (nI (tHn U))), (3, .ref (ad 3001)), (2, .int 0), (0, .ref (ad 3000)), (1, .int w0)]) hx hb dX8_with_9 hl (by decide) rfl (fun ls hl => ?_)
  refine lv_iconst (v := 0) hx hb dX8_with_11 (by decide) ?_
  refine lv_istore (lv' := [(5, .int 0), (4, .int (nI (tHn U))), (3, .ref (ad 3001)), (2, .int 0), (0, .ref (ad 3000)), (1, .int w0)]) hx hb dX8_with_12 hl (by decide) rfl (fun ls hl => ?_)
  have loop14 : ∀ (n14 k : Nat), k ≤ tHn U → tHn U < k + n14 → ∀ (ls : Array Slot) (H : Heap) (locs : List Loc), fw g ad M s H locs → lv_has ls 7 [(2, .int (cntH (tH U) w0 k)), (5, .int (nI k)), (4, .int (nI (tHn U))), (3, .ref (ad 3001)), (0, .ref (ad 3000)), (1, .int w0)] → W p l e (fR 0 0 0 0) s m args below meth c H locs 0 0 (MQ below (fQi g (fDi ad M (cntH (tH U) w0 (tHn U)))) args s 0 0 (fA g)) (F0 m 14 ls []) := by
    intro n14
    induction n14 with
    | zero => intro k h1 h2; omega
    | succ n14 ih14 =>
      intro k hk_k hn_k ls H locs hw hl
      refine lv_iload hx hb dX8_with_14 (lv_at hl 1 rfl) ?_
      refine lv_iload hx hb dX8_with_16 (lv_at hl 2 rfl) ?_
      refine lv_icmp_ge (tgt := 50) hx hb dX8_with_18 (by decide) (fun c_1 => ?_) (fun c_1 => ?_)
      · have c_1 := nI_le' (a := (tHn U)) (b := k) c_1 (by omega) (by omega)
        refine lv_iload_n hx hb dX8_with_50 rfl (lv_at hl 0 rfl) ?_
        exact f_iret X hw ⟨rfl, rfl, by rw [show k = tHn U by omega]⟩ (Nat.le_refl _) (Nat.le_refl _) dX8_with_51
      · have c_1 := nI_nle' (a := (tHn U)) (b := k) c_1 (by omega) (by omega)
        refine lv_aload_n hx hb dX8_with_21 rfl (lv_at hl 3 rfl) ?_
        refine lv_iload hx hb dX8_with_22 (lv_at hl 1 rfl) ?_
        refine f_aaldY X hw hSh (vp_in_nI (n := k) (by omega) (by omega)) (q := ad (3100 + k)) (by rw [nI_clamp (by omega)]; exact hSH k (by omega)) dX8_with_24 ?_
        refine lv_astore (lv' := [(6, .ref (ad (3100 + k))), (2, .int (cntH (tH U) w0 k)), (5, .int (nI k)), (4, .int (nI (tHn U))), (3, .ref (ad 3001)), (0, .ref (ad 3000)), (1, .int w0)]) hx hb dX8_with_25 hl (by decide) rfl (fun ls hl => ?_)
        refine lv_iload_n hx hb dX8_with_27 rfl (lv_at hl 1 rfl) ?_
        refine lv_aload hx hb dX8_with_28 (lv_at hl 0 rfl) ?_
        refine f_get X hw (hHs k (by omega)) fc8 3 (by decide) wq723 rfl (v := .int ((tH U k) 3)) rfl dX8_with_30 ?_
        refine lv_iload_n hx hb dX8_with_33 rfl (lv_at hl 6 rfl) ?_
        refine lv_icmp_ne (tgt := 41) hx hb dX8_with_34 (by decide) (fun c_2 => ?_) (fun c_2 => ?_)
        · refine lv_iconst (v := 0) hx hb dX8_with_41 (by decide) ?_
          refine lv_iadd hx hb dX8_with_42 ?_
          refine lv_istore_n (lv' := [(2, .int ((cntH (tH U) w0 k) + 0)), (6, .ref (ad (3100 + k))), (5, .int (nI k)), (4, .int (nI (tHn U))), (3, .ref (ad 3001)), (0, .ref (ad 3000)), (1, .int w0)]) hx hb dX8_with_43 rfl hl (by decide) rfl (fun ls hl => ?_)
          refine lv_iinc (v := nI (k + 1)) (lv' := [(5, .int (nI (k + 1))), (2, .int ((cntH (tH U) w0 k) + 0)), (6, .ref (ad (3100 + k))), (4, .int (nI (tHn U))), (3, .ref (ad 3001)), (0, .ref (ad 3000)), (1, .int w0)]) hx hb dX8_with_44 hl (k := 2) rfl (nI_1 k) (by decide) rfl (fun ls hl => ?_)
          refine lv_goto (tgt := 14) hx hb dX8_with_47 (by decide) ?_
          exact ih14 (k + 1) (by omega) (by omega) ls _ _ hw (by rw [show (cntH (tH U) w0 (k + 1)) = ((cntH (tH U) w0 k) + 0) from (by simp [cntH, c_1, c_2])]; exact lv_sub hl [1, 0, 3, 4, 5, 6] rfl)
        · refine lv_iconst (v := 1) hx hb dX8_with_37 (by decide) ?_
          refine lv_goto (tgt := 42) hx hb dX8_with_38 (by decide) ?_
          refine lv_iadd hx hb dX8_with_42 ?_
          refine lv_istore_n (lv' := [(2, .int ((cntH (tH U) w0 k) + 1)), (6, .ref (ad (3100 + k))), (5, .int (nI k)), (4, .int (nI (tHn U))), (3, .ref (ad 3001)), (0, .ref (ad 3000)), (1, .int w0)]) hx hb dX8_with_43 rfl hl (by decide) rfl (fun ls hl => ?_)
          refine lv_iinc (v := nI (k + 1)) (lv' := [(5, .int (nI (k + 1))), (2, .int ((cntH (tH U) w0 k) + 1)), (6, .ref (ad (3100 + k))), (4, .int (nI (tHn U))), (3, .ref (ad 3001)), (0, .ref (ad 3000)), (1, .int w0)]) hx hb dX8_with_44 hl (k := 2) rfl (nI_1 k) (by decide) rfl (fun ls hl => ?_)
          refine lv_goto (tgt := 14) hx hb dX8_with_47 (by decide) ?_
          exact ih14 (k + 1) (by omega) (by omega) ls _ _ hw (by rw [show (cntH (tH U) w0 (k + 1)) = ((cntH (tH U) w0 k) + 1) from (by simp [cntH, c_1, c_2])]; exact lv_sub hl [1, 0, 3, 4, 5, 6] rfl)
  exact loop14 (tHn U + 1) 0 (by omega) (by omega) ls _ _ hw (lv_sub hl [3, 0, 1, 2, 4, 5] rfl)
