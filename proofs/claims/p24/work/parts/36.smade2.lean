set_option maxHeartbeats 4000000 in
set_option maxRecDepth 100000 in
theorem c_s_dig (l : Launch) (g : fG) (ad : Nat → Nat) (M : fM) {U : fTn} (hS : isSim g ad M U) (c0 w0 : Int32) (hlim : tPn U < 6) : fCv l g yX8_dig cX8_dig 5 2 40 2 10 ad M [.ref (ad 3000), .int c0, .int w0] (fSb g ad M (addP U (newP c0 w0))) := by
  refine f_body (own := RX8) (by decide +kernel) rfl (Nat.le_of_ble_eq_true rfl) ?_
  intro p e s m args below meth c ls X hw hin hl
  have hx := X.1
  have hb := X.2.1
  have hl : lv_has ls 5 [(0, .ref (ad 3000)), (1, .int c0), (2, .int w0)] := hl
  obtain ⟨hS0, ⟨fHh, hSh, hSH⟩, ⟨fEe, hSe, hSE⟩, ⟨fPp, hSp, hSP⟩, hHs, hEs, hPs, hn1, hn3, hn2⟩ := id hS
  refine lv_aload_n hx hb dX8_dig_0 rfl (lv_at hl 0 rfl) ?_
  refine f_get X hw hS0 fc9 3 (by decide) wq626 rfl (v := .ref (ad 3003)) rfl dX8_dig_1 ?_
  refine f_alen X hw 3 hSp rfl dX8_dig_4 ?_
  refine lv_iconst (v := 1) hx hb dX8_dig_5 (by decide) ?_
  refine lv_iadd hx hb dX8_dig_6 ?_
  refine f_top (y := nI (tPn U + 1)) (nI_1 (tPn U)) ?_
  refine f_newQ X hw 3410 (by omega) wq619 (n := nI (tPn U + 1)) (N' := tPn U + 1) (nI_pos (by omega)) (nI_clamp (by omega)) (by omega) (by dsimp only [fR]; omega) (by dsimp only [fR]; omega) dX8_dig_7 (fun q1 H hw => ?_)
  obtain ⟨ad1, ea1⟩ : ∃ z, z = fV ad 3410 q1 := ⟨_, rfl⟩
  have eq1 : ad1 3410 = q1 := by rw [ea1]; exact fV_s
  have eA1 : ∀ l, l ≠ 3410 → ad1 l = ad l := fun l h => by rw [ea1]; exact fV_n h
  rw [← ea1] at hw
  obtain ⟨Mn1, em1⟩ : ∃ z, z = fU M 3410 (.inl (gQ g, tPn U + 1, .inr (.inr (.inr (.inr (fun _ => none)))))) := ⟨_, rfl⟩
  have eM1 : ∀ l, l ≠ 3410 → Mn1 l = M l := fun l h => by rw [em1]; exact fU_n h
  have eS1 : Mn1 3410 = some (.inl (gQ g, tPn U + 1, .inr (.inr (.inr (.inr (fun _ => none)))))) := by rw [em1]; exact fU_s
  rw [← em1] at hw
  have hS0 : Mn1 3000 = some (.inr (9, [.int (tM U), .ref (ad 3001), .ref (ad 3002), .ref (ad 3003)])) := (eM1 _ (by omega)).trans hS0
  have hSh : Mn1 3001 = some (.inl (gY g, tHn U, .inr (.inr (.inr (.inr fHh))))) := (eM1 _ (by omega)).trans hSh
  have hSe : Mn1 3002 = some (.inl (gW g, tEn U, .inr (.inr (.inr (.inr fEe))))) := (eM1 _ (by omega)).trans hSe
  have hSp : Mn1 3003 = some (.inl (gQ g, tPn U, .inr (.inr (.inr (.inr fPp))))) := (eM1 _ (by omega)).trans hSp
  refine f_adr (ad := ad1) (lb := 3410) eq1 ?_
  refine lv_astore_n (lv' := [(3, .ref (ad1 3410)), (0, .ref (ad 3000)), (1, .int c0), (2, .int w0)]) hx hb dX8_dig_10 rfl hl (by decide) rfl (fun ls hl => ?_)
  refine lv_iconst (v := 0) hx hb dX8_dig_11 (by decide) ?_
  refine lv_istore (lv' := [(4, .int 0), (3, .ref (ad1 3410)), (0, .ref (ad 3000)), (1, .int c0), (2, .int w0)]) hx hb dX8_dig_12 hl (by decide) rfl (fun ls hl => ?_)
  have loop14 : ∀ (n k : Nat), k ≤ tPn U → tPn U < k + n → ∀ (M8 : fM) (F8 : Nat → Option Nat) (hA : M8 3410 = some (.inl (gQ g, tPn U + 1, .inr (.inr (.inr (.inr F8)))))) (hF : ∀ i, i < k → F8 i = some (ad1 (3200 + i))) (hR : ∀ l, l ≠ 3410 → M8 l = Mn1 l) (ls : Array Slot) (H : Heap) (locs : List Loc), fw g ad1 M8 s H locs → lv_has ls 5 [(4, .int (nI k)), (3, .ref (ad1 3410)), (0, .ref (ad 3000)), (1, .int c0), (2, .int w0)] → W p l e (fR 2 40 2 10) s m args below meth c H locs (0 + 1) (0 + (tPn U + 1)) (MQ below (fQv g (fSb g ad M (addP U (newP c0 w0)))) args s 2 10 (fA g)) (F0 m 14 ls []) := by
    intro n
    induction n with
    | zero => intro k h1 h2; omega
    | succ n ih =>
      intro k hk_ hn_ M8 F8 hA hF hR ls H locs hw hl
      have hS0 : M8 3000 = some (.inr (9, [.int (tM U), .ref (ad 3001), .ref (ad 3002), .ref (ad 3003)])) := (hR _ (by omega)).trans hS0
      have hSh : M8 3001 = some (.inl (gY g, tHn U, .inr (.inr (.inr (.inr fHh))))) := (hR _ (by omega)).trans hSh
      have hSe : M8 3002 = some (.inl (gW g, tEn U, .inr (.inr (.inr (.inr fEe))))) := (hR _ (by omega)).trans hSe
      have hSp : M8 3003 = some (.inl (gQ g, tPn U, .inr (.inr (.inr (.inr fPp))))) := (hR _ (by omega)).trans hSp
      have hHs : ∀ i, i < tHn U → M8 (3100 + i) = some (.inr (8, hV (tH U i))) := fun i hi => (hR _ (by omega)).trans ((eM1 _ (by omega)).trans (hHs i hi))
      have hEs : ∀ i, i < tEn U → M8 (3300 + i) = some (.inr (7, gV (tE U i))) := fun i hi => (hR _ (by omega)).trans ((eM1 _ (by omega)).trans (hEs i hi))
      have hPs : ∀ i, i < tPn U → M8 (3200 + i) = some (.inl (gI g, 2, .inl (tP U i))) := fun i hi => (hR _ (by omega)).trans ((eM1 _ (by omega)).trans (hPs i hi))
      refine lv_iload hx hb dX8_dig_14 (lv_at hl 0 rfl) ?_
      refine lv_aload_n hx hb dX8_dig_16 rfl (lv_at hl 2 rfl) ?_
      refine f_adr (ad := ad1) (lb := 3000) (eA1 3000 (by omega)) ?_
      refine f_get X hw hS0 fc9 3 (by decide) wq626 rfl (v := .ref (ad 3003)) rfl dX8_dig_17 ?_
      refine f_adr (ad := ad1) (lb := 3003) (eA1 3003 (by omega)) ?_
      refine f_alen X hw 3 hSp rfl dX8_dig_20 ?_
      refine lv_icmp_ge (tgt := 41) hx hb dX8_dig_21 (by decide) (fun c_1 => ?_) (fun c_1 => ?_)
      · have c_1 := nI_le' (a := (tPn U)) (b := k) c_1 (by omega) (by omega)
        refine lv_aload_n hx hb dX8_dig_41 rfl (lv_at hl 1 rfl) ?_
        refine lv_aload_n hx hb dX8_dig_42 rfl (lv_at hl 2 rfl) ?_
        refine f_adr (ad := ad1) (lb := 3000) (eA1 3000 (by omega)) ?_
        refine f_get X hw hS0 fc9 3 (by decide) wq626 rfl (v := .ref (ad 3003)) rfl dX8_dig_43 ?_
        refine f_adr (ad := ad1) (lb := 3003) (eA1 3003 (by omega)) ?_
        refine f_alen X hw 3 hSp rfl dX8_dig_46 ?_
        refine lv_iconst (v := 2) hx hb dX8_dig_47 (by decide) ?_
        have ek : k = tPn U := by omega
        refine f_newI X hw (3200 + tPn U) (by omega) wq49 (N' := 2) (by decide) (by rfl) (by decide) (by dsimp only [fR]; omega) (by dsimp only [fR]; omega) dX8_dig_48 (fun q2 H hw => ?_)
        obtain ⟨ad2, ea2⟩ : ∃ z, z = fV ad1 (3200 + tPn U) q2 := ⟨_, rfl⟩
        have eq2 : ad2 (3200 + tPn U) = q2 := by rw [ea2]; exact fV_s
        have eA2 : ∀ l, l ≠ 3200 + tPn U → ad2 l = ad1 l := fun l h => by rw [ea2]; exact fV_n h
        rw [← ea2] at hw
        obtain ⟨M9, em2⟩ : ∃ z, z = fU M8 (3200 + tPn U) (.inl (gI g, 2, .inl (fun _ => 0))) := ⟨_, rfl⟩
        have eM2 : ∀ l, l ≠ 3200 + tPn U → M9 l = M8 l := fun l h => by rw [em2]; exact fU_n h
        have eS2 : M9 (3200 + tPn U) = some (.inl (gI g, 2, .inl (fun _ => 0))) := by rw [em2]; exact fU_s
        have hw : fw g ad2 (fU M8 (3200 + tPn U) (.inl (gI g, 2, .inl (fun _ => 0)))) s H locs := hw
        rw [← em2] at hw
        have hA9 : M9 3410 = some (.inl (gQ g, tPn U + 1, .inr (.inr (.inr (.inr F8))))) := (eM2 _ (by omega)).trans hA
        have hS9 : M9 3000 = some (.inr (9, [.int (tM U), .ref (ad 3001), .ref (ad 3002), .ref (ad 3003)])) := (eM2 _ (by omega)).trans hS0
        have hSr : M9 3003 = some (.inl (gQ g, tPn U, .inr (.inr (.inr (.inr fPp))))) := (eM2 _ (by omega)).trans hSp
        refine f_adr (ad := ad2) (lb := 3200 + tPn U) eq2 ?_
        refine lv_dup hx hb dX8_dig_50 rfl ?_
        refine lv_iconst (v := 0) hx hb dX8_dig_51 (by decide) ?_
        refine lv_iload_n hx hb dX8_dig_52 rfl (lv_at hl 3 rfl) ?_
        refine f_iast X hw (lb := 3200 + tPn U) eS2 (show vp_in 0 2 by unfold vp_in; decide) dX8_dig_53 (fun H locs hw => ?_)
        rw [show (0 : Int32).toNatClampNeg = 0 from rfl] at hw
        have hw : fw g ad2 (fU M9 (3200 + tPn U) (.inl (gI g, 2, .inl (upd (fun _ => 0) 0 c0)))) s H locs := hw
        have hA9 : (fU M9 (3200 + tPn U) (.inl (gI g, 2, .inl (upd (fun _ => 0) 0 c0)))) 3410 = some (.inl (gQ g, tPn U + 1, .inr (.inr (.inr (.inr F8))))) := (fU_n (by omega)).trans hA9
        have hS9 : (fU M9 (3200 + tPn U) (.inl (gI g, 2, .inl (upd (fun _ => 0) 0 c0)))) 3000 = some (.inr (9, [.int (tM U), .ref (ad 3001), .ref (ad 3002), .ref (ad 3003)])) := (fU_n (by omega)).trans hS9
        have hSr : (fU M9 (3200 + tPn U) (.inl (gI g, 2, .inl (upd (fun _ => 0) 0 c0)))) 3003 = some (.inl (gQ g, tPn U, .inr (.inr (.inr (.inr fPp))))) := (fU_n (by omega)).trans hSr
        have eS2 : (fU M9 (3200 + tPn U) (.inl (gI g, 2, .inl (upd (fun _ => 0) 0 c0)))) (3200 + tPn U) = some (.inl (gI g, 2, .inl (upd (fun _ => 0) 0 c0))) := fU_s
        refine lv_dup hx hb dX8_dig_54 rfl ?_
        refine lv_iconst (v := 1) hx hb dX8_dig_55 (by decide) ?_
        refine lv_iload_n hx hb dX8_dig_56 rfl (lv_at hl 4 rfl) ?_
        refine f_iast X hw (lb := 3200 + tPn U) eS2 (show vp_in 1 2 by unfold vp_in; decide) dX8_dig_57 (fun H locs hw => ?_)
        rw [show (1 : Int32).toNatClampNeg = 1 from rfl] at hw
        have hw : fw g ad2 (fU (fU M9 (3200 + tPn U) (.inl (gI g, 2, .inl (upd (fun _ => 0) 0 c0)))) (3200 + tPn U) (.inl (gI g, 2, .inl (upd (upd (fun _ => 0) 0 c0) 1 w0)))) s H locs := hw
        rw [fU_U] at hw
        have hA9 : (fU M9 (3200 + tPn U) (.inl (gI g, 2, .inl (upd (upd (fun _ => 0) 0 c0) 1 w0)))) 3410 = some (.inl (gQ g, tPn U + 1, .inr (.inr (.inr (.inr F8))))) := ((fU_n (by omega)).trans (fU_n (by omega)).symm).trans hA9
        have hS9 : (fU M9 (3200 + tPn U) (.inl (gI g, 2, .inl (upd (upd (fun _ => 0) 0 c0) 1 w0)))) 3000 = some (.inr (9, [.int (tM U), .ref (ad 3001), .ref (ad 3002), .ref (ad 3003)])) := ((fU_n (by omega)).trans (fU_n (by omega)).symm).trans hS9
        have hSr : (fU M9 (3200 + tPn U) (.inl (gI g, 2, .inl (upd (upd (fun _ => 0) 0 c0) 1 w0)))) 3003 = some (.inl (gQ g, tPn U, .inr (.inr (.inr (.inr fPp))))) := ((fU_n (by omega)).trans (fU_n (by omega)).symm).trans hSr
        have eS2 : (fU M9 (3200 + tPn U) (.inl (gI g, 2, .inl (upd (upd (fun _ => 0) 0 c0) 1 w0)))) (3200 + tPn U) = some (.inl (gI g, 2, .inl (upd (upd (fun _ => 0) 0 c0) 1 w0))) := fU_s
        refine f_adr3 (ad := ad2) (lb := 3410) (eA2 3410 (by omega)) ?_
        refine f_aastQ X hw (lb := 3410) (lb2 := 3200 + tPn U) (n := tPn U + 1) hA9 eS2 (vp_in_nI (n := tPn U) (by omega) (by omega)) dX8_dig_58 (fun H locs hw => ?_)
        rw [nI_clamp (n := tPn U) (by omega)] at hw
        have hw : fw g ad2 (fU (fU M9 (3200 + tPn U) (.inl (gI g, 2, .inl (upd (upd (fun _ => 0) 0 c0) 1 w0)))) 3410 (.inl (gQ g, tPn U + 1, .inr (.inr (.inr (.inr (va_up F8 (tPn U) (some (ad2 (3200 + tPn U)))))))))) s H locs := hw
        have eS2 : (fU (fU M9 (3200 + tPn U) (.inl (gI g, 2, .inl (upd (upd (fun _ => 0) 0 c0) 1 w0)))) 3410 (.inl (gQ g, tPn U + 1, .inr (.inr (.inr (.inr (va_up F8 (tPn U) (some (ad2 (3200 + tPn U)))))))))) (3200 + tPn U) = some (.inl (gI g, 2, .inl (upd (upd (fun _ => 0) 0 c0) 1 w0))) := (fU_n (by omega)).trans eS2
        have hS9 : (fU (fU M9 (3200 + tPn U) (.inl (gI g, 2, .inl (upd (upd (fun _ => 0) 0 c0) 1 w0)))) 3410 (.inl (gQ g, tPn U + 1, .inr (.inr (.inr (.inr (va_up F8 (tPn U) (some (ad2 (3200 + tPn U)))))))))) 3000 = some (.inr (9, [.int (tM U), .ref (ad 3001), .ref (ad 3002), .ref (ad 3003)])) := (fU_n (by omega)).trans hS9
        have hSr : (fU (fU M9 (3200 + tPn U) (.inl (gI g, 2, .inl (upd (upd (fun _ => 0) 0 c0) 1 w0)))) 3410 (.inl (gQ g, tPn U + 1, .inr (.inr (.inr (.inr (va_up F8 (tPn U) (some (ad2 (3200 + tPn U)))))))))) 3003 = some (.inl (gQ g, tPn U, .inr (.inr (.inr (.inr fPp))))) := (fU_n (by omega)).trans hSr
        have hA9 : (fU (fU M9 (3200 + tPn U) (.inl (gI g, 2, .inl (upd (upd (fun _ => 0) 0 c0) 1 w0)))) 3410 (.inl (gQ g, tPn U + 1, .inr (.inr (.inr (.inr (va_up F8 (tPn U) (some (ad2 (3200 + tPn U)))))))))) 3410 = some (.inl (gQ g, tPn U + 1, .inr (.inr (.inr (.inr (va_up F8 (tPn U) (some (ad2 (3200 + tPn U))))))))) := fU_s
        refine lv_aload_n hx hb dX8_dig_59 rfl (lv_at hl 2 rfl) ?_
        refine lv_aload_n hx hb dX8_dig_60 rfl (lv_at hl 1 rfl) ?_
        refine f_adr2 (ad := ad2) (lb := 3000) ((eA2 3000 (by omega)).trans (eA1 3000 (by omega))) ?_
        refine f_put X hw hS9 fc9 3 (by decide) wq626 rfl rfl (v := .ref (ad1 3410)) rfl rfl (Nat.le_of_ble_eq_true rfl) dX8_dig_61 (fun H locs hw => ?_)
        have hw : fw g ad2 (fU (fU (fU M9 (3200 + tPn U) (.inl (gI g, 2, .inl (upd (upd (fun _ => 0) 0 c0) 1 w0)))) 3410 (.inl (gQ g, tPn U + 1, .inr (.inr (.inr (.inr (va_up F8 (tPn U) (some (ad2 (3200 + tPn U)))))))))) 3000 (.inr (9, [.int (tM U), .ref (ad 3001), .ref (ad 3002), .ref (ad1 3410)]))) s H locs := hw
        have eS2 : (fU (fU (fU M9 (3200 + tPn U) (.inl (gI g, 2, .inl (upd (upd (fun _ => 0) 0 c0) 1 w0)))) 3410 (.inl (gQ g, tPn U + 1, .inr (.inr (.inr (.inr (va_up F8 (tPn U) (some (ad2 (3200 + tPn U)))))))))) 3000 (.inr (9, [.int (tM U), .ref (ad 3001), .ref (ad 3002), .ref (ad1 3410)]))) (3200 + tPn U) = some (.inl (gI g, 2, .inl (upd (upd (fun _ => 0) 0 c0) 1 w0))) := (fU_n (by omega)).trans eS2
        have hA9 : (fU (fU (fU M9 (3200 + tPn U) (.inl (gI g, 2, .inl (upd (upd (fun _ => 0) 0 c0) 1 w0)))) 3410 (.inl (gQ g, tPn U + 1, .inr (.inr (.inr (.inr (va_up F8 (tPn U) (some (ad2 (3200 + tPn U)))))))))) 3000 (.inr (9, [.int (tM U), .ref (ad 3001), .ref (ad 3002), .ref (ad1 3410)]))) 3410 = some (.inl (gQ g, tPn U + 1, .inr (.inr (.inr (.inr (va_up F8 (tPn U) (some (ad2 (3200 + tPn U))))))))) := (fU_n (by omega)).trans hA9
        have hSr : (fU (fU (fU M9 (3200 + tPn U) (.inl (gI g, 2, .inl (upd (upd (fun _ => 0) 0 c0) 1 w0)))) 3410 (.inl (gQ g, tPn U + 1, .inr (.inr (.inr (.inr (va_up F8 (tPn U) (some (ad2 (3200 + tPn U)))))))))) 3000 (.inr (9, [.int (tM U), .ref (ad 3001), .ref (ad 3002), .ref (ad1 3410)]))) 3003 = some (.inl (gQ g, tPn U, .inr (.inr (.inr (.inr fPp))))) := (fU_n (by omega)).trans hSr
        have hS9 : (fU (fU (fU M9 (3200 + tPn U) (.inl (gI g, 2, .inl (upd (upd (fun _ => 0) 0 c0) 1 w0)))) 3410 (.inl (gQ g, tPn U + 1, .inr (.inr (.inr (.inr (va_up F8 (tPn U) (some (ad2 (3200 + tPn U)))))))))) 3000 (.inr (9, [.int (tM U), .ref (ad 3001), .ref (ad 3002), .ref (ad1 3410)]))) 3000 = some (.inr (9, [.int (tM U), .ref (ad 3001), .ref (ad 3002), .ref (ad1 3410)])) := fU_s
        have hF9 : ∀ i, i < tPn U + 1 → (va_up F8 (tPn U) (some (ad2 (3200 + tPn U)))) i = some (ad2 (3200 + i)) := fun i hi => by
          by_cases q : i = tPn U
          · rw [q]; exact if_pos rfl
          · exact (if_neg q).trans ((hF i (by omega)).trans (congrArg some (eA2 (3200 + i) (by omega)).symm))
        have hR9 : ∀ l, l ≠ 3000 → l ≠ 3410 → l ≠ 3200 + tPn U → ad2 l = ad l ∧ (fU (fU (fU M9 (3200 + tPn U) (.inl (gI g, 2, .inl (upd (upd (fun _ => 0) 0 c0) 1 w0)))) 3410 (.inl (gQ g, tPn U + 1, .inr (.inr (.inr (.inr (va_up F8 (tPn U) (some (ad2 (3200 + tPn U)))))))))) 3000 (.inr (9, [.int (tM U), .ref (ad 3001), .ref (ad 3002), .ref (ad1 3410)]))) l = M l := fun l a b c => ⟨(eA2 l c).trans (eA1 l b), by
          simp only [fU, if_neg a, if_neg b, if_neg c]
          exact (eM2 l c).trans ((hR l b).trans (eM1 l b))⟩
        have hwf := fw_move hw (lx := 3410) (la := 3003) hA9 (by omega) (by omega)
        refine f_vret X hwf ⟨isSim_addP hS (by omega) (by rw [eA2 3410 (by omega), eA2 3001 (by omega), eA1 3001 (by omega), eA2 3002 (by omega), eA1 3002 (by omega)]; exact hS9) hA9 hF9 eS2 (fun l a b c d => hR9 l c (by omega) d), fun l a b => ?_, (fV_n (by omega)).trans ((eA2 3000 (by omega)).trans (eA1 3000 (by omega)))⟩ (by omega) (by omega) dX8_dig_64
        have q := hR9 l (by omega) (by omega) (by omega)
        exact ⟨(fV_n (by omega)).trans q.1, (if_neg (by omega)).trans ((if_neg (by omega)).trans q.2)⟩
      · have c_1 := nI_nle' (a := (tPn U)) (b := k) c_1 (by omega) (by omega)
        refine lv_aload_n hx hb dX8_dig_24 rfl (lv_at hl 1 rfl) ?_
        refine lv_iload hx hb dX8_dig_25 (lv_at hl 0 rfl) ?_
        refine lv_aload_n hx hb dX8_dig_27 rfl (lv_at hl 2 rfl) ?_
        refine f_adr (ad := ad1) (lb := 3000) (eA1 3000 (by omega)) ?_
        refine f_get X hw hS0 fc9 3 (by decide) wq626 rfl (v := .ref (ad 3003)) rfl dX8_dig_28 ?_
        refine lv_iload hx hb dX8_dig_31 (lv_at hl 0 rfl) ?_
        refine f_adr2 (ad := ad1) (lb := 3003) (eA1 3003 (by omega)) ?_
        refine f_aaldQ X hw hSp (vp_in_nI (n := k) (by omega) (by omega)) (q := ad1 (3200 + k)) (by rw [nI_clamp (by omega)]; exact ((hSP k (by omega)).trans (congrArg some (eA1 (3200 + k) (by omega)).symm))) dX8_dig_33 ?_
        refine f_aastQ X hw (lb := 3410) (lb2 := 3200 + k) (n := tPn U + 1) hA (hPs k (by omega)) (vp_in_nI (n := k) (by omega) (by omega)) dX8_dig_34 (fun H locs hw => ?_)
        rw [nI_clamp (n := k) (by omega)] at hw
        refine lv_iinc (v := nI (k + 1)) (lv' := [(4, .int (nI (k + 1))), (3, .ref (ad1 3410)), (0, .ref (ad 3000)), (1, .int c0), (2, .int w0)]) hx hb dX8_dig_35 hl (k := 0) rfl (nI_1 k) (by decide) rfl (fun ls hl => ?_)
        refine lv_goto (tgt := 14) hx hb dX8_dig_38 (by decide) ?_
        have hF2 : ∀ i, i < k + 1 → va_up F8 k (some (ad1 (3200 + k))) i = some (ad1 (3200 + i)) := fun i hi => by
          by_cases q : i = k
          · rw [q]; exact if_pos rfl
          · exact (if_neg q).trans (hF i (by omega))
        exact ih (k + 1) (by omega) (by omega) _ _ fU_s hF2 (fun l z => (fU_n z).trans (hR l z)) ls _ _ hw (lv_sub hl [0, 1, 2, 3, 4] rfl)
  exact loop14 (tPn U + 1) 0 (by omega) (by omega) Mn1 _ eS1 (fun i h => absurd h (Nat.not_lt_zero _)) (fun _ _ => rfl) ls _ _ hw (lv_sub hl [0, 1, 2, 3, 4] rfl)
abbrev fS0 (g : fG) (ad : Nat → Nat) (M : fM) : (Nat → Nat) → fM → Prop := fun ad1 M1 => isSim g ad1 M1 T0 ∧ fReg 3000 3004 ad M ad1 M1 ∧ ad1 3000 = ad 3000
set_option maxHeartbeats 4000000 in
set_option maxRecDepth 100000 in
theorem c_s_init (l : Launch) (g : fG) (ad : Nat → Nat) (M : fM) (hM : M 3000 = some (.inr (9, [.int 0, .null, .null, .null]))) : fCv l g yX8_init cX8_init 1 1 12 3 0 ad M [.ref (ad 3000)] (fS0 g ad M) := by
  refine f_body (own := RX8) (by decide +kernel) rfl (Nat.le_of_ble_eq_true rfl) ?_
  intro p e s m args below meth c ls X hw hin hl
  have hx := X.1
  have hb := X.2.1
  have hl : lv_has ls 1 [(0, .ref (ad 3000))] := hl
  refine lv_aload_n hx hb dX8_init_0 rfl (lv_at hl 0 rfl) ?_
  refine W.objInit hx hb X.2.2.2.1 (X.2.2.2.2.1 _ wq614) (X.2.2.2.2.1 _ wq31) (X.2.2.2.2.1 _ wq32) rfl (by rw [X.2.2.1]; exact hl.1) rfl dX8_init_1 (Nat.le_of_ble_eq_true rfl) (Nat.le_of_ble_eq_true rfl) ?_
  refine W.eq (g2 := F0 m 4 ls []) rfl ?_
  refine lv_aload_n hx hb dX8_init_4 rfl (lv_at hl 0 rfl) ?_
  refine lv_iconst (v := 0) hx hb dX8_init_5 (by decide) ?_
  refine f_newY X hw 3001 (by omega) wq615 (n := 0) (N' := 0) (by decide) rfl (by omega) (by dsimp only [fR]; omega) (by dsimp only [fR]; omega) dX8_init_6 (fun q1 H hw => ?_)
  obtain ⟨ad1, ea1⟩ : ∃ z, z = fV ad 3001 q1 := ⟨_, rfl⟩
  have eq1 : ad1 3001 = q1 := by rw [ea1]; exact fV_s
  have eA1 : ∀ l, l ≠ 3001 → ad1 l = ad l := fun l h => by rw [ea1]; exact fV_n h
  rw [← ea1] at hw
  obtain ⟨Mn1, em1⟩ : ∃ z, z = fU M 3001 (.inl (gY g, 0, .inr (.inr (.inr (.inr (fun _ => none)))))) := ⟨_, rfl⟩
  have eM1 : ∀ l, l ≠ 3001 → Mn1 l = M l := fun l h => by rw [em1]; exact fU_n h
  have eS1 : Mn1 3001 = some (.inl (gY g, 0, .inr (.inr (.inr (.inr (fun _ => none)))))) := by rw [em1]; exact fU_s
  rw [← em1] at hw
  have hM : Mn1 3000 = some (.inr (9, [.int 0, .null, .null, .null])) := (eM1 _ (by omega)).trans hM
  refine f_adr2 (ad := ad1) (lb := 3000) (eA1 3000 (by omega)) ?_
  refine f_put X hw hM fc9 1 (by decide) wq622 rfl rfl (v := .ref q1) rfl rfl (Nat.le_of_ble_eq_true rfl) dX8_init_9 (fun H locs hw => ?_)
  have hw : fw g ad1 (fU Mn1 3000 (.inr (9, [.int 0, .ref q1, .null, .null]))) s H locs := hw
  have eS1 : (fU Mn1 3000 (.inr (9, [.int 0, .ref q1, .null, .null]))) 3001 = some (.inl (gY g, 0, .inr (.inr (.inr (.inr (fun _ => none)))))) := (fU_n (by omega)).trans eS1
  have hM : (fU Mn1 3000 (.inr (9, [.int 0, .ref q1, .null, .null]))) 3000 = some (.inr (9, [.int 0, .ref q1, .null, .null])) := fU_s
  refine lv_aload_n hx hb dX8_init_12 rfl (lv_at hl 0 rfl) ?_
  refine lv_iconst (v := 0) hx hb dX8_init_13 (by decide) ?_
  refine f_newW X hw 3002 (by omega) wq617 (n := 0) (N' := 0) (by decide) rfl (by omega) (by dsimp only [fR]; omega) (by dsimp only [fR]; omega) dX8_init_14 (fun q2 H hw => ?_)
  obtain ⟨ad2, ea2⟩ : ∃ z, z = fV ad1 3002 q2 := ⟨_, rfl⟩
  have eq2 : ad2 3002 = q2 := by rw [ea2]; exact fV_s
  have eA2 : ∀ l, l ≠ 3002 → ad2 l = ad1 l := fun l h => by rw [ea2]; exact fV_n h
  rw [← ea2] at hw
  obtain ⟨Mn2, em2⟩ : ∃ z, z = fU (fU Mn1 3000 (.inr (9, [.int 0, .ref q1, .null, .null]))) 3002 (.inl (gW g, 0, .inr (.inr (.inr (.inr (fun _ => none)))))) := ⟨_, rfl⟩
  have eM2 : ∀ l, l ≠ 3002 → Mn2 l = (fU Mn1 3000 (.inr (9, [.int 0, .ref q1, .null, .null]))) l := fun l h => by rw [em2]; exact fU_n h
  have eS2 : Mn2 3002 = some (.inl (gW g, 0, .inr (.inr (.inr (.inr (fun _ => none)))))) := by rw [em2]; exact fU_s
  rw [← em2] at hw
  have hM : Mn2 3000 = some (.inr (9, [.int 0, .ref q1, .null, .null])) := (eM2 _ (by omega)).trans hM
  have eS1 : Mn2 3001 = some (.inl (gY g, 0, .inr (.inr (.inr (.inr (fun _ => none)))))) := (eM2 _ (by omega)).trans eS1
  refine f_adr2 (ad := ad2) (lb := 3000) ((eA2 3000 (by omega)).trans (eA1 3000 (by omega))) ?_
  refine f_put X hw hM fc9 2 (by decide) wq624 rfl rfl (v := .ref q2) rfl rfl (Nat.le_of_ble_eq_true rfl) dX8_init_17 (fun H locs hw => ?_)
  have hw : fw g ad2 (fU Mn2 3000 (.inr (9, [.int 0, .ref q1, .ref q2, .null]))) s H locs := hw
  have eS1 : (fU Mn2 3000 (.inr (9, [.int 0, .ref q1, .ref q2, .null]))) 3001 = some (.inl (gY g, 0, .inr (.inr (.inr (.inr (fun _ => none)))))) := (fU_n (by omega)).trans eS1
  have eS2 : (fU Mn2 3000 (.inr (9, [.int 0, .ref q1, .ref q2, .null]))) 3002 = some (.inl (gW g, 0, .inr (.inr (.inr (.inr (fun _ => none)))))) := (fU_n (by omega)).trans eS2
  have hM : (fU Mn2 3000 (.inr (9, [.int 0, .ref q1, .ref q2, .null]))) 3000 = some (.inr (9, [.int 0, .ref q1, .ref q2, .null])) := fU_s
  refine lv_aload_n hx hb dX8_init_20 rfl (lv_at hl 0 rfl) ?_
  refine lv_iconst (v := 0) hx hb dX8_init_21 (by decide) ?_
  refine f_newQ X hw 3003 (by omega) wq619 (n := 0) (N' := 0) (by decide) rfl (by omega) (by dsimp only [fR]; omega) (by dsimp only [fR]; omega) dX8_init_22 (fun q3 H hw => ?_)
  obtain ⟨ad3, ea3⟩ : ∃ z, z = fV ad2 3003 q3 := ⟨_, rfl⟩
  have eq3 : ad3 3003 = q3 := by rw [ea3]; exact fV_s
  have eA3 : ∀ l, l ≠ 3003 → ad3 l = ad2 l := fun l h => by rw [ea3]; exact fV_n h
  rw [← ea3] at hw
  obtain ⟨Mn3, em3⟩ : ∃ z, z = fU (fU Mn2 3000 (.inr (9, [.int 0, .ref q1, .ref q2, .null]))) 3003 (.inl (gQ g, 0, .inr (.inr (.inr (.inr (fun _ => none)))))) := ⟨_, rfl⟩
  have eM3 : ∀ l, l ≠ 3003 → Mn3 l = (fU Mn2 3000 (.inr (9, [.int 0, .ref q1, .ref q2, .null]))) l := fun l h => by rw [em3]; exact fU_n h
  have eS3 : Mn3 3003 = some (.inl (gQ g, 0, .inr (.inr (.inr (.inr (fun _ => none)))))) := by rw [em3]; exact fU_s
  rw [← em3] at hw
  have hM : Mn3 3000 = some (.inr (9, [.int 0, .ref q1, .ref q2, .null])) := (eM3 _ (by omega)).trans hM
  have eS1 : Mn3 3001 = some (.inl (gY g, 0, .inr (.inr (.inr (.inr (fun _ => none)))))) := (eM3 _ (by omega)).trans eS1
  have eS2 : Mn3 3002 = some (.inl (gW g, 0, .inr (.inr (.inr (.inr (fun _ => none)))))) := (eM3 _ (by omega)).trans eS2
  refine f_adr2 (ad := ad3) (lb := 3000) ((eA3 3000 (by omega)).trans ((eA2 3000 (by omega)).trans (eA1 3000 (by omega)))) ?_
  refine f_put X hw hM fc9 3 (by decide) wq626 rfl rfl (v := .ref q3) rfl rfl (Nat.le_of_ble_eq_true rfl) dX8_init_25 (fun H locs hw => ?_)
  have hw : fw g ad3 (fU Mn3 3000 (.inr (9, [.int 0, .ref q1, .ref q2, .ref q3]))) s H locs := hw
  have eS1 : (fU Mn3 3000 (.inr (9, [.int 0, .ref q1, .ref q2, .ref q3]))) 3001 = some (.inl (gY g, 0, .inr (.inr (.inr (.inr (fun _ => none)))))) := (fU_n (by omega)).trans eS1
  have eS2 : (fU Mn3 3000 (.inr (9, [.int 0, .ref q1, .ref q2, .ref q3]))) 3002 = some (.inl (gW g, 0, .inr (.inr (.inr (.inr (fun _ => none)))))) := (fU_n (by omega)).trans eS2
  have eS3 : (fU Mn3 3000 (.inr (9, [.int 0, .ref q1, .ref q2, .ref q3]))) 3003 = some (.inl (gQ g, 0, .inr (.inr (.inr (.inr (fun _ => none)))))) := (fU_n (by omega)).trans eS3
  have hM : (fU Mn3 3000 (.inr (9, [.int 0, .ref q1, .ref q2, .ref q3]))) 3000 = some (.inr (9, [.int 0, .ref q1, .ref q2, .ref q3])) := fU_s
  have hR : ∀ l, ¬ (3000 ≤ l ∧ l < 3004) → l ≠ 4090 → ad3 l = ad l ∧ (fU Mn3 3000 (.inr (9, [.int 0, .ref q1, .ref q2, .ref q3]))) l = M l := fun l a b => by
    have n0 : l ≠ 3000 := by omega
    have n1 : l ≠ 3001 := by omega
    have n2 : l ≠ 3002 := by omega
    have n3 : l ≠ 3003 := by omega
    exact ⟨(eA3 l n3).trans ((eA2 l n2).trans (eA1 l n1)), (fU_n n0).trans ((eM3 l n3).trans ((fU_n n0).trans ((eM2 l n2).trans ((fU_n n0).trans (eM1 l n1)))))⟩
  refine f_vret X hw ⟨⟨?_, ⟨_, eS1, fun i hi => absurd hi (Nat.not_lt_zero _)⟩, ⟨_, eS2, fun i hi => absurd hi (Nat.not_lt_zero _)⟩, ⟨_, eS3, fun i hi => absurd hi (Nat.not_lt_zero _)⟩, fun i hi => absurd hi (Nat.not_lt_zero _), fun i hi => absurd hi (Nat.not_lt_zero _), fun i hi => absurd hi (Nat.not_lt_zero _), Nat.zero_le _, Nat.zero_le _, Nat.zero_le _⟩, hR, (eA3 3000 (by omega)).trans ((eA2 3000 (by omega)).trans (eA1 3000 (by omega)))⟩ (by omega) (by omega) dX8_init_28
  rw [show ad3 3001 = q1 from (eA3 3001 (by omega)).trans ((eA2 3001 (by omega)).trans eq1), show ad3 3002 = q2 from (eA3 3002 (by omega)).trans eq2, eq3]
  exact hM
/-- the hoses of a town, from engine to engine, come to an end -/
def lkOk (U : fTn) (rk : Nat → Nat) : Prop := ∀ j, j < tEn U → (tE U j 7 < 0 ∨ 100 ≤ tE U j 7) ∨ ∃ i, i < tEn U ∧ tE U j 7 = nI i ∧ rk i < rk j
theorem leadsN_no {U : fTn} {to x : Int32} {n : Nat} (h6 : tEn U ≤ 6) (h : x < 0 ∨ 100 ≤ x) : leadsN U to n x = false := by
  cases n with
  | zero => rfl
  | succ n =>
    have z : isIx (tEn U) x = false := by
      rcases hz : isIx (tEn U) x with - | -
      · rfl
      · obtain ⟨j, hj, e⟩ := isIx_t hz (by omega)
        rcases h with h | h
        · rw [e] at h; exact absurd h (nI_pos (by omega))
        · rw [e] at h; exact absurd (nI_le' (a := 100) (b := j) h (by omega) (by omega)) (by omega)
    show (isIx (tEn U) x && _) = false
    rw [z, Bool.false_and]
theorem leadsN_s {U : fTn} {to : Int32} {n j : Nat} (h6 : tEn U ≤ 6) (hj : j < tEn U) : leadsN U to (n + 1) (nI j) = (decide (nI j = to) || leadsN U to n (tE U j 7)) := by
  show (isIx (tEn U) (nI j) && (decide (nI j = to) || leadsN U to n (tE U (nI j).toNatClampNeg 7))) = _
  rw [isIx_nI hj (by omega), Bool.true_and, nI_clamp (by omega)]
set_option maxHeartbeats 4000000 in
set_option maxRecDepth 100000 in
theorem c_s_leads (l : Launch) {U : fTn} {rk : Nat → Nat} {to : Int32} (hk : lkOk U rk) : ∀ (n : Nat) (g : fG) (ad : Nat → Nat) (M : fM) (hS : isSim g ad M U) (j : Nat) (hj : j < tEn U) (hn : rk j < n), fCi l g yX8_leads cX8_leads 4 (some .boolean) n (40 * n) 0 0 ad M [.ref (ad 3000), .int (nI j), .int to] (fDi ad M (bI (leadsN U to n (nI j)))) := by
  intro n
  induction n with
  | zero => intro g ad M hS j hj hn; exact absurd hn (Nat.not_lt_zero _)
  | succ n ih =>
    intro g ad M hS j hj hn
    refine f_body (own := RX8) (by decide +kernel) rfl (Nat.le_of_ble_eq_true rfl) ?_
    intro p e s m args below meth c ls X hw hin hl
    have hx := X.1
    have hb := X.2.1
    have hl : lv_has ls 4 [(0, .ref (ad 3000)), (1, .int (nI j)), (2, .int to)] := hl
    obtain ⟨hS0, ⟨fHh, hSh, hSH⟩, ⟨fEe, hSe, hSE⟩, ⟨fPp, hSp, hSP⟩, hHs, hEs, hPs, hn1, hn3, hn2⟩ := id hS
    refine lv_iload_n hx hb dX8_leads_0 rfl (lv_at hl 1 rfl) ?_
    refine lv_iload_n hx hb dX8_leads_1 rfl (lv_at hl 2 rfl) ?_
    refine lv_icmp_ne (tgt := 7) hx hb dX8_leads_2 (by decide) (fun c_1 => ?_) (fun c_1 => ?_)
    · refine lv_aload_n hx hb dX8_leads_7 rfl (lv_at hl 0 rfl) ?_
      refine f_get X hw hS0 fc9 2 (by decide) wq624 rfl (v := .ref (ad 3002)) rfl dX8_leads_8 ?_
      refine lv_iload_n hx hb dX8_leads_11 rfl (lv_at hl 1 rfl) ?_
      refine f_aaldW X hw hSe (vp_in_nI (n := j) (by omega) (by omega)) (q := ad (3300 + j)) (by rw [nI_clamp (by omega)]; exact hSE j (by omega)) dX8_leads_12 ?_
      refine f_get X hw (hEs j (by omega)) fc7 7 (by decide) wq785 rfl (v := .int ((tE U j) 7)) rfl dX8_leads_13 ?_
      refine lv_istore_n (lv' := [(3, .int ((tE U j) 7)), (0, .ref (ad 3000)), (1, .int (nI j)), (2, .int to)]) hx hb dX8_leads_16 rfl hl (by decide) rfl (fun ls hl => ?_)
      refine lv_iload_n hx hb dX8_leads_17 rfl (lv_at hl 0 rfl) ?_
      refine lv_if_lt (tgt := 40) hx hb dX8_leads_18 (by decide) (fun c_2 => ?_) (fun c_2 => ?_)
      · refine lv_iconst (v := 0) hx hb dX8_leads_40 (by decide) ?_
        exact f_zret X hw rfl ⟨rfl, rfl, by rw [leadsN_s (by omega) hj, decide_eq_false c_1, leadsN_no (by omega) (Or.inl c_2)]; rfl⟩ (Nat.le_refl _) (Nat.le_refl _) dX8_leads_41
      · refine lv_iload_n hx hb dX8_leads_21 rfl (lv_at hl 0 rfl) ?_
        refine lv_bipush (v := 100) hx hb dX8_leads_22 (by decide) ?_
        refine lv_icmp_ge (tgt := 40) hx hb dX8_leads_24 (by decide) (fun c_3 => ?_) (fun c_3 => ?_)
        · refine lv_iconst (v := 0) hx hb dX8_leads_40 (by decide) ?_
          exact f_zret X hw rfl ⟨rfl, rfl, by rw [leadsN_s (by omega) hj, decide_eq_false c_1, leadsN_no (by omega) (Or.inr c_3)]; rfl⟩ (Nat.le_refl _) (Nat.le_refl _) dX8_leads_41
        · refine lv_aload_n hx hb dX8_leads_27 rfl (lv_at hl 1 rfl) ?_
          refine lv_iload_n hx hb dX8_leads_28 rfl (lv_at hl 0 rfl) ?_
          refine lv_iload_n hx hb dX8_leads_29 rfl (lv_at hl 3 rfl) ?_
          rcases hk j hj with hq | ⟨i, hi, ei, hr⟩
          · rcases hq with hq | hq
            · exact absurd hq c_2
            · exact absurd hq c_3
          refine f_top2 (y := nI i) ei ?_
          refine fk_di (fcV X hw (ih g ad M hS i hi (by omega)) hS0 rfl wq863 kVX8_leads ⟨by dsimp only [fR]; omega, by dsimp only [fR]; omega⟩ rfl hl.1 rfl (Nat.le_of_ble_eq_true rfl) dX8_leads_30 ⟨Nat.le_refl _, Nat.le_refl _⟩) hw (fun H locs hw => ?_)
          refine lv_if_eq (tgt := 40) hx hb dX8_leads_33 (by decide) (fun c_4 => ?_) (fun c_4 => ?_)
          · have c_4 := bI_f.mp c_4
            refine lv_iconst (v := 0) hx hb dX8_leads_40 (by decide) ?_
            exact f_zret X hw rfl ⟨rfl, rfl, by rw [leadsN_s (by omega) hj, decide_eq_false c_1, ei, c_4]; rfl⟩ (Nat.le_refl _) (Nat.le_refl _) dX8_leads_41
          · have c_4 := bI_nf.mp c_4
            refine lv_iconst (v := 1) hx hb dX8_leads_36 (by decide) ?_
            refine lv_goto (tgt := 41) hx hb dX8_leads_37 (by decide) ?_
            exact f_zret X hw rfl ⟨rfl, rfl, by rw [leadsN_s (by omega) hj, decide_eq_false c_1, ei, c_4]; rfl⟩ (Nat.le_refl _) (Nat.le_refl _) dX8_leads_41
    · refine lv_iconst (v := 1) hx hb dX8_leads_5 (by decide) ?_
      exact f_zret X hw rfl ⟨rfl, rfl, by rw [leadsN_s (by omega) hj, decide_eq_true c_1]; rfl⟩ (Nat.le_refl _) (Nat.le_refl _) dX8_leads_6
