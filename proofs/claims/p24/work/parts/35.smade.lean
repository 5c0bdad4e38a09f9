theorem isSim_addH {g : fG} {ad ad1 : Nat → Nat} {M M1 : fM} {U : fTn} {f : Nat → Int32} {F : Nat → Option Nat} (h : isSim g ad M U) (hn : tHn U < 30) (h0 : M1 3000 = some (.inr (9, [.int (tM U), .ref (ad1 3410), .ref (ad1 3002), .ref (ad1 3003)]))) (hA : M1 3410 = some (.inl (gY g, tHn U + 1, .inr (.inr (.inr (.inr F)))))) (hF : ∀ i, i < tHn U + 1 → F i = some (ad1 (3100 + i))) (hv : M1 (3100 + tHn U) = some (.inr (8, hV f)))
    (hr : ∀ l, 3000 ≤ l → l < 3400 → l ≠ 3000 → l ≠ 3100 + tHn U → ad1 l = ad l ∧ M1 l = M l) : isSim g (fV ad1 3001 (ad1 3410)) (fun l => if l = 3001 then some (.inl (gY g, tHn U + 1, .inr (.inr (.inr (.inr F))))) else if l = 3410 then none else M1 l) (addH U f) := by
  obtain ⟨h00, ⟨f1, a1, b1⟩, ⟨f2, a2, b2⟩, ⟨f3, a3, b3⟩, h4, h5, h6, n1, n2, n3⟩ := h
  have aa : ∀ l, l ≠ 3001 → fV ad1 3001 (ad1 3410) l = ad1 l := fun l z => fV_n z
  have mm : ∀ l, l ≠ 3001 → l ≠ 3410 → (fun l => if l = 3001 then some (.inl (gY g, tHn U + 1, .inr (.inr (.inr (.inr F))))) else if l = 3410 then none else M1 l) l = M1 l := fun l z z2 => (if_neg z).trans (if_neg z2)
  refine ⟨?_, ?_, ?_, ?_, fun i hi => ?_, fun i hi => ?_, fun i hi => ?_, ?_, ?_, ?_⟩
  · rw [mm 3000 (by omega) (by omega), h0]; rw [show fV ad1 3001 (ad1 3410) 3001 = ad1 3410 from fV_s, aa 3002 (by omega), aa 3003 (by omega)]
  · exact ⟨F, if_pos rfl, fun i hi => (hF i hi).trans (congrArg some (aa (3100 + i) (by omega)).symm)⟩
  · exact ⟨f2, (mm 3002 (by omega) (by omega)).trans ((hr 3002 (by omega) (by omega) (by omega) (by omega)).2.trans a2), fun i hi => (b2 i hi).trans (congrArg some ((aa (3300 + i) (by omega)).trans (hr (3300 + i) (by omega) (by have : i < tEn U := hi; omega) (by omega) (by have : i < tEn U := hi; omega)).1).symm)⟩
  · exact ⟨f3, (mm 3003 (by omega) (by omega)).trans ((hr 3003 (by omega) (by omega) (by omega) (by omega)).2.trans a3), fun i hi => (b3 i hi).trans (congrArg some ((aa (3200 + i) (by omega)).trans (hr (3200 + i) (by omega) (by have : i < tPn U := hi; omega) (by omega) (by have : i < tPn U := hi; omega)).1).symm)⟩
  · have hi : i < tHn U + 1 := hi
    refine (mm (3100 + i) (by omega) (by omega)).trans ?_
    show M1 (3100 + i) = some (.inr (8, hV (if i = tHn U then f else tH U i)))
    by_cases q : i = tHn U
    · rw [if_pos q, q]; exact hv
    · rw [if_neg q, (hr (3100 + i) (by omega) (by omega) (by omega) (by omega)).2]; exact h4 i (by omega)
  · have hi : i < tEn U := hi
    exact (mm (3300 + i) (by omega) (by omega)).trans ((hr (3300 + i) (by omega) (by omega) (by omega) (by omega)).2.trans (h5 i hi))
  · have hi : i < tPn U := hi
    exact (mm (3200 + i) (by omega) (by omega)).trans ((hr (3200 + i) (by omega) (by omega) (by omega) (by omega)).2.trans (h6 i hi))
  · show tHn U + 1 ≤ 30; omega
  · show tEn U ≤ 6; omega
  · show tPn U ≤ 6; omega
theorem isSim_addE {g : fG} {ad ad1 : Nat → Nat} {M M1 : fM} {U : fTn} {f : Nat → Int32} {F : Nat → Option Nat} (h : isSim g ad M U) (hn : tEn U < 6) (h0 : M1 3000 = some (.inr (9, [.int (tM U), .ref (ad1 3001), .ref (ad1 3410), .ref (ad1 3003)]))) (hA : M1 3410 = some (.inl (gW g, tEn U + 1, .inr (.inr (.inr (.inr F)))))) (hF : ∀ i, i < tEn U + 1 → F i = some (ad1 (3300 + i))) (hv : M1 (3300 + tEn U) = some (.inr (7, gV f)))
    (hr : ∀ l, 3000 ≤ l → l < 3400 → l ≠ 3000 → l ≠ 3300 + tEn U → ad1 l = ad l ∧ M1 l = M l) : isSim g (fV ad1 3002 (ad1 3410)) (fun l => if l = 3002 then some (.inl (gW g, tEn U + 1, .inr (.inr (.inr (.inr F))))) else if l = 3410 then none else M1 l) (addE U f) := by
  obtain ⟨h00, ⟨f1, a1, b1⟩, ⟨f2, a2, b2⟩, ⟨f3, a3, b3⟩, h4, h5, h6, n1, n2, n3⟩ := h
  have aa : ∀ l, l ≠ 3002 → fV ad1 3002 (ad1 3410) l = ad1 l := fun l z => fV_n z
  have mm : ∀ l, l ≠ 3002 → l ≠ 3410 → (fun l => if l = 3002 then some (.inl (gW g, tEn U + 1, .inr (.inr (.inr (.inr F))))) else if l = 3410 then none else M1 l) l = M1 l := fun l z z2 => (if_neg z).trans (if_neg z2)
  refine ⟨?_, ?_, ?_, ?_, fun i hi => ?_, fun i hi => ?_, fun i hi => ?_, ?_, ?_, ?_⟩
  · rw [mm 3000 (by omega) (by omega), h0]; rw [aa 3001 (by omega), show fV ad1 3002 (ad1 3410) 3002 = ad1 3410 from fV_s, aa 3003 (by omega)]
  · exact ⟨f1, (mm 3001 (by omega) (by omega)).trans ((hr 3001 (by omega) (by omega) (by omega) (by omega)).2.trans a1), fun i hi => (b1 i hi).trans (congrArg some ((aa (3100 + i) (by omega)).trans (hr (3100 + i) (by omega) (by have : i < tHn U := hi; omega) (by omega) (by have : i < tHn U := hi; omega)).1).symm)⟩
  · exact ⟨F, if_pos rfl, fun i hi => (hF i hi).trans (congrArg some (aa (3300 + i) (by omega)).symm)⟩
  · exact ⟨f3, (mm 3003 (by omega) (by omega)).trans ((hr 3003 (by omega) (by omega) (by omega) (by omega)).2.trans a3), fun i hi => (b3 i hi).trans (congrArg some ((aa (3200 + i) (by omega)).trans (hr (3200 + i) (by omega) (by have : i < tPn U := hi; omega) (by omega) (by have : i < tPn U := hi; omega)).1).symm)⟩
  · have hi : i < tHn U := hi
    exact (mm (3100 + i) (by omega) (by omega)).trans ((hr (3100 + i) (by omega) (by omega) (by omega) (by omega)).2.trans (h4 i hi))
  · have hi : i < tEn U + 1 := hi
    refine (mm (3300 + i) (by omega) (by omega)).trans ?_
    show M1 (3300 + i) = some (.inr (7, gV (if i = tEn U then f else tE U i)))
    by_cases q : i = tEn U
    · rw [if_pos q, q]; exact hv
    · rw [if_neg q, (hr (3300 + i) (by omega) (by omega) (by omega) (by omega)).2]; exact h5 i (by omega)
  · have hi : i < tPn U := hi
    exact (mm (3200 + i) (by omega) (by omega)).trans ((hr (3200 + i) (by omega) (by omega) (by omega) (by omega)).2.trans (h6 i hi))
  · show tHn U ≤ 30; omega
  · show tEn U + 1 ≤ 6; omega
  · show tPn U ≤ 6; omega
theorem isSim_addP {g : fG} {ad ad1 : Nat → Nat} {M M1 : fM} {U : fTn} {f : Nat → Int32} {F : Nat → Option Nat} (h : isSim g ad M U) (hn : tPn U < 6) (h0 : M1 3000 = some (.inr (9, [.int (tM U), .ref (ad1 3001), .ref (ad1 3002), .ref (ad1 3410)]))) (hA : M1 3410 = some (.inl (gQ g, tPn U + 1, .inr (.inr (.inr (.inr F)))))) (hF : ∀ i, i < tPn U + 1 → F i = some (ad1 (3200 + i))) (hv : M1 (3200 + tPn U) = some (.inl (gI g, 2, .inl f)))
    (hr : ∀ l, 3000 ≤ l → l < 3400 → l ≠ 3000 → l ≠ 3200 + tPn U → ad1 l = ad l ∧ M1 l = M l) : isSim g (fV ad1 3003 (ad1 3410)) (fun l => if l = 3003 then some (.inl (gQ g, tPn U + 1, .inr (.inr (.inr (.inr F))))) else if l = 3410 then none else M1 l) (addP U f) := by
  obtain ⟨h00, ⟨f1, a1, b1⟩, ⟨f2, a2, b2⟩, ⟨f3, a3, b3⟩, h4, h5, h6, n1, n2, n3⟩ := h
  have aa : ∀ l, l ≠ 3003 → fV ad1 3003 (ad1 3410) l = ad1 l := fun l z => fV_n z
  have mm : ∀ l, l ≠ 3003 → l ≠ 3410 → (fun l => if l = 3003 then some (.inl (gQ g, tPn U + 1, .inr (.inr (.inr (.inr F))))) else if l = 3410 then none else M1 l) l = M1 l := fun l z z2 => (if_neg z).trans (if_neg z2)
  refine ⟨?_, ?_, ?_, ?_, fun i hi => ?_, fun i hi => ?_, fun i hi => ?_, ?_, ?_, ?_⟩
  · rw [mm 3000 (by omega) (by omega), h0]; rw [aa 3001 (by omega), aa 3002 (by omega), show fV ad1 3003 (ad1 3410) 3003 = ad1 3410 from fV_s]
  · exact ⟨f1, (mm 3001 (by omega) (by omega)).trans ((hr 3001 (by omega) (by omega) (by omega) (by omega)).2.trans a1), fun i hi => (b1 i hi).trans (congrArg some ((aa (3100 + i) (by omega)).trans (hr (3100 + i) (by omega) (by have : i < tHn U := hi; omega) (by omega) (by have : i < tHn U := hi; omega)).1).symm)⟩
  · exact ⟨f2, (mm 3002 (by omega) (by omega)).trans ((hr 3002 (by omega) (by omega) (by omega) (by omega)).2.trans a2), fun i hi => (b2 i hi).trans (congrArg some ((aa (3300 + i) (by omega)).trans (hr (3300 + i) (by omega) (by have : i < tEn U := hi; omega) (by omega) (by have : i < tEn U := hi; omega)).1).symm)⟩
  · exact ⟨F, if_pos rfl, fun i hi => (hF i hi).trans (congrArg some (aa (3200 + i) (by omega)).symm)⟩
  · have hi : i < tHn U := hi
    exact (mm (3100 + i) (by omega) (by omega)).trans ((hr (3100 + i) (by omega) (by omega) (by omega) (by omega)).2.trans (h4 i hi))
  · have hi : i < tEn U := hi
    exact (mm (3300 + i) (by omega) (by omega)).trans ((hr (3300 + i) (by omega) (by omega) (by omega) (by omega)).2.trans (h5 i hi))
  · have hi : i < tPn U + 1 := hi
    refine (mm (3200 + i) (by omega) (by omega)).trans ?_
    show M1 (3200 + i) = some (.inl (gI g, 2, .inl (if i = tPn U then f else tP U i)))
    by_cases q : i = tPn U
    · rw [if_pos q, q]; exact hv
    · rw [if_neg q, (hr (3200 + i) (by omega) (by omega) (by omega) (by omega)).2]; exact h6 i (by omega)
  · show tHn U ≤ 30; omega
  · show tEn U ≤ 6; omega
  · show tPn U + 1 ≤ 6; omega
abbrev fSb (g : fG) (ad : Nat → Nat) (M : fM) (U : fTn) : (Nat → Nat) → fM → Prop := fun ad1 M1 => isSim g ad1 M1 U ∧ fReg 3000 3420 ad M ad1 M1 ∧ ad1 3000 = ad 3000
abbrev nwH (c w z : Int32) : Nat → Int32 := upd (upd (upd f0 0 c) 1 w) 2 z
abbrev gw0 : Nat → Int32 := upd (upd f0 3 60) 7 (-1)
abbrev nwE (c w z : Int32) : Nat → Int32 := upd (upd (upd gw0 0 c) 1 w) 2 z
set_option maxHeartbeats 4000000 in
set_option maxRecDepth 100000 in
theorem c_X7_init (l : Launch) (g : fG) (ad : Nat → Nat) (M : fM) {le : Nat} : fCv l g yX7_init cX7_init 1 1 12 0 0 ad M [.ref (ad le)] (fDv ad M) := by
  refine f_body (own := RX7) (by decide +kernel) rfl (Nat.le_of_ble_eq_true rfl) ?_
  intro p e s m args below meth c ls X hw hin hl
  have hx := X.1
  have hb := X.2.1
  have hl : lv_has ls 1 [(0, .ref (ad le))] := hl
  refine lv_aload_n hx hb dX7_init_0 rfl (lv_at hl 0 rfl) ?_
  refine W.objInit hx hb X.2.2.2.1 (X.2.2.2.2.1 _ wq717) (X.2.2.2.2.1 _ wq31) (X.2.2.2.2.1 _ wq32) rfl (by rw [X.2.2.1]; exact hl.1) rfl dX7_init_1 (Nat.le_of_ble_eq_true rfl) (Nat.le_of_ble_eq_true rfl) ?_
  refine W.eq (g2 := F0 m 4 ls []) rfl ?_
  exact f_vret X hw ⟨rfl, rfl⟩ (Nat.le_refl _) (Nat.le_refl _) dX7_init_4
set_option maxHeartbeats 4000000 in
set_option maxRecDepth 100000 in
theorem c_X6_init (l : Launch) (g : fG) (ad : Nat → Nat) (M : fM) {le : Nat} (hE : M le = some (.inr (7, gV f0))) : fCv l g yX6_init cX6_init 1 1 12 0 0 ad M [.ref (ad le)] (fDv ad (fU M le (.inr (7, gV gw0)))) := by
  refine f_body (own := RX6) (by decide +kernel) rfl (Nat.le_of_ble_eq_true rfl) ?_
  intro p e s m args below meth c ls X hw hin hl
  have hx := X.1
  have hb := X.2.1
  have hl : lv_has ls 1 [(0, .ref (ad le))] := hl
  refine lv_aload_n hx hb dX6_init_0 rfl (lv_at hl 0 rfl) ?_
  refine W.objInit hx hb X.2.2.2.1 (X.2.2.2.2.1 _ wq766) (X.2.2.2.2.1 _ wq31) (X.2.2.2.2.1 _ wq32) rfl (by rw [X.2.2.1]; exact hl.1) rfl dX6_init_1 (Nat.le_of_ble_eq_true rfl) (Nat.le_of_ble_eq_true rfl) ?_
  refine W.eq (g2 := F0 m 4 ls []) rfl ?_
  refine lv_aload_n hx hb dX6_init_4 rfl (lv_at hl 0 rfl) ?_
  refine lv_bipush (v := 60) hx hb dX6_init_5 (by decide) ?_
  refine f_put X hw hE fc7 3 (by decide) wq773 rfl rfl (v := .int 60) rfl rfl (Nat.le_of_ble_eq_true rfl) dX6_init_7 (fun H locs hw => ?_)
  have hw : fw g ad (fU M le (.inr (7, gV (upd f0 3 60)))) s H locs := hw
  have hE : (fU M le (.inr (7, gV (upd f0 3 60)))) le = some (.inr (7, gV (upd f0 3 60))) := fU_s
  refine lv_aload_n hx hb dX6_init_10 rfl (lv_at hl 0 rfl) ?_
  refine lv_iconst (v := (-1)) hx hb dX6_init_11 (by decide) ?_
  refine f_put X hw hE fc7 7 (by decide) wq783 rfl rfl (v := .int (-1)) rfl rfl (Nat.le_of_ble_eq_true rfl) dX6_init_12 (fun H locs hw => ?_)
  have hw : fw g ad (fU (fU M le (.inr (7, gV (upd f0 3 60)))) le (.inr (7, gV (upd (upd f0 3 60) 7 (-1))))) s H locs := hw
  rw [fU_U] at hw
  have hE : (fU M le (.inr (7, gV (upd (upd f0 3 60) 7 (-1))))) le = some (.inr (7, gV (upd (upd f0 3 60) 7 (-1)))) := fU_s
  exact f_vret X hw ⟨rfl, rfl⟩ (Nat.le_refl _) (Nat.le_refl _) dX6_init_15
set_option maxHeartbeats 4000000 in
set_option maxRecDepth 100000 in
theorem c_s_build (l : Launch) (g : fG) (ad : Nat → Nat) (M : fM) {U : fTn} (hS : isSim g ad M U) (c0 w0 z0 : Int32) (hlim : tHn U < 30) : fCv l g yX8_build cX8_build 6 2 40 2 40 ad M [.ref (ad 3000), .int c0, .int w0, .int z0] (fSb g ad M (addH U (nwH c0 w0 z0))) := by
  refine f_body (own := RX8) (by decide +kernel) rfl (Nat.le_of_ble_eq_true rfl) ?_
  intro p e s m args below meth c ls X hw hin hl
  have hx := X.1
  have hb := X.2.1
  have hl : lv_has ls 6 [(0, .ref (ad 3000)), (1, .int c0), (2, .int w0), (3, .int z0)] := hl
  obtain ⟨hS0, ⟨fHh, hSh, hSH⟩, ⟨fEe, hSe, hSE⟩, ⟨fPp, hSp, hSP⟩, hHs, hEs, hPs, hn1, hn3, hn2⟩ := id hS
  refine lv_aload_n hx hb dX8_build_0 rfl (lv_at hl 0 rfl) ?_
  refine f_get X hw hS0 fc9 1 (by decide) wq622 rfl (v := .ref (ad 3001)) rfl dX8_build_1 ?_
  refine f_alen X hw 4 hSh rfl dX8_build_4 ?_
  refine lv_iconst (v := 1) hx hb dX8_build_5 (by decide) ?_
  refine lv_iadd hx hb dX8_build_6 ?_
  refine f_top (y := nI (tHn U + 1)) (nI_1 (tHn U)) ?_
  refine f_newY X hw 3410 (by omega) wq615 (n := nI (tHn U + 1)) (N' := tHn U + 1) (nI_pos (by omega)) (nI_clamp (by omega)) (by omega) (by dsimp only [fR]; omega) (by dsimp only [fR]; omega) dX8_build_7 (fun q1 H hw => ?_)
  obtain ⟨ad1, ea1⟩ : ∃ z, z = fV ad 3410 q1 := ⟨_, rfl⟩
  have eq1 : ad1 3410 = q1 := by rw [ea1]; exact fV_s
  have eA1 : ∀ l, l ≠ 3410 → ad1 l = ad l := fun l h => by rw [ea1]; exact fV_n h
  rw [← ea1] at hw
  obtain ⟨Mn1, em1⟩ : ∃ z, z = fU M 3410 (.inl (gY g, tHn U + 1, .inr (.inr (.inr (.inr (fun _ => none)))))) := ⟨_, rfl⟩
  have eM1 : ∀ l, l ≠ 3410 → Mn1 l = M l := fun l h => by rw [em1]; exact fU_n h
  have eS1 : Mn1 3410 = some (.inl (gY g, tHn U + 1, .inr (.inr (.inr (.inr (fun _ => none)))))) := by rw [em1]; exact fU_s
  rw [← em1] at hw
  have hS0 : Mn1 3000 = some (.inr (9, [.int (tM U), .ref (ad 3001), .ref (ad 3002), .ref (ad 3003)])) := (eM1 _ (by omega)).trans hS0
  have hSh : Mn1 3001 = some (.inl (gY g, tHn U, .inr (.inr (.inr (.inr fHh))))) := (eM1 _ (by omega)).trans hSh
  have hSe : Mn1 3002 = some (.inl (gW g, tEn U, .inr (.inr (.inr (.inr fEe))))) := (eM1 _ (by omega)).trans hSe
  have hSp : Mn1 3003 = some (.inl (gQ g, tPn U, .inr (.inr (.inr (.inr fPp))))) := (eM1 _ (by omega)).trans hSp
  refine f_adr (ad := ad1) (lb := 3410) eq1 ?_
  refine lv_astore (lv' := [(4, .ref (ad1 3410)), (0, .ref (ad 3000)), (1, .int c0), (2, .int w0), (3, .int z0)]) hx hb dX8_build_10 hl (by decide) rfl (fun ls hl => ?_)
  refine lv_iconst (v := 0) hx hb dX8_build_12 (by decide) ?_
  refine lv_istore (lv' := [(5, .int 0), (4, .ref (ad1 3410)), (0, .ref (ad 3000)), (1, .int c0), (2, .int w0), (3, .int z0)]) hx hb dX8_build_13 hl (by decide) rfl (fun ls hl => ?_)
  have loop15 : ∀ (n k : Nat), k ≤ tHn U → tHn U < k + n → ∀ (M8 : fM) (F8 : Nat → Option Nat) (hA : M8 3410 = some (.inl (gY g, tHn U + 1, .inr (.inr (.inr (.inr F8)))))) (hF : ∀ i, i < k → F8 i = some (ad1 (3100 + i))) (hR : ∀ l, l ≠ 3410 → M8 l = Mn1 l) (ls : Array Slot) (H : Heap) (locs : List Loc), fw g ad1 M8 s H locs → lv_has ls 6 [(5, .int (nI k)), (4, .ref (ad1 3410)), (0, .ref (ad 3000)), (1, .int c0), (2, .int w0), (3, .int z0)] → W p l e (fR 2 40 2 40) s m args below meth c H locs (0 + 1) (0 + (tHn U + 1)) (MQ below (fQv g (fSb g ad M (addH U (nwH c0 w0 z0)))) args s 2 40 (fA g)) (F0 m 15 ls []) := by
    intro n
    induction n with
    | zero => intro k h1 h2; omega
    | succ n ih =>
      intro k hk_ hn_ M8 F8 hA hF hR ls H locs hw hl
      have hS0 : M8 3000 = some (.inr (9, [.int (tM U), .ref (ad 3001), .ref (ad 3002), .ref (ad 3003)])) := (hR _ (by omega)).trans hS0
      have hSh : M8 3001 = some (.inl (gY g, tHn U, .inr (.inr (.inr (.inr fHh))))) := (hR _ (by omega)).trans hSh
      have hSe : M8 3002 = some (.inl (gW g, tEn U, .inr (.inr (.inr (.inr fEe))))) := (hR _ (by omega)).trans hSe
      have hSp : M8 3003 = some (.inl (gQ g, tPn U, .inr (.inr (.inr (.inr fPp))))) := (hR _ (by omega)).trans hSp
      have hHs : ∀ i, i < tHn U → M8 (3100 + i) = some (.inr (8, hV (tH U i))) := fun i hi => (hR _ (by omega)).trans ((eM1 _ (by omega)).trans (hHs i hi))
      have hEs : ∀ i, i < tEn U → M8 (3300 + i) = some (.inr (7, gV (tE U i))) := fun i hi => (hR _ (by omega)).trans ((eM1 _ (by omega)).trans (hEs i hi))
      have hPs : ∀ i, i < tPn U → M8 (3200 + i) = some (.inl (gI g, 2, .inl (tP U i))) := fun i hi => (hR _ (by omega)).trans ((eM1 _ (by omega)).trans (hPs i hi))
      refine lv_iload hx hb dX8_build_15 (lv_at hl 0 rfl) ?_
      refine lv_aload_n hx hb dX8_build_17 rfl (lv_at hl 2 rfl) ?_
      refine f_adr (ad := ad1) (lb := 3000) (eA1 3000 (by omega)) ?_
      refine f_get X hw hS0 fc9 1 (by decide) wq622 rfl (v := .ref (ad 3001)) rfl dX8_build_18 ?_
      refine f_adr (ad := ad1) (lb := 3001) (eA1 3001 (by omega)) ?_
      refine f_alen X hw 4 hSh rfl dX8_build_21 ?_
      refine lv_icmp_ge (tgt := 43) hx hb dX8_build_22 (by decide) (fun c_1 => ?_) (fun c_1 => ?_)
      · have c_1 := nI_le' (a := (tHn U)) (b := k) c_1 (by omega) (by omega)
        have ek : k = tHn U := by omega
        refine f_new X hw (3100 + tHn U) (by omega) fc8 wq615 wq713 wq21 (fs := [.int 0, .int 0, .int 0, .int 0, .int 0, .int 0, .int 0]) (by intro j hj; rcases (show j = 0 ∨ j = 1 ∨ j = 2 ∨ j = 3 ∨ j = 4 ∨ j = 5 ∨ j = 6 by omega) with rfl | rfl | rfl | rfl | rfl | rfl | rfl <;> rfl) (by dsimp only [fR]; omega) (by dsimp only [fR]; omega) dX8_build_43 (fun q2 H hw => ?_)
        obtain ⟨ad2, ea2⟩ : ∃ z, z = fV ad1 (3100 + tHn U) q2 := ⟨_, rfl⟩
        have eq2 : ad2 (3100 + tHn U) = q2 := by rw [ea2]; exact fV_s
        have eA2 : ∀ l, l ≠ 3100 + tHn U → ad2 l = ad1 l := fun l h => by rw [ea2]; exact fV_n h
        rw [← ea2] at hw
        obtain ⟨M9, em2⟩ : ∃ z, z = fU M8 (3100 + tHn U) (.inr (8, hV f0)) := ⟨_, rfl⟩
        have eM2 : ∀ l, l ≠ 3100 + tHn U → M9 l = M8 l := fun l h => by rw [em2]; exact fU_n h
        have eS2 : M9 (3100 + tHn U) = some (.inr (8, hV f0)) := by rw [em2]; exact fU_s
        have hw : fw g ad2 (fU M8 (3100 + tHn U) (.inr (8, hV f0))) s H locs := hw
        rw [← em2] at hw
        have hA9 : M9 3410 = some (.inl (gY g, tHn U + 1, .inr (.inr (.inr (.inr F8))))) := (eM2 _ (by omega)).trans hA
        have hS9 : M9 3000 = some (.inr (9, [.int (tM U), .ref (ad 3001), .ref (ad 3002), .ref (ad 3003)])) := (eM2 _ (by omega)).trans hS0
        have hSr : M9 3001 = some (.inl (gY g, tHn U, .inr (.inr (.inr (.inr fHh))))) := (eM2 _ (by omega)).trans hSh
        refine lv_dup hx hb dX8_build_46 rfl ?_
        refine f_adr (ad := ad2) (lb := 3100 + tHn U) eq2 ?_
        refine fk_dv (fcIN X hw (c_X7_init l g ad2 M9 (le := 3100 + tHn U)) wn714 kIX7_init ⟨(Nat.le_of_ble_eq_true rfl), (Nat.le_of_ble_eq_true rfl)⟩ rfl hl.1 rfl (Nat.le_of_ble_eq_true rfl) dX8_build_47 ⟨(by dsimp only [fR]; omega), (by dsimp only [fR]; omega)⟩) hw (fun H locs hw => ?_)
        refine lv_astore (lv' := [(5, .ref q2), (4, .ref (ad1 3410)), (0, .ref (ad 3000)), (1, .int c0), (2, .int w0), (3, .int z0)]) hx hb dX8_build_50 hl (by decide) rfl (fun ls hl => ?_)
        refine lv_aload hx hb dX8_build_52 (lv_at hl 0 rfl) ?_
        refine lv_iload_n hx hb dX8_build_54 rfl (lv_at hl 3 rfl) ?_
        refine f_adr2 (ad := ad2) (lb := (3100 + tHn U)) eq2 ?_
        refine f_put X hw eS2 fc8 0 (by decide) wq718 rfl rfl (v := .int c0) rfl rfl (Nat.le_of_ble_eq_true rfl) dX8_build_55 (fun H locs hw => ?_)
        have hw : fw g ad2 (fU M9 (3100 + tHn U) (.inr (8, hV (upd f0 0 c0)))) s H locs := hw
        have hA9 : (fU M9 (3100 + tHn U) (.inr (8, hV (upd f0 0 c0)))) 3410 = some (.inl (gY g, tHn U + 1, .inr (.inr (.inr (.inr F8))))) := (fU_n (by omega)).trans hA9
        have hS9 : (fU M9 (3100 + tHn U) (.inr (8, hV (upd f0 0 c0)))) 3000 = some (.inr (9, [.int (tM U), .ref (ad 3001), .ref (ad 3002), .ref (ad 3003)])) := (fU_n (by omega)).trans hS9
        have hSr : (fU M9 (3100 + tHn U) (.inr (8, hV (upd f0 0 c0)))) 3001 = some (.inl (gY g, tHn U, .inr (.inr (.inr (.inr fHh))))) := (fU_n (by omega)).trans hSr
        have eS2 : (fU M9 (3100 + tHn U) (.inr (8, hV (upd f0 0 c0)))) (3100 + tHn U) = some (.inr (8, hV (upd f0 0 c0))) := fU_s
        refine lv_aload hx hb dX8_build_58 (lv_at hl 0 rfl) ?_
        refine lv_iload_n hx hb dX8_build_60 rfl (lv_at hl 4 rfl) ?_
        refine f_adr2 (ad := ad2) (lb := (3100 + tHn U)) eq2 ?_
        refine f_put X hw eS2 fc8 1 (by decide) wq720 rfl rfl (v := .int w0) rfl rfl (Nat.le_of_ble_eq_true rfl) dX8_build_61 (fun H locs hw => ?_)
        have hw : fw g ad2 (fU (fU M9 (3100 + tHn U) (.inr (8, hV (upd f0 0 c0)))) (3100 + tHn U) (.inr (8, hV (upd (upd f0 0 c0) 1 w0)))) s H locs := hw
        rw [fU_U] at hw
        have hA9 : (fU M9 (3100 + tHn U) (.inr (8, hV (upd (upd f0 0 c0) 1 w0)))) 3410 = some (.inl (gY g, tHn U + 1, .inr (.inr (.inr (.inr F8))))) := ((fU_n (by omega)).trans (fU_n (by omega)).symm).trans hA9
        have hS9 : (fU M9 (3100 + tHn U) (.inr (8, hV (upd (upd f0 0 c0) 1 w0)))) 3000 = some (.inr (9, [.int (tM U), .ref (ad 3001), .ref (ad 3002), .ref (ad 3003)])) := ((fU_n (by omega)).trans (fU_n (by omega)).symm).trans hS9
        have hSr : (fU M9 (3100 + tHn U) (.inr (8, hV (upd (upd f0 0 c0) 1 w0)))) 3001 = some (.inl (gY g, tHn U, .inr (.inr (.inr (.inr fHh))))) := ((fU_n (by omega)).trans (fU_n (by omega)).symm).trans hSr
        have eS2 : (fU M9 (3100 + tHn U) (.inr (8, hV (upd (upd f0 0 c0) 1 w0)))) (3100 + tHn U) = some (.inr (8, hV (upd (upd f0 0 c0) 1 w0))) := fU_s
        refine lv_aload hx hb dX8_build_64 (lv_at hl 0 rfl) ?_
        refine lv_iload_n hx hb dX8_build_66 rfl (lv_at hl 5 rfl) ?_
        refine f_adr2 (ad := ad2) (lb := (3100 + tHn U)) eq2 ?_
        refine f_put X hw eS2 fc8 2 (by decide) wq721 rfl rfl (v := .int z0) rfl rfl (Nat.le_of_ble_eq_true rfl) dX8_build_67 (fun H locs hw => ?_)
        have hw : fw g ad2 (fU (fU M9 (3100 + tHn U) (.inr (8, hV (upd (upd f0 0 c0) 1 w0)))) (3100 + tHn U) (.inr (8, hV (upd (upd (upd f0 0 c0) 1 w0) 2 z0)))) s H locs := hw
        rw [fU_U] at hw
        have hA9 : (fU M9 (3100 + tHn U) (.inr (8, hV (upd (upd (upd f0 0 c0) 1 w0) 2 z0)))) 3410 = some (.inl (gY g, tHn U + 1, .inr (.inr (.inr (.inr F8))))) := ((fU_n (by omega)).trans (fU_n (by omega)).symm).trans hA9
        have hS9 : (fU M9 (3100 + tHn U) (.inr (8, hV (upd (upd (upd f0 0 c0) 1 w0) 2 z0)))) 3000 = some (.inr (9, [.int (tM U), .ref (ad 3001), .ref (ad 3002), .ref (ad 3003)])) := ((fU_n (by omega)).trans (fU_n (by omega)).symm).trans hS9
        have hSr : (fU M9 (3100 + tHn U) (.inr (8, hV (upd (upd (upd f0 0 c0) 1 w0) 2 z0)))) 3001 = some (.inl (gY g, tHn U, .inr (.inr (.inr (.inr fHh))))) := ((fU_n (by omega)).trans (fU_n (by omega)).symm).trans hSr
        have eS2 : (fU M9 (3100 + tHn U) (.inr (8, hV (upd (upd (upd f0 0 c0) 1 w0) 2 z0)))) (3100 + tHn U) = some (.inr (8, hV (upd (upd (upd f0 0 c0) 1 w0) 2 z0))) := fU_s
        refine lv_aload hx hb dX8_build_70 (lv_at hl 1 rfl) ?_
        refine lv_aload_n hx hb dX8_build_72 rfl (lv_at hl 2 rfl) ?_
        refine f_adr (ad := ad2) (lb := 3000) ((eA2 3000 (by omega)).trans (eA1 3000 (by omega))) ?_
        refine f_get X hw hS9 fc9 1 (by decide) wq622 rfl (v := .ref (ad 3001)) rfl dX8_build_73 ?_
        refine f_adr (ad := ad2) (lb := 3001) ((eA2 3001 (by omega)).trans (eA1 3001 (by omega))) ?_
        refine f_alen X hw 4 hSr rfl dX8_build_76 ?_
        refine lv_aload hx hb dX8_build_77 (lv_at hl 0 rfl) ?_
        refine f_adr (ad := ad2) (lb := 3100 + tHn U) eq2 ?_
        refine f_adr3 (ad := ad2) (lb := 3410) (eA2 3410 (by omega)) ?_
        refine f_aastY X hw (lb := 3410) (lb2 := 3100 + tHn U) (n := tHn U + 1) hA9 eS2 (vp_in_nI (n := tHn U) (by omega) (by omega)) dX8_build_79 (fun H locs hw => ?_)
        rw [nI_clamp (n := tHn U) (by omega)] at hw
        have hw : fw g ad2 (fU (fU M9 (3100 + tHn U) (.inr (8, hV (upd (upd (upd f0 0 c0) 1 w0) 2 z0)))) 3410 (.inl (gY g, tHn U + 1, .inr (.inr (.inr (.inr (va_up F8 (tHn U) (some (ad2 (3100 + tHn U)))))))))) s H locs := hw
        have eS2 : (fU (fU M9 (3100 + tHn U) (.inr (8, hV (upd (upd (upd f0 0 c0) 1 w0) 2 z0)))) 3410 (.inl (gY g, tHn U + 1, .inr (.inr (.inr (.inr (va_up F8 (tHn U) (some (ad2 (3100 + tHn U)))))))))) (3100 + tHn U) = some (.inr (8, hV (upd (upd (upd f0 0 c0) 1 w0) 2 z0))) := (fU_n (by omega)).trans eS2
        have hS9 : (fU (fU M9 (3100 + tHn U) (.inr (8, hV (upd (upd (upd f0 0 c0) 1 w0) 2 z0)))) 3410 (.inl (gY g, tHn U + 1, .inr (.inr (.inr (.inr (va_up F8 (tHn U) (some (ad2 (3100 + tHn U)))))))))) 3000 = some (.inr (9, [.int (tM U), .ref (ad 3001), .ref (ad 3002), .ref (ad 3003)])) := (fU_n (by omega)).trans hS9
        have hSr : (fU (fU M9 (3100 + tHn U) (.inr (8, hV (upd (upd (upd f0 0 c0) 1 w0) 2 z0)))) 3410 (.inl (gY g, tHn U + 1, .inr (.inr (.inr (.inr (va_up F8 (tHn U) (some (ad2 (3100 + tHn U)))))))))) 3001 = some (.inl (gY g, tHn U, .inr (.inr (.inr (.inr fHh))))) := (fU_n (by omega)).trans hSr
        have hA9 : (fU (fU M9 (3100 + tHn U) (.inr (8, hV (upd (upd (upd f0 0 c0) 1 w0) 2 z0)))) 3410 (.inl (gY g, tHn U + 1, .inr (.inr (.inr (.inr (va_up F8 (tHn U) (some (ad2 (3100 + tHn U)))))))))) 3410 = some (.inl (gY g, tHn U + 1, .inr (.inr (.inr (.inr (va_up F8 (tHn U) (some (ad2 (3100 + tHn U))))))))) := fU_s
        refine lv_aload_n hx hb dX8_build_80 rfl (lv_at hl 2 rfl) ?_
        refine lv_aload hx hb dX8_build_81 (lv_at hl 1 rfl) ?_
        refine f_adr2 (ad := ad2) (lb := 3000) ((eA2 3000 (by omega)).trans (eA1 3000 (by omega))) ?_
        refine f_put X hw hS9 fc9 1 (by decide) wq622 rfl rfl (v := .ref (ad1 3410)) rfl rfl (Nat.le_of_ble_eq_true rfl) dX8_build_83 (fun H locs hw => ?_)
        have hw : fw g ad2 (fU (fU (fU M9 (3100 + tHn U) (.inr (8, hV (upd (upd (upd f0 0 c0) 1 w0) 2 z0)))) 3410 (.inl (gY g, tHn U + 1, .inr (.inr (.inr (.inr (va_up F8 (tHn U) (some (ad2 (3100 + tHn U)))))))))) 3000 (.inr (9, [.int (tM U), .ref (ad1 3410), .ref (ad 3002), .ref (ad 3003)]))) s H locs := hw
        have eS2 : (fU (fU (fU M9 (3100 + tHn U) (.inr (8, hV (upd (upd (upd f0 0 c0) 1 w0) 2 z0)))) 3410 (.inl (gY g, tHn U + 1, .inr (.inr (.inr (.inr (va_up F8 (tHn U) (some (ad2 (3100 + tHn U)))))))))) 3000 (.inr (9, [.int (tM U), .ref (ad1 3410), .ref (ad 3002), .ref (ad 3003)]))) (3100 + tHn U) = some (.inr (8, hV (upd (upd (upd f0 0 c0) 1 w0) 2 z0))) := (fU_n (by omega)).trans eS2
        have hA9 : (fU (fU (fU M9 (3100 + tHn U) (.inr (8, hV (upd (upd (upd f0 0 c0) 1 w0) 2 z0)))) 3410 (.inl (gY g, tHn U + 1, .inr (.inr (.inr (.inr (va_up F8 (tHn U) (some (ad2 (3100 + tHn U)))))))))) 3000 (.inr (9, [.int (tM U), .ref (ad1 3410), .ref (ad 3002), .ref (ad 3003)]))) 3410 = some (.inl (gY g, tHn U + 1, .inr (.inr (.inr (.inr (va_up F8 (tHn U) (some (ad2 (3100 + tHn U))))))))) := (fU_n (by omega)).trans hA9
        have hSr : (fU (fU (fU M9 (3100 + tHn U) (.inr (8, hV (upd (upd (upd f0 0 c0) 1 w0) 2 z0)))) 3410 (.inl (gY g, tHn U + 1, .inr (.inr (.inr (.inr (va_up F8 (tHn U) (some (ad2 (3100 + tHn U)))))))))) 3000 (.inr (9, [.int (tM U), .ref (ad1 3410), .ref (ad 3002), .ref (ad 3003)]))) 3001 = some (.inl (gY g, tHn U, .inr (.inr (.inr (.inr fHh))))) := (fU_n (by omega)).trans hSr
        have hS9 : (fU (fU (fU M9 (3100 + tHn U) (.inr (8, hV (upd (upd (upd f0 0 c0) 1 w0) 2 z0)))) 3410 (.inl (gY g, tHn U + 1, .inr (.inr (.inr (.inr (va_up F8 (tHn U) (some (ad2 (3100 + tHn U)))))))))) 3000 (.inr (9, [.int (tM U), .ref (ad1 3410), .ref (ad 3002), .ref (ad 3003)]))) 3000 = some (.inr (9, [.int (tM U), .ref (ad1 3410), .ref (ad 3002), .ref (ad 3003)])) := fU_s
        have hF9 : ∀ i, i < tHn U + 1 → (va_up F8 (tHn U) (some (ad2 (3100 + tHn U)))) i = some (ad2 (3100 + i)) := fun i hi => by
          by_cases q : i = tHn U
          · rw [q]; exact if_pos rfl
          · exact (if_neg q).trans ((hF i (by omega)).trans (congrArg some (eA2 (3100 + i) (by omega)).symm))
        have hR9 : ∀ l, l ≠ 3000 → l ≠ 3410 → l ≠ 3100 + tHn U → ad2 l = ad l ∧ (fU (fU (fU M9 (3100 + tHn U) (.inr (8, hV (upd (upd (upd f0 0 c0) 1 w0) 2 z0)))) 3410 (.inl (gY g, tHn U + 1, .inr (.inr (.inr (.inr (va_up F8 (tHn U) (some (ad2 (3100 + tHn U)))))))))) 3000 (.inr (9, [.int (tM U), .ref (ad1 3410), .ref (ad 3002), .ref (ad 3003)]))) l = M l := fun l a b c => ⟨(eA2 l c).trans (eA1 l b), by
          simp only [fU, if_neg a, if_neg b, if_neg c]
          exact (eM2 l c).trans ((hR l b).trans (eM1 l b))⟩
        have hwf := fw_move hw (lx := 3410) (la := 3001) hA9 (by omega) (by omega)
        refine f_vret X hwf ⟨isSim_addH hS (by omega) (by rw [eA2 3410 (by omega), eA2 3002 (by omega), eA1 3002 (by omega), eA2 3003 (by omega), eA1 3003 (by omega)]; exact hS9) hA9 hF9 eS2 (fun l a b c d => hR9 l c (by omega) d), fun l a b => ?_, (fV_n (by omega)).trans ((eA2 3000 (by omega)).trans (eA1 3000 (by omega)))⟩ (by omega) (by omega) dX8_build_86
        have q := hR9 l (by omega) (by omega) (by omega)
        exact ⟨(fV_n (by omega)).trans q.1, (if_neg (by omega)).trans ((if_neg (by omega)).trans q.2)⟩
      · have c_1 := nI_nle' (a := (tHn U)) (b := k) c_1 (by omega) (by omega)
        refine lv_aload hx hb dX8_build_25 (lv_at hl 1 rfl) ?_
        refine lv_iload hx hb dX8_build_27 (lv_at hl 0 rfl) ?_
        refine lv_aload_n hx hb dX8_build_29 rfl (lv_at hl 2 rfl) ?_
        refine f_adr (ad := ad1) (lb := 3000) (eA1 3000 (by omega)) ?_
        refine f_get X hw hS0 fc9 1 (by decide) wq622 rfl (v := .ref (ad 3001)) rfl dX8_build_30 ?_
        refine lv_iload hx hb dX8_build_33 (lv_at hl 0 rfl) ?_
        refine f_adr2 (ad := ad1) (lb := 3001) (eA1 3001 (by omega)) ?_
        refine f_aaldY X hw hSh (vp_in_nI (n := k) (by omega) (by omega)) (q := ad1 (3100 + k)) (by rw [nI_clamp (by omega)]; exact ((hSH k (by omega)).trans (congrArg some (eA1 (3100 + k) (by omega)).symm))) dX8_build_35 ?_
        refine f_aastY X hw (lb := 3410) (lb2 := 3100 + k) (n := tHn U + 1) hA (hHs k (by omega)) (vp_in_nI (n := k) (by omega) (by omega)) dX8_build_36 (fun H locs hw => ?_)
        rw [nI_clamp (n := k) (by omega)] at hw
        refine lv_iinc (v := nI (k + 1)) (lv' := [(5, .int (nI (k + 1))), (4, .ref (ad1 3410)), (0, .ref (ad 3000)), (1, .int c0), (2, .int w0), (3, .int z0)]) hx hb dX8_build_37 hl (k := 0) rfl (nI_1 k) (by decide) rfl (fun ls hl => ?_)
        refine lv_goto (tgt := 15) hx hb dX8_build_40 (by decide) ?_
        have hF2 : ∀ i, i < k + 1 → va_up F8 k (some (ad1 (3100 + k))) i = some (ad1 (3100 + i)) := fun i hi => by
          by_cases q : i = k
          · rw [q]; exact if_pos rfl
          · exact (if_neg q).trans (hF i (by omega))
        exact ih (k + 1) (by omega) (by omega) _ _ fU_s hF2 (fun l z => (fU_n z).trans (hR l z)) ls _ _ hw (lv_sub hl [0, 1, 2, 3, 4, 5] rfl)
  exact loop15 (tHn U + 1) 0 (by omega) (by omega) Mn1 _ eS1 (fun i h => absurd h (Nat.not_lt_zero _)) (fun _ _ => rfl) ls _ _ hw (lv_sub hl [0, 1, 2, 3, 4, 5] rfl)
set_option maxHeartbeats 4000000 in
set_option maxRecDepth 100000 in
theorem c_s_come (l : Launch) (g : fG) (ad : Nat → Nat) (M : fM) {U : fTn} (hS : isSim g ad M U) (c0 w0 z0 : Int32) (hlim : tEn U < 6) : fCv l g yX8_come cX8_come 6 2 40 2 20 ad M [.ref (ad 3000), .int c0, .int w0, .int z0] (fSb g ad M (addE U (nwE c0 w0 z0))) := by
  refine f_body (own := RX8) (by decide +kernel) rfl (Nat.le_of_ble_eq_true rfl) ?_
  intro p e s m args below meth c ls X hw hin hl
  have hx := X.1
  have hb := X.2.1
  have hl : lv_has ls 6 [(0, .ref (ad 3000)), (1, .int c0), (2, .int w0), (3, .int z0)] := hl
  obtain ⟨hS0, ⟨fHh, hSh, hSH⟩, ⟨fEe, hSe, hSE⟩, ⟨fPp, hSp, hSP⟩, hHs, hEs, hPs, hn1, hn3, hn2⟩ := id hS
  refine lv_aload_n hx hb dX8_come_0 rfl (lv_at hl 0 rfl) ?_
  refine f_get X hw hS0 fc9 2 (by decide) wq624 rfl (v := .ref (ad 3002)) rfl dX8_come_1 ?_
  refine f_alen X hw 5 hSe rfl dX8_come_4 ?_
  refine lv_iconst (v := 1) hx hb dX8_come_5 (by decide) ?_
  refine lv_iadd hx hb dX8_come_6 ?_
  refine f_top (y := nI (tEn U + 1)) (nI_1 (tEn U)) ?_
  refine f_newW X hw 3410 (by omega) wq617 (n := nI (tEn U + 1)) (N' := tEn U + 1) (nI_pos (by omega)) (nI_clamp (by omega)) (by omega) (by dsimp only [fR]; omega) (by dsimp only [fR]; omega) dX8_come_7 (fun q1 H hw => ?_)
  obtain ⟨ad1, ea1⟩ : ∃ z, z = fV ad 3410 q1 := ⟨_, rfl⟩
  have eq1 : ad1 3410 = q1 := by rw [ea1]; exact fV_s
  have eA1 : ∀ l, l ≠ 3410 → ad1 l = ad l := fun l h => by rw [ea1]; exact fV_n h
  rw [← ea1] at hw
  obtain ⟨Mn1, em1⟩ : ∃ z, z = fU M 3410 (.inl (gW g, tEn U + 1, .inr (.inr (.inr (.inr (fun _ => none)))))) := ⟨_, rfl⟩
  have eM1 : ∀ l, l ≠ 3410 → Mn1 l = M l := fun l h => by rw [em1]; exact fU_n h
  have eS1 : Mn1 3410 = some (.inl (gW g, tEn U + 1, .inr (.inr (.inr (.inr (fun _ => none)))))) := by rw [em1]; exact fU_s
  rw [← em1] at hw
  have hS0 : Mn1 3000 = some (.inr (9, [.int (tM U), .ref (ad 3001), .ref (ad 3002), .ref (ad 3003)])) := (eM1 _ (by omega)).trans hS0
  have hSh : Mn1 3001 = some (.inl (gY g, tHn U, .inr (.inr (.inr (.inr fHh))))) := (eM1 _ (by omega)).trans hSh
  have hSe : Mn1 3002 = some (.inl (gW g, tEn U, .inr (.inr (.inr (.inr fEe))))) := (eM1 _ (by omega)).trans hSe
  have hSp : Mn1 3003 = some (.inl (gQ g, tPn U, .inr (.inr (.inr (.inr fPp))))) := (eM1 _ (by omega)).trans hSp
  refine f_adr (ad := ad1) (lb := 3410) eq1 ?_
  refine lv_astore (lv' := [(4, .ref (ad1 3410)), (0, .ref (ad 3000)), (1, .int c0), (2, .int w0), (3, .int z0)]) hx hb dX8_come_10 hl (by decide) rfl (fun ls hl => ?_)
  refine lv_iconst (v := 0) hx hb dX8_come_12 (by decide) ?_
  refine lv_istore (lv' := [(5, .int 0), (4, .ref (ad1 3410)), (0, .ref (ad 3000)), (1, .int c0), (2, .int w0), (3, .int z0)]) hx hb dX8_come_13 hl (by decide) rfl (fun ls hl => ?_)
  have loop15 : ∀ (n k : Nat), k ≤ tEn U → tEn U < k + n → ∀ (M8 : fM) (F8 : Nat → Option Nat) (hA : M8 3410 = some (.inl (gW g, tEn U + 1, .inr (.inr (.inr (.inr F8)))))) (hF : ∀ i, i < k → F8 i = some (ad1 (3300 + i))) (hR : ∀ l, l ≠ 3410 → M8 l = Mn1 l) (ls : Array Slot) (H : Heap) (locs : List Loc), fw g ad1 M8 s H locs → lv_has ls 6 [(5, .int (nI k)), (4, .ref (ad1 3410)), (0, .ref (ad 3000)), (1, .int c0), (2, .int w0), (3, .int z0)] → W p l e (fR 2 40 2 20) s m args below meth c H locs (0 + 1) (0 + (tEn U + 1)) (MQ below (fQv g (fSb g ad M (addE U (nwE c0 w0 z0)))) args s 2 20 (fA g)) (F0 m 15 ls []) := by
    intro n
    induction n with
    | zero => intro k h1 h2; omega
    | succ n ih =>
      intro k hk_ hn_ M8 F8 hA hF hR ls H locs hw hl
      have hS0 : M8 3000 = some (.inr (9, [.int (tM U), .ref (ad 3001), .ref (ad 3002), .ref (ad 3003)])) := (hR _ (by omega)).trans hS0
      have hSh : M8 3001 = some (.inl (gY g, tHn U, .inr (.inr (.inr (.inr fHh))))) := (hR _ (by omega)).trans hSh
      have hSe : M8 3002 = some (.inl (gW g, tEn U, .inr (.inr (.inr (.inr fEe))))) := (hR _ (by omega)).trans hSe
      have hSp : M8 3003 = some (.inl (gQ g, tPn U, .inr (.inr (.inr (.inr fPp))))) := (hR _ (by omega)).trans hSp
      have hHs : ∀ i, i < tHn U → M8 (3100 + i) = some (.inr (8, hV (tH U i))) := fun i hi => (hR _ (by omega)).trans ((eM1 _ (by omega)).trans (hHs i hi))
      have hEs : ∀ i, i < tEn U → M8 (3300 + i) = some (.inr (7, gV (tE U i))) := fun i hi => (hR _ (by omega)).trans ((eM1 _ (by omega)).trans (hEs i hi))
      have hPs : ∀ i, i < tPn U → M8 (3200 + i) = some (.inl (gI g, 2, .inl (tP U i))) := fun i hi => (hR _ (by omega)).trans ((eM1 _ (by omega)).trans (hPs i hi))
      refine lv_iload hx hb dX8_come_15 (lv_at hl 0 rfl) ?_
      refine lv_aload_n hx hb dX8_come_17 rfl (lv_at hl 2 rfl) ?_
      refine f_adr (ad := ad1) (lb := 3000) (eA1 3000 (by omega)) ?_
      refine f_get X hw hS0 fc9 2 (by decide) wq624 rfl (v := .ref (ad 3002)) rfl dX8_come_18 ?_
      refine f_adr (ad := ad1) (lb := 3002) (eA1 3002 (by omega)) ?_
      refine f_alen X hw 5 hSe rfl dX8_come_21 ?_
      refine lv_icmp_ge (tgt := 43) hx hb dX8_come_22 (by decide) (fun c_1 => ?_) (fun c_1 => ?_)
      · have c_1 := nI_le' (a := (tEn U)) (b := k) c_1 (by omega) (by omega)
        have ek : k = tEn U := by omega
        refine f_new X hw (3300 + tEn U) (by omega) fc7 wq617 wq762 wq24 (fs := [.int 0, .int 0, .int 0, .int 0, .int 0, .int 0, .int 0, .int 0, .int 0]) (by intro j hj; rcases (show j = 0 ∨ j = 1 ∨ j = 2 ∨ j = 3 ∨ j = 4 ∨ j = 5 ∨ j = 6 ∨ j = 7 ∨ j = 8 by omega) with rfl | rfl | rfl | rfl | rfl | rfl | rfl | rfl | rfl <;> rfl) (by dsimp only [fR]; omega) (by dsimp only [fR]; omega) dX8_come_43 (fun q2 H hw => ?_)
        obtain ⟨ad2, ea2⟩ : ∃ z, z = fV ad1 (3300 + tEn U) q2 := ⟨_, rfl⟩
        have eq2 : ad2 (3300 + tEn U) = q2 := by rw [ea2]; exact fV_s
        have eA2 : ∀ l, l ≠ 3300 + tEn U → ad2 l = ad1 l := fun l h => by rw [ea2]; exact fV_n h
        rw [← ea2] at hw
        obtain ⟨M9, em2⟩ : ∃ z, z = fU M8 (3300 + tEn U) (.inr (7, gV f0)) := ⟨_, rfl⟩
        have eM2 : ∀ l, l ≠ 3300 + tEn U → M9 l = M8 l := fun l h => by rw [em2]; exact fU_n h
        have eS2 : M9 (3300 + tEn U) = some (.inr (7, gV f0)) := by rw [em2]; exact fU_s
        have hw : fw g ad2 (fU M8 (3300 + tEn U) (.inr (7, gV f0))) s H locs := hw
        rw [← em2] at hw
        have hA9 : M9 3410 = some (.inl (gW g, tEn U + 1, .inr (.inr (.inr (.inr F8))))) := (eM2 _ (by omega)).trans hA
        have hS9 : M9 3000 = some (.inr (9, [.int (tM U), .ref (ad 3001), .ref (ad 3002), .ref (ad 3003)])) := (eM2 _ (by omega)).trans hS0
        have hSr : M9 3002 = some (.inl (gW g, tEn U, .inr (.inr (.inr (.inr fEe))))) := (eM2 _ (by omega)).trans hSe
        refine lv_dup hx hb dX8_come_46 rfl ?_
        refine f_adr (ad := ad2) (lb := 3300 + tEn U) eq2 ?_
        refine fk_dv (fcIN X hw (c_X6_init l g ad2 M9 (le := 3300 + tEn U) eS2) wn763 kIX6_init ⟨(Nat.le_of_ble_eq_true rfl), (Nat.le_of_ble_eq_true rfl)⟩ rfl hl.1 rfl (Nat.le_of_ble_eq_true rfl) dX8_come_47 ⟨(by dsimp only [fR]; omega), (by dsimp only [fR]; omega)⟩) hw (fun H locs hw => ?_)
        have hw : fw g ad2 (fU M9 (3300 + tEn U) (.inr (7, gV gw0))) s H locs := hw
        have hA9 : (fU M9 (3300 + tEn U) (.inr (7, gV gw0))) 3410 = some (.inl (gW g, tEn U + 1, .inr (.inr (.inr (.inr F8))))) := (fU_n (by omega)).trans hA9
        have hS9 : (fU M9 (3300 + tEn U) (.inr (7, gV gw0))) 3000 = some (.inr (9, [.int (tM U), .ref (ad 3001), .ref (ad 3002), .ref (ad 3003)])) := (fU_n (by omega)).trans hS9
        have hSr : (fU M9 (3300 + tEn U) (.inr (7, gV gw0))) 3002 = some (.inl (gW g, tEn U, .inr (.inr (.inr (.inr fEe))))) := (fU_n (by omega)).trans hSr
        have eS2 : (fU M9 (3300 + tEn U) (.inr (7, gV gw0))) (3300 + tEn U) = some (.inr (7, gV gw0)) := fU_s
        refine lv_astore (lv' := [(5, .ref q2), (4, .ref (ad1 3410)), (0, .ref (ad 3000)), (1, .int c0), (2, .int w0), (3, .int z0)]) hx hb dX8_come_50 hl (by decide) rfl (fun ls hl => ?_)
        refine lv_aload hx hb dX8_come_52 (lv_at hl 0 rfl) ?_
        refine lv_iload_n hx hb dX8_come_54 rfl (lv_at hl 3 rfl) ?_
        refine f_adr2 (ad := ad2) (lb := (3300 + tEn U)) eq2 ?_
        refine f_put X hw eS2 fc7 0 (by decide) wq767 rfl rfl (v := .int c0) rfl rfl (Nat.le_of_ble_eq_true rfl) dX8_come_55 (fun H locs hw => ?_)
        have hw : fw g ad2 (fU (fU M9 (3300 + tEn U) (.inr (7, gV gw0))) (3300 + tEn U) (.inr (7, gV (upd gw0 0 c0)))) s H locs := hw
        rw [fU_U] at hw
        have hA9 : (fU M9 (3300 + tEn U) (.inr (7, gV (upd gw0 0 c0)))) 3410 = some (.inl (gW g, tEn U + 1, .inr (.inr (.inr (.inr F8))))) := ((fU_n (by omega)).trans (fU_n (by omega)).symm).trans hA9
        have hS9 : (fU M9 (3300 + tEn U) (.inr (7, gV (upd gw0 0 c0)))) 3000 = some (.inr (9, [.int (tM U), .ref (ad 3001), .ref (ad 3002), .ref (ad 3003)])) := ((fU_n (by omega)).trans (fU_n (by omega)).symm).trans hS9
        have hSr : (fU M9 (3300 + tEn U) (.inr (7, gV (upd gw0 0 c0)))) 3002 = some (.inl (gW g, tEn U, .inr (.inr (.inr (.inr fEe))))) := ((fU_n (by omega)).trans (fU_n (by omega)).symm).trans hSr
        have eS2 : (fU M9 (3300 + tEn U) (.inr (7, gV (upd gw0 0 c0)))) (3300 + tEn U) = some (.inr (7, gV (upd gw0 0 c0))) := fU_s
        refine lv_aload hx hb dX8_come_58 (lv_at hl 0 rfl) ?_
        refine lv_iload_n hx hb dX8_come_60 rfl (lv_at hl 4 rfl) ?_
        refine f_adr2 (ad := ad2) (lb := (3300 + tEn U)) eq2 ?_
        refine f_put X hw eS2 fc7 1 (by decide) wq769 rfl rfl (v := .int w0) rfl rfl (Nat.le_of_ble_eq_true rfl) dX8_come_61 (fun H locs hw => ?_)
        have hw : fw g ad2 (fU (fU M9 (3300 + tEn U) (.inr (7, gV (upd gw0 0 c0)))) (3300 + tEn U) (.inr (7, gV (upd (upd gw0 0 c0) 1 w0)))) s H locs := hw
        rw [fU_U] at hw
        have hA9 : (fU M9 (3300 + tEn U) (.inr (7, gV (upd (upd gw0 0 c0) 1 w0)))) 3410 = some (.inl (gW g, tEn U + 1, .inr (.inr (.inr (.inr F8))))) := ((fU_n (by omega)).trans (fU_n (by omega)).symm).trans hA9
        have hS9 : (fU M9 (3300 + tEn U) (.inr (7, gV (upd (upd gw0 0 c0) 1 w0)))) 3000 = some (.inr (9, [.int (tM U), .ref (ad 3001), .ref (ad 3002), .ref (ad 3003)])) := ((fU_n (by omega)).trans (fU_n (by omega)).symm).trans hS9
        have hSr : (fU M9 (3300 + tEn U) (.inr (7, gV (upd (upd gw0 0 c0) 1 w0)))) 3002 = some (.inl (gW g, tEn U, .inr (.inr (.inr (.inr fEe))))) := ((fU_n (by omega)).trans (fU_n (by omega)).symm).trans hSr
        have eS2 : (fU M9 (3300 + tEn U) (.inr (7, gV (upd (upd gw0 0 c0) 1 w0)))) (3300 + tEn U) = some (.inr (7, gV (upd (upd gw0 0 c0) 1 w0))) := fU_s
        refine lv_aload hx hb dX8_come_64 (lv_at hl 0 rfl) ?_
        refine lv_iload_n hx hb dX8_come_66 rfl (lv_at hl 5 rfl) ?_
        refine f_adr2 (ad := ad2) (lb := (3300 + tEn U)) eq2 ?_
        refine f_put X hw eS2 fc7 2 (by decide) wq772 rfl rfl (v := .int z0) rfl rfl (Nat.le_of_ble_eq_true rfl) dX8_come_67 (fun H locs hw => ?_)
        have hw : fw g ad2 (fU (fU M9 (3300 + tEn U) (.inr (7, gV (upd (upd gw0 0 c0) 1 w0)))) (3300 + tEn U) (.inr (7, gV (upd (upd (upd gw0 0 c0) 1 w0) 2 z0)))) s H locs := hw
        rw [fU_U] at hw
        have hA9 : (fU M9 (3300 + tEn U) (.inr (7, gV (upd (upd (upd gw0 0 c0) 1 w0) 2 z0)))) 3410 = some (.inl (gW g, tEn U + 1, .inr (.inr (.inr (.inr F8))))) := ((fU_n (by omega)).trans (fU_n (by omega)).symm).trans hA9
        have hS9 : (fU M9 (3300 + tEn U) (.inr (7, gV (upd (upd (upd gw0 0 c0) 1 w0) 2 z0)))) 3000 = some (.inr (9, [.int (tM U), .ref (ad 3001), .ref (ad 3002), .ref (ad 3003)])) := ((fU_n (by omega)).trans (fU_n (by omega)).symm).trans hS9
        have hSr : (fU M9 (3300 + tEn U) (.inr (7, gV (upd (upd (upd gw0 0 c0) 1 w0) 2 z0)))) 3002 = some (.inl (gW g, tEn U, .inr (.inr (.inr (.inr fEe))))) := ((fU_n (by omega)).trans (fU_n (by omega)).symm).trans hSr
        have eS2 : (fU M9 (3300 + tEn U) (.inr (7, gV (upd (upd (upd gw0 0 c0) 1 w0) 2 z0)))) (3300 + tEn U) = some (.inr (7, gV (upd (upd (upd gw0 0 c0) 1 w0) 2 z0))) := fU_s
        refine lv_aload hx hb dX8_come_70 (lv_at hl 1 rfl) ?_
        refine lv_aload_n hx hb dX8_come_72 rfl (lv_at hl 2 rfl) ?_
        refine f_adr (ad := ad2) (lb := 3000) ((eA2 3000 (by omega)).trans (eA1 3000 (by omega))) ?_
        refine f_get X hw hS9 fc9 2 (by decide) wq624 rfl (v := .ref (ad 3002)) rfl dX8_come_73 ?_
        refine f_adr (ad := ad2) (lb := 3002) ((eA2 3002 (by omega)).trans (eA1 3002 (by omega))) ?_
        refine f_alen X hw 5 hSr rfl dX8_come_76 ?_
        refine lv_aload hx hb dX8_come_77 (lv_at hl 0 rfl) ?_
        refine f_adr (ad := ad2) (lb := 3300 + tEn U) eq2 ?_
        refine f_adr3 (ad := ad2) (lb := 3410) (eA2 3410 (by omega)) ?_
        refine f_aastW X hw (lb := 3410) (lb2 := 3300 + tEn U) (n := tEn U + 1) hA9 eS2 (vp_in_nI (n := tEn U) (by omega) (by omega)) dX8_come_79 (fun H locs hw => ?_)
        rw [nI_clamp (n := tEn U) (by omega)] at hw
        have hw : fw g ad2 (fU (fU M9 (3300 + tEn U) (.inr (7, gV (upd (upd (upd gw0 0 c0) 1 w0) 2 z0)))) 3410 (.inl (gW g, tEn U + 1, .inr (.inr (.inr (.inr (va_up F8 (tEn U) (some (ad2 (3300 + tEn U)))))))))) s H locs := hw
        have eS2 : (fU (fU M9 (3300 + tEn U) (.inr (7, gV (upd (upd (upd gw0 0 c0) 1 w0) 2 z0)))) 3410 (.inl (gW g, tEn U + 1, .inr (.inr (.inr (.inr (va_up F8 (tEn U) (some (ad2 (3300 + tEn U)))))))))) (3300 + tEn U) = some (.inr (7, gV (upd (upd (upd gw0 0 c0) 1 w0) 2 z0))) := (fU_n (by omega)).trans eS2
        have hS9 : (fU (fU M9 (3300 + tEn U) (.inr (7, gV (upd (upd (upd gw0 0 c0) 1 w0) 2 z0)))) 3410 (.inl (gW g, tEn U + 1, .inr (.inr (.inr (.inr (va_up F8 (tEn U) (some (ad2 (3300 + tEn U)))))))))) 3000 = some (.inr (9, [.int (tM U), .ref (ad 3001), .ref (ad 3002), .ref (ad 3003)])) := (fU_n (by omega)).trans hS9
        have hSr : (fU (fU M9 (3300 + tEn U) (.inr (7, gV (upd (upd (upd gw0 0 c0) 1 w0) 2 z0)))) 3410 (.inl (gW g, tEn U + 1, .inr (.inr (.inr (.inr (va_up F8 (tEn U) (some (ad2 (3300 + tEn U)))))))))) 3002 = some (.inl (gW g, tEn U, .inr (.inr (.inr (.inr fEe))))) := (fU_n (by omega)).trans hSr
        have hA9 : (fU (fU M9 (3300 + tEn U) (.inr (7, gV (upd (upd (upd gw0 0 c0) 1 w0) 2 z0)))) 3410 (.inl (gW g, tEn U + 1, .inr (.inr (.inr (.inr (va_up F8 (tEn U) (some (ad2 (3300 + tEn U)))))))))) 3410 = some (.inl (gW g, tEn U + 1, .inr (.inr (.inr (.inr (va_up F8 (tEn U) (some (ad2 (3300 + tEn U))))))))) := fU_s
        refine lv_aload_n hx hb dX8_come_80 rfl (lv_at hl 2 rfl) ?_
        refine lv_aload hx hb dX8_come_81 (lv_at hl 1 rfl) ?_
        refine f_adr2 (ad := ad2) (lb := 3000) ((eA2 3000 (by omega)).trans (eA1 3000 (by omega))) ?_
        refine f_put X hw hS9 fc9 2 (by decide) wq624 rfl rfl (v := .ref (ad1 3410)) rfl rfl (Nat.le_of_ble_eq_true rfl) dX8_come_83 (fun H locs hw => ?_)
        have hw : fw g ad2 (fU (fU (fU M9 (3300 + tEn U) (.inr (7, gV (upd (upd (upd gw0 0 c0) 1 w0) 2 z0)))) 3410 (.inl (gW g, tEn U + 1, .inr (.inr (.inr (.inr (va_up F8 (tEn U) (some (ad2 (3300 + tEn U)))))))))) 3000 (.inr (9, [.int (tM U), .ref (ad 3001), .ref (ad1 3410), .ref (ad 3003)]))) s H locs := hw
        have eS2 : (fU (fU (fU M9 (3300 + tEn U) (.inr (7, gV (upd (upd (upd gw0 0 c0) 1 w0) 2 z0)))) 3410 (.inl (gW g, tEn U + 1, .inr (.inr (.inr (.inr (va_up F8 (tEn U) (some (ad2 (3300 + tEn U)))))))))) 3000 (.inr (9, [.int (tM U), .ref (ad 3001), .ref (ad1 3410), .ref (ad 3003)]))) (3300 + tEn U) = some (.inr (7, gV (upd (upd (upd gw0 0 c0) 1 w0) 2 z0))) := (fU_n (by omega)).trans eS2
        have hA9 : (fU (fU (fU M9 (3300 + tEn U) (.inr (7, gV (upd (upd (upd gw0 0 c0) 1 w0) 2 z0)))) 3410 (.inl (gW g, tEn U + 1, .inr (.inr (.inr (.inr (va_up F8 (tEn U) (some (ad2 (3300 + tEn U)))))))))) 3000 (.inr (9, [.int (tM U), .ref (ad 3001), .ref (ad1 3410), .ref (ad 3003)]))) 3410 = some (.inl (gW g, tEn U + 1, .inr (.inr (.inr (.inr (va_up F8 (tEn U) (some (ad2 (3300 + tEn U))))))))) := (fU_n (by omega)).trans hA9
        have hSr : (fU (fU (fU M9 (3300 + tEn U) (.inr (7, gV (upd (upd (upd gw0 0 c0) 1 w0) 2 z0)))) 3410 (.inl (gW g, tEn U + 1, .inr (.inr (.inr (.inr (va_up F8 (tEn U) (some (ad2 (3300 + tEn U)))))))))) 3000 (.inr (9, [.int (tM U), .ref (ad 3001), .ref (ad1 3410), .ref (ad 3003)]))) 3002 = some (.inl (gW g, tEn U, .inr (.inr (.inr (.inr fEe))))) := (fU_n (by omega)).trans hSr
        have hS9 : (fU (fU (fU M9 (3300 + tEn U) (.inr (7, gV (upd (upd (upd gw0 0 c0) 1 w0) 2 z0)))) 3410 (.inl (gW g, tEn U + 1, .inr (.inr (.inr (.inr (va_up F8 (tEn U) (some (ad2 (3300 + tEn U)))))))))) 3000 (.inr (9, [.int (tM U), .ref (ad 3001), .ref (ad1 3410), .ref (ad 3003)]))) 3000 = some (.inr (9, [.int (tM U), .ref (ad 3001), .ref (ad1 3410), .ref (ad 3003)])) := fU_s
        have hF9 : ∀ i, i < tEn U + 1 → (va_up F8 (tEn U) (some (ad2 (3300 + tEn U)))) i = some (ad2 (3300 + i)) := fun i hi => by
          by_cases q : i = tEn U
          · rw [q]; exact if_pos rfl
          · exact (if_neg q).trans ((hF i (by omega)).trans (congrArg some (eA2 (3300 + i) (by omega)).symm))
        have hR9 : ∀ l, l ≠ 3000 → l ≠ 3410 → l ≠ 3300 + tEn U → ad2 l = ad l ∧ (fU (fU (fU M9 (3300 + tEn U) (.inr (7, gV (upd (upd (upd gw0 0 c0) 1 w0) 2 z0)))) 3410 (.inl (gW g, tEn U + 1, .inr (.inr (.inr (.inr (va_up F8 (tEn U) (some (ad2 (3300 + tEn U)))))))))) 3000 (.inr (9, [.int (tM U), .ref (ad 3001), .ref (ad1 3410), .ref (ad 3003)]))) l = M l := fun l a b c => ⟨(eA2 l c).trans (eA1 l b), by
          simp only [fU, if_neg a, if_neg b, if_neg c]
          exact (eM2 l c).trans ((hR l b).trans (eM1 l b))⟩
        have hwf := fw_move hw (lx := 3410) (la := 3002) hA9 (by omega) (by omega)
        refine f_vret X hwf ⟨isSim_addE hS (by omega) (by rw [eA2 3410 (by omega), eA2 3001 (by omega), eA1 3001 (by omega), eA2 3003 (by omega), eA1 3003 (by omega)]; exact hS9) hA9 hF9 eS2 (fun l a b c d => hR9 l c (by omega) d), fun l a b => ?_, (fV_n (by omega)).trans ((eA2 3000 (by omega)).trans (eA1 3000 (by omega)))⟩ (by omega) (by omega) dX8_come_86
        have q := hR9 l (by omega) (by omega) (by omega)
        exact ⟨(fV_n (by omega)).trans q.1, (if_neg (by omega)).trans ((if_neg (by omega)).trans q.2)⟩
      · have c_1 := nI_nle' (a := (tEn U)) (b := k) c_1 (by omega) (by omega)
        refine lv_aload hx hb dX8_come_25 (lv_at hl 1 rfl) ?_
        refine lv_iload hx hb dX8_come_27 (lv_at hl 0 rfl) ?_
        refine lv_aload_n hx hb dX8_come_29 rfl (lv_at hl 2 rfl) ?_
        refine f_adr (ad := ad1) (lb := 3000) (eA1 3000 (by omega)) ?_
        refine f_get X hw hS0 fc9 2 (by decide) wq624 rfl (v := .ref (ad 3002)) rfl dX8_come_30 ?_
        refine lv_iload hx hb dX8_come_33 (lv_at hl 0 rfl) ?_
        refine f_adr2 (ad := ad1) (lb := 3002) (eA1 3002 (by omega)) ?_
        refine f_aaldW X hw hSe (vp_in_nI (n := k) (by omega) (by omega)) (q := ad1 (3300 + k)) (by rw [nI_clamp (by omega)]; exact ((hSE k (by omega)).trans (congrArg some (eA1 (3300 + k) (by omega)).symm))) dX8_come_35 ?_
        refine f_aastW X hw (lb := 3410) (lb2 := 3300 + k) (n := tEn U + 1) hA (hEs k (by omega)) (vp_in_nI (n := k) (by omega) (by omega)) dX8_come_36 (fun H locs hw => ?_)
        rw [nI_clamp (n := k) (by omega)] at hw
        refine lv_iinc (v := nI (k + 1)) (lv' := [(5, .int (nI (k + 1))), (4, .ref (ad1 3410)), (0, .ref (ad 3000)), (1, .int c0), (2, .int w0), (3, .int z0)]) hx hb dX8_come_37 hl (k := 0) rfl (nI_1 k) (by decide) rfl (fun ls hl => ?_)
        refine lv_goto (tgt := 15) hx hb dX8_come_40 (by decide) ?_
        have hF2 : ∀ i, i < k + 1 → va_up F8 k (some (ad1 (3300 + k))) i = some (ad1 (3300 + i)) := fun i hi => by
          by_cases q : i = k
          · rw [q]; exact if_pos rfl
          · exact (if_neg q).trans (hF i (by omega))
        exact ih (k + 1) (by omega) (by omega) _ _ fU_s hF2 (fun l z => (fU_n z).trans (hR l z)) ls _ _ hw (lv_sub hl [0, 1, 2, 3, 4, 5] rfl)
  exact loop15 (tEn U + 1) 0 (by omega) (by omega) Mn1 _ eS1 (fun i h => absurd h (Nat.not_lt_zero _)) (fun _ _ => rfl) ls _ _ hw (lv_sub hl [0, 1, 2, 3, 4, 5] rfl)
