set_option maxHeartbeats 4000000 in
set_option maxRecDepth 100000 in
theorem c_X5_init (l : Launch) (g : fG) (ad : Nat → Nat) (M : fM) {v1 v2 v3 : Value} (hM : M 0 = some (.inr (6, [v1, v2, v3]))) : fCv l g yX5_init cX5_init 1 5 92 12 449 ad M [.ref (ad 0)] (fMkF g ad M) := by
  refine f_body (own := RX5) (by decide +kernel) rfl (Nat.le_of_ble_eq_true rfl) ?_
  intro p e s m args below meth c ls X hw hin hl
  have hx := X.1
  have hb := X.2.1
  have hl : lv_has ls 1 [(0, .ref (ad 0))] := hl
  refine lv_aload_n hx hb dX5_init_0 rfl (lv_at hl 0 rfl) ?_
  refine W.objInit hx hb X.2.2.2.1 (X.2.2.2.2.1 _ wq30) (X.2.2.2.2.1 _ wq31) (X.2.2.2.2.1 _ wq32) rfl (by rw [X.2.2.1]; exact hl.1) rfl dX5_init_1 (Nat.le_of_ble_eq_true rfl) (Nat.le_of_ble_eq_true rfl) ?_
  refine W.eq (g2 := F0 m 4 ls []) rfl ?_
  refine lv_aload_n hx hb dX5_init_4 rfl (lv_at hl 0 rfl) ?_
  refine f_new X hw 1 (by omega) fc2 wq33 wq34 wq2 (fs := [.null, .null, .null]) (by intro j hj; rcases (show j = 0 ∨ j = 1 ∨ j = 2 by omega) with rfl | rfl | rfl <;> rfl) (by dsimp only [fR]; omega) (by dsimp only [fR]; omega) dX5_init_5 (fun q1 H hw => ?_)
  obtain ⟨ad1, ea1⟩ : ∃ z, z = fV ad 1 q1 := ⟨_, rfl⟩
  have eq1 : ad1 1 = q1 := by rw [ea1]; exact fV_s
  have eA1 : ∀ l, l ≠ 1 → ad1 l = ad l := fun l h => by rw [ea1]; exact fV_n h
  rw [← ea1] at hw
  obtain ⟨Mn1, em1⟩ : ∃ z, z = fU M 1 (.inr (2, [.null, .null, .null])) := ⟨_, rfl⟩
  have eM1 : ∀ l, l ≠ 1 → Mn1 l = M l := fun l h => by rw [em1]; exact fU_n h
  have eS1 : Mn1 1 = some (.inr (2, [.null, .null, .null])) := by rw [em1]; exact fU_s
  rw [← em1] at hw
  have hM : Mn1 0 = some (.inr (6, [v1, v2, v3])) := (eM1 _ (by omega)).trans hM
  refine lv_dup hx hb dX5_init_8 rfl ?_
  refine f_adr (ad := ad1) (lb := 1) eq1 ?_
  refine fk_v (fcIN X hw (c_X1_init l g ad1 Mn1 eS1) wn35 kIX1_init ⟨(Nat.le_of_ble_eq_true rfl), (Nat.le_of_ble_eq_true rfl)⟩ rfl hl.1 rfl (Nat.le_of_ble_eq_true rfl) dX5_init_9 ⟨(by dsimp only [fR]; omega), (by dsimp only [fR]; omega)⟩) hw (fun ad2 Mn2 H locs hp2 hw => ?_)
  obtain ⟨hG2, hr2, hk2⟩ := hp2
  have hM : Mn2 0 = some (.inr (6, [v1, v2, v3])) := (hr2 _ (by omega) (by omega)).2.trans hM
  refine f_adr2 (ad := ad2) (lb := 0) (((hr2 0 (by omega) (by omega)).1).trans (eA1 0 (by omega))) ?_
  refine f_putF X hw hM fc6 0 (by decide) wq98 rfl rfl (hin rfl) rfl (v := .ref q1) rfl rfl (Nat.le_of_ble_eq_true rfl) dX5_init_12 (fun H locs hw => ?_)
  have hw : fw g ad2 (fU Mn2 0 (.inr (6, [.ref q1, v2, v3]))) s H locs := hw
  have hM : (fU Mn2 0 (.inr (6, [.ref q1, v2, v3]))) 0 = some (.inr (6, [.ref q1, v2, v3])) := fU_s
  refine lv_aload_n hx hb dX5_init_15 rfl (lv_at hl 0 rfl) ?_
  refine f_new X hw 1000 (by omega) fc5 wq50 wq51 wq3 (fs := [.int 0, .null, .null, .null]) (by intro j hj; rcases (show j = 0 ∨ j = 1 ∨ j = 2 ∨ j = 3 by omega) with rfl | rfl | rfl | rfl <;> rfl) (by dsimp only [fR]; omega) (by dsimp only [fR]; omega) dX5_init_16 (fun q3 H hw => ?_)
  obtain ⟨ad3, ea3⟩ : ∃ z, z = fV ad2 1000 q3 := ⟨_, rfl⟩
  have eq3 : ad3 1000 = q3 := by rw [ea3]; exact fV_s
  have eA3 : ∀ l, l ≠ 1000 → ad3 l = ad2 l := fun l h => by rw [ea3]; exact fV_n h
  rw [← ea3] at hw
  obtain ⟨Mn3, em3⟩ : ∃ z, z = fU (fU Mn2 0 (.inr (6, [.ref q1, v2, v3]))) 1000 (.inr (5, [.int 0, .null, .null, .null])) := ⟨_, rfl⟩
  have eM3 : ∀ l, l ≠ 1000 → Mn3 l = (fU Mn2 0 (.inr (6, [.ref q1, v2, v3]))) l := fun l h => by rw [em3]; exact fU_n h
  have eS3 : Mn3 1000 = some (.inr (5, [.int 0, .null, .null, .null])) := by rw [em3]; exact fU_s
  rw [← em3] at hw
  have hM : Mn3 0 = some (.inr (6, [.ref q1, v2, v3])) := (eM3 _ (by omega)).trans hM
  refine lv_dup hx hb dX5_init_19 rfl ?_
  refine f_adr (ad := ad3) (lb := 1000) eq3 ?_
  refine fk_v (fcIN X hw (c_X4_init l g ad3 Mn3 (by omega) eS3) wn52 kIX4_init ⟨(Nat.le_of_ble_eq_true rfl), (Nat.le_of_ble_eq_true rfl)⟩ rfl hl.1 rfl (Nat.le_of_ble_eq_true rfl) dX5_init_20 ⟨(by dsimp only [fR]; omega), (by dsimp only [fR]; omega)⟩) hw (fun ad4 Mn4 H locs hp4 hw => ?_)
  obtain ⟨hG4, hr4, hk4⟩ := hp4
  have hM : Mn4 0 = some (.inr (6, [.ref q1, v2, v3])) := (hr4 _ (by omega) (by omega)).2.trans hM
  refine f_adr2 (ad := ad4) (lb := 0) (((hr4 0 (by omega) (by omega)).1).trans ((eA3 0 (by omega)).trans (((hr2 0 (by omega) (by omega)).1).trans (eA1 0 (by omega))))) ?_
  refine f_putF X hw hM fc6 1 (by decide) wq99 rfl rfl (hin rfl) rfl (v := .ref q3) rfl rfl (Nat.le_of_ble_eq_true rfl) dX5_init_23 (fun H locs hw => ?_)
  have hw : fw g ad4 (fU Mn4 0 (.inr (6, [.ref q1, .ref q3, v3]))) s H locs := hw
  have hM : (fU Mn4 0 (.inr (6, [.ref q1, .ref q3, v3]))) 0 = some (.inr (6, [.ref q1, .ref q3, v3])) := fU_s
  refine lv_aload_n hx hb dX5_init_26 rfl (lv_at hl 0 rfl) ?_
  refine f_new X hw 2000 (by omega) fc5 wq50 wq51 wq3 (fs := [.int 0, .null, .null, .null]) (by intro j hj; rcases (show j = 0 ∨ j = 1 ∨ j = 2 ∨ j = 3 by omega) with rfl | rfl | rfl | rfl <;> rfl) (by dsimp only [fR]; omega) (by dsimp only [fR]; omega) dX5_init_27 (fun q5 H hw => ?_)
  obtain ⟨ad5, ea5⟩ : ∃ z, z = fV ad4 2000 q5 := ⟨_, rfl⟩
  have eq5 : ad5 2000 = q5 := by rw [ea5]; exact fV_s
  have eA5 : ∀ l, l ≠ 2000 → ad5 l = ad4 l := fun l h => by rw [ea5]; exact fV_n h
  rw [← ea5] at hw
  obtain ⟨Mn5, em5⟩ : ∃ z, z = fU (fU Mn4 0 (.inr (6, [.ref q1, .ref q3, v3]))) 2000 (.inr (5, [.int 0, .null, .null, .null])) := ⟨_, rfl⟩
  have eM5 : ∀ l, l ≠ 2000 → Mn5 l = (fU Mn4 0 (.inr (6, [.ref q1, .ref q3, v3]))) l := fun l h => by rw [em5]; exact fU_n h
  have eS5 : Mn5 2000 = some (.inr (5, [.int 0, .null, .null, .null])) := by rw [em5]; exact fU_s
  rw [← em5] at hw
  have hM : Mn5 0 = some (.inr (6, [.ref q1, .ref q3, v3])) := (eM5 _ (by omega)).trans hM
  refine lv_dup hx hb dX5_init_30 rfl ?_
  refine f_adr (ad := ad5) (lb := 2000) eq5 ?_
  refine fk_v (fcIN X hw (c_X4_init l g ad5 Mn5 (by omega) eS5) wn52 kIX4_init ⟨(Nat.le_of_ble_eq_true rfl), (Nat.le_of_ble_eq_true rfl)⟩ rfl hl.1 rfl (Nat.le_of_ble_eq_true rfl) dX5_init_31 ⟨(by dsimp only [fR]; omega), (by dsimp only [fR]; omega)⟩) hw (fun ad6 Mn6 H locs hp6 hw => ?_)
  obtain ⟨hG6, hr6, hk6⟩ := hp6
  have hM : Mn6 0 = some (.inr (6, [.ref q1, .ref q3, v3])) := (hr6 _ (by omega) (by omega)).2.trans hM
  refine f_adr2 (ad := ad6) (lb := 0) (((hr6 0 (by omega) (by omega)).1).trans ((eA5 0 (by omega)).trans (((hr4 0 (by omega) (by omega)).1).trans ((eA3 0 (by omega)).trans (((hr2 0 (by omega) (by omega)).1).trans (eA1 0 (by omega))))))) ?_
  refine f_putF X hw hM fc6 2 (by decide) wq100 rfl rfl (hin rfl) rfl (v := .ref q5) rfl rfl (Nat.le_of_ble_eq_true rfl) dX5_init_34 (fun H locs hw => ?_)
  have hw : fw g ad6 (fU Mn6 0 (.inr (6, [.ref q1, .ref q3, .ref q5]))) s H locs := hw
  have hM : (fU Mn6 0 (.inr (6, [.ref q1, .ref q3, .ref q5]))) 0 = some (.inr (6, [.ref q1, .ref q3, .ref q5])) := fU_s
  have x3 : fReg 1000 1001 ad2 (fU Mn2 0 (.inr (6, [.ref q1, v2, v3]))) ad3 Mn3 := by rw [ea3, em3]; exact fReg_V fReg_rf (by omega)
  have x5 : fReg 2000 2001 ad4 (fU Mn4 0 (.inr (6, [.ref q1, .ref q3, v3]))) ad5 Mn5 := by rw [ea5, em5]; exact fReg_V fReg_rf (by omega)
  have x1 : fReg 1 2 ad M ad1 Mn1 := by rw [ea1, em1]; exact fReg_V fReg_rf (by omega)
  have y2 : fReg 0 1 ad2 Mn2 ad2 (fU Mn2 0 (.inr (6, [.ref q1, v2, v3]))) := fReg_U fReg_rf (by omega)
  have y4 : fReg 0 1 ad4 Mn4 ad4 (fU Mn4 0 (.inr (6, [.ref q1, .ref q3, v3]))) := fReg_U fReg_rf (by omega)
  have y6 : fReg 0 1 ad6 Mn6 ad6 (fU Mn6 0 (.inr (6, [.ref q1, .ref q3, .ref q5]))) := fReg_U fReg_rf (by omega)
  have z46 : fReg 0 1000 ad4 Mn4 ad4 (fU Mn4 0 (.inr (6, [.ref q1, .ref q3, v3]))) := fReg_w y4 (by omega) (by omega)
  have w56 : fReg 2000 3000 ad4 (fU Mn4 0 (.inr (6, [.ref q1, .ref q3, v3]))) ad6 Mn6 := fReg_tr (fReg_w x5 (by omega) (by omega)) hr6
  have t1000 : isTown g ad6 (fU Mn6 0 (.inr (6, [.ref q1, .ref q3, .ref q5]))) 1000 T0 := isTown_reg (isTown_reg (isTown_reg hG4 y4 (by omega) (by omega)) w56 (by omega) (by omega)) y6 (by omega) (by omega)
  have t2000 : isTown g ad6 (fU Mn6 0 (.inr (6, [.ref q1, .ref q3, .ref q5]))) 2000 T0 := isTown_reg hG6 y6 (by omega) (by omega)
  have w34 : fReg 1000 2000 ad2 (fU Mn2 0 (.inr (6, [.ref q1, v2, v3]))) ad4 Mn4 := fReg_tr (fReg_w x3 (by omega) (by omega)) hr4
  have gr : isGround g ad6 (fU Mn6 0 (.inr (6, [.ref q1, .ref q3, .ref q5]))) f0 f0 f0 := isGround_0 (isGround_reg (isGround_0 (isGround_reg (isGround_0 hG2 y2) w34 (by omega)) y4) w56 (by omega)) y6
  have all : fReg 0 3000 ad M ad6 (fU Mn6 0 (.inr (6, [.ref q1, .ref q3, .ref q5]))) := fReg_tr (fReg_w x1 (by omega) (by omega)) (fReg_tr (fReg_w hr2 (by omega) (by omega)) (fReg_tr (fReg_w y2 (by omega) (by omega)) (fReg_tr (fReg_w w34 (by omega) (by omega)) (fReg_tr (fReg_w y4 (by omega) (by omega)) (fReg_tr (fReg_w w56 (by omega) (by omega)) (fReg_w y6 (by omega) (by omega)))))))
  exact f_vret X hw ⟨by unfold isFE; rw [hM, (((hr6 1 (by omega) (by omega)).1).trans ((eA5 1 (by omega)).trans (((hr4 1 (by omega) (by omega)).1).trans ((eA3 1 (by omega)).trans ((hk2).trans eq1))))), (((hr6 1000 (by omega) (by omega)).1).trans ((eA5 1000 (by omega)).trans ((hk4).trans eq3))), ((hk6).trans eq5)], gr, t1000, t2000, all, (((hr6 0 (by omega) (by omega)).1).trans ((eA5 0 (by omega)).trans (((hr4 0 (by omega) (by omega)).1).trans ((eA3 0 (by omega)).trans (((hr2 0 (by omega) (by omega)).1).trans (eA1 0 (by omega)))))))⟩ (by omega) (by omega) dX5_init_37
