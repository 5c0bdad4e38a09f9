set_option maxHeartbeats 4000000 in
set_option maxRecDepth 100000 in
theorem c_X1_init (l : Launch) (g : fG) (ad : Nat → Nat) (M : fM) {v1 v2 v3 : Value} (hM : M 1 = some (.inr (2, [v1, v2, v3]))) : fCv l g yX1_init cX1_init 1 1 12 3 420 ad M [.ref (ad 1)] (fMkG g ad M) := by
  refine f_body (own := RX1) (by decide +kernel) rfl (Nat.le_of_ble_eq_true rfl) ?_
  intro p e s m args below meth c ls X hw hin hl
  have hx := X.1
  have hb := X.2.1
  have hl : lv_has ls 1 [(0, .ref (ad 1))] := hl
  refine lv_aload_n hx hb dX1_init_0 rfl (lv_at hl 0 rfl) ?_
  refine W.objInit hx hb X.2.2.2.1 (X.2.2.2.2.1 _ wq38) (X.2.2.2.2.1 _ wq31) (X.2.2.2.2.1 _ wq32) rfl (by rw [X.2.2.1]; exact hl.1) rfl dX1_init_1 (Nat.le_of_ble_eq_true rfl) (Nat.le_of_ble_eq_true rfl) ?_
  refine W.eq (g2 := F0 m 4 ls []) rfl ?_
  refine lv_aload_n hx hb dX1_init_4 rfl (lv_at hl 0 rfl) ?_
  refine lv_sipush (v := 140) hx hb dX1_init_5 (by decide) ?_
  refine f_newI X hw 2 (by omega) wq49 (N' := 140) (by decide) (by rfl) (by decide) (by dsimp only [fR]; omega) (by dsimp only [fR]; omega) dX1_init_8 (fun q1 H hw => ?_)
  obtain ⟨ad1, ea1⟩ : ∃ z, z = fV ad 2 q1 := ⟨_, rfl⟩
  have eq1 : ad1 2 = q1 := by rw [ea1]; exact fV_s
  have eA1 : ∀ l, l ≠ 2 → ad1 l = ad l := fun l h => by rw [ea1]; exact fV_n h
  rw [← ea1] at hw
  obtain ⟨Mn1, em1⟩ : ∃ z, z = fU M 2 (.inl (gI g, 140, .inl (fun _ => 0))) := ⟨_, rfl⟩
  have eM1 : ∀ l, l ≠ 2 → Mn1 l = M l := fun l h => by rw [em1]; exact fU_n h
  have eS1 : Mn1 2 = some (.inl (gI g, 140, .inl (fun _ => 0))) := by rw [em1]; exact fU_s
  rw [← em1] at hw
  have hM : Mn1 1 = some (.inr (2, [v1, v2, v3])) := (eM1 _ (by omega)).trans hM
  refine f_adr2 (ad := ad1) (lb := 1) (eA1 1 (by omega)) ?_
  refine f_putF X hw hM fc2 0 (by decide) wq39 rfl rfl (hin rfl) rfl (v := .ref q1) rfl rfl (Nat.le_of_ble_eq_true rfl) dX1_init_10 (fun H locs hw => ?_)
  have hw : fw g ad1 (fU Mn1 1 (.inr (2, [.ref q1, v2, v3]))) s H locs := hw
  have eS1 : (fU Mn1 1 (.inr (2, [.ref q1, v2, v3]))) 2 = some (.inl (gI g, 140, .inl (fun _ => 0))) := (fU_n (by omega)).trans eS1
  have hM : (fU Mn1 1 (.inr (2, [.ref q1, v2, v3]))) 1 = some (.inr (2, [.ref q1, v2, v3])) := fU_s
  refine lv_aload_n hx hb dX1_init_13 rfl (lv_at hl 0 rfl) ?_
  refine lv_sipush (v := 140) hx hb dX1_init_14 (by decide) ?_
  refine f_newI X hw 3 (by omega) wq49 (N' := 140) (by decide) (by rfl) (by decide) (by dsimp only [fR]; omega) (by dsimp only [fR]; omega) dX1_init_17 (fun q2 H hw => ?_)
  obtain ⟨ad2, ea2⟩ : ∃ z, z = fV ad1 3 q2 := ⟨_, rfl⟩
  have eq2 : ad2 3 = q2 := by rw [ea2]; exact fV_s
  have eA2 : ∀ l, l ≠ 3 → ad2 l = ad1 l := fun l h => by rw [ea2]; exact fV_n h
  rw [← ea2] at hw
  obtain ⟨Mn2, em2⟩ : ∃ z, z = fU (fU Mn1 1 (.inr (2, [.ref q1, v2, v3]))) 3 (.inl (gI g, 140, .inl (fun _ => 0))) := ⟨_, rfl⟩
  have eM2 : ∀ l, l ≠ 3 → Mn2 l = (fU Mn1 1 (.inr (2, [.ref q1, v2, v3]))) l := fun l h => by rw [em2]; exact fU_n h
  have eS2 : Mn2 3 = some (.inl (gI g, 140, .inl (fun _ => 0))) := by rw [em2]; exact fU_s
  rw [← em2] at hw
  have hM : Mn2 1 = some (.inr (2, [.ref q1, v2, v3])) := (eM2 _ (by omega)).trans hM
  have eS1 : Mn2 2 = some (.inl (gI g, 140, .inl (fun _ => 0))) := (eM2 _ (by omega)).trans eS1
  refine f_adr2 (ad := ad2) (lb := 1) ((eA2 1 (by omega)).trans (eA1 1 (by omega))) ?_
  refine f_putF X hw hM fc2 1 (by decide) wq40 rfl rfl (hin rfl) rfl (v := .ref q2) rfl rfl (Nat.le_of_ble_eq_true rfl) dX1_init_19 (fun H locs hw => ?_)
  have hw : fw g ad2 (fU Mn2 1 (.inr (2, [.ref q1, .ref q2, v3]))) s H locs := hw
  have eS1 : (fU Mn2 1 (.inr (2, [.ref q1, .ref q2, v3]))) 2 = some (.inl (gI g, 140, .inl (fun _ => 0))) := (fU_n (by omega)).trans eS1
  have eS2 : (fU Mn2 1 (.inr (2, [.ref q1, .ref q2, v3]))) 3 = some (.inl (gI g, 140, .inl (fun _ => 0))) := (fU_n (by omega)).trans eS2
  have hM : (fU Mn2 1 (.inr (2, [.ref q1, .ref q2, v3]))) 1 = some (.inr (2, [.ref q1, .ref q2, v3])) := fU_s
  refine lv_aload_n hx hb dX1_init_22 rfl (lv_at hl 0 rfl) ?_
  refine lv_sipush (v := 140) hx hb dX1_init_23 (by decide) ?_
  refine f_newI X hw 4 (by omega) wq49 (N' := 140) (by decide) (by rfl) (by decide) (by dsimp only [fR]; omega) (by dsimp only [fR]; omega) dX1_init_26 (fun q3 H hw => ?_)
  obtain ⟨ad3, ea3⟩ : ∃ z, z = fV ad2 4 q3 := ⟨_, rfl⟩
  have eq3 : ad3 4 = q3 := by rw [ea3]; exact fV_s
  have eA3 : ∀ l, l ≠ 4 → ad3 l = ad2 l := fun l h => by rw [ea3]; exact fV_n h
  rw [← ea3] at hw
  obtain ⟨Mn3, em3⟩ : ∃ z, z = fU (fU Mn2 1 (.inr (2, [.ref q1, .ref q2, v3]))) 4 (.inl (gI g, 140, .inl (fun _ => 0))) := ⟨_, rfl⟩
  have eM3 : ∀ l, l ≠ 4 → Mn3 l = (fU Mn2 1 (.inr (2, [.ref q1, .ref q2, v3]))) l := fun l h => by rw [em3]; exact fU_n h
  have eS3 : Mn3 4 = some (.inl (gI g, 140, .inl (fun _ => 0))) := by rw [em3]; exact fU_s
  rw [← em3] at hw
  have hM : Mn3 1 = some (.inr (2, [.ref q1, .ref q2, v3])) := (eM3 _ (by omega)).trans hM
  have eS1 : Mn3 2 = some (.inl (gI g, 140, .inl (fun _ => 0))) := (eM3 _ (by omega)).trans eS1
  have eS2 : Mn3 3 = some (.inl (gI g, 140, .inl (fun _ => 0))) := (eM3 _ (by omega)).trans eS2
  refine f_adr2 (ad := ad3) (lb := 1) ((eA3 1 (by omega)).trans ((eA2 1 (by omega)).trans (eA1 1 (by omega)))) ?_
  refine f_putF X hw hM fc2 2 (by decide) wq41 rfl rfl (hin rfl) rfl (v := .ref q3) rfl rfl (Nat.le_of_ble_eq_true rfl) dX1_init_28 (fun H locs hw => ?_)
  have hw : fw g ad3 (fU Mn3 1 (.inr (2, [.ref q1, .ref q2, .ref q3]))) s H locs := hw
  have eS1 : (fU Mn3 1 (.inr (2, [.ref q1, .ref q2, .ref q3]))) 2 = some (.inl (gI g, 140, .inl (fun _ => 0))) := (fU_n (by omega)).trans eS1
  have eS2 : (fU Mn3 1 (.inr (2, [.ref q1, .ref q2, .ref q3]))) 3 = some (.inl (gI g, 140, .inl (fun _ => 0))) := (fU_n (by omega)).trans eS2
  have eS3 : (fU Mn3 1 (.inr (2, [.ref q1, .ref q2, .ref q3]))) 4 = some (.inl (gI g, 140, .inl (fun _ => 0))) := (fU_n (by omega)).trans eS3
  have hM : (fU Mn3 1 (.inr (2, [.ref q1, .ref q2, .ref q3]))) 1 = some (.inr (2, [.ref q1, .ref q2, .ref q3])) := fU_s
  refine f_vret X hw ⟨⟨by rw [hM, eq3, show ad3 3 = q2 from (eA3 3 (by omega)).trans eq2, show ad3 2 = q1 from (eA3 2 (by omega)).trans ((eA2 2 (by omega)).trans eq1)], eS1, eS2, eS3⟩, fun l a b => ⟨(eA3 l (by omega)).trans ((eA2 l (by omega)).trans (eA1 l (by omega))), ?_⟩, (eA3 1 (by omega)).trans ((eA2 1 (by omega)).trans (eA1 1 (by omega)))⟩ (by omega) (by omega) dX1_init_31
  exact (fU_n (by omega)).trans ((eM3 l (by omega)).trans ((fU_n (by omega)).trans ((eM2 l (by omega)).trans ((fU_n (by omega)).trans (eM1 l (by omega))))))
set_option maxHeartbeats 4000000 in
set_option maxRecDepth 100000 in
theorem c_X4_init (l : Launch) (g : fG) (ad : Nat → Nat) (M : fM) {b : Nat} (h3 : b ≤ 3000) {v1 v2 v3 : Value} (hM : M b = some (.inr (5, [.int 0, v1, v2, v3]))) : fCv l g yX4_init cX4_init 1 4 72 3 9 ad M [.ref (ad b)] (fMkT g ad M b) := by
  refine f_body (own := RX4) (by decide +kernel) rfl (Nat.le_of_ble_eq_true rfl) ?_
  intro p e s m args below meth c ls X hw hin hl
  have hx := X.1
  have hb := X.2.1
  have hl : lv_has ls 1 [(0, .ref (ad b))] := hl
  refine lv_aload_n hx hb dX4_init_0 rfl (lv_at hl 0 rfl) ?_
  refine W.objInit hx hb X.2.2.2.1 (X.2.2.2.2.1 _ wq55) (X.2.2.2.2.1 _ wq31) (X.2.2.2.2.1 _ wq32) rfl (by rw [X.2.2.1]; exact hl.1) rfl dX4_init_1 (Nat.le_of_ble_eq_true rfl) (Nat.le_of_ble_eq_true rfl) ?_
  refine W.eq (g2 := F0 m 4 ls []) rfl ?_
  refine lv_aload_n hx hb dX4_init_4 rfl (lv_at hl 0 rfl) ?_
  refine f_new X hw (b + 1) (by omega) fc0 wq56 wq57 wq6 (fs := [.int 0, .null, .int 0]) (by intro j hj; rcases (show j = 0 ∨ j = 1 ∨ j = 2 by omega) with rfl | rfl | rfl <;> rfl) (by dsimp only [fR]; omega) (by dsimp only [fR]; omega) dX4_init_5 (fun q1 H hw => ?_)
  obtain ⟨ad1, ea1⟩ : ∃ z, z = fV ad (b + 1) q1 := ⟨_, rfl⟩
  have eq1 : ad1 (b + 1) = q1 := by rw [ea1]; exact fV_s
  have eA1 : ∀ l, l ≠ b + 1 → ad1 l = ad l := fun l h => by rw [ea1]; exact fV_n h
  rw [← ea1] at hw
  obtain ⟨Mn1, em1⟩ : ∃ z, z = fU M (b + 1) (.inr (0, [.int 0, .null, .int 0])) := ⟨_, rfl⟩
  have eM1 : ∀ l, l ≠ b + 1 → Mn1 l = M l := fun l h => by rw [em1]; exact fU_n h
  have eS1 : Mn1 (b + 1) = some (.inr (0, [.int 0, .null, .int 0])) := by rw [em1]; exact fU_s
  rw [← em1] at hw
  have hM : Mn1 b = some (.inr (5, [.int 0, v1, v2, v3])) := (eM1 _ (by omega)).trans hM
  refine lv_dup hx hb dX4_init_8 rfl ?_
  refine f_adr (ad := ad1) (lb := b + 1) eq1 ?_
  refine fk_dv (fcI X hw (c_L_init l g ad1 Mn1 (ll := b + 1) eS1) wq58 kIJx4a65c_init_da8c8 ⟨(Nat.le_of_ble_eq_true rfl), (Nat.le_of_ble_eq_true rfl)⟩ rfl hl.1 rfl (Nat.le_of_ble_eq_true rfl) dX4_init_9 ⟨(by dsimp only [fR]; omega), (by dsimp only [fR]; omega)⟩) hw (fun H locs hw => ?_)
  have hM : (fU Mn1 (b + 1) (.inr (0, [.int 0, .ref (gE g), .int 0]))) b = some (.inr (5, [.int 0, v1, v2, v3])) := (fU_n (by omega)).trans hM
  have eS1 : (fU Mn1 (b + 1) (.inr (0, [.int 0, .ref (gE g), .int 0]))) (b + 1) = some (.inr (0, [.int 0, .ref (gE g), .int 0])) := fU_s
  refine f_adr2 (ad := ad1) (lb := b) (eA1 b (by omega)) ?_
  refine f_putF X hw hM fc5 1 (by decide) wq83 rfl rfl (hin rfl) rfl (v := .ref q1) rfl rfl (Nat.le_of_ble_eq_true rfl) dX4_init_12 (fun H locs hw => ?_)
  have hw : fw g ad1 (fU (fU Mn1 (b + 1) (.inr (0, [.int 0, .ref (gE g), .int 0]))) b (.inr (5, [.int 0, .ref q1, v2, v3]))) s H locs := hw
  have eS1 : (fU (fU Mn1 (b + 1) (.inr (0, [.int 0, .ref (gE g), .int 0]))) b (.inr (5, [.int 0, .ref q1, v2, v3]))) (b + 1) = some (.inr (0, [.int 0, .ref (gE g), .int 0])) := (fU_n (by omega)).trans eS1
  have hM : (fU (fU Mn1 (b + 1) (.inr (0, [.int 0, .ref (gE g), .int 0]))) b (.inr (5, [.int 0, .ref q1, v2, v3]))) b = some (.inr (5, [.int 0, .ref q1, v2, v3])) := fU_s
  refine lv_aload_n hx hb dX4_init_15 rfl (lv_at hl 0 rfl) ?_
  refine f_new X hw (b + 2) (by omega) fc0 wq56 wq57 wq6 (fs := [.int 0, .null, .int 0]) (by intro j hj; rcases (show j = 0 ∨ j = 1 ∨ j = 2 by omega) with rfl | rfl | rfl <;> rfl) (by dsimp only [fR]; omega) (by dsimp only [fR]; omega) dX4_init_16 (fun q2 H hw => ?_)
  obtain ⟨ad2, ea2⟩ : ∃ z, z = fV ad1 (b + 2) q2 := ⟨_, rfl⟩
  have eq2 : ad2 (b + 2) = q2 := by rw [ea2]; exact fV_s
  have eA2 : ∀ l, l ≠ b + 2 → ad2 l = ad1 l := fun l h => by rw [ea2]; exact fV_n h
  rw [← ea2] at hw
  obtain ⟨Mn2, em2⟩ : ∃ z, z = fU (fU (fU Mn1 (b + 1) (.inr (0, [.int 0, .ref (gE g), .int 0]))) b (.inr (5, [.int 0, .ref q1, v2, v3]))) (b + 2) (.inr (0, [.int 0, .null, .int 0])) := ⟨_, rfl⟩
  have eM2 : ∀ l, l ≠ b + 2 → Mn2 l = (fU (fU Mn1 (b + 1) (.inr (0, [.int 0, .ref (gE g), .int 0]))) b (.inr (5, [.int 0, .ref q1, v2, v3]))) l := fun l h => by rw [em2]; exact fU_n h
  have eS2 : Mn2 (b + 2) = some (.inr (0, [.int 0, .null, .int 0])) := by rw [em2]; exact fU_s
  rw [← em2] at hw
  have hM : Mn2 b = some (.inr (5, [.int 0, .ref q1, v2, v3])) := (eM2 _ (by omega)).trans hM
  have eS1 : Mn2 (b + 1) = some (.inr (0, [.int 0, .ref (gE g), .int 0])) := (eM2 _ (by omega)).trans eS1
  refine lv_dup hx hb dX4_init_19 rfl ?_
  refine f_adr (ad := ad2) (lb := b + 2) eq2 ?_
  refine fk_dv (fcI X hw (c_L_init l g ad2 Mn2 (ll := b + 2) eS2) wq58 kIJx4a65c_init_da8c8 ⟨(Nat.le_of_ble_eq_true rfl), (Nat.le_of_ble_eq_true rfl)⟩ rfl hl.1 rfl (Nat.le_of_ble_eq_true rfl) dX4_init_20 ⟨(by dsimp only [fR]; omega), (by dsimp only [fR]; omega)⟩) hw (fun H locs hw => ?_)
  have hM : (fU Mn2 (b + 2) (.inr (0, [.int 0, .ref (gE g), .int 0]))) b = some (.inr (5, [.int 0, .ref q1, v2, v3])) := (fU_n (by omega)).trans hM
  have eS1 : (fU Mn2 (b + 2) (.inr (0, [.int 0, .ref (gE g), .int 0]))) (b + 1) = some (.inr (0, [.int 0, .ref (gE g), .int 0])) := (fU_n (by omega)).trans eS1
  have eS2 : (fU Mn2 (b + 2) (.inr (0, [.int 0, .ref (gE g), .int 0]))) (b + 2) = some (.inr (0, [.int 0, .ref (gE g), .int 0])) := fU_s
  refine f_adr2 (ad := ad2) (lb := b) ((eA2 b (by omega)).trans (eA1 b (by omega))) ?_
  refine f_putF X hw hM fc5 2 (by decide) wq85 rfl rfl (hin rfl) rfl (v := .ref q2) rfl rfl (Nat.le_of_ble_eq_true rfl) dX4_init_23 (fun H locs hw => ?_)
  have hw : fw g ad2 (fU (fU Mn2 (b + 2) (.inr (0, [.int 0, .ref (gE g), .int 0]))) b (.inr (5, [.int 0, .ref q1, .ref q2, v3]))) s H locs := hw
  have eS1 : (fU (fU Mn2 (b + 2) (.inr (0, [.int 0, .ref (gE g), .int 0]))) b (.inr (5, [.int 0, .ref q1, .ref q2, v3]))) (b + 1) = some (.inr (0, [.int 0, .ref (gE g), .int 0])) := (fU_n (by omega)).trans eS1
  have eS2 : (fU (fU Mn2 (b + 2) (.inr (0, [.int 0, .ref (gE g), .int 0]))) b (.inr (5, [.int 0, .ref q1, .ref q2, v3]))) (b + 2) = some (.inr (0, [.int 0, .ref (gE g), .int 0])) := (fU_n (by omega)).trans eS2
  have hM : (fU (fU Mn2 (b + 2) (.inr (0, [.int 0, .ref (gE g), .int 0]))) b (.inr (5, [.int 0, .ref q1, .ref q2, v3]))) b = some (.inr (5, [.int 0, .ref q1, .ref q2, v3])) := fU_s
  refine lv_aload_n hx hb dX4_init_26 rfl (lv_at hl 0 rfl) ?_
  refine f_new X hw (b + 3) (by omega) fc0 wq56 wq57 wq6 (fs := [.int 0, .null, .int 0]) (by intro j hj; rcases (show j = 0 ∨ j = 1 ∨ j = 2 by omega) with rfl | rfl | rfl <;> rfl) (by dsimp only [fR]; omega) (by dsimp only [fR]; omega) dX4_init_27 (fun q3 H hw => ?_)
  obtain ⟨ad3, ea3⟩ : ∃ z, z = fV ad2 (b + 3) q3 := ⟨_, rfl⟩
  have eq3 : ad3 (b + 3) = q3 := by rw [ea3]; exact fV_s
  have eA3 : ∀ l, l ≠ b + 3 → ad3 l = ad2 l := fun l h => by rw [ea3]; exact fV_n h
  rw [← ea3] at hw
  obtain ⟨Mn3, em3⟩ : ∃ z, z = fU (fU (fU Mn2 (b + 2) (.inr (0, [.int 0, .ref (gE g), .int 0]))) b (.inr (5, [.int 0, .ref q1, .ref q2, v3]))) (b + 3) (.inr (0, [.int 0, .null, .int 0])) := ⟨_, rfl⟩
  have eM3 : ∀ l, l ≠ b + 3 → Mn3 l = (fU (fU Mn2 (b + 2) (.inr (0, [.int 0, .ref (gE g), .int 0]))) b (.inr (5, [.int 0, .ref q1, .ref q2, v3]))) l := fun l h => by rw [em3]; exact fU_n h
  have eS3 : Mn3 (b + 3) = some (.inr (0, [.int 0, .null, .int 0])) := by rw [em3]; exact fU_s
  rw [← em3] at hw
  have hM : Mn3 b = some (.inr (5, [.int 0, .ref q1, .ref q2, v3])) := (eM3 _ (by omega)).trans hM
  have eS1 : Mn3 (b + 1) = some (.inr (0, [.int 0, .ref (gE g), .int 0])) := (eM3 _ (by omega)).trans eS1
  have eS2 : Mn3 (b + 2) = some (.inr (0, [.int 0, .ref (gE g), .int 0])) := (eM3 _ (by omega)).trans eS2
  refine lv_dup hx hb dX4_init_30 rfl ?_
  refine f_adr (ad := ad3) (lb := b + 3) eq3 ?_
  refine fk_dv (fcI X hw (c_L_init l g ad3 Mn3 (ll := b + 3) eS3) wq58 kIJx4a65c_init_da8c8 ⟨(Nat.le_of_ble_eq_true rfl), (Nat.le_of_ble_eq_true rfl)⟩ rfl hl.1 rfl (Nat.le_of_ble_eq_true rfl) dX4_init_31 ⟨(by dsimp only [fR]; omega), (by dsimp only [fR]; omega)⟩) hw (fun H locs hw => ?_)
  have hM : (fU Mn3 (b + 3) (.inr (0, [.int 0, .ref (gE g), .int 0]))) b = some (.inr (5, [.int 0, .ref q1, .ref q2, v3])) := (fU_n (by omega)).trans hM
  have eS1 : (fU Mn3 (b + 3) (.inr (0, [.int 0, .ref (gE g), .int 0]))) (b + 1) = some (.inr (0, [.int 0, .ref (gE g), .int 0])) := (fU_n (by omega)).trans eS1
  have eS2 : (fU Mn3 (b + 3) (.inr (0, [.int 0, .ref (gE g), .int 0]))) (b + 2) = some (.inr (0, [.int 0, .ref (gE g), .int 0])) := (fU_n (by omega)).trans eS2
  have eS3 : (fU Mn3 (b + 3) (.inr (0, [.int 0, .ref (gE g), .int 0]))) (b + 3) = some (.inr (0, [.int 0, .ref (gE g), .int 0])) := fU_s
  refine f_adr2 (ad := ad3) (lb := b) ((eA3 b (by omega)).trans ((eA2 b (by omega)).trans (eA1 b (by omega)))) ?_
  refine f_putF X hw hM fc5 3 (by decide) wq87 rfl rfl (hin rfl) rfl (v := .ref q3) rfl rfl (Nat.le_of_ble_eq_true rfl) dX4_init_34 (fun H locs hw => ?_)
  have hw : fw g ad3 (fU (fU Mn3 (b + 3) (.inr (0, [.int 0, .ref (gE g), .int 0]))) b (.inr (5, [.int 0, .ref q1, .ref q2, .ref q3]))) s H locs := hw
  have eS1 : (fU (fU Mn3 (b + 3) (.inr (0, [.int 0, .ref (gE g), .int 0]))) b (.inr (5, [.int 0, .ref q1, .ref q2, .ref q3]))) (b + 1) = some (.inr (0, [.int 0, .ref (gE g), .int 0])) := (fU_n (by omega)).trans eS1
  have eS2 : (fU (fU Mn3 (b + 3) (.inr (0, [.int 0, .ref (gE g), .int 0]))) b (.inr (5, [.int 0, .ref q1, .ref q2, .ref q3]))) (b + 2) = some (.inr (0, [.int 0, .ref (gE g), .int 0])) := (fU_n (by omega)).trans eS2
  have eS3 : (fU (fU Mn3 (b + 3) (.inr (0, [.int 0, .ref (gE g), .int 0]))) b (.inr (5, [.int 0, .ref q1, .ref q2, .ref q3]))) (b + 3) = some (.inr (0, [.int 0, .ref (gE g), .int 0])) := (fU_n (by omega)).trans eS3
  have hM : (fU (fU Mn3 (b + 3) (.inr (0, [.int 0, .ref (gE g), .int 0]))) b (.inr (5, [.int 0, .ref q1, .ref q2, .ref q3]))) b = some (.inr (5, [.int 0, .ref q1, .ref q2, .ref q3])) := fU_s
  refine f_vret X hw ⟨⟨by rw [hM, eq3, show ad3 (b + 2) = q2 from (eA3 _ (by omega)).trans eq2, show ad3 (b + 1) = q1 from (eA3 _ (by omega)).trans ((eA2 _ (by omega)).trans eq1)], ⟨0, gE g, 0, fun _ => none, eS1, by decide, Or.inl ⟨rfl, rfl⟩⟩, ⟨0, gE g, 0, fun _ => none, eS2, by decide, Or.inl ⟨rfl, rfl⟩⟩, ⟨0, gE g, 0, fun _ => none, eS3, by decide, Or.inl ⟨rfl, rfl⟩⟩, fun i hi => absurd hi (Nat.not_lt_zero _), fun i hi => absurd hi (Nat.not_lt_zero _), fun i hi => absurd hi (Nat.not_lt_zero _), by decide, by decide, by decide, fun i hi => absurd hi (Nat.not_lt_zero _)⟩, fun l a c9 => ⟨(eA3 l (by omega)).trans ((eA2 l (by omega)).trans (eA1 l (by omega))), ?_⟩, (eA3 b (by omega)).trans ((eA2 b (by omega)).trans (eA1 b (by omega)))⟩ (by omega) (by omega) dX4_init_37
  exact (fU_n (by omega)).trans ((fU_n (by omega)).trans ((eM3 l (by omega)).trans ((fU_n (by omega)).trans ((fU_n (by omega)).trans ((eM2 l (by omega)).trans ((fU_n (by omega)).trans ((fU_n (by omega)).trans (eM1 l (by omega)))))))))
