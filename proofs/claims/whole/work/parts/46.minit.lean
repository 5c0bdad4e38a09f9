abbrev fMkM (g : fG) (ad : Nat → Nat) (M : fM) : (Nat → Nat) → fM → Prop := fun ad1 M1 => isMo g ad1 M1 0 T0 f0 f0 ∧ fReg 5 15 ad M ad1 M1 ∧ ad1 5 = ad 5
set_option maxHeartbeats 4000000 in
set_option maxRecDepth 100000 in
theorem c_X6_init (l : Launch) (g : fG) (ad : Nat → Nat) (M : fM) {v1 v2 v3 v4 v5 v6 v7 v8 v9 : Value} (hM : M 5 = some (.inr (7, [.int 0, .int 0, .int 0, .int 0, v1, v2, v3, v4, v5, v6, v7, v8, v9]))) : fCv l g yX6_init cX6_init 1 1 12 9 459 ad M [.ref (ad 5)] (fMkM g ad M) := by
  refine f_body (own := RX6) (by decide +kernel) rfl (Nat.le_of_ble_eq_true rfl) ?_
  intro p e s m args below meth c ls X hw hin hl
  have hx := X.1
  have hb := X.2.1
  have hl : lv_has ls 1 [(0, .ref (ad 5))] := hl
  refine lv_aload_n hx hb dX6_init_0 rfl (lv_at hl 0 rfl) ?_
  refine W.objInit hx hb X.2.2.2.1 (X.2.2.2.2.1 _ wq793) (X.2.2.2.2.1 _ wq29) (X.2.2.2.2.1 _ wq30) rfl (by rw [X.2.2.1]; exact hl.1) rfl dX6_init_1 (Nat.le_of_ble_eq_true rfl) (Nat.le_of_ble_eq_true rfl) ?_
  refine W.eq (g2 := F0 m 4 ls []) rfl ?_
  refine lv_aload_n hx hb dX6_init_4 rfl (lv_at hl 0 rfl) ?_
  refine lv_bipush (v := 6) hx hb dX6_init_5 (by decide) ?_
  refine f_newI X hw 6 (by omega) wq47 (N' := 6) (by decide) (by rfl) (by decide) (by dsimp only [fR]; omega) (by dsimp only [fR]; omega) dX6_init_7 (fun q1 H hw => ?_)
  obtain ⟨ad1, ea1⟩ : ∃ z, z = fV ad 6 q1 := ⟨_, rfl⟩
  have eq1 : ad1 6 = q1 := by rw [ea1]; exact fV_s
  have eA1 : ∀ l, l ≠ 6 → ad1 l = ad l := fun l h => by rw [ea1]; exact fV_n h
  rw [← ea1] at hw
  obtain ⟨Mn1, em1⟩ : ∃ z, z = fU M 6 (.inl (gI g, 6, .inl (fun _ => 0))) := ⟨_, rfl⟩
  have eM1 : ∀ l, l ≠ 6 → Mn1 l = M l := fun l h => by rw [em1]; exact fU_n h
  have eS1 : Mn1 6 = some (.inl (gI g, 6, .inl (fun _ => 0))) := by rw [em1]; exact fU_s
  rw [← em1] at hw
  have hM : Mn1 5 = some (.inr (7, [.int 0, .int 0, .int 0, .int 0, v1, v2, v3, v4, v5, v6, v7, v8, v9])) := (eM1 _ (by omega)).trans hM
  refine f_adr2 (ad := ad1) (lb := 5) (eA1 5 (by omega)) ?_
  refine f_putF X hw hM fc7 4 (by decide) wq798 rfl rfl (hin rfl) rfl (v := .ref q1) rfl rfl (Nat.le_of_ble_eq_true rfl) dX6_init_9 (fun H locs hw => ?_)
  have hw : fw g ad1 (fU Mn1 5 (.inr (7, [.int 0, .int 0, .int 0, .int 0, .ref q1, v2, v3, v4, v5, v6, v7, v8, v9]))) s H locs := hw
  have eS1 : (fU Mn1 5 (.inr (7, [.int 0, .int 0, .int 0, .int 0, .ref q1, v2, v3, v4, v5, v6, v7, v8, v9]))) 6 = some (.inl (gI g, 6, .inl (fun _ => 0))) := (fU_n (by omega)).trans eS1
  have hM : (fU Mn1 5 (.inr (7, [.int 0, .int 0, .int 0, .int 0, .ref q1, v2, v3, v4, v5, v6, v7, v8, v9]))) 5 = some (.inr (7, [.int 0, .int 0, .int 0, .int 0, .ref q1, v2, v3, v4, v5, v6, v7, v8, v9])) := fU_s
  refine lv_aload_n hx hb dX6_init_12 rfl (lv_at hl 0 rfl) ?_
  refine lv_bipush (v := 6) hx hb dX6_init_13 (by decide) ?_
  refine f_newI X hw 7 (by omega) wq47 (N' := 6) (by decide) (by rfl) (by decide) (by dsimp only [fR]; omega) (by dsimp only [fR]; omega) dX6_init_15 (fun q2 H hw => ?_)
  obtain ⟨ad2, ea2⟩ : ∃ z, z = fV ad1 7 q2 := ⟨_, rfl⟩
  have eq2 : ad2 7 = q2 := by rw [ea2]; exact fV_s
  have eA2 : ∀ l, l ≠ 7 → ad2 l = ad1 l := fun l h => by rw [ea2]; exact fV_n h
  rw [← ea2] at hw
  obtain ⟨Mn2, em2⟩ : ∃ z, z = fU (fU Mn1 5 (.inr (7, [.int 0, .int 0, .int 0, .int 0, .ref q1, v2, v3, v4, v5, v6, v7, v8, v9]))) 7 (.inl (gI g, 6, .inl (fun _ => 0))) := ⟨_, rfl⟩
  have eM2 : ∀ l, l ≠ 7 → Mn2 l = (fU Mn1 5 (.inr (7, [.int 0, .int 0, .int 0, .int 0, .ref q1, v2, v3, v4, v5, v6, v7, v8, v9]))) l := fun l h => by rw [em2]; exact fU_n h
  have eS2 : Mn2 7 = some (.inl (gI g, 6, .inl (fun _ => 0))) := by rw [em2]; exact fU_s
  rw [← em2] at hw
  have hM : Mn2 5 = some (.inr (7, [.int 0, .int 0, .int 0, .int 0, .ref q1, v2, v3, v4, v5, v6, v7, v8, v9])) := (eM2 _ (by omega)).trans hM
  have eS1 : Mn2 6 = some (.inl (gI g, 6, .inl (fun _ => 0))) := (eM2 _ (by omega)).trans eS1
  refine f_adr2 (ad := ad2) (lb := 5) ((eA2 5 (by omega)).trans (eA1 5 (by omega))) ?_
  refine f_putF X hw hM fc7 5 (by decide) wq799 rfl rfl (hin rfl) rfl (v := .ref q2) rfl rfl (Nat.le_of_ble_eq_true rfl) dX6_init_17 (fun H locs hw => ?_)
  have hw : fw g ad2 (fU Mn2 5 (.inr (7, [.int 0, .int 0, .int 0, .int 0, .ref q1, .ref q2, v3, v4, v5, v6, v7, v8, v9]))) s H locs := hw
  have eS1 : (fU Mn2 5 (.inr (7, [.int 0, .int 0, .int 0, .int 0, .ref q1, .ref q2, v3, v4, v5, v6, v7, v8, v9]))) 6 = some (.inl (gI g, 6, .inl (fun _ => 0))) := (fU_n (by omega)).trans eS1
  have eS2 : (fU Mn2 5 (.inr (7, [.int 0, .int 0, .int 0, .int 0, .ref q1, .ref q2, v3, v4, v5, v6, v7, v8, v9]))) 7 = some (.inl (gI g, 6, .inl (fun _ => 0))) := (fU_n (by omega)).trans eS2
  have hM : (fU Mn2 5 (.inr (7, [.int 0, .int 0, .int 0, .int 0, .ref q1, .ref q2, v3, v4, v5, v6, v7, v8, v9]))) 5 = some (.inr (7, [.int 0, .int 0, .int 0, .int 0, .ref q1, .ref q2, v3, v4, v5, v6, v7, v8, v9])) := fU_s
  refine lv_aload_n hx hb dX6_init_20 rfl (lv_at hl 0 rfl) ?_
  refine lv_sipush (v := 210) hx hb dX6_init_21 (by decide) ?_
  refine f_newI X hw 8 (by omega) wq47 (N' := 210) (by decide) (by rfl) (by decide) (by dsimp only [fR]; omega) (by dsimp only [fR]; omega) dX6_init_24 (fun q3 H hw => ?_)
  obtain ⟨ad3, ea3⟩ : ∃ z, z = fV ad2 8 q3 := ⟨_, rfl⟩
  have eq3 : ad3 8 = q3 := by rw [ea3]; exact fV_s
  have eA3 : ∀ l, l ≠ 8 → ad3 l = ad2 l := fun l h => by rw [ea3]; exact fV_n h
  rw [← ea3] at hw
  obtain ⟨Mn3, em3⟩ : ∃ z, z = fU (fU Mn2 5 (.inr (7, [.int 0, .int 0, .int 0, .int 0, .ref q1, .ref q2, v3, v4, v5, v6, v7, v8, v9]))) 8 (.inl (gI g, 210, .inl (fun _ => 0))) := ⟨_, rfl⟩
  have eM3 : ∀ l, l ≠ 8 → Mn3 l = (fU Mn2 5 (.inr (7, [.int 0, .int 0, .int 0, .int 0, .ref q1, .ref q2, v3, v4, v5, v6, v7, v8, v9]))) l := fun l h => by rw [em3]; exact fU_n h
  have eS3 : Mn3 8 = some (.inl (gI g, 210, .inl (fun _ => 0))) := by rw [em3]; exact fU_s
  rw [← em3] at hw
  have hM : Mn3 5 = some (.inr (7, [.int 0, .int 0, .int 0, .int 0, .ref q1, .ref q2, v3, v4, v5, v6, v7, v8, v9])) := (eM3 _ (by omega)).trans hM
  have eS1 : Mn3 6 = some (.inl (gI g, 6, .inl (fun _ => 0))) := (eM3 _ (by omega)).trans eS1
  have eS2 : Mn3 7 = some (.inl (gI g, 6, .inl (fun _ => 0))) := (eM3 _ (by omega)).trans eS2
  refine f_adr2 (ad := ad3) (lb := 5) ((eA3 5 (by omega)).trans ((eA2 5 (by omega)).trans (eA1 5 (by omega)))) ?_
  refine f_putF X hw hM fc7 6 (by decide) wq800 rfl rfl (hin rfl) rfl (v := .ref q3) rfl rfl (Nat.le_of_ble_eq_true rfl) dX6_init_26 (fun H locs hw => ?_)
  have hw : fw g ad3 (fU Mn3 5 (.inr (7, [.int 0, .int 0, .int 0, .int 0, .ref q1, .ref q2, .ref q3, v4, v5, v6, v7, v8, v9]))) s H locs := hw
  have eS1 : (fU Mn3 5 (.inr (7, [.int 0, .int 0, .int 0, .int 0, .ref q1, .ref q2, .ref q3, v4, v5, v6, v7, v8, v9]))) 6 = some (.inl (gI g, 6, .inl (fun _ => 0))) := (fU_n (by omega)).trans eS1
  have eS2 : (fU Mn3 5 (.inr (7, [.int 0, .int 0, .int 0, .int 0, .ref q1, .ref q2, .ref q3, v4, v5, v6, v7, v8, v9]))) 7 = some (.inl (gI g, 6, .inl (fun _ => 0))) := (fU_n (by omega)).trans eS2
  have eS3 : (fU Mn3 5 (.inr (7, [.int 0, .int 0, .int 0, .int 0, .ref q1, .ref q2, .ref q3, v4, v5, v6, v7, v8, v9]))) 8 = some (.inl (gI g, 210, .inl (fun _ => 0))) := (fU_n (by omega)).trans eS3
  have hM : (fU Mn3 5 (.inr (7, [.int 0, .int 0, .int 0, .int 0, .ref q1, .ref q2, .ref q3, v4, v5, v6, v7, v8, v9]))) 5 = some (.inr (7, [.int 0, .int 0, .int 0, .int 0, .ref q1, .ref q2, .ref q3, v4, v5, v6, v7, v8, v9])) := fU_s
  refine lv_aload_n hx hb dX6_init_29 rfl (lv_at hl 0 rfl) ?_
  refine lv_bipush (v := 54) hx hb dX6_init_30 (by decide) ?_
  refine f_newI X hw 9 (by omega) wq47 (N' := 54) (by decide) (by rfl) (by decide) (by dsimp only [fR]; omega) (by dsimp only [fR]; omega) dX6_init_32 (fun q4 H hw => ?_)
  obtain ⟨ad4, ea4⟩ : ∃ z, z = fV ad3 9 q4 := ⟨_, rfl⟩
  have eq4 : ad4 9 = q4 := by rw [ea4]; exact fV_s
  have eA4 : ∀ l, l ≠ 9 → ad4 l = ad3 l := fun l h => by rw [ea4]; exact fV_n h
  rw [← ea4] at hw
  obtain ⟨Mn4, em4⟩ : ∃ z, z = fU (fU Mn3 5 (.inr (7, [.int 0, .int 0, .int 0, .int 0, .ref q1, .ref q2, .ref q3, v4, v5, v6, v7, v8, v9]))) 9 (.inl (gI g, 54, .inl (fun _ => 0))) := ⟨_, rfl⟩
  have eM4 : ∀ l, l ≠ 9 → Mn4 l = (fU Mn3 5 (.inr (7, [.int 0, .int 0, .int 0, .int 0, .ref q1, .ref q2, .ref q3, v4, v5, v6, v7, v8, v9]))) l := fun l h => by rw [em4]; exact fU_n h
  have eS4 : Mn4 9 = some (.inl (gI g, 54, .inl (fun _ => 0))) := by rw [em4]; exact fU_s
  rw [← em4] at hw
  have hM : Mn4 5 = some (.inr (7, [.int 0, .int 0, .int 0, .int 0, .ref q1, .ref q2, .ref q3, v4, v5, v6, v7, v8, v9])) := (eM4 _ (by omega)).trans hM
  have eS1 : Mn4 6 = some (.inl (gI g, 6, .inl (fun _ => 0))) := (eM4 _ (by omega)).trans eS1
  have eS2 : Mn4 7 = some (.inl (gI g, 6, .inl (fun _ => 0))) := (eM4 _ (by omega)).trans eS2
  have eS3 : Mn4 8 = some (.inl (gI g, 210, .inl (fun _ => 0))) := (eM4 _ (by omega)).trans eS3
  refine f_adr2 (ad := ad4) (lb := 5) ((eA4 5 (by omega)).trans ((eA3 5 (by omega)).trans ((eA2 5 (by omega)).trans (eA1 5 (by omega))))) ?_
  refine f_putF X hw hM fc7 7 (by decide) wq801 rfl rfl (hin rfl) rfl (v := .ref q4) rfl rfl (Nat.le_of_ble_eq_true rfl) dX6_init_34 (fun H locs hw => ?_)
  have hw : fw g ad4 (fU Mn4 5 (.inr (7, [.int 0, .int 0, .int 0, .int 0, .ref q1, .ref q2, .ref q3, .ref q4, v5, v6, v7, v8, v9]))) s H locs := hw
  have eS1 : (fU Mn4 5 (.inr (7, [.int 0, .int 0, .int 0, .int 0, .ref q1, .ref q2, .ref q3, .ref q4, v5, v6, v7, v8, v9]))) 6 = some (.inl (gI g, 6, .inl (fun _ => 0))) := (fU_n (by omega)).trans eS1
  have eS2 : (fU Mn4 5 (.inr (7, [.int 0, .int 0, .int 0, .int 0, .ref q1, .ref q2, .ref q3, .ref q4, v5, v6, v7, v8, v9]))) 7 = some (.inl (gI g, 6, .inl (fun _ => 0))) := (fU_n (by omega)).trans eS2
  have eS3 : (fU Mn4 5 (.inr (7, [.int 0, .int 0, .int 0, .int 0, .ref q1, .ref q2, .ref q3, .ref q4, v5, v6, v7, v8, v9]))) 8 = some (.inl (gI g, 210, .inl (fun _ => 0))) := (fU_n (by omega)).trans eS3
  have eS4 : (fU Mn4 5 (.inr (7, [.int 0, .int 0, .int 0, .int 0, .ref q1, .ref q2, .ref q3, .ref q4, v5, v6, v7, v8, v9]))) 9 = some (.inl (gI g, 54, .inl (fun _ => 0))) := (fU_n (by omega)).trans eS4
  have hM : (fU Mn4 5 (.inr (7, [.int 0, .int 0, .int 0, .int 0, .ref q1, .ref q2, .ref q3, .ref q4, v5, v6, v7, v8, v9]))) 5 = some (.inr (7, [.int 0, .int 0, .int 0, .int 0, .ref q1, .ref q2, .ref q3, .ref q4, v5, v6, v7, v8, v9])) := fU_s
  refine lv_aload_n hx hb dX6_init_37 rfl (lv_at hl 0 rfl) ?_
  refine lv_iconst (v := 1) hx hb dX6_init_38 (by decide) ?_
  refine f_newI X hw 10 (by omega) wq47 (N' := 1) (by decide) (by rfl) (by decide) (by dsimp only [fR]; omega) (by dsimp only [fR]; omega) dX6_init_39 (fun q5 H hw => ?_)
  obtain ⟨ad5, ea5⟩ : ∃ z, z = fV ad4 10 q5 := ⟨_, rfl⟩
  have eq5 : ad5 10 = q5 := by rw [ea5]; exact fV_s
  have eA5 : ∀ l, l ≠ 10 → ad5 l = ad4 l := fun l h => by rw [ea5]; exact fV_n h
  rw [← ea5] at hw
  obtain ⟨Mn5, em5⟩ : ∃ z, z = fU (fU Mn4 5 (.inr (7, [.int 0, .int 0, .int 0, .int 0, .ref q1, .ref q2, .ref q3, .ref q4, v5, v6, v7, v8, v9]))) 10 (.inl (gI g, 1, .inl (fun _ => 0))) := ⟨_, rfl⟩
  have eM5 : ∀ l, l ≠ 10 → Mn5 l = (fU Mn4 5 (.inr (7, [.int 0, .int 0, .int 0, .int 0, .ref q1, .ref q2, .ref q3, .ref q4, v5, v6, v7, v8, v9]))) l := fun l h => by rw [em5]; exact fU_n h
  have eS5 : Mn5 10 = some (.inl (gI g, 1, .inl (fun _ => 0))) := by rw [em5]; exact fU_s
  rw [← em5] at hw
  have hM : Mn5 5 = some (.inr (7, [.int 0, .int 0, .int 0, .int 0, .ref q1, .ref q2, .ref q3, .ref q4, v5, v6, v7, v8, v9])) := (eM5 _ (by omega)).trans hM
  have eS1 : Mn5 6 = some (.inl (gI g, 6, .inl (fun _ => 0))) := (eM5 _ (by omega)).trans eS1
  have eS2 : Mn5 7 = some (.inl (gI g, 6, .inl (fun _ => 0))) := (eM5 _ (by omega)).trans eS2
  have eS3 : Mn5 8 = some (.inl (gI g, 210, .inl (fun _ => 0))) := (eM5 _ (by omega)).trans eS3
  have eS4 : Mn5 9 = some (.inl (gI g, 54, .inl (fun _ => 0))) := (eM5 _ (by omega)).trans eS4
  refine lv_dup hx hb dX6_init_41 rfl ?_
  refine lv_iconst (v := 0) hx hb dX6_init_42 (by decide) ?_
  refine lv_iconst (v := 0) hx hb dX6_init_43 (by decide) ?_
  refine f_adr3 (ad := ad5) (lb := 10) eq5 ?_
  refine f_iast X hw eS5 (by unfold vp_in; decide) dX6_init_44 (fun H locs hw => ?_)
  rw [show (0 : Int32).toNatClampNeg = 0 from rfl] at hw
  have hw : fw g ad5 (fU Mn5 10 (.inl (gI g, 1, .inl (upd (fun _ => 0) 0 0)))) s H locs := hw
  have hM : (fU Mn5 10 (.inl (gI g, 1, .inl (upd (fun _ => 0) 0 0)))) 5 = some (.inr (7, [.int 0, .int 0, .int 0, .int 0, .ref q1, .ref q2, .ref q3, .ref q4, v5, v6, v7, v8, v9])) := (fU_n (by omega)).trans hM
  have eS1 : (fU Mn5 10 (.inl (gI g, 1, .inl (upd (fun _ => 0) 0 0)))) 6 = some (.inl (gI g, 6, .inl (fun _ => 0))) := (fU_n (by omega)).trans eS1
  have eS2 : (fU Mn5 10 (.inl (gI g, 1, .inl (upd (fun _ => 0) 0 0)))) 7 = some (.inl (gI g, 6, .inl (fun _ => 0))) := (fU_n (by omega)).trans eS2
  have eS3 : (fU Mn5 10 (.inl (gI g, 1, .inl (upd (fun _ => 0) 0 0)))) 8 = some (.inl (gI g, 210, .inl (fun _ => 0))) := (fU_n (by omega)).trans eS3
  have eS4 : (fU Mn5 10 (.inl (gI g, 1, .inl (upd (fun _ => 0) 0 0)))) 9 = some (.inl (gI g, 54, .inl (fun _ => 0))) := (fU_n (by omega)).trans eS4
  have eS5 : (fU Mn5 10 (.inl (gI g, 1, .inl (upd (fun _ => 0) 0 0)))) 10 = some (.inl (gI g, 1, .inl (upd (fun _ => 0) 0 0))) := fU_s
  refine f_adr2 (ad := ad5) (lb := 5) ((eA5 5 (by omega)).trans ((eA4 5 (by omega)).trans ((eA3 5 (by omega)).trans ((eA2 5 (by omega)).trans (eA1 5 (by omega)))))) ?_
  refine f_putF X hw hM fc7 8 (by decide) wq802 rfl rfl (hin rfl) rfl (v := .ref q5) rfl rfl (Nat.le_of_ble_eq_true rfl) dX6_init_45 (fun H locs hw => ?_)
  have hw : fw g ad5 (fU (fU Mn5 10 (.inl (gI g, 1, .inl (upd (fun _ => 0) 0 0)))) 5 (.inr (7, [.int 0, .int 0, .int 0, .int 0, .ref q1, .ref q2, .ref q3, .ref q4, .ref q5, v6, v7, v8, v9]))) s H locs := hw
  have eS1 : (fU (fU Mn5 10 (.inl (gI g, 1, .inl (upd (fun _ => 0) 0 0)))) 5 (.inr (7, [.int 0, .int 0, .int 0, .int 0, .ref q1, .ref q2, .ref q3, .ref q4, .ref q5, v6, v7, v8, v9]))) 6 = some (.inl (gI g, 6, .inl (fun _ => 0))) := (fU_n (by omega)).trans eS1
  have eS2 : (fU (fU Mn5 10 (.inl (gI g, 1, .inl (upd (fun _ => 0) 0 0)))) 5 (.inr (7, [.int 0, .int 0, .int 0, .int 0, .ref q1, .ref q2, .ref q3, .ref q4, .ref q5, v6, v7, v8, v9]))) 7 = some (.inl (gI g, 6, .inl (fun _ => 0))) := (fU_n (by omega)).trans eS2
  have eS3 : (fU (fU Mn5 10 (.inl (gI g, 1, .inl (upd (fun _ => 0) 0 0)))) 5 (.inr (7, [.int 0, .int 0, .int 0, .int 0, .ref q1, .ref q2, .ref q3, .ref q4, .ref q5, v6, v7, v8, v9]))) 8 = some (.inl (gI g, 210, .inl (fun _ => 0))) := (fU_n (by omega)).trans eS3
  have eS4 : (fU (fU Mn5 10 (.inl (gI g, 1, .inl (upd (fun _ => 0) 0 0)))) 5 (.inr (7, [.int 0, .int 0, .int 0, .int 0, .ref q1, .ref q2, .ref q3, .ref q4, .ref q5, v6, v7, v8, v9]))) 9 = some (.inl (gI g, 54, .inl (fun _ => 0))) := (fU_n (by omega)).trans eS4
  have eS5 : (fU (fU Mn5 10 (.inl (gI g, 1, .inl (upd (fun _ => 0) 0 0)))) 5 (.inr (7, [.int 0, .int 0, .int 0, .int 0, .ref q1, .ref q2, .ref q3, .ref q4, .ref q5, v6, v7, v8, v9]))) 10 = some (.inl (gI g, 1, .inl (upd (fun _ => 0) 0 0))) := (fU_n (by omega)).trans eS5
  have hM : (fU (fU Mn5 10 (.inl (gI g, 1, .inl (upd (fun _ => 0) 0 0)))) 5 (.inr (7, [.int 0, .int 0, .int 0, .int 0, .ref q1, .ref q2, .ref q3, .ref q4, .ref q5, v6, v7, v8, v9]))) 5 = some (.inr (7, [.int 0, .int 0, .int 0, .int 0, .ref q1, .ref q2, .ref q3, .ref q4, .ref q5, v6, v7, v8, v9])) := fU_s
  refine lv_aload_n hx hb dX6_init_48 rfl (lv_at hl 0 rfl) ?_
  refine lv_bipush (v := 6) hx hb dX6_init_49 (by decide) ?_
  refine f_newI X hw 11 (by omega) wq47 (N' := 6) (by decide) (by rfl) (by decide) (by dsimp only [fR]; omega) (by dsimp only [fR]; omega) dX6_init_51 (fun q6 H hw => ?_)
  obtain ⟨ad6, ea6⟩ : ∃ z, z = fV ad5 11 q6 := ⟨_, rfl⟩
  have eq6 : ad6 11 = q6 := by rw [ea6]; exact fV_s
  have eA6 : ∀ l, l ≠ 11 → ad6 l = ad5 l := fun l h => by rw [ea6]; exact fV_n h
  rw [← ea6] at hw
  obtain ⟨Mn6, em6⟩ : ∃ z, z = fU (fU (fU Mn5 10 (.inl (gI g, 1, .inl (upd (fun _ => 0) 0 0)))) 5 (.inr (7, [.int 0, .int 0, .int 0, .int 0, .ref q1, .ref q2, .ref q3, .ref q4, .ref q5, v6, v7, v8, v9]))) 11 (.inl (gI g, 6, .inl (fun _ => 0))) := ⟨_, rfl⟩
  have eM6 : ∀ l, l ≠ 11 → Mn6 l = (fU (fU Mn5 10 (.inl (gI g, 1, .inl (upd (fun _ => 0) 0 0)))) 5 (.inr (7, [.int 0, .int 0, .int 0, .int 0, .ref q1, .ref q2, .ref q3, .ref q4, .ref q5, v6, v7, v8, v9]))) l := fun l h => by rw [em6]; exact fU_n h
  have eS6 : Mn6 11 = some (.inl (gI g, 6, .inl (fun _ => 0))) := by rw [em6]; exact fU_s
  rw [← em6] at hw
  have hM : Mn6 5 = some (.inr (7, [.int 0, .int 0, .int 0, .int 0, .ref q1, .ref q2, .ref q3, .ref q4, .ref q5, v6, v7, v8, v9])) := (eM6 _ (by omega)).trans hM
  have eS1 : Mn6 6 = some (.inl (gI g, 6, .inl (fun _ => 0))) := (eM6 _ (by omega)).trans eS1
  have eS2 : Mn6 7 = some (.inl (gI g, 6, .inl (fun _ => 0))) := (eM6 _ (by omega)).trans eS2
  have eS3 : Mn6 8 = some (.inl (gI g, 210, .inl (fun _ => 0))) := (eM6 _ (by omega)).trans eS3
  have eS4 : Mn6 9 = some (.inl (gI g, 54, .inl (fun _ => 0))) := (eM6 _ (by omega)).trans eS4
  have eS5 : Mn6 10 = some (.inl (gI g, 1, .inl (upd (fun _ => 0) 0 0))) := (eM6 _ (by omega)).trans eS5
  refine f_adr2 (ad := ad6) (lb := 5) ((eA6 5 (by omega)).trans ((eA5 5 (by omega)).trans ((eA4 5 (by omega)).trans ((eA3 5 (by omega)).trans ((eA2 5 (by omega)).trans (eA1 5 (by omega))))))) ?_
  refine f_putF X hw hM fc7 9 (by decide) wq803 rfl rfl (hin rfl) rfl (v := .ref q6) rfl rfl (Nat.le_of_ble_eq_true rfl) dX6_init_53 (fun H locs hw => ?_)
  have hw : fw g ad6 (fU Mn6 5 (.inr (7, [.int 0, .int 0, .int 0, .int 0, .ref q1, .ref q2, .ref q3, .ref q4, .ref q5, .ref q6, v7, v8, v9]))) s H locs := hw
  have eS1 : (fU Mn6 5 (.inr (7, [.int 0, .int 0, .int 0, .int 0, .ref q1, .ref q2, .ref q3, .ref q4, .ref q5, .ref q6, v7, v8, v9]))) 6 = some (.inl (gI g, 6, .inl (fun _ => 0))) := (fU_n (by omega)).trans eS1
  have eS2 : (fU Mn6 5 (.inr (7, [.int 0, .int 0, .int 0, .int 0, .ref q1, .ref q2, .ref q3, .ref q4, .ref q5, .ref q6, v7, v8, v9]))) 7 = some (.inl (gI g, 6, .inl (fun _ => 0))) := (fU_n (by omega)).trans eS2
  have eS3 : (fU Mn6 5 (.inr (7, [.int 0, .int 0, .int 0, .int 0, .ref q1, .ref q2, .ref q3, .ref q4, .ref q5, .ref q6, v7, v8, v9]))) 8 = some (.inl (gI g, 210, .inl (fun _ => 0))) := (fU_n (by omega)).trans eS3
  have eS4 : (fU Mn6 5 (.inr (7, [.int 0, .int 0, .int 0, .int 0, .ref q1, .ref q2, .ref q3, .ref q4, .ref q5, .ref q6, v7, v8, v9]))) 9 = some (.inl (gI g, 54, .inl (fun _ => 0))) := (fU_n (by omega)).trans eS4
  have eS5 : (fU Mn6 5 (.inr (7, [.int 0, .int 0, .int 0, .int 0, .ref q1, .ref q2, .ref q3, .ref q4, .ref q5, .ref q6, v7, v8, v9]))) 10 = some (.inl (gI g, 1, .inl (upd (fun _ => 0) 0 0))) := (fU_n (by omega)).trans eS5
  have eS6 : (fU Mn6 5 (.inr (7, [.int 0, .int 0, .int 0, .int 0, .ref q1, .ref q2, .ref q3, .ref q4, .ref q5, .ref q6, v7, v8, v9]))) 11 = some (.inl (gI g, 6, .inl (fun _ => 0))) := (fU_n (by omega)).trans eS6
  have hM : (fU Mn6 5 (.inr (7, [.int 0, .int 0, .int 0, .int 0, .ref q1, .ref q2, .ref q3, .ref q4, .ref q5, .ref q6, v7, v8, v9]))) 5 = some (.inr (7, [.int 0, .int 0, .int 0, .int 0, .ref q1, .ref q2, .ref q3, .ref q4, .ref q5, .ref q6, v7, v8, v9])) := fU_s
  refine lv_aload_n hx hb dX6_init_56 rfl (lv_at hl 0 rfl) ?_
  refine lv_bipush (v := 6) hx hb dX6_init_57 (by decide) ?_
  refine f_newZ X hw 12 (by omega) wq834 (N' := 6) (by decide) (by rfl) (by decide) (by dsimp only [fR]; omega) (by dsimp only [fR]; omega) dX6_init_59 (fun q7 H hw => ?_)
  obtain ⟨ad7, ea7⟩ : ∃ z, z = fV ad6 12 q7 := ⟨_, rfl⟩
  have eq7 : ad7 12 = q7 := by rw [ea7]; exact fV_s
  have eA7 : ∀ l, l ≠ 12 → ad7 l = ad6 l := fun l h => by rw [ea7]; exact fV_n h
  rw [← ea7] at hw
  obtain ⟨Mn7, em7⟩ : ∃ z, z = fU (fU Mn6 5 (.inr (7, [.int 0, .int 0, .int 0, .int 0, .ref q1, .ref q2, .ref q3, .ref q4, .ref q5, .ref q6, v7, v8, v9]))) 12 (.inl (gZ g, 6, .inl (fun _ => 0))) := ⟨_, rfl⟩
  have eM7 : ∀ l, l ≠ 12 → Mn7 l = (fU Mn6 5 (.inr (7, [.int 0, .int 0, .int 0, .int 0, .ref q1, .ref q2, .ref q3, .ref q4, .ref q5, .ref q6, v7, v8, v9]))) l := fun l h => by rw [em7]; exact fU_n h
  have eS7 : Mn7 12 = some (.inl (gZ g, 6, .inl (fun _ => 0))) := by rw [em7]; exact fU_s
  rw [← em7] at hw
  have hM : Mn7 5 = some (.inr (7, [.int 0, .int 0, .int 0, .int 0, .ref q1, .ref q2, .ref q3, .ref q4, .ref q5, .ref q6, v7, v8, v9])) := (eM7 _ (by omega)).trans hM
  have eS1 : Mn7 6 = some (.inl (gI g, 6, .inl (fun _ => 0))) := (eM7 _ (by omega)).trans eS1
  have eS2 : Mn7 7 = some (.inl (gI g, 6, .inl (fun _ => 0))) := (eM7 _ (by omega)).trans eS2
  have eS3 : Mn7 8 = some (.inl (gI g, 210, .inl (fun _ => 0))) := (eM7 _ (by omega)).trans eS3
  have eS4 : Mn7 9 = some (.inl (gI g, 54, .inl (fun _ => 0))) := (eM7 _ (by omega)).trans eS4
  have eS5 : Mn7 10 = some (.inl (gI g, 1, .inl (upd (fun _ => 0) 0 0))) := (eM7 _ (by omega)).trans eS5
  have eS6 : Mn7 11 = some (.inl (gI g, 6, .inl (fun _ => 0))) := (eM7 _ (by omega)).trans eS6
  refine f_adr2 (ad := ad7) (lb := 5) ((eA7 5 (by omega)).trans ((eA6 5 (by omega)).trans ((eA5 5 (by omega)).trans ((eA4 5 (by omega)).trans ((eA3 5 (by omega)).trans ((eA2 5 (by omega)).trans (eA1 5 (by omega)))))))) ?_
  refine f_putF X hw hM fc7 10 (by decide) wq804 rfl rfl (hin rfl) rfl (v := .ref q7) rfl rfl (Nat.le_of_ble_eq_true rfl) dX6_init_61 (fun H locs hw => ?_)
  have hw : fw g ad7 (fU Mn7 5 (.inr (7, [.int 0, .int 0, .int 0, .int 0, .ref q1, .ref q2, .ref q3, .ref q4, .ref q5, .ref q6, .ref q7, v8, v9]))) s H locs := hw
  have eS1 : (fU Mn7 5 (.inr (7, [.int 0, .int 0, .int 0, .int 0, .ref q1, .ref q2, .ref q3, .ref q4, .ref q5, .ref q6, .ref q7, v8, v9]))) 6 = some (.inl (gI g, 6, .inl (fun _ => 0))) := (fU_n (by omega)).trans eS1
  have eS2 : (fU Mn7 5 (.inr (7, [.int 0, .int 0, .int 0, .int 0, .ref q1, .ref q2, .ref q3, .ref q4, .ref q5, .ref q6, .ref q7, v8, v9]))) 7 = some (.inl (gI g, 6, .inl (fun _ => 0))) := (fU_n (by omega)).trans eS2
  have eS3 : (fU Mn7 5 (.inr (7, [.int 0, .int 0, .int 0, .int 0, .ref q1, .ref q2, .ref q3, .ref q4, .ref q5, .ref q6, .ref q7, v8, v9]))) 8 = some (.inl (gI g, 210, .inl (fun _ => 0))) := (fU_n (by omega)).trans eS3
  have eS4 : (fU Mn7 5 (.inr (7, [.int 0, .int 0, .int 0, .int 0, .ref q1, .ref q2, .ref q3, .ref q4, .ref q5, .ref q6, .ref q7, v8, v9]))) 9 = some (.inl (gI g, 54, .inl (fun _ => 0))) := (fU_n (by omega)).trans eS4
  have eS5 : (fU Mn7 5 (.inr (7, [.int 0, .int 0, .int 0, .int 0, .ref q1, .ref q2, .ref q3, .ref q4, .ref q5, .ref q6, .ref q7, v8, v9]))) 10 = some (.inl (gI g, 1, .inl (upd (fun _ => 0) 0 0))) := (fU_n (by omega)).trans eS5
  have eS6 : (fU Mn7 5 (.inr (7, [.int 0, .int 0, .int 0, .int 0, .ref q1, .ref q2, .ref q3, .ref q4, .ref q5, .ref q6, .ref q7, v8, v9]))) 11 = some (.inl (gI g, 6, .inl (fun _ => 0))) := (fU_n (by omega)).trans eS6
  have eS7 : (fU Mn7 5 (.inr (7, [.int 0, .int 0, .int 0, .int 0, .ref q1, .ref q2, .ref q3, .ref q4, .ref q5, .ref q6, .ref q7, v8, v9]))) 12 = some (.inl (gZ g, 6, .inl (fun _ => 0))) := (fU_n (by omega)).trans eS7
  have hM : (fU Mn7 5 (.inr (7, [.int 0, .int 0, .int 0, .int 0, .ref q1, .ref q2, .ref q3, .ref q4, .ref q5, .ref q6, .ref q7, v8, v9]))) 5 = some (.inr (7, [.int 0, .int 0, .int 0, .int 0, .ref q1, .ref q2, .ref q3, .ref q4, .ref q5, .ref q6, .ref q7, v8, v9])) := fU_s
  refine lv_aload_n hx hb dX6_init_64 rfl (lv_at hl 0 rfl) ?_
  refine lv_sipush (v := 140) hx hb dX6_init_65 (by decide) ?_
  refine f_newI X hw 13 (by omega) wq47 (N' := 140) (by decide) (by rfl) (by decide) (by dsimp only [fR]; omega) (by dsimp only [fR]; omega) dX6_init_68 (fun q8 H hw => ?_)
  obtain ⟨ad8, ea8⟩ : ∃ z, z = fV ad7 13 q8 := ⟨_, rfl⟩
  have eq8 : ad8 13 = q8 := by rw [ea8]; exact fV_s
  have eA8 : ∀ l, l ≠ 13 → ad8 l = ad7 l := fun l h => by rw [ea8]; exact fV_n h
  rw [← ea8] at hw
  obtain ⟨Mn8, em8⟩ : ∃ z, z = fU (fU Mn7 5 (.inr (7, [.int 0, .int 0, .int 0, .int 0, .ref q1, .ref q2, .ref q3, .ref q4, .ref q5, .ref q6, .ref q7, v8, v9]))) 13 (.inl (gI g, 140, .inl (fun _ => 0))) := ⟨_, rfl⟩
  have eM8 : ∀ l, l ≠ 13 → Mn8 l = (fU Mn7 5 (.inr (7, [.int 0, .int 0, .int 0, .int 0, .ref q1, .ref q2, .ref q3, .ref q4, .ref q5, .ref q6, .ref q7, v8, v9]))) l := fun l h => by rw [em8]; exact fU_n h
  have eS8 : Mn8 13 = some (.inl (gI g, 140, .inl (fun _ => 0))) := by rw [em8]; exact fU_s
  rw [← em8] at hw
  have hM : Mn8 5 = some (.inr (7, [.int 0, .int 0, .int 0, .int 0, .ref q1, .ref q2, .ref q3, .ref q4, .ref q5, .ref q6, .ref q7, v8, v9])) := (eM8 _ (by omega)).trans hM
  have eS1 : Mn8 6 = some (.inl (gI g, 6, .inl (fun _ => 0))) := (eM8 _ (by omega)).trans eS1
  have eS2 : Mn8 7 = some (.inl (gI g, 6, .inl (fun _ => 0))) := (eM8 _ (by omega)).trans eS2
  have eS3 : Mn8 8 = some (.inl (gI g, 210, .inl (fun _ => 0))) := (eM8 _ (by omega)).trans eS3
  have eS4 : Mn8 9 = some (.inl (gI g, 54, .inl (fun _ => 0))) := (eM8 _ (by omega)).trans eS4
  have eS5 : Mn8 10 = some (.inl (gI g, 1, .inl (upd (fun _ => 0) 0 0))) := (eM8 _ (by omega)).trans eS5
  have eS6 : Mn8 11 = some (.inl (gI g, 6, .inl (fun _ => 0))) := (eM8 _ (by omega)).trans eS6
  have eS7 : Mn8 12 = some (.inl (gZ g, 6, .inl (fun _ => 0))) := (eM8 _ (by omega)).trans eS7
  refine f_adr2 (ad := ad8) (lb := 5) ((eA8 5 (by omega)).trans ((eA7 5 (by omega)).trans ((eA6 5 (by omega)).trans ((eA5 5 (by omega)).trans ((eA4 5 (by omega)).trans ((eA3 5 (by omega)).trans ((eA2 5 (by omega)).trans (eA1 5 (by omega))))))))) ?_
  refine f_putF X hw hM fc7 11 (by decide) wq805 rfl rfl (hin rfl) rfl (v := .ref q8) rfl rfl (Nat.le_of_ble_eq_true rfl) dX6_init_70 (fun H locs hw => ?_)
  have hw : fw g ad8 (fU Mn8 5 (.inr (7, [.int 0, .int 0, .int 0, .int 0, .ref q1, .ref q2, .ref q3, .ref q4, .ref q5, .ref q6, .ref q7, .ref q8, v9]))) s H locs := hw
  have eS1 : (fU Mn8 5 (.inr (7, [.int 0, .int 0, .int 0, .int 0, .ref q1, .ref q2, .ref q3, .ref q4, .ref q5, .ref q6, .ref q7, .ref q8, v9]))) 6 = some (.inl (gI g, 6, .inl (fun _ => 0))) := (fU_n (by omega)).trans eS1
  have eS2 : (fU Mn8 5 (.inr (7, [.int 0, .int 0, .int 0, .int 0, .ref q1, .ref q2, .ref q3, .ref q4, .ref q5, .ref q6, .ref q7, .ref q8, v9]))) 7 = some (.inl (gI g, 6, .inl (fun _ => 0))) := (fU_n (by omega)).trans eS2
  have eS3 : (fU Mn8 5 (.inr (7, [.int 0, .int 0, .int 0, .int 0, .ref q1, .ref q2, .ref q3, .ref q4, .ref q5, .ref q6, .ref q7, .ref q8, v9]))) 8 = some (.inl (gI g, 210, .inl (fun _ => 0))) := (fU_n (by omega)).trans eS3
  have eS4 : (fU Mn8 5 (.inr (7, [.int 0, .int 0, .int 0, .int 0, .ref q1, .ref q2, .ref q3, .ref q4, .ref q5, .ref q6, .ref q7, .ref q8, v9]))) 9 = some (.inl (gI g, 54, .inl (fun _ => 0))) := (fU_n (by omega)).trans eS4
  have eS5 : (fU Mn8 5 (.inr (7, [.int 0, .int 0, .int 0, .int 0, .ref q1, .ref q2, .ref q3, .ref q4, .ref q5, .ref q6, .ref q7, .ref q8, v9]))) 10 = some (.inl (gI g, 1, .inl (upd (fun _ => 0) 0 0))) := (fU_n (by omega)).trans eS5
  have eS6 : (fU Mn8 5 (.inr (7, [.int 0, .int 0, .int 0, .int 0, .ref q1, .ref q2, .ref q3, .ref q4, .ref q5, .ref q6, .ref q7, .ref q8, v9]))) 11 = some (.inl (gI g, 6, .inl (fun _ => 0))) := (fU_n (by omega)).trans eS6
  have eS7 : (fU Mn8 5 (.inr (7, [.int 0, .int 0, .int 0, .int 0, .ref q1, .ref q2, .ref q3, .ref q4, .ref q5, .ref q6, .ref q7, .ref q8, v9]))) 12 = some (.inl (gZ g, 6, .inl (fun _ => 0))) := (fU_n (by omega)).trans eS7
  have eS8 : (fU Mn8 5 (.inr (7, [.int 0, .int 0, .int 0, .int 0, .ref q1, .ref q2, .ref q3, .ref q4, .ref q5, .ref q6, .ref q7, .ref q8, v9]))) 13 = some (.inl (gI g, 140, .inl (fun _ => 0))) := (fU_n (by omega)).trans eS8
  have hM : (fU Mn8 5 (.inr (7, [.int 0, .int 0, .int 0, .int 0, .ref q1, .ref q2, .ref q3, .ref q4, .ref q5, .ref q6, .ref q7, .ref q8, v9]))) 5 = some (.inr (7, [.int 0, .int 0, .int 0, .int 0, .ref q1, .ref q2, .ref q3, .ref q4, .ref q5, .ref q6, .ref q7, .ref q8, v9])) := fU_s
  refine lv_aload_n hx hb dX6_init_73 rfl (lv_at hl 0 rfl) ?_
  refine lv_bipush (v := 30) hx hb dX6_init_74 (by decide) ?_
  refine f_newZ X hw 14 (by omega) wq834 (N' := 30) (by decide) (by rfl) (by decide) (by dsimp only [fR]; omega) (by dsimp only [fR]; omega) dX6_init_76 (fun q9 H hw => ?_)
  obtain ⟨ad9, ea9⟩ : ∃ z, z = fV ad8 14 q9 := ⟨_, rfl⟩
  have eq9 : ad9 14 = q9 := by rw [ea9]; exact fV_s
  have eA9 : ∀ l, l ≠ 14 → ad9 l = ad8 l := fun l h => by rw [ea9]; exact fV_n h
  rw [← ea9] at hw
  obtain ⟨Mn9, em9⟩ : ∃ z, z = fU (fU Mn8 5 (.inr (7, [.int 0, .int 0, .int 0, .int 0, .ref q1, .ref q2, .ref q3, .ref q4, .ref q5, .ref q6, .ref q7, .ref q8, v9]))) 14 (.inl (gZ g, 30, .inl (fun _ => 0))) := ⟨_, rfl⟩
  have eM9 : ∀ l, l ≠ 14 → Mn9 l = (fU Mn8 5 (.inr (7, [.int 0, .int 0, .int 0, .int 0, .ref q1, .ref q2, .ref q3, .ref q4, .ref q5, .ref q6, .ref q7, .ref q8, v9]))) l := fun l h => by rw [em9]; exact fU_n h
  have eS9 : Mn9 14 = some (.inl (gZ g, 30, .inl (fun _ => 0))) := by rw [em9]; exact fU_s
  rw [← em9] at hw
  have hM : Mn9 5 = some (.inr (7, [.int 0, .int 0, .int 0, .int 0, .ref q1, .ref q2, .ref q3, .ref q4, .ref q5, .ref q6, .ref q7, .ref q8, v9])) := (eM9 _ (by omega)).trans hM
  have eS1 : Mn9 6 = some (.inl (gI g, 6, .inl (fun _ => 0))) := (eM9 _ (by omega)).trans eS1
  have eS2 : Mn9 7 = some (.inl (gI g, 6, .inl (fun _ => 0))) := (eM9 _ (by omega)).trans eS2
  have eS3 : Mn9 8 = some (.inl (gI g, 210, .inl (fun _ => 0))) := (eM9 _ (by omega)).trans eS3
  have eS4 : Mn9 9 = some (.inl (gI g, 54, .inl (fun _ => 0))) := (eM9 _ (by omega)).trans eS4
  have eS5 : Mn9 10 = some (.inl (gI g, 1, .inl (upd (fun _ => 0) 0 0))) := (eM9 _ (by omega)).trans eS5
  have eS6 : Mn9 11 = some (.inl (gI g, 6, .inl (fun _ => 0))) := (eM9 _ (by omega)).trans eS6
  have eS7 : Mn9 12 = some (.inl (gZ g, 6, .inl (fun _ => 0))) := (eM9 _ (by omega)).trans eS7
  have eS8 : Mn9 13 = some (.inl (gI g, 140, .inl (fun _ => 0))) := (eM9 _ (by omega)).trans eS8
  refine f_adr2 (ad := ad9) (lb := 5) ((eA9 5 (by omega)).trans ((eA8 5 (by omega)).trans ((eA7 5 (by omega)).trans ((eA6 5 (by omega)).trans ((eA5 5 (by omega)).trans ((eA4 5 (by omega)).trans ((eA3 5 (by omega)).trans ((eA2 5 (by omega)).trans (eA1 5 (by omega)))))))))) ?_
  refine f_putF X hw hM fc7 12 (by decide) wq806 rfl rfl (hin rfl) rfl (v := .ref q9) rfl rfl (Nat.le_of_ble_eq_true rfl) dX6_init_78 (fun H locs hw => ?_)
  have hw : fw g ad9 (fU Mn9 5 (.inr (7, [.int 0, .int 0, .int 0, .int 0, .ref q1, .ref q2, .ref q3, .ref q4, .ref q5, .ref q6, .ref q7, .ref q8, .ref q9]))) s H locs := hw
  have eS1 : (fU Mn9 5 (.inr (7, [.int 0, .int 0, .int 0, .int 0, .ref q1, .ref q2, .ref q3, .ref q4, .ref q5, .ref q6, .ref q7, .ref q8, .ref q9]))) 6 = some (.inl (gI g, 6, .inl (fun _ => 0))) := (fU_n (by omega)).trans eS1
  have eS2 : (fU Mn9 5 (.inr (7, [.int 0, .int 0, .int 0, .int 0, .ref q1, .ref q2, .ref q3, .ref q4, .ref q5, .ref q6, .ref q7, .ref q8, .ref q9]))) 7 = some (.inl (gI g, 6, .inl (fun _ => 0))) := (fU_n (by omega)).trans eS2
  have eS3 : (fU Mn9 5 (.inr (7, [.int 0, .int 0, .int 0, .int 0, .ref q1, .ref q2, .ref q3, .ref q4, .ref q5, .ref q6, .ref q7, .ref q8, .ref q9]))) 8 = some (.inl (gI g, 210, .inl (fun _ => 0))) := (fU_n (by omega)).trans eS3
  have eS4 : (fU Mn9 5 (.inr (7, [.int 0, .int 0, .int 0, .int 0, .ref q1, .ref q2, .ref q3, .ref q4, .ref q5, .ref q6, .ref q7, .ref q8, .ref q9]))) 9 = some (.inl (gI g, 54, .inl (fun _ => 0))) := (fU_n (by omega)).trans eS4
  have eS5 : (fU Mn9 5 (.inr (7, [.int 0, .int 0, .int 0, .int 0, .ref q1, .ref q2, .ref q3, .ref q4, .ref q5, .ref q6, .ref q7, .ref q8, .ref q9]))) 10 = some (.inl (gI g, 1, .inl (upd (fun _ => 0) 0 0))) := (fU_n (by omega)).trans eS5
  have eS6 : (fU Mn9 5 (.inr (7, [.int 0, .int 0, .int 0, .int 0, .ref q1, .ref q2, .ref q3, .ref q4, .ref q5, .ref q6, .ref q7, .ref q8, .ref q9]))) 11 = some (.inl (gI g, 6, .inl (fun _ => 0))) := (fU_n (by omega)).trans eS6
  have eS7 : (fU Mn9 5 (.inr (7, [.int 0, .int 0, .int 0, .int 0, .ref q1, .ref q2, .ref q3, .ref q4, .ref q5, .ref q6, .ref q7, .ref q8, .ref q9]))) 12 = some (.inl (gZ g, 6, .inl (fun _ => 0))) := (fU_n (by omega)).trans eS7
  have eS8 : (fU Mn9 5 (.inr (7, [.int 0, .int 0, .int 0, .int 0, .ref q1, .ref q2, .ref q3, .ref q4, .ref q5, .ref q6, .ref q7, .ref q8, .ref q9]))) 13 = some (.inl (gI g, 140, .inl (fun _ => 0))) := (fU_n (by omega)).trans eS8
  have eS9 : (fU Mn9 5 (.inr (7, [.int 0, .int 0, .int 0, .int 0, .ref q1, .ref q2, .ref q3, .ref q4, .ref q5, .ref q6, .ref q7, .ref q8, .ref q9]))) 14 = some (.inl (gZ g, 30, .inl (fun _ => 0))) := (fU_n (by omega)).trans eS9
  have hM : (fU Mn9 5 (.inr (7, [.int 0, .int 0, .int 0, .int 0, .ref q1, .ref q2, .ref q3, .ref q4, .ref q5, .ref q6, .ref q7, .ref q8, .ref q9]))) 5 = some (.inr (7, [.int 0, .int 0, .int 0, .int 0, .ref q1, .ref q2, .ref q3, .ref q4, .ref q5, .ref q6, .ref q7, .ref q8, .ref q9])) := fU_s
  have hMz : isMo g ad9 (fU Mn9 5 (.inr (7, [.int 0, .int 0, .int 0, .int 0, .ref q1, .ref q2, .ref q3, .ref q4, .ref q5, .ref q6, .ref q7, .ref q8, .ref q9]))) 0 T0 f0 f0 := ⟨fun _ => 0, fun _ => 0, fun _ => 0, fun _ => 0, _, fun _ => 0, fun _ => 0, (by unfold mObj; rw [hM, ((eA9 6 (by omega)).trans ((eA8 6 (by omega)).trans ((eA7 6 (by omega)).trans ((eA6 6 (by omega)).trans ((eA5 6 (by omega)).trans ((eA4 6 (by omega)).trans ((eA3 6 (by omega)).trans ((eA2 6 (by omega)).trans eq1)))))))), ((eA9 7 (by omega)).trans ((eA8 7 (by omega)).trans ((eA7 7 (by omega)).trans ((eA6 7 (by omega)).trans ((eA5 7 (by omega)).trans ((eA4 7 (by omega)).trans ((eA3 7 (by omega)).trans eq2))))))), ((eA9 8 (by omega)).trans ((eA8 8 (by omega)).trans ((eA7 8 (by omega)).trans ((eA6 8 (by omega)).trans ((eA5 8 (by omega)).trans ((eA4 8 (by omega)).trans eq3)))))), ((eA9 9 (by omega)).trans ((eA8 9 (by omega)).trans ((eA7 9 (by omega)).trans ((eA6 9 (by omega)).trans ((eA5 9 (by omega)).trans eq4))))), ((eA9 10 (by omega)).trans ((eA8 10 (by omega)).trans ((eA7 10 (by omega)).trans ((eA6 10 (by omega)).trans eq5)))), ((eA9 11 (by omega)).trans ((eA8 11 (by omega)).trans ((eA7 11 (by omega)).trans eq6))), ((eA9 12 (by omega)).trans ((eA8 12 (by omega)).trans eq7)), ((eA9 13 (by omega)).trans eq8), eq9]; rfl), ⟨eS1, eS2, eS3, eS4, eS5, eS6, eS7, eS8, eS9⟩, ⟨fun h hh => absurd hh (Nat.not_lt_zero _), fun h hh => absurd hh (Nat.not_lt_zero _), fun h hh => absurd hh (Nat.not_lt_zero _), upd_at⟩, ⟨Nat.zero_le _, Nat.zero_le _, Nat.zero_le _⟩⟩
  exact f_vret X hw ⟨hMz, fun l a b => ⟨(eA9 l (by omega)).trans ((eA8 l (by omega)).trans ((eA7 l (by omega)).trans ((eA6 l (by omega)).trans ((eA5 l (by omega)).trans ((eA4 l (by omega)).trans ((eA3 l (by omega)).trans ((eA2 l (by omega)).trans (eA1 l (by omega))))))))), (fU_n (by omega)).trans ((eM9 l (by omega)).trans ((fU_n (by omega)).trans ((eM8 l (by omega)).trans ((fU_n (by omega)).trans ((eM7 l (by omega)).trans ((fU_n (by omega)).trans ((eM6 l (by omega)).trans ((fU_n (by omega)).trans ((fU_n (by omega)).trans ((eM5 l (by omega)).trans ((fU_n (by omega)).trans ((eM4 l (by omega)).trans ((fU_n (by omega)).trans ((eM3 l (by omega)).trans ((fU_n (by omega)).trans ((eM2 l (by omega)).trans ((fU_n (by omega)).trans (eM1 l (by omega)))))))))))))))))))⟩, (eA9 5 (by omega)).trans ((eA8 5 (by omega)).trans ((eA7 5 (by omega)).trans ((eA6 5 (by omega)).trans ((eA5 5 (by omega)).trans ((eA4 5 (by omega)).trans ((eA3 5 (by omega)).trans ((eA2 5 (by omega)).trans (eA1 5 (by omega)))))))))⟩ (by omega) (by omega) dX6_init_81
