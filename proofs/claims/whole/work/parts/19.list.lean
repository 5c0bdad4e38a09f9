set_option maxHeartbeats 4000000 in
set_option maxRecDepth 100000 in
theorem c_Jxa_init (l : Launch) (g : fG) (ad : Nat → Nat) (M : fM) {ll : Nat} : fCv l g yJxa1e45_init_da8c8 cJxa1e45_init_da8c8 1 1 12 0 0 ad M [.ref (ad ll)] (fDv ad M) := by
  refine f_body (own := RJxa1e45) (by decide +kernel) rfl (Nat.le_of_ble_eq_true rfl) ?_
  intro p e s m args below meth c ls X hw hin hl
  have hx := X.1
  have hb := X.2.1
  have hl : lv_has ls 1 [(0, .ref (ad ll))] := hl
  refine lv_aload_n hx hb dJxa1e45_init_da8c8_0 rfl (lv_at hl 0 rfl) ?_
  refine W.objInit hx hb X.2.2.2.1 (X.2.2.2.2.1 _ wq65) (X.2.2.2.2.1 _ wq29) (X.2.2.2.2.1 _ wq30) rfl (by rw [X.2.2.1]; exact hl.1) rfl dJxa1e45_init_da8c8_1 (Nat.le_of_ble_eq_true rfl) (Nat.le_of_ble_eq_true rfl) ?_
  refine W.eq (g2 := F0 m 4 ls []) rfl ?_
  exact f_vret X hw ⟨rfl, rfl⟩ (Nat.le_refl _) (Nat.le_refl _) dJxa1e45_init_da8c8_4
set_option maxHeartbeats 4000000 in
set_option maxRecDepth 100000 in
theorem c_Jxc_init (l : Launch) (g : fG) (ad : Nat → Nat) (M : fM) {ll : Nat} {mo z : Int32} {d : Value} (hM : M ll = some (.inr (0, [.int mo, d, .int z]))) : fCv l g yJxc12de_init_da8c8 cJxc12de_init_da8c8 1 2 32 0 0 ad M [.ref (ad ll)] (fDv ad (fU M ll (.inr (0, [.int 0, d, .int z])))) := by
  refine f_body (own := RJxc12de) (by decide +kernel) rfl (Nat.le_of_ble_eq_true rfl) ?_
  intro p e s m args below meth c ls X hw hin hl
  have hx := X.1
  have hb := X.2.1
  have hl : lv_has ls 1 [(0, .ref (ad ll))] := hl
  refine lv_aload_n hx hb dJxc12de_init_da8c8_0 rfl (lv_at hl 0 rfl) ?_
  refine fk_dv (fcI X hw (c_Jxa_init l g ad M (ll := ll)) wq62 kIJxa1e45_init_da8c8 ⟨(Nat.le_of_ble_eq_true rfl), (Nat.le_of_ble_eq_true rfl)⟩ rfl hl.1 rfl (Nat.le_of_ble_eq_true rfl) dJxc12de_init_da8c8_1 ⟨Nat.le_refl _, Nat.le_refl _⟩) hw (fun H locs hw => ?_)
  refine lv_aload_n hx hb dJxc12de_init_da8c8_4 rfl (lv_at hl 0 rfl) ?_
  refine lv_iconst (v := 0) hx hb dJxc12de_init_da8c8_5 (by decide) ?_
  refine f_putG X hw hM fc0 0 (by decide) wq70 (fun _ h => h) rfl (v := .int 0) rfl rfl (Nat.le_of_ble_eq_true rfl) dJxc12de_init_da8c8_6 (fun H locs hw => ?_)
  have hw : fw g ad (fU M ll (.inr (0, [.int 0, d, .int z]))) s H locs := hw
  have hM : (fU M ll (.inr (0, [.int 0, d, .int z]))) ll = some (.inr (0, [.int 0, d, .int z])) := fU_s
  exact f_vret X hw ⟨rfl, rfl⟩ (Nat.le_refl _) (Nat.le_refl _) dJxc12de_init_da8c8_9
set_option maxHeartbeats 4000000 in
set_option maxRecDepth 100000 in
theorem c_L_init (l : Launch) (g : fG) (ad : Nat → Nat) (M : fM) {ll : Nat} {mo z : Int32} {d : Value} (hM : M ll = some (.inr (0, [.int mo, d, .int z]))) : fCv l g yJx4a65c_init_da8c8 cJx4a65c_init_da8c8 1 3 52 0 0 ad M [.ref (ad ll)] (fDv ad (fU M ll (.inr (0, [.int 0, .ref (gE g), .int z])))) := by
  refine f_body (own := RJx4a65c) (by decide +kernel) rfl (Nat.le_of_ble_eq_true rfl) ?_
  intro p e s m args below meth c ls X hw hin hl
  have hx := X.1
  have hb := X.2.1
  have hl : lv_has ls 1 [(0, .ref (ad ll))] := hl
  refine lv_aload_n hx hb dJx4a65c_init_da8c8_0 rfl (lv_at hl 0 rfl) ?_
  refine fk_dv (fcI X hw (c_Jxc_init l g ad M hM) wq59 kIJxc12de_init_da8c8 ⟨(Nat.le_of_ble_eq_true rfl), (Nat.le_of_ble_eq_true rfl)⟩ rfl hl.1 rfl (Nat.le_of_ble_eq_true rfl) dJx4a65c_init_da8c8_1 ⟨Nat.le_refl _, Nat.le_refl _⟩) hw (fun H locs hw => ?_)
  have hM : (fU M ll (.inr (0, [.int 0, d, .int z]))) ll = some (.inr (0, [.int 0, d, .int z])) := fU_s
  refine lv_aload_n hx hb dJx4a65c_init_da8c8_4 rfl (lv_at hl 0 rfl) ?_
  refine f_gets X hw wq66 dJx4a65c_init_da8c8_5 ?_
  refine f_put X hw hM fc0 1 (by decide) wq68 rfl rfl (v := .ref (gE g)) rfl rfl (Nat.le_of_ble_eq_true rfl) dJx4a65c_init_da8c8_8 (fun H locs hw => ?_)
  have hw : fw g ad (fU (fU M ll (.inr (0, [.int 0, d, .int z]))) ll (.inr (0, [.int 0, .ref (gE g), .int z]))) s H locs := hw
  rw [fU_U] at hw
  have hM : (fU M ll (.inr (0, [.int 0, .ref (gE g), .int z]))) ll = some (.inr (0, [.int 0, .ref (gE g), .int z])) := fU_s
  exact f_vret X hw ⟨rfl, rfl⟩ (Nat.le_refl _) (Nat.le_refl _) dJx4a65c_init_da8c8_11
set_option maxHeartbeats 4000000 in
set_option maxRecDepth 100000 in
theorem c_newLength (l : Launch) (g : fG) (ad : Nat → Nat) (M : fM) {N : Nat} (h1 : 10 ≤ N) (h2 : N ≤ 43) : fCi l g yJ8_newLength_cabcc cJ8_newLength_cabcc 4 ((some .int)) 1 14 0 0 ad M [.int (nI N), .int (nI 1), .int (nI (N / 2))] (fDi ad M (nI (N + N / 2))) := by
  refine f_body (own := RJ8) (by decide +kernel) rfl (Nat.le_of_ble_eq_true rfl) ?_
  intro p e s m args below meth c ls X hw hin hl
  have hx := X.1
  have hb := X.2.1
  have hl : lv_has ls 4 [(0, .int (nI N)), (1, .int (nI 1)), (2, .int (nI (N / 2)))] := hl
  refine lv_iload_n hx hb dJ8_newLength_cabcc_0 rfl (lv_at hl 0 rfl) ?_
  refine lv_iload_n hx hb dJ8_newLength_cabcc_1 rfl (lv_at hl 1 rfl) ?_
  refine lv_iload_n hx hb dJ8_newLength_cabcc_2 rfl (lv_at hl 2 rfl) ?_
  refine va_mmax hx hb (X.2.2.1.trans hl.1.symm) X.2.2.2.1 (X.2.2.2.2.1 _ wq172) (X.2.2.2.2.1 _ wq173) (X.2.2.2.2.1 _ wq18) (X.2.2.2.2.1 _ wq174) (Nat.le_of_ble_eq_true rfl) (Nat.le_of_ble_eq_true rfl) (Nat.zero_le _) (Nat.zero_le _) dJ8_newLength_cabcc_3 ?_
  refine f_top (y := nI (N / 2)) (if_pos (nI_lt (show 1 < N / 2 by omega) (by omega))) ?_
  refine lv_iadd hx hb dJ8_newLength_cabcc_6 ?_
  refine f_top (y := nI (N + N / 2)) (nI_add N (N / 2)) ?_
  refine lv_istore_n (lv' := [(3, .int (nI (N + N / 2))), (0, .int (nI N)), (1, .int (nI 1)), (2, .int (nI (N / 2)))]) hx hb dJ8_newLength_cabcc_7 rfl hl (by decide) rfl (fun ls hl => ?_)
  refine lv_iconst (v := 0) hx hb dJ8_newLength_cabcc_8 (by decide) ?_
  refine lv_iload_n hx hb dJ8_newLength_cabcc_9 rfl (lv_at hl 0 rfl) ?_
  refine lv_icmp_ge (tgt := 21) hx hb dJ8_newLength_cabcc_10 (by decide) (fun c_1 => absurd (nI_le' (a := N + N / 2) (b := 0) c_1 (by omega) (by omega)) (by omega)) (fun c_1 => ?_)
  have c_1 := nI_nle' (a := (N + N / 2)) (b := 0) c_1 (by omega) (by omega)
  refine lv_iload_n hx hb dJ8_newLength_cabcc_13 rfl (lv_at hl 0 rfl) ?_
  refine lv_ldc hx hb X.2.2.2.1 (X.2.2.2.2.1 _ wq175) dJ8_newLength_cabcc_14 ?_
  refine lv_icmp_gt (tgt := 21) hx hb dJ8_newLength_cabcc_16 (by decide) (fun c_2 => absurd (nI_lt' (a := 2147483639) (b := N + N / 2) c_2 (by omega) (by omega)) (by omega)) (fun c_2 => ?_)
  have c_2 := nI_nlt' (a := 2147483639) (b := (N + N / 2)) c_2 (by omega) (by omega)
  refine lv_iload_n hx hb dJ8_newLength_cabcc_19 rfl (lv_at hl 0 rfl) ?_
  exact f_iret X hw ⟨rfl, rfl, rfl⟩ (Nat.le_refl _) (Nat.le_refl _) dJ8_newLength_cabcc_20
set_option maxHeartbeats 4000000 in
set_option maxRecDepth 100000 in
theorem c_copyOf3 (l : Launch) (g : fG) (ad : Nat → Nat) (M : fM) {la N N2 : Nat} {f : Nat → Option Nat} (hA : M la = some (.inl (gO g, N, .inr (.inr (.inr (.inr f)))))) (h1 : N ≤ N2) (h2 : N2 ≤ 1000) (h3 : la < 4000) {ci : Nat} {C : String} {Tc : u_T} {Nc : Nat} (hci : vwCl[ci]? = some (C, Tc, Nc)) (hca : Cond.castable C "java/lang/Object" ∈ NW) (hel : ∀ i, i < N → ∃ (le : Nat) (fs : List Value), f i = some (ad le) ∧ M le = some (.inr (ci, fs)) ∧ le ≠ 4090) : fCr l g yJ7_copyOf_6403c cJ7_copyOf_6403c 4 ((some (.array (.object "java/lang/Object")))) 1 30 1 N2 ad M [.ref (ad la), .int (nI N2), .ref (gS g 0)] (fNew ad M 4090 (.inl (gO g, N2, .inr (.inr (.inr (.inr (va_cpy f (fun _ => none) 0 0 N))))))) := by
  refine f_body (own := RJ7) (by decide +kernel) rfl (Nat.le_of_ble_eq_true rfl) ?_
  intro p e s m args below meth c ls X hw hin hl
  have hx := X.1
  have hb := X.2.1
  have hl : lv_has ls 4 [(0, .ref (ad la)), (1, .int (nI N2)), (2, .ref (gS g 0))] := hl
  refine lv_aload_n hx hb dJ7_copyOf_6403c_0 rfl (lv_at hl 2 rfl) ?_
  refine f_ldcM X wq200 dJ7_copyOf_6403c_1 ?_
  refine lv_acmp_ne (rx := some (gS g 0)) (ry := some (gS g 0)) (tgt := 13) hx hb dJ7_copyOf_6403c_3 (by decide) (fun c => absurd rfl c) (fun c => ?_)
  refine lv_iload_n hx hb dJ7_copyOf_6403c_6 rfl (lv_at hl 1 rfl) ?_
  refine f_newO X hw 4090 (by omega) wq202 (n := nI N2) (N' := N2) (nI_pos (by omega)) (nI_clamp (by omega)) (by omega) (by dsimp only [fR]; omega) (by dsimp only [fR]; omega) dJ7_copyOf_6403c_7 (fun q1 H hw => ?_)
  obtain ⟨ad1, ea1⟩ : ∃ z, z = fV ad 4090 q1 := ⟨_, rfl⟩
  have eq1 : ad1 4090 = q1 := by rw [ea1]; exact fV_s
  have eA1 : ∀ l, l ≠ 4090 → ad1 l = ad l := fun l h => by rw [ea1]; exact fV_n h
  rw [← ea1] at hw
  obtain ⟨Mn1, em1⟩ : ∃ z, z = fU M 4090 (.inl (gO g, N2, .inr (.inr (.inr (.inr (fun _ => none)))))) := ⟨_, rfl⟩
  have eM1 : ∀ l, l ≠ 4090 → Mn1 l = M l := fun l h => by rw [em1]; exact fU_n h
  have eS1 : Mn1 4090 = some (.inl (gO g, N2, .inr (.inr (.inr (.inr (fun _ => none)))))) := by rw [em1]; exact fU_s
  rw [← em1] at hw
  have hA : Mn1 la = some (.inl (gO g, N, .inr (.inr (.inr (.inr f))))) := (eM1 _ (by omega)).trans hA
  refine lv_goto (tgt := 24) hx hb dJ7_copyOf_6403c_10 (by decide) ?_
  refine lv_astore_n (lv' := [(3, .ref q1), (0, .ref (ad la)), (1, .int (nI N2)), (2, .ref (gS g 0))]) hx hb dJ7_copyOf_6403c_24 rfl hl (by decide) rfl (fun ls hl => ?_)
  refine lv_aload_n hx hb dJ7_copyOf_6403c_25 rfl (lv_at hl 1 rfl) ?_
  refine lv_iconst (v := 0) hx hb dJ7_copyOf_6403c_26 (by decide) ?_
  refine lv_aload_n hx hb dJ7_copyOf_6403c_27 rfl (lv_at hl 0 rfl) ?_
  refine lv_iconst (v := 0) hx hb dJ7_copyOf_6403c_28 (by decide) ?_
  refine lv_aload_n hx hb dJ7_copyOf_6403c_29 rfl (lv_at hl 1 rfl) ?_
  refine f_adr (ad := ad1) (lb := la) (eA1 la (by omega)) ?_
  refine f_alen X hw 2 hA rfl dJ7_copyOf_6403c_30 ?_
  refine lv_iload_n hx hb dJ7_copyOf_6403c_31 rfl (lv_at hl 2 rfl) ?_
  refine va_mmin hx hb (X.2.2.1.trans hl.1.symm) X.2.2.2.1 (X.2.2.2.2.1 _ wq203) (X.2.2.2.2.1 _ wq204) (X.2.2.2.2.1 _ wq18) (X.2.2.2.2.1 _ wq205) (Nat.le_of_ble_eq_true rfl) (Nat.le_of_ble_eq_true rfl) (by dsimp only [fR]; omega) (by dsimp only [fR]; omega) dJ7_copyOf_6403c_32 ?_
  refine f_top (y := nI N) (if_neg (nI_nlt (by omega) (by omega))) ?_
  refine f_adr3 (ad := ad1) (lb := 4090) eq1 ?_
  refine f_adr5 (ad := ad1) (lb := la) (eA1 la (by omega)) ?_
  refine f_copyq X hl.1 hw (k := N) hA eS1 hci hca wq206 wq208 wq207 wq20 (by omega) (by omega) (by omega) (fun i hi => ?_) (Nat.le_of_ble_eq_true rfl) (Nat.le_of_ble_eq_true rfl) dJ7_copyOf_6403c_35 (fun H locs hw => ?_)
  · obtain ⟨le, fs, g1, g2, g3⟩ := hel i hi
    exact ⟨le, fs, by rw [g1, eA1 le g3], (eM1 le g3).trans g2⟩
  refine lv_aload_n hx hb dJ7_copyOf_6403c_38 rfl (lv_at hl 0 rfl) ?_
  exact f_aret X rfl (Or.inr ⟨_, rfl⟩) hw ⟨ea1, by rw [em1, fU_U]⟩ (by omega) (by omega) dJ7_copyOf_6403c_39
set_option maxHeartbeats 4000000 in
set_option maxRecDepth 100000 in
theorem c_copyOf2 (l : Launch) (g : fG) (ad : Nat → Nat) (M : fM) {la N N2 : Nat} {f : Nat → Option Nat} (hA : M la = some (.inl (gO g, N, .inr (.inr (.inr (.inr f)))))) (h1 : N ≤ N2) (h2 : N2 ≤ 1000) (h3 : la < 4000) {ci : Nat} {C : String} {Tc : u_T} {Nc : Nat} (hci : vwCl[ci]? = some (C, Tc, Nc)) (hca : Cond.castable C "java/lang/Object" ∈ NW) (hel : ∀ i, i < N → ∃ (le : Nat) (fs : List Value), f i = some (ad le) ∧ M le = some (.inr (ci, fs)) ∧ le ≠ 4090) : fCr l g yJ7_copyOf_1904c cJ7_copyOf_1904c 2 ((some (.array (.object "java/lang/Object")))) 2 53 1 N2 ad M [.ref (ad la), .int (nI N2)] (fNew ad M 4090 (.inl (gO g, N2, .inr (.inr (.inr (.inr (va_cpy f (fun _ => none) 0 0 N))))))) := by
  refine f_body (own := RJ7) (by decide +kernel) rfl (Nat.le_of_ble_eq_true rfl) ?_
  intro p e s m args below meth c ls X hw hin hl
  have hx := X.1
  have hb := X.2.1
  have hl : lv_has ls 2 [(0, .ref (ad la)), (1, .int (nI N2))] := hl
  refine lv_aload_n hx hb dJ7_copyOf_1904c_0 rfl (lv_at hl 0 rfl) ?_
  refine lv_iload_n hx hb dJ7_copyOf_1904c_1 rfl (lv_at hl 1 rfl) ?_
  refine lv_aload_n hx hb dJ7_copyOf_1904c_2 rfl (lv_at hl 0 rfl) ?_
  refine f_getC X hl.1 hw hA wq182 wn1080 wq1079 wq183 wq196 (Nat.le_of_ble_eq_true rfl) (Nat.le_of_ble_eq_true rfl) dJ7_copyOf_1904c_3 ?_
  refine fk_r (fcS X hw (c_copyOf3 l g ad M hA h1 h2 h3 hci hca hel) wq197 kSJ7_copyOf_6403c ⟨(Nat.le_of_ble_eq_true rfl), (Nat.le_of_ble_eq_true rfl)⟩ rfl hl.1 rfl (Nat.le_of_ble_eq_true rfl) dJ7_copyOf_1904c_6 ⟨(by dsimp only [fR]; omega), (by dsimp only [fR]; omega)⟩) hw (fun q ad1 M1 H locs hp hw => ?_)
  exact f_aret X rfl (Or.inr ⟨_, rfl⟩) hw hp (by omega) (by omega) dJ7_copyOf_1904c_9
