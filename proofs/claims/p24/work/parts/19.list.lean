set_option maxHeartbeats 4000000 in
set_option maxRecDepth 100000 in
theorem c_Jxa_init (l : Launch) (g : fG) (ad : Nat → Nat) (M : fM) {ll : Nat} : fCv l g yJxa1e45_init_da8c8 cJxa1e45_init_da8c8 1 1 12 0 0 ad M [.ref (ad ll)] (fDv ad M) := by
  refine f_body (own := RJxa1e45) (by decide +kernel) rfl (Nat.le_of_ble_eq_true rfl) ?_
  intro p e s m args below meth c ls X hw hin hl
  have hx := X.1
  have hb := X.2.1
  have hl : lv_has ls 1 [(0, .ref (ad ll))] := hl
  refine lv_aload_n hx hb dJxa1e45_init_da8c8_0 rfl (lv_at hl 0 rfl) ?_
  refine W.objInit hx hb X.2.2.2.1 (X.2.2.2.2.1 _ wq67) (X.2.2.2.2.1 _ wq31) (X.2.2.2.2.1 _ wq32) rfl (by rw [X.2.2.1]; exact hl.1) rfl dJxa1e45_init_da8c8_1 (Nat.le_of_ble_eq_true rfl) (Nat.le_of_ble_eq_true rfl) ?_
  refine W.eq (g2 := F0 m 4 ls []) rfl ?_
  exact f_vret X hw ⟨rfl, rfl⟩ (Nat.le_refl _) (Nat.le_refl _) dJxa1e45_init_da8c8_4
set_option maxHeartbeats 4000000 in
set_option maxRecDepth 100000 in
theorem c_Jxc_init (l : Launch) (g : fG) (ad : Nat → Nat) (M : fM) {ll : Nat} {mo z : Int32} {d : Value} (hM : M ll = some (.inr (0, [.int mo, d, .int z]))) : fCv l g yJxc12de_init_da8c8 cJxc12de_init_da8c8 1 2 32 0 0 ad M [.ref (ad ll)] (fDv ad (fU M ll (.inr (0, [.int 0, d, .int z])))) := by
  refine f_body (own := RJxc12de) (by decide +kernel) rfl (Nat.le_of_ble_eq_true rfl) ?_
  intro p e s m args below meth c ls X hw hin hl
  have hx := X.1
  have hb := X.2.1
  have hl : lv_has ls 1 [(0, .ref (ad ll))] := hl
  refine lv_aload_n hx hb dJxc12de_init_da8c8_0 rfl (lv_at hl 0 rfl) ?_
  refine fk_dv (fcI X hw (c_Jxa_init l g ad M (ll := ll)) wq64 kIJxa1e45_init_da8c8 ⟨(Nat.le_of_ble_eq_true rfl), (Nat.le_of_ble_eq_true rfl)⟩ rfl hl.1 rfl (Nat.le_of_ble_eq_true rfl) dJxc12de_init_da8c8_1 ⟨Nat.le_refl _, Nat.le_refl _⟩) hw (fun H locs hw => ?_)
  refine lv_aload_n hx hb dJxc12de_init_da8c8_4 rfl (lv_at hl 0 rfl) ?_
  refine lv_iconst (v := 0) hx hb dJxc12de_init_da8c8_5 (by decide) ?_
  refine f_putG X hw hM fc0 0 (by decide) wq72 (fun _ h => h) rfl (v := .int 0) rfl rfl (Nat.le_of_ble_eq_true rfl) dJxc12de_init_da8c8_6 (fun H locs hw => ?_)
  have hw : fw g ad (fU M ll (.inr (0, [.int 0, d, .int z]))) s H locs := hw
  have hM : (fU M ll (.inr (0, [.int 0, d, .int z]))) ll = some (.inr (0, [.int 0, d, .int z])) := fU_s
  exact f_vret X hw ⟨rfl, rfl⟩ (Nat.le_refl _) (Nat.le_refl _) dJxc12de_init_da8c8_9
set_option maxHeartbeats 4000000 in
set_option maxRecDepth 100000 in
theorem c_L_init (l : Launch) (g : fG) (ad : Nat → Nat) (M : fM) {ll : Nat} {mo z : Int32} {d : Value} (hM : M ll = some (.inr (0, [.int mo, d, .int z]))) : fCv l g yJx4a65c_init_da8c8 cJx4a65c_init_da8c8 1 3 52 0 0 ad M [.ref (ad ll)] (fDv ad (fU M ll (.inr (0, [.int 0, .ref (gE g), .int z])))) := by
  refine f_body (own := RJx4a65c) (by decide +kernel) rfl (Nat.le_of_ble_eq_true rfl) ?_
  intro p e s m args below meth c ls X hw hin hl
  have hx := X.1
  have hb := X.2.1
  have hl : lv_has ls 1 [(0, .ref (ad ll))] := hl
  refine lv_aload_n hx hb dJx4a65c_init_da8c8_0 rfl (lv_at hl 0 rfl) ?_
  refine fk_dv (fcI X hw (c_Jxc_init l g ad M hM) wq61 kIJxc12de_init_da8c8 ⟨(Nat.le_of_ble_eq_true rfl), (Nat.le_of_ble_eq_true rfl)⟩ rfl hl.1 rfl (Nat.le_of_ble_eq_true rfl) dJx4a65c_init_da8c8_1 ⟨Nat.le_refl _, Nat.le_refl _⟩) hw (fun H locs hw => ?_)
  have hM : (fU M ll (.inr (0, [.int 0, d, .int z]))) ll = some (.inr (0, [.int 0, d, .int z])) := fU_s
  refine lv_aload_n hx hb dJx4a65c_init_da8c8_4 rfl (lv_at hl 0 rfl) ?_
  refine f_gets X hw wq68 dJx4a65c_init_da8c8_5 ?_
  refine f_put X hw hM fc0 1 (by decide) wq70 rfl rfl (v := .ref (gE g)) rfl rfl (Nat.le_of_ble_eq_true rfl) dJx4a65c_init_da8c8_8 (fun H locs hw => ?_)
  have hw : fw g ad (fU (fU M ll (.inr (0, [.int 0, d, .int z]))) ll (.inr (0, [.int 0, .ref (gE g), .int z]))) s H locs := hw
  rw [fU_U] at hw
  have hM : (fU M ll (.inr (0, [.int 0, .ref (gE g), .int z]))) ll = some (.inr (0, [.int 0, .ref (gE g), .int z])) := fU_s
  exact f_vret X hw ⟨rfl, rfl⟩ (Nat.le_refl _) (Nat.le_refl _) dJx4a65c_init_da8c8_11
set_option maxHeartbeats 4000000 in
set_option maxRecDepth 100000 in
theorem c_newLength (l : Launch) (g : fG) (ad : Nat → Nat) (M : fM) {N : Nat} (h1 : 10 ≤ N) (h2 : N ≤ 43) : fCi l g yJ8_newLength_cabcc cJ8_newLength_cabcc 4 ((some .int)) 1 14 0 0 ad M [.int (nI N), .int (nI 1), .int (nI (N / 2))] (fDi ad M (nI (N + N / 2))) := by
  refine f_body (own := RJ8) (by decide +kernel) rfl (Nat.le_of_ble_eq_true rfl) ?_
  intro p e s m args below meth c ls X hw hin hl
  have hx := X.1
  have hb := X.2.1
  have hl : lv_has ls 4 [(0, .int (nI N)), (1, .int (nI 1)), (2, .int (nI (N / 2)))] := hl
  refine lv_iload_n hx hb dJ8_newLength_cabcc_0 rfl (lv_at hl 0 rfl) ?_
  refine lv_iload_n hx hb dJ8_newLength_cabcc_1 rfl (lv_at hl 1 rfl) ?_
  refine lv_iload_n hx hb dJ8_newLength_cabcc_2 rfl (lv_at hl 2 rfl) ?_
  refine va_mmax hx hb (X.2.2.1.trans hl.1.symm) X.2.2.2.1 (X.2.2.2.2.1 _ wq448) (X.2.2.2.2.1 _ wq290) (X.2.2.2.2.1 _ wq18) (X.2.2.2.2.1 _ wq291) (Nat.le_of_ble_eq_true rfl) (Nat.le_of_ble_eq_true rfl) (Nat.zero_le _) (Nat.zero_le _) dJ8_newLength_cabcc_3 ?_
  refine f_top (y := nI (N / 2)) (if_pos (nI_lt (show 1 < N / 2 by omega) (by omega))) ?_
  refine lv_iadd hx hb dJ8_newLength_cabcc_6 ?_
  refine f_top (y := nI (N + N / 2)) (nI_add N (N / 2)) ?_
  refine lv_istore_n (lv' := [(3, .int (nI (N + N / 2))), (0, .int (nI N)), (1, .int (nI 1)), (2, .int (nI (N / 2)))]) hx hb dJ8_newLength_cabcc_7 rfl hl (by decide) rfl (fun ls hl => ?_)
  refine lv_iconst (v := 0) hx hb dJ8_newLength_cabcc_8 (by decide) ?_
  refine lv_iload_n hx hb dJ8_newLength_cabcc_9 rfl (lv_at hl 0 rfl) ?_
  refine lv_icmp_ge (tgt := 21) hx hb dJ8_newLength_cabcc_10 (by decide) (fun c_1 => absurd (nI_le' (a := N + N / 2) (b := 0) c_1 (by omega) (by omega)) (by omega)) (fun c_1 => ?_)
  have c_1 := nI_nle' (a := (N + N / 2)) (b := 0) c_1 (by omega) (by omega)
  refine lv_iload_n hx hb dJ8_newLength_cabcc_13 rfl (lv_at hl 0 rfl) ?_
  refine lv_ldc hx hb X.2.2.2.1 (X.2.2.2.2.1 _ wq449) dJ8_newLength_cabcc_14 ?_
  refine lv_icmp_gt (tgt := 21) hx hb dJ8_newLength_cabcc_16 (by decide) (fun c_2 => absurd (nI_lt' (a := 2147483639) (b := N + N / 2) c_2 (by omega) (by omega)) (by omega)) (fun c_2 => ?_)
  have c_2 := nI_nlt' (a := 2147483639) (b := (N + N / 2)) c_2 (by omega) (by omega)
  refine lv_iload_n hx hb dJ8_newLength_cabcc_19 rfl (lv_at hl 0 rfl) ?_
  exact f_iret X hw ⟨rfl, rfl, rfl⟩ (Nat.le_refl _) (Nat.le_refl _) dJ8_newLength_cabcc_20
set_option maxHeartbeats 4000000 in
set_option maxRecDepth 100000 in
theorem c_copyOf3 (l : Launch) (g : fG) (ad : Nat → Nat) (M : fM) {la N N2 : Nat} {f : Nat → Option Nat} (hA : M la = some (.inl (gO g, N, .inr (.inr (.inr (.inr f)))))) (h1 : N ≤ N2) (h2 : N2 ≤ 1000) (h3 : la < 4000) {ci : Nat} {C : String} {Tc : u_T} {Nc : Nat} (hci : vwCl[ci]? = some (C, Tc, Nc)) (hca : Cond.castable C "java/lang/Object" ∈ NW) (hel : ∀ i, i < N → ∃ (le : Nat) (fs : List Value), f i = some (ad le) ∧ M le = some (.inr (ci, fs)) ∧ le ≠ 4090) : fCr l g yJ7_copyOf_6403c cJ7_copyOf_6403c 4 ((some (.array (.object "java/lang/Object")))) 1 30 1 N2 ad M [.ref (ad la), .int (nI N2), .ref (gS g 0)] (fNew ad M 4090 (.inl (gO g, N2, .inr (.inr (.inr (.inr (va_cpy f (fun _ => none) 0 0 N))))))) := by
  refine f_body (own := RJ7) (by decide +kernel) rfl (Nat.le_of_ble_eq_true rfl) ?_
  intro p e s m args below meth c ls X hw hin hl
  have hx := X.1
  have hb := X.2.1
  have hl : lv_has ls 4 [(0, .ref (ad la)), (1, .int (nI N2)), (2, .ref (gS g 0))] := hl
  refine lv_aload_n hx hb dJ7_copyOf_6403c_0 rfl (lv_at hl 2 rfl) ?_
  refine f_ldcM X wq476 dJ7_copyOf_6403c_1 ?_
  refine lv_acmp_ne (rx := some (gS g 0)) (ry := some (gS g 0)) (tgt := 13) hx hb dJ7_copyOf_6403c_3 (by decide) (fun c => absurd rfl c) (fun c => ?_)
  refine lv_iload_n hx hb dJ7_copyOf_6403c_6 rfl (lv_at hl 1 rfl) ?_
  refine f_newO X hw 4090 (by omega) wq478 (n := nI N2) (N' := N2) (nI_pos (by omega)) (nI_clamp (by omega)) (by omega) (by dsimp only [fR]; omega) (by dsimp only [fR]; omega) dJ7_copyOf_6403c_7 (fun q1 H hw => ?_)
  obtain ⟨ad1, ea1⟩ : ∃ z, z = fV ad 4090 q1 := ⟨_, rfl⟩
  have eq1 : ad1 4090 = q1 := by rw [ea1]; exact fV_s
  have eA1 : ∀ l, l ≠ 4090 → ad1 l = ad l := fun l h => by rw [ea1]; exact fV_n h
  rw [← ea1] at hw
  obtain ⟨Mn1, em1⟩ : ∃ z, z = fU M 4090 (.inl (gO g, N2, .inr (.inr (.inr (.inr (fun _ => none)))))) := ⟨_, rfl⟩
  have eM1 : ∀ l, l ≠ 4090 → Mn1 l = M l := fun l h => by rw [em1]; exact fU_n h
  have eS1 : Mn1 4090 = some (.inl (gO g, N2, .inr (.inr (.inr (.inr (fun _ => none)))))) := by rw [em1]; exact fU_s
  rw [← em1] at hw
  have hA : Mn1 la = some (.inl (gO g, N, .inr (.inr (.inr (.inr f))))) := (eM1 _ (by omega)).trans hA
  refine lv_goto (tgt := 24) hx hb dJ7_copyOf_6403c_10 (by decide) ?_
  refine lv_astore_n (lv' := [(3, .ref q1), (0, .ref (ad la)), (1, .int (nI N2)), (2, .ref (gS g 0))]) hx hb dJ7_copyOf_6403c_24 rfl hl (by decide) rfl (fun ls hl => ?_)
  refine lv_aload_n hx hb dJ7_copyOf_6403c_25 rfl (lv_at hl 1 rfl) ?_
  refine lv_iconst (v := 0) hx hb dJ7_copyOf_6403c_26 (by decide) ?_
  refine lv_aload_n hx hb dJ7_copyOf_6403c_27 rfl (lv_at hl 0 rfl) ?_
  refine lv_iconst (v := 0) hx hb dJ7_copyOf_6403c_28 (by decide) ?_
  refine lv_aload_n hx hb dJ7_copyOf_6403c_29 rfl (lv_at hl 1 rfl) ?_
  refine f_adr (ad := ad1) (lb := la) (eA1 la (by omega)) ?_
  refine f_alen X hw 2 hA rfl dJ7_copyOf_6403c_30 ?_
  refine lv_iload_n hx hb dJ7_copyOf_6403c_31 rfl (lv_at hl 2 rfl) ?_
  refine va_mmin hx hb (X.2.2.1.trans hl.1.symm) X.2.2.2.1 (X.2.2.2.2.1 _ wq479) (X.2.2.2.2.1 _ wq287) (X.2.2.2.2.1 _ wq18) (X.2.2.2.2.1 _ wq288) (Nat.le_of_ble_eq_true rfl) (Nat.le_of_ble_eq_true rfl) (by dsimp only [fR]; omega) (by dsimp only [fR]; omega) dJ7_copyOf_6403c_32 ?_
  refine f_top (y := nI N) (if_neg (nI_nlt (by omega) (by omega))) ?_
  refine f_adr3 (ad := ad1) (lb := 4090) eq1 ?_
  refine f_adr5 (ad := ad1) (lb := la) (eA1 la (by omega)) ?_
  refine f_copyq X hl.1 hw (k := N) hA eS1 hci hca wq480 wq482 wq481 wq20 (by omega) (by omega) (by omega) (fun i hi => ?_) (Nat.le_of_ble_eq_true rfl) (Nat.le_of_ble_eq_true rfl) dJ7_copyOf_6403c_35 (fun H locs hw => ?_)
  · obtain ⟨le, fs, g1, g2, g3⟩ := hel i hi
    exact ⟨le, fs, by rw [g1, eA1 le g3], (eM1 le g3).trans g2⟩
  refine lv_aload_n hx hb dJ7_copyOf_6403c_38 rfl (lv_at hl 0 rfl) ?_
  exact f_aret X rfl (Or.inr ⟨_, rfl⟩) hw ⟨ea1, by rw [em1, fU_U]⟩ (by omega) (by omega) dJ7_copyOf_6403c_39
set_option maxHeartbeats 4000000 in
set_option maxRecDepth 100000 in
theorem c_copyOf2 (l : Launch) (g : fG) (ad : Nat → Nat) (M : fM) {la N N2 : Nat} {f : Nat → Option Nat} (hA : M la = some (.inl (gO g, N, .inr (.inr (.inr (.inr f)))))) (h1 : N ≤ N2) (h2 : N2 ≤ 1000) (h3 : la < 4000) {ci : Nat} {C : String} {Tc : u_T} {Nc : Nat} (hci : vwCl[ci]? = some (C, Tc, Nc)) (hca : Cond.castable C "java/lang/Object" ∈ NW) (hel : ∀ i, i < N → ∃ (le : Nat) (fs : List Value), f i = some (ad le) ∧ M le = some (.inr (ci, fs)) ∧ le ≠ 4090) : fCr l g yJ7_copyOf_1904c cJ7_copyOf_1904c 2 ((some (.array (.object "java/lang/Object")))) 2 53 1 N2 ad M [.ref (ad la), .int (nI N2)] (fNew ad M 4090 (.inl (gO g, N2, .inr (.inr (.inr (.inr (va_cpy f (fun _ => none) 0 0 N))))))) := by
  refine f_body (own := RJ7) (by decide +kernel) rfl (Nat.le_of_ble_eq_true rfl) ?_
  intro p e s m args below meth c ls X hw hin hl
  have hx := X.1
  have hb := X.2.1
  have hl : lv_has ls 2 [(0, .ref (ad la)), (1, .int (nI N2))] := hl
  refine lv_aload_n hx hb dJ7_copyOf_1904c_0 rfl (lv_at hl 0 rfl) ?_
  refine lv_iload_n hx hb dJ7_copyOf_1904c_1 rfl (lv_at hl 1 rfl) ?_
  refine lv_aload_n hx hb dJ7_copyOf_1904c_2 rfl (lv_at hl 0 rfl) ?_
  refine f_getC X hl.1 hw hA wq456 wn906 wq905 wq457 wq472 (Nat.le_of_ble_eq_true rfl) (Nat.le_of_ble_eq_true rfl) dJ7_copyOf_1904c_3 ?_
  refine fk_r (fcS X hw (c_copyOf3 l g ad M hA h1 h2 h3 hci hca hel) wq473 kSJ7_copyOf_6403c ⟨(Nat.le_of_ble_eq_true rfl), (Nat.le_of_ble_eq_true rfl)⟩ rfl hl.1 rfl (Nat.le_of_ble_eq_true rfl) dJ7_copyOf_1904c_6 ⟨(by dsimp only [fR]; omega), (by dsimp only [fR]; omega)⟩) hw (fun q ad1 M1 H locs hp hw => ?_)
  exact f_aret X rfl (Or.inr ⟨_, rfl⟩) hw hp (by omega) (by omega) dJ7_copyOf_1904c_9
set_option maxHeartbeats 4000000 in
set_option maxRecDepth 100000 in
theorem c_growA (l : Launch) (g : fG) (ad : Nat → Nat) (M : fM) {ll la : Nat} {mo z : Int32} (hM : M ll = some (.inr (0, [.int mo, .ref (gE g), .int z]))) (h1 : ll < la) (h2 : la < 4000) : fCr l g yJx4a65c_grow_92f84 cJx4a65c_grow_92f84 4 ((some (.array (.object "java/lang/Object")))) 1 30 1 10 ad M [.ref (ad ll), .int (nI 1)] (fGrown ad M ll la mo z (.inl (gO g, 10, .inr (.inr (.inr (.inr (fun _ => none))))))) := by
  refine f_body (own := RJx4a65c) (by decide +kernel) rfl (Nat.le_of_ble_eq_true rfl) ?_
  intro p e s m args below meth c ls X hw hin hl
  have hx := X.1
  have hb := X.2.1
  have hl : lv_has ls 4 [(0, .ref (ad ll)), (1, .int (nI 1))] := hl
  refine lv_aload_n hx hb dJx4a65c_grow_92f84_0 rfl (lv_at hl 0 rfl) ?_
  refine f_get X hw hM fc0 1 (by decide) wq70 rfl (v := .ref (gE g)) rfl dJx4a65c_grow_92f84_1 ?_
  refine f_alenE X hw dJx4a65c_grow_92f84_4 ?_
  refine lv_istore_n (lv' := [(2, .int (nI 0)), (0, .ref (ad ll)), (1, .int (nI 1))]) hx hb dJx4a65c_grow_92f84_5 rfl hl (by decide) rfl (fun ls hl => ?_)
  refine lv_iload_n hx hb dJx4a65c_grow_92f84_6 rfl (lv_at hl 0 rfl) ?_
  refine lv_if_gt (tgt := 20) hx hb dJx4a65c_grow_92f84_7 (by decide) (fun c_1 => absurd (nI_lt' (a := 0) (b := 0) c_1 (by omega) (by omega)) (by omega)) (fun c_1 => ?_)
  have c_1 := nI_nlt' (a := 0) (b := 0) c_1 (by omega) (by omega)
  refine lv_aload_n hx hb dJx4a65c_grow_92f84_10 rfl (lv_at hl 1 rfl) ?_
  refine f_get X hw hM fc0 1 (by decide) wq70 rfl (v := .ref (gE g)) rfl dJx4a65c_grow_92f84_11 ?_
  refine f_gets X hw wq68 dJx4a65c_grow_92f84_14 ?_
  refine lv_acmp_eq (rx := some (gE g)) (ry := some (gE g)) (tgt := 45) hx hb dJx4a65c_grow_92f84_17 (by decide) (fun c => ?_) (fun c => absurd rfl c)
  refine lv_aload_n hx hb dJx4a65c_grow_92f84_45 rfl (lv_at hl 1 rfl) ?_
  refine lv_bipush (v := 10) hx hb dJx4a65c_grow_92f84_46 (by decide) ?_
  refine lv_iload_n hx hb dJx4a65c_grow_92f84_48 rfl (lv_at hl 2 rfl) ?_
  refine va_mmax hx hb (X.2.2.1.trans hl.1.symm) X.2.2.2.1 (X.2.2.2.2.1 _ wq483) (X.2.2.2.2.1 _ wq290) (X.2.2.2.2.1 _ wq18) (X.2.2.2.2.1 _ wq291) (Nat.le_of_ble_eq_true rfl) (Nat.le_of_ble_eq_true rfl) (Nat.zero_le _) (Nat.zero_le _) dJx4a65c_grow_92f84_49 ?_
  refine f_top (y := 10) (if_neg (by decide)) ?_
  refine f_newO X hw la (by omega) wq484 (n := nI 10) (N' := 10) (nI_pos (by omega)) (nI_clamp (by omega)) (by omega) (by dsimp only [fR]; omega) (by dsimp only [fR]; omega) dJx4a65c_grow_92f84_52 (fun q1 H hw => ?_)
  obtain ⟨ad1, ea1⟩ : ∃ z, z = fV ad la q1 := ⟨_, rfl⟩
  have eq1 : ad1 la = q1 := by rw [ea1]; exact fV_s
  have eA1 : ∀ l, l ≠ la → ad1 l = ad l := fun l h => by rw [ea1]; exact fV_n h
  rw [← ea1] at hw
  obtain ⟨Mn1, em1⟩ : ∃ z, z = fU M la (.inl (gO g, 10, .inr (.inr (.inr (.inr (fun _ => none)))))) := ⟨_, rfl⟩
  have eM1 : ∀ l, l ≠ la → Mn1 l = M l := fun l h => by rw [em1]; exact fU_n h
  have eS1 : Mn1 la = some (.inl (gO g, 10, .inr (.inr (.inr (.inr (fun _ => none)))))) := by rw [em1]; exact fU_s
  rw [← em1] at hw
  have hM : Mn1 ll = some (.inr (0, [.int mo, .ref (gE g), .int z])) := (eM1 _ (by omega)).trans hM
  refine lv_dup_x1 hx hb dJx4a65c_grow_92f84_55 rfl rfl ?_
  refine f_adr2 (ad := ad1) (lb := ll) (eA1 ll (by omega)) ?_
  refine f_put X hw hM fc0 1 (by decide) wq70 rfl rfl (v := .ref q1) rfl rfl (Nat.le_of_ble_eq_true rfl) dJx4a65c_grow_92f84_56 (fun H locs hw => ?_)
  have hw : fw g ad1 (fU Mn1 ll (.inr (0, [.int mo, .ref q1, .int z]))) s H locs := hw
  have eS1 : (fU Mn1 ll (.inr (0, [.int mo, .ref q1, .int z]))) la = some (.inl (gO g, 10, .inr (.inr (.inr (.inr (fun _ => none)))))) := (fU_n (by omega)).trans eS1
  have hM : (fU Mn1 ll (.inr (0, [.int mo, .ref q1, .int z]))) ll = some (.inr (0, [.int mo, .ref q1, .int z])) := fU_s
  exact f_aret X rfl (Or.inr ⟨_, rfl⟩) hw ⟨eq1, fun l h _ => eA1 l h, eS1, fU_s, fun l h1 h2 _ => (fU_n h1).trans (eM1 l h2)⟩ (by omega) (by omega) dJx4a65c_grow_92f84_59
set_option maxHeartbeats 4000000 in
set_option maxRecDepth 100000 in
theorem c_growB (l : Launch) (g : fG) (ad : Nat → Nat) (M : fM) {ll la N : Nat} {mo z : Int32} {f : Nat → Option Nat} (hM : M ll = some (.inr (0, [.int mo, .ref (ad la), .int z]))) (hA : M la = some (.inl (gO g, N, .inr (.inr (.inr (.inr f)))))) (h1 : ll < la) (h2 : la < 4000) (h5 : 10 ≤ N) (h6 : N ≤ 43) {ci : Nat} {C : String} {Tc : u_T} {Nc : Nat} (hci : vwCl[ci]? = some (C, Tc, Nc)) (hca : Cond.castable C "java/lang/Object" ∈ NW) (hel : ∀ i, i < N → ∃ (le : Nat) (fs : List Value), f i = some (ad le) ∧ M le = some (.inr (ci, fs)) ∧ le ≠ 4090) : fCr l g yJx4a65c_grow_92f84 cJx4a65c_grow_92f84 4 ((some (.array (.object "java/lang/Object")))) 3 74 1 (N + N / 2) ad M [.ref (ad ll), .int (nI (N + 1))] (fGrown ad M ll la mo z (.inl (gO g, N + N / 2, .inr (.inr (.inr (.inr (va_cpy f (fun _ => none) 0 0 N))))))) := by
  refine f_body (own := RJx4a65c) (by decide +kernel) rfl (Nat.le_of_ble_eq_true rfl) ?_
  intro p e s m args below meth c ls X hw hin hl
  have hx := X.1
  have hb := X.2.1
  have hl : lv_has ls 4 [(0, .ref (ad ll)), (1, .int (nI (N + 1)))] := hl
  refine lv_aload_n hx hb dJx4a65c_grow_92f84_0 rfl (lv_at hl 0 rfl) ?_
  refine f_get X hw hM fc0 1 (by decide) wq70 rfl (v := .ref (ad la)) rfl dJx4a65c_grow_92f84_1 ?_
  refine f_alen X hw 2 hA rfl dJx4a65c_grow_92f84_4 ?_
  refine lv_istore_n (lv' := [(2, .int (nI N)), (0, .ref (ad ll)), (1, .int (nI (N + 1)))]) hx hb dJx4a65c_grow_92f84_5 rfl hl (by decide) rfl (fun ls hl => ?_)
  refine lv_iload_n hx hb dJx4a65c_grow_92f84_6 rfl (lv_at hl 0 rfl) ?_
  refine lv_if_gt (tgt := 20) hx hb dJx4a65c_grow_92f84_7 (by decide) (fun c_1 => ?_) (fun c_1 => absurd (nI_nlt' (a := 0) (b := N) c_1 (by omega) (by omega)) (by omega))
  have c_1 := nI_lt' (a := 0) (b := N) c_1 (by omega) (by omega)
  refine lv_iload_n hx hb dJx4a65c_grow_92f84_20 rfl (lv_at hl 0 rfl) ?_
  refine lv_iload_n hx hb dJx4a65c_grow_92f84_21 rfl (lv_at hl 2 rfl) ?_
  refine lv_iload_n hx hb dJx4a65c_grow_92f84_22 rfl (lv_at hl 0 rfl) ?_
  refine lv_isub hx hb dJx4a65c_grow_92f84_23 ?_
  refine f_top (y := nI 1) (by rw [pk_sub (by omega), Nat.add_sub_cancel_left]) ?_
  refine lv_iload_n hx hb dJx4a65c_grow_92f84_24 rfl (lv_at hl 0 rfl) ?_
  refine lv_iconst (v := 1) hx hb dJx4a65c_grow_92f84_25 (by decide) ?_
  refine lv_ishr hx hb dJx4a65c_grow_92f84_26 ?_
  refine f_top (y := nI (N / 2)) (by have k := pk_shrN (n := N) (by omega) ((1 : Int32) &&& 31) 1 (by decide); rw [Nat.pow_one] at k; exact k) ?_
  refine fk_di (fcS X hw (c_newLength l g ad M h5 h6) wq445 kSJ8_newLength_cabcc ⟨(Nat.le_of_ble_eq_true rfl), (Nat.le_of_ble_eq_true rfl)⟩ rfl hl.1 rfl (Nat.le_of_ble_eq_true rfl) dJx4a65c_grow_92f84_27 ⟨(by dsimp only [fR]; omega), (by dsimp only [fR]; omega)⟩) hw (fun H locs hw => ?_)
  refine lv_istore_n (lv' := [(3, .int (nI (N + N / 2))), (2, .int (nI N)), (0, .ref (ad ll)), (1, .int (nI (N + 1)))]) hx hb dJx4a65c_grow_92f84_30 rfl hl (by decide) rfl (fun ls hl => ?_)
  refine lv_aload_n hx hb dJx4a65c_grow_92f84_31 rfl (lv_at hl 2 rfl) ?_
  refine lv_aload_n hx hb dJx4a65c_grow_92f84_32 rfl (lv_at hl 2 rfl) ?_
  refine f_get X hw hM fc0 1 (by decide) wq70 rfl (v := .ref (ad la)) rfl dJx4a65c_grow_92f84_33 ?_
  refine lv_iload_n hx hb dJx4a65c_grow_92f84_36 rfl (lv_at hl 0 rfl) ?_
  refine fk_r (fcS X hw (c_copyOf2 l g ad M hA (N2 := N + N / 2) (by omega) (by omega) h2 hci hca hel) wq453 kSJ7_copyOf_1904c ⟨(Nat.le_of_ble_eq_true rfl), (Nat.le_of_ble_eq_true rfl)⟩ rfl hl.1 rfl (Nat.le_of_ble_eq_true rfl) dJx4a65c_grow_92f84_37 ⟨(by dsimp only [fR]; omega), (by dsimp only [fR]; omega)⟩) hw (fun q ad0 M0 H locs hp hw => ?_)
  obtain ⟨ea0, em0⟩ := hp
  have hx0 : M0 4090 = some (.inl (gO g, N + N / 2, .inr (.inr (.inr (.inr (va_cpy f (fun _ => none) 0 0 N)))))) := by rw [em0]; exact fU_s
  have hw := fw_move hw hx0 (show la < 4096 by omega) (show 4090 ≠ la by omega)
  obtain ⟨ad1, ea1⟩ : ∃ z, z = fV ad0 la (ad0 4090) := ⟨_, rfl⟩
  rw [← ea1] at hw
  have eq1 : ad1 la = q := by rw [ea1, fV_s, ea0, fV_s]
  have eA1 : ∀ l, l ≠ la → l ≠ 4090 → ad1 l = ad l := fun l h1 h2 => by rw [ea1, fV_n h1, ea0, fV_n h2]
  obtain ⟨M1, em1⟩ : ∃ z, z = (fun l => if l = la then some (.inl (gO g, N + N / 2, .inr (.inr (.inr (.inr (va_cpy f (fun _ => none) 0 0 N)))))) else if l = 4090 then none else M0 l : fM) := ⟨_, rfl⟩
  rw [← em1] at hw
  have eS1 : M1 la = some (.inl (gO g, N + N / 2, .inr (.inr (.inr (.inr (va_cpy f (fun _ => none) 0 0 N)))))) := by rw [em1]; exact if_pos rfl
  have eM1 : ∀ l, l ≠ la → l ≠ 4090 → M1 l = M l := fun l h1 h2 => by rw [em1]; show (if l = la then _ else if l = 4090 then none else M0 l) = _; rw [if_neg h1, if_neg h2, em0, fU_n h2]
  have hM : M1 ll = some (.inr (0, [.int mo, .ref (ad la), .int z])) := (eM1 ll (by omega) (by omega)).trans hM
  refine lv_dup_x1 hx hb dJx4a65c_grow_92f84_40 rfl rfl ?_
  refine f_adr2 (ad := ad1) (lb := ll) (eA1 ll (by omega) (by omega)) ?_
  refine f_put X hw hM fc0 1 (by decide) wq70 rfl rfl (v := .ref q) rfl rfl (Nat.le_of_ble_eq_true rfl) dJx4a65c_grow_92f84_41 (fun H locs hw => ?_)
  have hw : fw g ad1 (fU M1 ll (.inr (0, [.int mo, .ref q, .int z]))) s H locs := hw
  have hM : (fU M1 ll (.inr (0, [.int mo, .ref q, .int z]))) ll = some (.inr (0, [.int mo, .ref q, .int z])) := fU_s
  exact f_aret X rfl (Or.inr ⟨_, rfl⟩) hw ⟨eq1, eA1, (fU_n (by omega)).trans eS1, fU_s, fun l h1 h2 h3 => (fU_n h1).trans (eM1 l h2 h3)⟩ (by omega) (by omega) dJx4a65c_grow_92f84_44
set_option maxHeartbeats 4000000 in
set_option maxRecDepth 100000 in
theorem c_grow0A (l : Launch) (g : fG) (ad : Nat → Nat) (M : fM) {ll la : Nat} {mo : Int32} (hM : M ll = some (.inr (0, [.int mo, .ref (gE g), .int (nI 0)]))) (h1 : ll < la) (h2 : la < 4000) : fCr l g yJx4a65c_grow_d5877 cJx4a65c_grow_d5877 1 ((some (.array (.object "java/lang/Object")))) 2 53 1 10 ad M [.ref (ad ll)] (fGrown ad M ll la mo (nI 0) (.inl (gO g, 10, .inr (.inr (.inr (.inr (fun _ => none))))))) := by
  refine f_body (own := RJx4a65c) (by decide +kernel) rfl (Nat.le_of_ble_eq_true rfl) ?_
  intro p e s m args below meth c ls X hw hin hl
  have hx := X.1
  have hb := X.2.1
  have hl : lv_has ls 1 [(0, .ref (ad ll))] := hl
  refine lv_aload_n hx hb dJx4a65c_grow_d5877_0 rfl (lv_at hl 0 rfl) ?_
  refine lv_aload_n hx hb dJx4a65c_grow_d5877_1 rfl (lv_at hl 0 rfl) ?_
  refine f_get X hw hM fc0 2 (by decide) wq71 rfl (v := .int (nI 0)) rfl dJx4a65c_grow_d5877_2 ?_
  refine lv_iconst (v := 1) hx hb dJx4a65c_grow_d5877_5 (by decide) ?_
  refine lv_iadd hx hb dJx4a65c_grow_d5877_6 ?_
  refine f_top (y := nI 1) (nI_1 0) ?_
  refine fk_r (fcV X hw (c_growA l g ad M hM h1 h2) hM rfl wq441 kVJx4a65c_grow_92f84 ⟨(Nat.le_of_ble_eq_true rfl), (Nat.le_of_ble_eq_true rfl)⟩ rfl hl.1 rfl (Nat.le_of_ble_eq_true rfl) dJx4a65c_grow_d5877_7 ⟨(by dsimp only [fR]; omega), (by dsimp only [fR]; omega)⟩) hw (fun q ad1 M1 H locs hp hw => ?_)
  exact f_aret X rfl (Or.inr ⟨_, rfl⟩) hw hp (by omega) (by omega) dJx4a65c_grow_d5877_10
set_option maxHeartbeats 4000000 in
set_option maxRecDepth 100000 in
theorem c_grow0B (l : Launch) (g : fG) (ad : Nat → Nat) (M : fM) {ll la N : Nat} {mo : Int32} {f : Nat → Option Nat} (hM : M ll = some (.inr (0, [.int mo, .ref (ad la), .int (nI N)]))) (hA : M la = some (.inl (gO g, N, .inr (.inr (.inr (.inr f)))))) (h1 : ll < la) (h2 : la < 4000) (h5 : 10 ≤ N) (h6 : N ≤ 43) {ci : Nat} {C : String} {Tc : u_T} {Nc : Nat} (hci : vwCl[ci]? = some (C, Tc, Nc)) (hca : Cond.castable C "java/lang/Object" ∈ NW) (hel : ∀ i, i < N → ∃ (le : Nat) (fs : List Value), f i = some (ad le) ∧ M le = some (.inr (ci, fs)) ∧ le ≠ 4090) : fCr l g yJx4a65c_grow_d5877 cJx4a65c_grow_d5877 1 ((some (.array (.object "java/lang/Object")))) 4 97 1 (N + N / 2) ad M [.ref (ad ll)] (fGrown ad M ll la mo (nI N) (.inl (gO g, N + N / 2, .inr (.inr (.inr (.inr (va_cpy f (fun _ => none) 0 0 N))))))) := by
  refine f_body (own := RJx4a65c) (by decide +kernel) rfl (Nat.le_of_ble_eq_true rfl) ?_
  intro p e s m args below meth c ls X hw hin hl
  have hx := X.1
  have hb := X.2.1
  have hl : lv_has ls 1 [(0, .ref (ad ll))] := hl
  refine lv_aload_n hx hb dJx4a65c_grow_d5877_0 rfl (lv_at hl 0 rfl) ?_
  refine lv_aload_n hx hb dJx4a65c_grow_d5877_1 rfl (lv_at hl 0 rfl) ?_
  refine f_get X hw hM fc0 2 (by decide) wq71 rfl (v := .int (nI N)) rfl dJx4a65c_grow_d5877_2 ?_
  refine lv_iconst (v := 1) hx hb dJx4a65c_grow_d5877_5 (by decide) ?_
  refine lv_iadd hx hb dJx4a65c_grow_d5877_6 ?_
  refine f_top (y := nI (N + 1)) (nI_1 N) ?_
  refine fk_r (fcV X hw (c_growB l g ad M hM hA h1 h2 h5 h6 hci hca hel) hM rfl wq441 kVJx4a65c_grow_92f84 ⟨(Nat.le_of_ble_eq_true rfl), (Nat.le_of_ble_eq_true rfl)⟩ rfl hl.1 rfl (Nat.le_of_ble_eq_true rfl) dJx4a65c_grow_d5877_7 ⟨(by dsimp only [fR]; omega), (by dsimp only [fR]; omega)⟩) hw (fun q ad1 M1 H locs hp hw => ?_)
  exact f_aret X rfl (Or.inr ⟨_, rfl⟩) hw hp (by omega) (by omega) dJx4a65c_grow_d5877_10
set_option maxHeartbeats 4000000 in
set_option maxRecDepth 100000 in
theorem c_add3A (l : Launch) (g : fG) (ad : Nat → Nat) (M : fM) {ll la eb : Nat} {mo : Int32} (hM : M ll = some (.inr (0, [.int mo, .ref (gE g), .int (nI 0)]))) {ci : Nat} {C : String} {Tc : u_T} {Nc : Nat} (hci : vwCl[ci]? = some (C, Tc, Nc)) (hca : Cond.castable C "java/lang/Object" ∈ NW) {vs : List Value} (hv : M (eb + 0) = some (.inr (ci, vs))) (h1 : ll < la) (h2 : la < eb) (h3 : eb + 0 < 4000) : fCv l g yJx4a65c_add_72be8 cJx4a65c_add_72be8 4 3 73 1 10 ad M [.ref (ad ll), .ref (ad (eb + 0)), .ref (gE g), .int (nI 0)] (fAddV g ad M ll la eb 0) := by
  refine f_body (own := RJx4a65c) (by decide +kernel) rfl (Nat.le_of_ble_eq_true rfl) ?_
  intro p e s m args below meth c ls X hw hin hl
  have hx := X.1
  have hb := X.2.1
  have hl : lv_has ls 4 [(0, .ref (ad ll)), (1, .ref (ad (eb + 0))), (2, .ref (gE g)), (3, .int (nI 0))] := hl
  refine lv_iload_n hx hb dJx4a65c_add_72be8_0 rfl (lv_at hl 3 rfl) ?_
  refine lv_aload_n hx hb dJx4a65c_add_72be8_1 rfl (lv_at hl 2 rfl) ?_
  refine f_alenE X hw dJx4a65c_add_72be8_2 ?_
  refine lv_icmp_ne (tgt := 11) hx hb dJx4a65c_add_72be8_3 (by decide) (fun c_1 => absurd rfl c_1) (fun c_1 => ?_)
  have c_1 := nI_eq' (a := 0) (b := 0) c_1 (by omega) (by omega)
  refine lv_aload_n hx hb dJx4a65c_add_72be8_6 rfl (lv_at hl 0 rfl) ?_
  refine fk_r (fcV X hw (c_grow0A l g ad M hM h1 (by omega)) hM rfl wq437 kVJx4a65c_grow_d5877 ⟨(Nat.le_of_ble_eq_true rfl), (Nat.le_of_ble_eq_true rfl)⟩ rfl hl.1 rfl (Nat.le_of_ble_eq_true rfl) dJx4a65c_add_72be8_7 ⟨(by dsimp only [fR]; omega), (by dsimp only [fR]; omega)⟩) hw (fun q ad1 M1 H locs hp hw => ?_)
  obtain ⟨eq1, eA1, eS1, hM, eM1⟩ := hp
  have hv : M1 (eb + 0) = some (.inr (ci, vs)) := (eM1 _ (by omega) (by omega) (by omega)).trans hv
  refine lv_astore_n (lv' := [(2, .ref q), (0, .ref (ad ll)), (1, .ref (ad (eb + 0))), (3, .int (nI 0))]) hx hb dJx4a65c_add_72be8_10 rfl hl (by decide) rfl (fun ls hl => ?_)
  refine lv_aload_n hx hb dJx4a65c_add_72be8_11 rfl (lv_at hl 0 rfl) ?_
  refine lv_iload_n hx hb dJx4a65c_add_72be8_12 rfl (lv_at hl 3 rfl) ?_
  refine lv_aload_n hx hb dJx4a65c_add_72be8_13 rfl (lv_at hl 2 rfl) ?_
  refine f_adr (ad := ad1) (lb := eb + 0) (eA1 _ (by omega) (by omega)) ?_
  refine f_adr3 (ad := ad1) (lb := la) eq1 ?_
  refine f_aast X hw eS1 hv hci hca (vp_in_nI (n := 0) (by omega) (by omega)) dJx4a65c_add_72be8_14 (fun H locs hw => ?_)
  rw [nI_clamp (n := 0) (by omega)] at hw
  have hw : fw g ad1 (fU M1 la (.inl (gO g, 10, .inr (.inr (.inr (.inr (va_up (fun _ => none) 0 (some (ad1 (eb + 0)))))))))) s H locs := hw
  have hM : (fU M1 la (.inl (gO g, 10, .inr (.inr (.inr (.inr (va_up (fun _ => none) 0 (some (ad1 (eb + 0)))))))))) ll = some (.inr (0, [.int mo, .ref q, .int (nI 0)])) := (fU_n (by omega)).trans hM
  have eS1 : (fU M1 la (.inl (gO g, 10, .inr (.inr (.inr (.inr (va_up (fun _ => none) 0 (some (ad1 (eb + 0)))))))))) la = some (.inl (gO g, 10, .inr (.inr (.inr (.inr (va_up (fun _ => none) 0 (some (ad1 (eb + 0))))))))) := fU_s
  refine lv_aload_n hx hb dJx4a65c_add_72be8_15 rfl (lv_at hl 1 rfl) ?_
  refine lv_iload_n hx hb dJx4a65c_add_72be8_16 rfl (lv_at hl 3 rfl) ?_
  refine lv_iconst (v := 1) hx hb dJx4a65c_add_72be8_17 (by decide) ?_
  refine lv_iadd hx hb dJx4a65c_add_72be8_18 ?_
  refine f_top (y := nI (0 + 1)) (nI_1 0) ?_
  refine f_adr2 (ad := ad1) (lb := ll) (eA1 (ll) (by omega) (by omega)) ?_
  refine f_put X hw hM fc0 2 (by decide) wq71 rfl rfl (v := .int (nI (0 + 1))) rfl rfl (Nat.le_of_ble_eq_true rfl) dJx4a65c_add_72be8_19 (fun H locs hw => ?_)
  have hw : fw g ad1 (fU (fU M1 la (.inl (gO g, 10, .inr (.inr (.inr (.inr (va_up (fun _ => none) 0 (some (ad1 (eb + 0)))))))))) ll (.inr (0, [.int mo, .ref q, .int (nI (0 + 1))]))) s H locs := hw
  have eS1 : (fU (fU M1 la (.inl (gO g, 10, .inr (.inr (.inr (.inr (va_up (fun _ => none) 0 (some (ad1 (eb + 0)))))))))) ll (.inr (0, [.int mo, .ref q, .int (nI (0 + 1))]))) la = some (.inl (gO g, 10, .inr (.inr (.inr (.inr (va_up (fun _ => none) 0 (some (ad1 (eb + 0))))))))) := (fU_n (by omega)).trans eS1
  have hM : (fU (fU M1 la (.inl (gO g, 10, .inr (.inr (.inr (.inr (va_up (fun _ => none) 0 (some (ad1 (eb + 0)))))))))) ll (.inr (0, [.int mo, .ref q, .int (nI (0 + 1))]))) ll = some (.inr (0, [.int mo, .ref q, .int (nI (0 + 1))])) := fU_s
  exact f_vret X hw ⟨fList_add (N := 10) (f := (fun _ => none)) fU_s eq1.symm (by assumption) (by omega) (by omega) (by omega) (fun i hi => absurd hi (Nat.not_lt_zero _)) (fun i hi => eA1 _ (by omega) (by omega)), eA1, fun l h1 h2 h3 => (fU_n h1).trans ((fU_n h2).trans (eM1 l h1 h2 h3))⟩ (by omega) (by omega) dJx4a65c_add_72be8_22
set_option maxHeartbeats 4000000 in
set_option maxRecDepth 100000 in
theorem c_add3B1 (l : Launch) (g : fG) (ad : Nat → Nat) (M : fM) {ll la eb n N : Nat} {mo : Int32} {f : Nat → Option Nat} (hM : M ll = some (.inr (0, [.int mo, .ref (ad la), .int (nI n)]))) (hA : M la = some (.inl (gO g, N, .inr (.inr (.inr (.inr f)))))) {ci : Nat} {C : String} {Tc : u_T} {Nc : Nat} (hci : vwCl[ci]? = some (C, Tc, Nc)) (hca : Cond.castable C "java/lang/Object" ∈ NW) {vs : List Value} (hv : M (eb + n) = some (.inr (ci, vs))) (h1 : ll < la) (h2 : la < eb) (h3 : eb + n < 4000) (hnN : n < N) (h5 : 10 ≤ N) (h6 : N ≤ 43) (hf : ∀ i, i < n → f i = some (ad (eb + i))) : fCv l g yJx4a65c_add_72be8 cJx4a65c_add_72be8 4 0 0 0 0 ad M [.ref (ad ll), .ref (ad (eb + n)), .ref (ad la), .int (nI n)] (fAddV g ad M ll la eb n) := by
  refine f_body (own := RJx4a65c) (by decide +kernel) rfl (Nat.le_of_ble_eq_true rfl) ?_
  intro p e s m args below meth c ls X hw hin hl
  have hx := X.1
  have hb := X.2.1
  have hl : lv_has ls 4 [(0, .ref (ad ll)), (1, .ref (ad (eb + n))), (2, .ref (ad la)), (3, .int (nI n))] := hl
  refine lv_iload_n hx hb dJx4a65c_add_72be8_0 rfl (lv_at hl 3 rfl) ?_
  refine lv_aload_n hx hb dJx4a65c_add_72be8_1 rfl (lv_at hl 2 rfl) ?_
  refine f_alen X hw 2 hA rfl dJx4a65c_add_72be8_2 ?_
  refine lv_icmp_ne (tgt := 11) hx hb dJx4a65c_add_72be8_3 (by decide) (fun c_1 => ?_) (fun c_1 => absurd (nI_eq' (a := n) (b := N) c_1 (by omega) (by omega)) (by omega))
  have c_1 := nI_neq' (a := n) (b := N) c_1 (by omega) (by omega)
  refine lv_aload_n hx hb dJx4a65c_add_72be8_11 rfl (lv_at hl 2 rfl) ?_
  refine lv_iload_n hx hb dJx4a65c_add_72be8_12 rfl (lv_at hl 3 rfl) ?_
  refine lv_aload_n hx hb dJx4a65c_add_72be8_13 rfl (lv_at hl 1 rfl) ?_
  refine f_aast X hw hA hv hci hca (vp_in_nI (n := n) (by omega) (by omega)) dJx4a65c_add_72be8_14 (fun H locs hw => ?_)
  rw [nI_clamp (n := n) (by omega)] at hw
  have hw : fw g ad (fU M la (.inl (gO g, N, .inr (.inr (.inr (.inr (va_up f n (some (ad (eb + n)))))))))) s H locs := hw
  have hM : (fU M la (.inl (gO g, N, .inr (.inr (.inr (.inr (va_up f n (some (ad (eb + n)))))))))) ll = some (.inr (0, [.int mo, .ref (ad la), .int (nI n)])) := (fU_n (by omega)).trans hM
  have hA : (fU M la (.inl (gO g, N, .inr (.inr (.inr (.inr (va_up f n (some (ad (eb + n)))))))))) la = some (.inl (gO g, N, .inr (.inr (.inr (.inr (va_up f n (some (ad (eb + n))))))))) := fU_s
  refine lv_aload_n hx hb dJx4a65c_add_72be8_15 rfl (lv_at hl 0 rfl) ?_
  refine lv_iload_n hx hb dJx4a65c_add_72be8_16 rfl (lv_at hl 3 rfl) ?_
  refine lv_iconst (v := 1) hx hb dJx4a65c_add_72be8_17 (by decide) ?_
  refine lv_iadd hx hb dJx4a65c_add_72be8_18 ?_
  refine f_top (y := nI (n + 1)) (nI_1 n) ?_
  refine f_put X hw hM fc0 2 (by decide) wq71 rfl rfl (v := .int (nI (n + 1))) rfl rfl (Nat.le_of_ble_eq_true rfl) dJx4a65c_add_72be8_19 (fun H locs hw => ?_)
  have hw : fw g ad (fU (fU M la (.inl (gO g, N, .inr (.inr (.inr (.inr (va_up f n (some (ad (eb + n)))))))))) ll (.inr (0, [.int mo, .ref (ad la), .int (nI (n + 1))]))) s H locs := hw
  have hA : (fU (fU M la (.inl (gO g, N, .inr (.inr (.inr (.inr (va_up f n (some (ad (eb + n)))))))))) ll (.inr (0, [.int mo, .ref (ad la), .int (nI (n + 1))]))) la = some (.inl (gO g, N, .inr (.inr (.inr (.inr (va_up f n (some (ad (eb + n))))))))) := (fU_n (by omega)).trans hA
  have hM : (fU (fU M la (.inl (gO g, N, .inr (.inr (.inr (.inr (va_up f n (some (ad (eb + n)))))))))) ll (.inr (0, [.int mo, .ref (ad la), .int (nI (n + 1))]))) ll = some (.inr (0, [.int mo, .ref (ad la), .int (nI (n + 1))])) := fU_s
  exact f_vret X hw ⟨fList_add (N := N) (f := f) fU_s rfl (by assumption) hnN h5 h6 hf (fun i hi => rfl), fun l h1 h2 => rfl, fun l h1 h2 h3 => (fU_n h1).trans (fU_n h2)⟩ (Nat.le_refl _) (Nat.le_refl _) dJx4a65c_add_72be8_22
set_option maxHeartbeats 4000000 in
set_option maxRecDepth 100000 in
theorem c_add3B2 (l : Launch) (g : fG) (ad : Nat → Nat) (M : fM) {ll la eb N : Nat} {mo : Int32} {f : Nat → Option Nat} (hM : M ll = some (.inr (0, [.int mo, .ref (ad la), .int (nI N)]))) (hA : M la = some (.inl (gO g, N, .inr (.inr (.inr (.inr f)))))) {ci : Nat} {C : String} {Tc : u_T} {Nc : Nat} (hci : vwCl[ci]? = some (C, Tc, Nc)) (hca : Cond.castable C "java/lang/Object" ∈ NW) {vs : List Value} (hv : M (eb + N) = some (.inr (ci, vs))) (h1 : ll < la) (h2 : la < eb) (h3 : eb + N < 4000) (h5 : 10 ≤ N) (h6 : N ≤ 29) (hf : ∀ i, i < N → f i = some (ad (eb + i))) (hel : ∀ i, i < N → ∃ fs, M (eb + i) = some (.inr (ci, fs))) : fCv l g yJx4a65c_add_72be8 cJx4a65c_add_72be8 4 5 117 1 (N + N / 2) ad M [.ref (ad ll), .ref (ad (eb + N)), .ref (ad la), .int (nI N)] (fAddV g ad M ll la eb N) := by
  refine f_body (own := RJx4a65c) (by decide +kernel) rfl (Nat.le_of_ble_eq_true rfl) ?_
  intro p e s m args below meth c ls X hw hin hl
  have hx := X.1
  have hb := X.2.1
  have hl : lv_has ls 4 [(0, .ref (ad ll)), (1, .ref (ad (eb + N))), (2, .ref (ad la)), (3, .int (nI N))] := hl
  refine lv_iload_n hx hb dJx4a65c_add_72be8_0 rfl (lv_at hl 3 rfl) ?_
  refine lv_aload_n hx hb dJx4a65c_add_72be8_1 rfl (lv_at hl 2 rfl) ?_
  refine f_alen X hw 2 hA rfl dJx4a65c_add_72be8_2 ?_
  refine lv_icmp_ne (tgt := 11) hx hb dJx4a65c_add_72be8_3 (by decide) (fun c_1 => absurd rfl c_1) (fun c_1 => ?_)
  have c_1 := nI_eq' (a := N) (b := N) c_1 (by omega) (by omega)
  refine lv_aload_n hx hb dJx4a65c_add_72be8_6 rfl (lv_at hl 0 rfl) ?_
  refine fk_r (fcV X hw (c_grow0B l g ad M hM hA h1 (by omega) h5 (by omega) hci hca (fun i hi => by obtain ⟨fs, a1⟩ := hel i hi; exact ⟨eb + i, fs, hf i hi, a1, by omega⟩)) hM rfl wq437 kVJx4a65c_grow_d5877 ⟨(Nat.le_of_ble_eq_true rfl), (Nat.le_of_ble_eq_true rfl)⟩ rfl hl.1 rfl (Nat.le_of_ble_eq_true rfl) dJx4a65c_add_72be8_7 ⟨(by dsimp only [fR]; omega), (by dsimp only [fR]; omega)⟩) hw (fun q ad1 M1 H locs hp hw => ?_)
  obtain ⟨eq1, eA1, eS1, hM, eM1⟩ := hp
  have hv : M1 (eb + N) = some (.inr (ci, vs)) := (eM1 _ (by omega) (by omega) (by omega)).trans hv
  refine lv_astore_n (lv' := [(2, .ref q), (0, .ref (ad ll)), (1, .ref (ad (eb + N))), (3, .int (nI N))]) hx hb dJx4a65c_add_72be8_10 rfl hl (by decide) rfl (fun ls hl => ?_)
  refine lv_aload_n hx hb dJx4a65c_add_72be8_11 rfl (lv_at hl 0 rfl) ?_
  refine lv_iload_n hx hb dJx4a65c_add_72be8_12 rfl (lv_at hl 3 rfl) ?_
  refine lv_aload_n hx hb dJx4a65c_add_72be8_13 rfl (lv_at hl 2 rfl) ?_
  refine f_adr (ad := ad1) (lb := eb + N) (eA1 _ (by omega) (by omega)) ?_
  refine f_adr3 (ad := ad1) (lb := la) eq1 ?_
  refine f_aast X hw eS1 hv hci hca (vp_in_nI (n := N) (by omega) (by omega)) dJx4a65c_add_72be8_14 (fun H locs hw => ?_)
  rw [nI_clamp (n := N) (by omega)] at hw
  have hw : fw g ad1 (fU M1 la (.inl (gO g, N + N / 2, .inr (.inr (.inr (.inr (va_up (va_cpy f (fun _ => none) 0 0 N) N (some (ad1 (eb + N)))))))))) s H locs := hw
  have hM : (fU M1 la (.inl (gO g, N + N / 2, .inr (.inr (.inr (.inr (va_up (va_cpy f (fun _ => none) 0 0 N) N (some (ad1 (eb + N)))))))))) ll = some (.inr (0, [.int mo, .ref q, .int (nI N)])) := (fU_n (by omega)).trans hM
  have eS1 : (fU M1 la (.inl (gO g, N + N / 2, .inr (.inr (.inr (.inr (va_up (va_cpy f (fun _ => none) 0 0 N) N (some (ad1 (eb + N)))))))))) la = some (.inl (gO g, N + N / 2, .inr (.inr (.inr (.inr (va_up (va_cpy f (fun _ => none) 0 0 N) N (some (ad1 (eb + N))))))))) := fU_s
  refine lv_aload_n hx hb dJx4a65c_add_72be8_15 rfl (lv_at hl 1 rfl) ?_
  refine lv_iload_n hx hb dJx4a65c_add_72be8_16 rfl (lv_at hl 3 rfl) ?_
  refine lv_iconst (v := 1) hx hb dJx4a65c_add_72be8_17 (by decide) ?_
  refine lv_iadd hx hb dJx4a65c_add_72be8_18 ?_
  refine f_top (y := nI (N + 1)) (nI_1 N) ?_
  refine f_adr2 (ad := ad1) (lb := ll) (eA1 (ll) (by omega) (by omega)) ?_
  refine f_put X hw hM fc0 2 (by decide) wq71 rfl rfl (v := .int (nI (N + 1))) rfl rfl (Nat.le_of_ble_eq_true rfl) dJx4a65c_add_72be8_19 (fun H locs hw => ?_)
  have hw : fw g ad1 (fU (fU M1 la (.inl (gO g, N + N / 2, .inr (.inr (.inr (.inr (va_up (va_cpy f (fun _ => none) 0 0 N) N (some (ad1 (eb + N)))))))))) ll (.inr (0, [.int mo, .ref q, .int (nI (N + 1))]))) s H locs := hw
  have eS1 : (fU (fU M1 la (.inl (gO g, N + N / 2, .inr (.inr (.inr (.inr (va_up (va_cpy f (fun _ => none) 0 0 N) N (some (ad1 (eb + N)))))))))) ll (.inr (0, [.int mo, .ref q, .int (nI (N + 1))]))) la = some (.inl (gO g, N + N / 2, .inr (.inr (.inr (.inr (va_up (va_cpy f (fun _ => none) 0 0 N) N (some (ad1 (eb + N))))))))) := (fU_n (by omega)).trans eS1
  have hM : (fU (fU M1 la (.inl (gO g, N + N / 2, .inr (.inr (.inr (.inr (va_up (va_cpy f (fun _ => none) 0 0 N) N (some (ad1 (eb + N)))))))))) ll (.inr (0, [.int mo, .ref q, .int (nI (N + 1))]))) ll = some (.inr (0, [.int mo, .ref q, .int (nI (N + 1))])) := fU_s
  exact f_vret X hw ⟨fList_add (N := N + N / 2) (f := (va_cpy f (fun _ => none) 0 0 N)) fU_s eq1.symm (by assumption) (by omega) (by omega) (by omega) (fun i hi => by rw [show va_cpy f (fun _ => none) 0 0 N i = f i from by unfold va_cpy; simp [hi]]; exact hf i hi) (fun i hi => eA1 _ (by omega) (by omega)), eA1, fun l h1 h2 h3 => (fU_n h1).trans ((fU_n h2).trans (eM1 l h1 h2 h3))⟩ (by omega) (by omega) dJx4a65c_add_72be8_22
set_option maxHeartbeats 4000000 in
set_option maxRecDepth 100000 in
theorem c_addA (l : Launch) (g : fG) (ad : Nat → Nat) (M : fM) {ll la eb : Nat} {mo : Int32} (hM : M ll = some (.inr (0, [.int mo, .ref (gE g), .int (nI 0)]))) {ci : Nat} {C : String} {Tc : u_T} {Nc : Nat} (hci : vwCl[ci]? = some (C, Tc, Nc)) (hca : Cond.castable C "java/lang/Object" ∈ NW) {vs : List Value} (hv : M (eb + 0) = some (.inr (ci, vs))) (h1 : ll < la) (h2 : la < eb) (h3 : eb + 0 < 4000) : fCi l g yJx4a65c_add_9ea2d cJx4a65c_add_9ea2d 2 ((some .boolean)) 6 140 1 43 ad M [.ref (ad ll), .ref (ad (eb + 0))] (fAddI g ad M ll la eb 0) := by
  refine f_body (own := RJx4a65c) (by decide +kernel) rfl (Nat.le_of_ble_eq_true rfl) ?_
  intro p e s m args below meth c ls X hw hin hl
  have hx := X.1
  have hb := X.2.1
  have hl : lv_has ls 2 [(0, .ref (ad ll)), (1, .ref (ad (eb + 0)))] := hl
  refine lv_aload_n hx hb dJx4a65c_add_9ea2d_0 rfl (lv_at hl 0 rfl) ?_
  refine lv_dup hx hb dJx4a65c_add_9ea2d_1 rfl ?_
  refine f_getG X hw hM fc0 0 (by decide) wq73 (f_same X wq74) (v := .int mo) rfl dJx4a65c_add_9ea2d_2 ?_
  refine lv_iconst (v := 1) hx hb dJx4a65c_add_9ea2d_5 (by decide) ?_
  refine lv_iadd hx hb dJx4a65c_add_9ea2d_6 ?_
  refine f_putG X hw hM fc0 0 (by decide) wq73 (f_same X wq74) rfl (v := .int (mo + 1)) rfl rfl (Nat.le_of_ble_eq_true rfl) dJx4a65c_add_9ea2d_7 (fun H locs hw => ?_)
  have hw : fw g ad (fU M ll (.inr (0, [.int (mo + 1), .ref (gE g), .int (nI 0)]))) s H locs := hw
  have hM : (fU M ll (.inr (0, [.int (mo + 1), .ref (gE g), .int (nI 0)]))) ll = some (.inr (0, [.int (mo + 1), .ref (gE g), .int (nI 0)])) := fU_s
  refine lv_aload_n hx hb dJx4a65c_add_9ea2d_10 rfl (lv_at hl 0 rfl) ?_
  refine lv_aload_n hx hb dJx4a65c_add_9ea2d_11 rfl (lv_at hl 1 rfl) ?_
  refine lv_aload_n hx hb dJx4a65c_add_9ea2d_12 rfl (lv_at hl 0 rfl) ?_
  refine f_get X hw hM fc0 1 (by decide) wq70 rfl (v := .ref (gE g)) rfl dJx4a65c_add_9ea2d_13 ?_
  refine lv_aload_n hx hb dJx4a65c_add_9ea2d_16 rfl (lv_at hl 0 rfl) ?_
  refine f_get X hw hM fc0 2 (by decide) wq71 rfl (v := .int (nI 0)) rfl dJx4a65c_add_9ea2d_17 ?_
  have hv : (fU M ll (.inr (0, [.int (mo + 1), .ref (gE g), .int (nI 0)]))) (eb + 0) = some (.inr (ci, vs)) := (fU_n (by omega)).trans hv
  refine fk_v (fcV X hw (c_add3A l g ad (fU M ll (.inr (0, [.int (mo + 1), .ref (gE g), .int (nI 0)]))) hM hci hca hv h1 h2 h3) hM rfl wq433 kVJx4a65c_add_72be8 ⟨(Nat.le_of_ble_eq_true rfl), (Nat.le_of_ble_eq_true rfl)⟩ rfl hl.1 rfl (Nat.le_of_ble_eq_true rfl) dJx4a65c_add_9ea2d_20 ⟨(by dsimp only [fR]; omega), (by dsimp only [fR]; omega)⟩) hw (fun ad1 M1 H locs hp hw => ?_)
  refine lv_iconst (v := 1) hx hb dJx4a65c_add_9ea2d_23 (by decide) ?_
  exact f_zret X hw rfl ⟨⟨hp.1, hp.2.1, fun l a b c => (hp.2.2 l a b c).trans (fU_n a)⟩, rfl⟩ (by omega) (by omega) dJx4a65c_add_9ea2d_24
set_option maxHeartbeats 4000000 in
set_option maxRecDepth 100000 in
theorem c_addB1 (l : Launch) (g : fG) (ad : Nat → Nat) (M : fM) {ll la eb n N : Nat} {mo : Int32} {f : Nat → Option Nat} (hM : M ll = some (.inr (0, [.int mo, .ref (ad la), .int (nI n)]))) (hA : M la = some (.inl (gO g, N, .inr (.inr (.inr (.inr f)))))) {ci : Nat} {C : String} {Tc : u_T} {Nc : Nat} (hci : vwCl[ci]? = some (C, Tc, Nc)) (hca : Cond.castable C "java/lang/Object" ∈ NW) {vs : List Value} (hv : M (eb + n) = some (.inr (ci, vs))) (h1 : ll < la) (h2 : la < eb) (h3 : eb + n < 4000) (hnN : n < N) (h5 : 10 ≤ N) (h6 : N ≤ 43) (hf : ∀ i, i < n → f i = some (ad (eb + i))) : fCi l g yJx4a65c_add_9ea2d cJx4a65c_add_9ea2d 2 ((some .boolean)) 6 140 1 43 ad M [.ref (ad ll), .ref (ad (eb + n))] (fAddI g ad M ll la eb n) := by
  refine f_body (own := RJx4a65c) (by decide +kernel) rfl (Nat.le_of_ble_eq_true rfl) ?_
  intro p e s m args below meth c ls X hw hin hl
  have hx := X.1
  have hb := X.2.1
  have hl : lv_has ls 2 [(0, .ref (ad ll)), (1, .ref (ad (eb + n)))] := hl
  refine lv_aload_n hx hb dJx4a65c_add_9ea2d_0 rfl (lv_at hl 0 rfl) ?_
  refine lv_dup hx hb dJx4a65c_add_9ea2d_1 rfl ?_
  refine f_getG X hw hM fc0 0 (by decide) wq73 (f_same X wq74) (v := .int mo) rfl dJx4a65c_add_9ea2d_2 ?_
  refine lv_iconst (v := 1) hx hb dJx4a65c_add_9ea2d_5 (by decide) ?_
  refine lv_iadd hx hb dJx4a65c_add_9ea2d_6 ?_
  refine f_putG X hw hM fc0 0 (by decide) wq73 (f_same X wq74) rfl (v := .int (mo + 1)) rfl rfl (Nat.le_of_ble_eq_true rfl) dJx4a65c_add_9ea2d_7 (fun H locs hw => ?_)
  have hw : fw g ad (fU M ll (.inr (0, [.int (mo + 1), .ref (ad la), .int (nI n)]))) s H locs := hw
  have hM : (fU M ll (.inr (0, [.int (mo + 1), .ref (ad la), .int (nI n)]))) ll = some (.inr (0, [.int (mo + 1), .ref (ad la), .int (nI n)])) := fU_s
  refine lv_aload_n hx hb dJx4a65c_add_9ea2d_10 rfl (lv_at hl 0 rfl) ?_
  refine lv_aload_n hx hb dJx4a65c_add_9ea2d_11 rfl (lv_at hl 1 rfl) ?_
  refine lv_aload_n hx hb dJx4a65c_add_9ea2d_12 rfl (lv_at hl 0 rfl) ?_
  refine f_get X hw hM fc0 1 (by decide) wq70 rfl (v := .ref (ad la)) rfl dJx4a65c_add_9ea2d_13 ?_
  refine lv_aload_n hx hb dJx4a65c_add_9ea2d_16 rfl (lv_at hl 0 rfl) ?_
  refine f_get X hw hM fc0 2 (by decide) wq71 rfl (v := .int (nI n)) rfl dJx4a65c_add_9ea2d_17 ?_
  have hv : (fU M ll (.inr (0, [.int (mo + 1), .ref (ad la), .int (nI n)]))) (eb + n) = some (.inr (ci, vs)) := (fU_n (by omega)).trans hv
  have hA : (fU M ll (.inr (0, [.int (mo + 1), .ref (ad la), .int (nI n)]))) la = some (.inl (gO g, N, .inr (.inr (.inr (.inr f))))) := (fU_n (by omega)).trans hA
  refine fk_v (fcV X hw (c_add3B1 l g ad (fU M ll (.inr (0, [.int (mo + 1), .ref (ad la), .int (nI n)]))) hM hA hci hca hv h1 h2 h3 hnN h5 h6 hf) hM rfl wq433 kVJx4a65c_add_72be8 ⟨(Nat.le_of_ble_eq_true rfl), (Nat.le_of_ble_eq_true rfl)⟩ rfl hl.1 rfl (Nat.le_of_ble_eq_true rfl) dJx4a65c_add_9ea2d_20 ⟨(by dsimp only [fR]; omega), (by dsimp only [fR]; omega)⟩) hw (fun ad1 M1 H locs hp hw => ?_)
  refine lv_iconst (v := 1) hx hb dJx4a65c_add_9ea2d_23 (by decide) ?_
  exact f_zret X hw rfl ⟨⟨hp.1, hp.2.1, fun l a b c => (hp.2.2 l a b c).trans (fU_n a)⟩, rfl⟩ (by omega) (by omega) dJx4a65c_add_9ea2d_24
set_option maxHeartbeats 4000000 in
set_option maxRecDepth 100000 in
theorem c_addB2 (l : Launch) (g : fG) (ad : Nat → Nat) (M : fM) {ll la eb N : Nat} {mo : Int32} {f : Nat → Option Nat} (hM : M ll = some (.inr (0, [.int mo, .ref (ad la), .int (nI N)]))) (hA : M la = some (.inl (gO g, N, .inr (.inr (.inr (.inr f)))))) {ci : Nat} {C : String} {Tc : u_T} {Nc : Nat} (hci : vwCl[ci]? = some (C, Tc, Nc)) (hca : Cond.castable C "java/lang/Object" ∈ NW) {vs : List Value} (hv : M (eb + N) = some (.inr (ci, vs))) (h1 : ll < la) (h2 : la < eb) (h3 : eb + N < 4000) (h5 : 10 ≤ N) (h6 : N ≤ 29) (hf : ∀ i, i < N → f i = some (ad (eb + i))) (hel : ∀ i, i < N → ∃ fs, M (eb + i) = some (.inr (ci, fs))) : fCi l g yJx4a65c_add_9ea2d cJx4a65c_add_9ea2d 2 ((some .boolean)) 6 140 1 43 ad M [.ref (ad ll), .ref (ad (eb + N))] (fAddI g ad M ll la eb N) := by
  refine f_body (own := RJx4a65c) (by decide +kernel) rfl (Nat.le_of_ble_eq_true rfl) ?_
  intro p e s m args below meth c ls X hw hin hl
  have hx := X.1
  have hb := X.2.1
  have hl : lv_has ls 2 [(0, .ref (ad ll)), (1, .ref (ad (eb + N)))] := hl
  refine lv_aload_n hx hb dJx4a65c_add_9ea2d_0 rfl (lv_at hl 0 rfl) ?_
  refine lv_dup hx hb dJx4a65c_add_9ea2d_1 rfl ?_
  refine f_getG X hw hM fc0 0 (by decide) wq73 (f_same X wq74) (v := .int mo) rfl dJx4a65c_add_9ea2d_2 ?_
  refine lv_iconst (v := 1) hx hb dJx4a65c_add_9ea2d_5 (by decide) ?_
  refine lv_iadd hx hb dJx4a65c_add_9ea2d_6 ?_
  refine f_putG X hw hM fc0 0 (by decide) wq73 (f_same X wq74) rfl (v := .int (mo + 1)) rfl rfl (Nat.le_of_ble_eq_true rfl) dJx4a65c_add_9ea2d_7 (fun H locs hw => ?_)
  have hw : fw g ad (fU M ll (.inr (0, [.int (mo + 1), .ref (ad la), .int (nI N)]))) s H locs := hw
  have hM : (fU M ll (.inr (0, [.int (mo + 1), .ref (ad la), .int (nI N)]))) ll = some (.inr (0, [.int (mo + 1), .ref (ad la), .int (nI N)])) := fU_s
  refine lv_aload_n hx hb dJx4a65c_add_9ea2d_10 rfl (lv_at hl 0 rfl) ?_
  refine lv_aload_n hx hb dJx4a65c_add_9ea2d_11 rfl (lv_at hl 1 rfl) ?_
  refine lv_aload_n hx hb dJx4a65c_add_9ea2d_12 rfl (lv_at hl 0 rfl) ?_
  refine f_get X hw hM fc0 1 (by decide) wq70 rfl (v := .ref (ad la)) rfl dJx4a65c_add_9ea2d_13 ?_
  refine lv_aload_n hx hb dJx4a65c_add_9ea2d_16 rfl (lv_at hl 0 rfl) ?_
  refine f_get X hw hM fc0 2 (by decide) wq71 rfl (v := .int (nI N)) rfl dJx4a65c_add_9ea2d_17 ?_
  have hv : (fU M ll (.inr (0, [.int (mo + 1), .ref (ad la), .int (nI N)]))) (eb + N) = some (.inr (ci, vs)) := (fU_n (by omega)).trans hv
  have hA : (fU M ll (.inr (0, [.int (mo + 1), .ref (ad la), .int (nI N)]))) la = some (.inl (gO g, N, .inr (.inr (.inr (.inr f))))) := (fU_n (by omega)).trans hA
  refine fk_v (fcV X hw (c_add3B2 l g ad (fU M ll (.inr (0, [.int (mo + 1), .ref (ad la), .int (nI N)]))) hM hA hci hca hv h1 h2 h3 h5 h6 hf (fun i hi => by obtain ⟨fs, a1⟩ := hel i hi; exact ⟨fs, (fU_n (by omega)).trans a1⟩)) hM rfl wq433 kVJx4a65c_add_72be8 ⟨(Nat.le_of_ble_eq_true rfl), (Nat.le_of_ble_eq_true rfl)⟩ rfl hl.1 rfl (Nat.le_of_ble_eq_true rfl) dJx4a65c_add_9ea2d_20 ⟨(by dsimp only [fR]; omega), (by dsimp only [fR]; omega)⟩) hw (fun ad1 M1 H locs hp hw => ?_)
  refine lv_iconst (v := 1) hx hb dJx4a65c_add_9ea2d_23 (by decide) ?_
  exact f_zret X hw rfl ⟨⟨hp.1, hp.2.1, fun l a b c => (hp.2.2 l a b c).trans (fU_n a)⟩, rfl⟩ (by omega) (by omega) dJx4a65c_add_9ea2d_24
/-- add: a list of n < 30 elements, one more; its array may be another one -/
theorem c_add (l : Launch) (g : fG) (ad : Nat → Nat) (M : fM) {ll la eb n : Nat} (h : fList g ad M ll la eb n) (hn : n < 30) {ci : Nat} {C : String} {Tc : u_T} {Nc : Nat} (hci : vwCl[ci]? = some (C, Tc, Nc)) (hca : Cond.castable C "java/lang/Object" ∈ NW) {vs : List Value} (hv : M (eb + n) = some (.inr (ci, vs))) (h1 : ll < la) (h2 : la < eb) (h3 : eb + n < 4000) (hel : ∀ i, i < n → ∃ fs, M (eb + i) = some (.inr (ci, fs))) : fCi l g yJx4a65c_add_9ea2d cJx4a65c_add_9ea2d 2 (some .boolean) 6 140 1 43 ad M [.ref (ad ll), .ref (ad (eb + n))] (fAddI g ad M ll la eb n) := by
  obtain ⟨mo, d, N, f, a1, a2, a3⟩ := h
  rcases a3 with ⟨rfl, rfl⟩ | ⟨rfl, b2, b3, b4, b5, b6⟩
  · exact c_addA l g ad M a1 hci hca hv h1 h2 h3
  · rcases Nat.lt_or_ge n N with q | q
    · exact c_addB1 l g ad M a1 b2 hci hca hv h1 h2 h3 q b4 b5 b6
    · obtain rfl : n = N := by omega
      exact c_addB2 l g ad M a1 b2 hci hca hv h1 h2 h3 b4 (by omega) b6 hel
