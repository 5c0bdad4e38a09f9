def cellR (kf nf : Nat → Int32) (T : fTn) (c w : Int32) : Int32 := if w = 0 then kOf kf c else if w = 1 then nOf kf nf c else if w = 2 then cntE (tE T) c (tEn T) else heatN (tH T) c (tHn T)
set_option maxHeartbeats 4000000 in
set_option maxRecDepth 100000 in
theorem c_X5_house (l : Launch) (g : fG) (ad : Nat → Nat) (M : fM) {T A : fTn} {kf nf sf : Nat → Int32} (hC : isC g ad M T A kf nf sf) {what : Int32} {jho : Nat} (h1 : jho < tHn T) (h2 : inR what 0 6 = true) : fCi l g yX5_house cX5_house 3 ((some .int)) 7 180 0 0 ad M [.ref (ad 0), .int (nI jho), .int what] (fDi ad M (hTell (tH T jho) what)) := by
  refine f_body (own := RX5) (by decide +kernel) rfl (Nat.le_of_ble_eq_true rfl) ?_
  intro p e s m args below meth c ls X hw hin hl
  have hx := X.1
  have hb := X.2.1
  have hl : lv_has ls 3 [(0, .ref (ad 0)), (1, .int (nI jho)), (2, .int what)] := hl
  obtain ⟨hF, hG, hT, hTA⟩ := id hC
  have hF : M 0 = some (.inr (6, [.ref (ad 1), .ref (ad 1000), .ref (ad 2000)])) := hF
  have hG0 := hG.1
  obtain ⟨hT0, hTh, hTp, hTe, hHs, hPs, hEs, hn1, hn2, hn3, hA⟩ := id hT
  obtain ⟨hT0a, hTha, hTpa, hTea, hHsa, hPsa, hEsa, hn1a, hn2a, hn3a, hAa⟩ := id hTA
  refine lv_aload_n hx hb dX5_house_0 rfl (lv_at hl 0 rfl) ?_
  refine lv_iload_n hx hb dX5_house_1 rfl (lv_at hl 1 rfl) ?_
  refine fk_dv (fcV X hw (c_rH l g ad M hC h1) hF rfl wq112 kVX5_requireHouse ⟨(Nat.le_of_ble_eq_true rfl), (Nat.le_of_ble_eq_true rfl)⟩ rfl hl.1 rfl (Nat.le_of_ble_eq_true rfl) dX5_house_2 ⟨Nat.le_refl _, Nat.le_refl _⟩) hw (fun H locs hw => ?_)
  refine lv_iload_n hx hb dX5_house_5 rfl (lv_at hl 2 rfl) ?_
  refine lv_bipush (v := 6) hx hb dX5_house_6 (by decide) ?_
  refine fk_dv (fcS X hw (c_rQ l g ad M h2) wq188 kSX5_requireQuestion ⟨(Nat.le_of_ble_eq_true rfl), (Nat.le_of_ble_eq_true rfl)⟩ rfl hl.1 rfl (Nat.le_of_ble_eq_true rfl) dX5_house_8 ⟨Nat.le_refl _, Nat.le_refl _⟩) hw (fun H locs hw => ?_)
  refine lv_aload_n hx hb dX5_house_11 rfl (lv_at hl 0 rfl) ?_
  refine f_get X hw hF fc6 1 (by decide) wq99 rfl (v := .ref (ad 1000)) rfl dX5_house_12 ?_
  refine f_getN X hw hT0 fc5 1 (by decide) wn84 rfl (v := .ref (ad (1000 + 1))) rfl dX5_house_15 ?_
  refine lv_iload_n hx hb dX5_house_18 rfl (lv_at hl 1 rfl) ?_
  refine fk_dr (fcVe X hw (c_get l g ad M hTh (by omega)) (fList_obj hTh) rfl wq192 kVJx4a65c_get_915e3 ⟨(Nat.le_of_ble_eq_true rfl), (Nat.le_of_ble_eq_true rfl)⟩ rfl hl.1 rfl (Nat.le_of_ble_eq_true rfl) dX5_house_19 ⟨Nat.le_refl _, Nat.le_refl _⟩) hw (fun H locs hw => ?_)
  refine f_cast X hw (hHs jho (by omega)) fc3 wq206 dX5_house_22 ?_
  refine lv_iload_n hx hb dX5_house_25 rfl (lv_at hl 2 rfl) ?_
  refine fk_di (fcV X hw (c_X2_tell l g ad M (hHs jho h1) what) (hHs jho (by omega)) rfl wq207 kVX2_tell ⟨(Nat.le_of_ble_eq_true rfl), (Nat.le_of_ble_eq_true rfl)⟩ rfl hl.1 rfl (Nat.le_of_ble_eq_true rfl) dX5_house_26 ⟨Nat.le_refl _, Nat.le_refl _⟩) hw (fun H locs hw => ?_)
  exact f_iret X hw ⟨rfl, rfl, rfl⟩ (Nat.le_refl _) (Nat.le_refl _) dX5_house_29
set_option maxHeartbeats 4000000 in
set_option maxRecDepth 100000 in
theorem c_X5_addEngine (l : Launch) (g : fG) (ad : Nat → Nat) (M : fM) {T A : fTn} {kf nf sf : Nat → Int32} (hC : isC g ad M T A kf nf sf) {x y hor pow : Int32} (h1 : aOn x y = true) {jc : Nat} (hjc : jc < 140) (hxy : x + 14 * y = nI jc) (h2 : inR hor 1 4 = true) (h3 : inR pow 1 20 = true) (h4 : (kSt kf (nI jc) && decide (tEn T < 6)) = true) : fCi l g yX5_addEngine cX5_addEngine 7 ((some .int)) 7 180 2 54 ad M [.ref (ad 0), .int x, .int y, .int hor, .int pow] (fCo g ad M (addE T (newE (nI jc) hor pow)) A kf nf sf (nI (tEn T))) := by
  refine f_body (own := RX5) (by decide +kernel) rfl (Nat.le_of_ble_eq_true rfl) ?_
  intro p e s m args below meth c ls X hw hin hl
  have hx := X.1
  have hb := X.2.1
  have hl : lv_has ls 7 [(0, .ref (ad 0)), (1, .int x), (2, .int y), (3, .int hor), (4, .int pow)] := hl
  obtain ⟨hF, hG, hT, hTA⟩ := id hC
  have hF : M 0 = some (.inr (6, [.ref (ad 1), .ref (ad 1000), .ref (ad 2000)])) := hF
  have hG0 := hG.1
  obtain ⟨hT0, hTh, hTp, hTe, hHs, hPs, hEs, hn1, hn2, hn3, hA⟩ := id hT
  obtain ⟨hT0a, hTha, hTpa, hTea, hHsa, hPsa, hEsa, hn1a, hn2a, hn3a, hAa⟩ := id hTA
  refine lv_iload_n hx hb dX5_addEngine_0 rfl (lv_at hl 1 rfl) ?_
  refine lv_iload_n hx hb dX5_addEngine_1 rfl (lv_at hl 2 rfl) ?_
  refine fk_dv (fcS X hw (c_rC l g ad M h1) wq653 kSX5_requireCell ⟨(Nat.le_of_ble_eq_true rfl), (Nat.le_of_ble_eq_true rfl)⟩ rfl hl.1 rfl (Nat.le_of_ble_eq_true rfl) dX5_addEngine_2 ⟨(by dsimp only [fR]; omega), (by dsimp only [fR]; omega)⟩) hw (fun H locs hw => ?_)
  refine lv_iload_n hx hb dX5_addEngine_5 rfl (lv_at hl 3 rfl) ?_
  refine lv_iconst (v := 1) hx hb dX5_addEngine_6 (by decide) ?_
  refine lv_iconst (v := 4) hx hb dX5_addEngine_7 (by decide) ?_
  refine fk_dv (fcS X hw (c_rR l g ad M h2) wq254 kSX5_requireRange ⟨(Nat.le_of_ble_eq_true rfl), (Nat.le_of_ble_eq_true rfl)⟩ rfl hl.1 rfl (Nat.le_of_ble_eq_true rfl) dX5_addEngine_8 ⟨(by dsimp only [fR]; omega), (by dsimp only [fR]; omega)⟩) hw (fun H locs hw => ?_)
  refine lv_iload hx hb dX5_addEngine_11 (lv_at hl 4 rfl) ?_
  refine lv_iconst (v := 1) hx hb dX5_addEngine_13 (by decide) ?_
  refine lv_bipush (v := 20) hx hb dX5_addEngine_14 (by decide) ?_
  refine fk_dv (fcS X hw (c_rR l g ad M h3) wq254 kSX5_requireRange ⟨(Nat.le_of_ble_eq_true rfl), (Nat.le_of_ble_eq_true rfl)⟩ rfl hl.1 rfl (Nat.le_of_ble_eq_true rfl) dX5_addEngine_16 ⟨(by dsimp only [fR]; omega), (by dsimp only [fR]; omega)⟩) hw (fun H locs hw => ?_)
  refine lv_iload_n hx hb dX5_addEngine_19 rfl (lv_at hl 1 rfl) ?_
  refine lv_iload_n hx hb dX5_addEngine_20 rfl (lv_at hl 2 rfl) ?_
  refine fk_di (fcS X hw (c_cellAt l g ad M x y) wq660 kSX5_cellAt ⟨(Nat.le_of_ble_eq_true rfl), (Nat.le_of_ble_eq_true rfl)⟩ rfl hl.1 rfl (Nat.le_of_ble_eq_true rfl) dX5_addEngine_21 ⟨(by dsimp only [fR]; omega), (by dsimp only [fR]; omega)⟩) hw (fun H locs hw => ?_)
  refine f_top (y := nI jc) hxy ?_
  refine lv_istore (lv' := [(5, .int (nI jc)), (0, .ref (ad 0)), (1, .int x), (2, .int y), (3, .int hor), (4, .int pow)]) hx hb dX5_addEngine_24 hl (by decide) rfl (fun ls hl => ?_)
  refine lv_aload_n hx hb dX5_addEngine_26 rfl (lv_at hl 1 rfl) ?_
  refine f_get X hw hF fc6 0 (by decide) wq98 rfl (v := .ref (ad 1)) rfl dX5_addEngine_27 ?_
  refine lv_iload hx hb dX5_addEngine_30 (lv_at hl 0 rfl) ?_
  refine fk_di (fcV X hw (c_isStreet l g ad M hG (nI jc)) hG0 rfl wq667 kVX1_isStreet ⟨(Nat.le_of_ble_eq_true rfl), (Nat.le_of_ble_eq_true rfl)⟩ rfl hl.1 rfl (Nat.le_of_ble_eq_true rfl) dX5_addEngine_32 ⟨(by dsimp only [fR]; omega), (by dsimp only [fR]; omega)⟩) hw (fun H locs hw => ?_)
  refine lv_if_eq (tgt := 57) hx hb dX5_addEngine_35 (by decide) (fun c_1 => ?_) (fun c_1 => ?_)
  · have c_1 := bI_f.mp c_1
    refine lv_iconst (v := 0) hx hb dX5_addEngine_57 (by decide) ?_
    exact absurd h4 (by simp [c_1])
  · have c_1 := bI_nf.mp c_1
    refine lv_aload_n hx hb dX5_addEngine_38 rfl (lv_at hl 1 rfl) ?_
    refine f_get X hw hF fc6 1 (by decide) wq99 rfl (v := .ref (ad 1000)) rfl dX5_addEngine_39 ?_
    refine f_getN X hw hT0 fc5 3 (by decide) wn88 rfl (v := .ref (ad (1000 + 3))) rfl dX5_addEngine_42 ?_
    refine fk_di (fcVe X hw (c_size l g ad M hTe) (fList_obj hTe) rfl wq116 kVJx4a65c_size_8abf5 ⟨(Nat.le_of_ble_eq_true rfl), (Nat.le_of_ble_eq_true rfl)⟩ rfl hl.1 rfl (Nat.le_of_ble_eq_true rfl) dX5_addEngine_45 ⟨(by dsimp only [fR]; omega), (by dsimp only [fR]; omega)⟩) hw (fun H locs hw => ?_)
    refine lv_bipush (v := 6) hx hb dX5_addEngine_48 (by decide) ?_
    refine lv_icmp_ge (tgt := 57) hx hb dX5_addEngine_50 (by decide) (fun c_2 => ?_) (fun c_2 => ?_)
    · have c_2 := nI_le' (a := 6) (b := (tEn T)) c_2 (by omega) (by omega)
      refine lv_iconst (v := 0) hx hb dX5_addEngine_57 (by decide) ?_
      exact absurd h4 (by simp [c_1, c_2])
    · have c_2 := nI_nle' (a := 6) (b := (tEn T)) c_2 (by omega) (by omega)
      refine lv_iconst (v := 1) hx hb dX5_addEngine_53 (by decide) ?_
      refine lv_goto (tgt := 58) hx hb dX5_addEngine_54 (by decide) ?_
      refine fk_dv (fcS X hw (c_rS l g ad M) wq683 kSX5_requireState ⟨(Nat.le_of_ble_eq_true rfl), (Nat.le_of_ble_eq_true rfl)⟩ rfl hl.1 rfl (Nat.le_of_ble_eq_true rfl) dX5_addEngine_58 ⟨(by dsimp only [fR]; omega), (by dsimp only [fR]; omega)⟩) hw (fun H locs hw => ?_)
      refine lv_aload_n hx hb dX5_addEngine_61 rfl (lv_at hl 1 rfl) ?_
      refine f_get X hw hF fc6 1 (by decide) wq99 rfl (v := .ref (ad 1000)) rfl dX5_addEngine_62 ?_
      refine f_getN X hw hT0 fc5 3 (by decide) wn88 rfl (v := .ref (ad (1000 + 3))) rfl dX5_addEngine_65 ?_
      refine fk_di (fcVe X hw (c_size l g ad M hTe) (fList_obj hTe) rfl wq116 kVJx4a65c_size_8abf5 ⟨(Nat.le_of_ble_eq_true rfl), (Nat.le_of_ble_eq_true rfl)⟩ rfl hl.1 rfl (Nat.le_of_ble_eq_true rfl) dX5_addEngine_68 ⟨(by dsimp only [fR]; omega), (by dsimp only [fR]; omega)⟩) hw (fun H locs hw => ?_)
      refine lv_istore (lv' := [(6, .int (nI (tEn T))), (5, .int (nI jc)), (0, .ref (ad 0)), (1, .int x), (2, .int y), (3, .int hor), (4, .int pow)]) hx hb dX5_addEngine_71 hl (by decide) rfl (fun ls hl => ?_)
      refine lv_aload_n hx hb dX5_addEngine_73 rfl (lv_at hl 2 rfl) ?_
      refine f_get X hw hF fc6 1 (by decide) wq99 rfl (v := .ref (ad 1000)) rfl dX5_addEngine_74 ?_
      refine f_getN X hw hT0 fc5 3 (by decide) wn88 rfl (v := .ref (ad (1000 + 3))) rfl dX5_addEngine_77 ?_
      refine f_new X hw (1000 + 300 + tEn T) (by omega) fc1 wq220 wq508 wq23 (fs := [.int 0, .int 0, .int 0, .int 0, .int 0, .int 0, .int 0, .int 0, .int 0, .int 0, .int 0]) (by intro j hj; rcases (show j = 0 ∨ j = 1 ∨ j = 2 ∨ j = 3 ∨ j = 4 ∨ j = 5 ∨ j = 6 ∨ j = 7 ∨ j = 8 ∨ j = 9 ∨ j = 10 by omega) with rfl | rfl | rfl | rfl | rfl | rfl | rfl | rfl | rfl | rfl | rfl <;> rfl) (by dsimp only [fR]; omega) (by dsimp only [fR]; omega) dX5_addEngine_80 (fun q1 H hw => ?_)
      obtain ⟨ad1, ea1⟩ : ∃ z, z = fV ad (1000 + 300 + tEn T) q1 := ⟨_, rfl⟩
      have eq1 : ad1 (1000 + 300 + tEn T) = q1 := by rw [ea1]; exact fV_s
      have eA1 : ∀ l, l ≠ 1000 + 300 + tEn T → ad1 l = ad l := fun l h => by rw [ea1]; exact fV_n h
      rw [← ea1] at hw
      obtain ⟨Mn1, em1⟩ : ∃ z, z = fU M (1000 + 300 + tEn T) (.inr (1, [.int 0, .int 0, .int 0, .int 0, .int 0, .int 0, .int 0, .int 0, .int 0, .int 0, .int 0])) := ⟨_, rfl⟩
      have eM1 : ∀ l, l ≠ 1000 + 300 + tEn T → Mn1 l = M l := fun l h => by rw [em1]; exact fU_n h
      have eS1 : Mn1 (1000 + 300 + tEn T) = some (.inr (1, [.int 0, .int 0, .int 0, .int 0, .int 0, .int 0, .int 0, .int 0, .int 0, .int 0, .int 0])) := by rw [em1]; exact fU_s
      rw [← em1] at hw
      refine lv_dup hx hb dX5_addEngine_83 rfl ?_
      refine lv_iload hx hb dX5_addEngine_84 (lv_at hl 1 rfl) ?_
      refine lv_iload_n hx hb dX5_addEngine_86 rfl (lv_at hl 5 rfl) ?_
      refine lv_iload hx hb dX5_addEngine_87 (lv_at hl 6 rfl) ?_
      refine f_adr4 (ad := ad1) (lb := 1000 + 300 + tEn T) eq1 ?_
      refine fk_dv (fcI X hw (c_X0_init l g ad1 Mn1 (lb := 1000 + 300 + tEn T) (f := f0) eS1 (nI jc) hor pow) wq757 kIX0_init ⟨(Nat.le_of_ble_eq_true rfl), (Nat.le_of_ble_eq_true rfl)⟩ rfl hl.1 rfl (Nat.le_of_ble_eq_true rfl) dX5_addEngine_89 ⟨(by dsimp only [fR]; omega), (by dsimp only [fR]; omega)⟩) hw (fun H locs hw => ?_)
      refine f_adr (ad := ad1) (lb := 1000 + 300 + tEn T) eq1 ?_
      refine f_adr2 (ad := ad1) (lb := 1000 + 3) (eA1 _ (by omega)) ?_
      have hLn : fList g ad1 (fU Mn1 (1000 + 300 + tEn T) (.inr (1, eV (newE (nI jc) hor pow)))) (1000 + 3) (1000 + 6) (1000 + 300) (tEn T) := fList_A hTe (eA1 _ (by omega)) (fun i hi => eA1 _ (by omega)) ((fU_n (by omega)).trans (eM1 _ (by omega))) ((fU_n (by omega)).trans (eM1 _ (by omega)))
      refine fk_i (fcVe X hw (c_add l g ad1 (fU Mn1 (1000 + 300 + tEn T) (.inr (1, eV (newE (nI jc) hor pow)))) hLn (by omega) (ci := 1) rfl wn901 fU_s (by omega) (by omega) (by omega) (fun i hi => ⟨_, (fU_n (by omega)).trans ((eM1 _ (by omega)).trans (hEs i hi))⟩)) (fList_obj hLn) rfl wq703 kVJx4a65c_add_9ea2d ⟨(Nat.le_of_ble_eq_true rfl), (Nat.le_of_ble_eq_true rfl)⟩ rfl hl.1 rfl (Nat.le_of_ble_eq_true rfl) dX5_addEngine_92 ⟨(by dsimp only [fR]; omega), (by dsimp only [fR]; omega)⟩) hw (fun r ad3 M3 H locs hp hw => ?_)
      have hTn := isTown_addE (ad1 := ad3) (M1 := M3) (f := newE (nI jc) hor pow) hT (by omega) hp.1.1 ((hp.1.2.2 _ (by omega) (by omega) (by omega)).trans fU_s) (Or.inl rfl) (fun l a1 a2 a3 a4 => ⟨(hp.1.2.1 l (by omega) (by omega)).trans (eA1 l (by omega)), fun a5 => (hp.1.2.2 l a5 (by omega) (by omega)).trans ((fU_n (by omega)).trans (eM1 l (by omega)))⟩)
      have hq : fReg 1000 2000 ad M ad3 M3 := fun l a1 a2 => ⟨(hp.1.2.1 l (by omega) (by omega)).trans (eA1 l (by omega)), (hp.1.2.2 l (by omega) (by omega) (by omega)).trans ((fU_n (by omega)).trans (eM1 l (by omega)))⟩
      have hG3 := isGround_reg hG hq (by omega)
      have hA3 := isTown_reg hTA hq (by omega) (by omega)
      have hb3 : ad3 1000 = ad 1000 := (hp.1.2.1 1000 (by omega) (by omega)).trans (eA1 1000 (by omega))
      have hF3 : isFE ad3 M3 := isFE_of hF (hq 0 (by omega) (by omega)).2 (hq 1 (by omega) (by omega)).1 hb3 (hq 2000 (by omega) (by omega)).1
      have hFx : M3 0 = some (.inr (6, [.ref (ad3 1), .ref (ad3 1000), .ref (ad3 2000)])) := hF3
      have hGx := hG3.1
      refine lv_pop hx hb dX5_addEngine_95 rfl ?_
      refine lv_iload hx hb dX5_addEngine_96 (lv_at hl 0 rfl) ?_
      exact f_iret X hw ⟨⟨hF3, hG3, hTn, hA3⟩, fReg_w hq (by omega) (by omega), (hq 0 (by omega) (by omega)).1, rfl⟩ (by omega) (by omega) dX5_addEngine_98
set_option maxHeartbeats 4000000 in
set_option maxRecDepth 100000 in
theorem c_X5_stoke (l : Launch) (g : fG) (ad : Nat → Nat) (M : fM) {T A : fTn} {kf nf sf : Nat → Int32} (hC : isC g ad M T A kf nf sf) {coal : Int32} {jen : Nat} (h1 : jen < tEn T) (h2 : inR coal 1 100 = true) (h3 : (decide (¬ 200 < tE T jen 3 + coal)) = true) : fCi l g yX5_stoke cX5_stoke 4 ((some .int)) 7 180 0 0 ad M [.ref (ad 0), .int (nI jen), .int coal] (fCo g ad M (sE T jen (upd (tE T jen) 3 (tE T jen 3 + coal))) A kf nf sf (tE T jen 3 + coal)) := by
  refine f_body (own := RX5) (by decide +kernel) rfl (Nat.le_of_ble_eq_true rfl) ?_
  intro p e s m args below meth c ls X hw hin hl
  have hx := X.1
  have hb := X.2.1
  have hl : lv_has ls 4 [(0, .ref (ad 0)), (1, .int (nI jen)), (2, .int coal)] := hl
  obtain ⟨hF, hG, hT, hTA⟩ := id hC
  have hF : M 0 = some (.inr (6, [.ref (ad 1), .ref (ad 1000), .ref (ad 2000)])) := hF
  have hG0 := hG.1
  obtain ⟨hT0, hTh, hTp, hTe, hHs, hPs, hEs, hn1, hn2, hn3, hA⟩ := id hT
  obtain ⟨hT0a, hTha, hTpa, hTea, hHsa, hPsa, hEsa, hn1a, hn2a, hn3a, hAa⟩ := id hTA
  refine lv_aload_n hx hb dX5_stoke_0 rfl (lv_at hl 0 rfl) ?_
  refine lv_iload_n hx hb dX5_stoke_1 rfl (lv_at hl 1 rfl) ?_
  refine fk_dv (fcV X hw (c_rE l g ad M hC h1) hF rfl wq215 kVX5_requireEngine ⟨(Nat.le_of_ble_eq_true rfl), (Nat.le_of_ble_eq_true rfl)⟩ rfl hl.1 rfl (Nat.le_of_ble_eq_true rfl) dX5_stoke_2 ⟨Nat.le_refl _, Nat.le_refl _⟩) hw (fun H locs hw => ?_)
  refine lv_iload_n hx hb dX5_stoke_5 rfl (lv_at hl 2 rfl) ?_
  refine lv_iconst (v := 1) hx hb dX5_stoke_6 (by decide) ?_
  refine lv_bipush (v := 100) hx hb dX5_stoke_7 (by decide) ?_
  refine fk_dv (fcS X hw (c_rR l g ad M h2) wq254 kSX5_requireRange ⟨(Nat.le_of_ble_eq_true rfl), (Nat.le_of_ble_eq_true rfl)⟩ rfl hl.1 rfl (Nat.le_of_ble_eq_true rfl) dX5_stoke_9 ⟨Nat.le_refl _, Nat.le_refl _⟩) hw (fun H locs hw => ?_)
  refine lv_aload_n hx hb dX5_stoke_12 rfl (lv_at hl 0 rfl) ?_
  refine f_get X hw hF fc6 1 (by decide) wq99 rfl (v := .ref (ad 1000)) rfl dX5_stoke_13 ?_
  refine f_getN X hw hT0 fc5 3 (by decide) wn88 rfl (v := .ref (ad (1000 + 3))) rfl dX5_stoke_16 ?_
  refine lv_iload_n hx hb dX5_stoke_19 rfl (lv_at hl 1 rfl) ?_
  refine fk_dr (fcVe X hw (c_get l g ad M hTe (by omega)) (fList_obj hTe) rfl wq192 kVJx4a65c_get_915e3 ⟨(Nat.le_of_ble_eq_true rfl), (Nat.le_of_ble_eq_true rfl)⟩ rfl hl.1 rfl (Nat.le_of_ble_eq_true rfl) dX5_stoke_20 ⟨Nat.le_refl _, Nat.le_refl _⟩) hw (fun H locs hw => ?_)
  refine f_cast X hw (hEs jen (by omega)) fc1 wq220 dX5_stoke_23 ?_
  refine lv_astore_n (lv' := [(3, .ref (ad (1000 + 300 + jen))), (0, .ref (ad 0)), (1, .int (nI jen)), (2, .int coal)]) hx hb dX5_stoke_26 rfl hl (by decide) rfl (fun ls hl => ?_)
  refine lv_aload_n hx hb dX5_stoke_27 rfl (lv_at hl 0 rfl) ?_
  refine f_getN X hw (hEs jen (by omega)) fc1 3 (by decide) wn522 rfl (v := .int ((tE T jen) 3)) rfl dX5_stoke_28 ?_
  refine lv_iload_n hx hb dX5_stoke_31 rfl (lv_at hl 3 rfl) ?_
  refine lv_iadd hx hb dX5_stoke_32 ?_
  refine lv_sipush (v := 200) hx hb dX5_stoke_33 (by decide) ?_
  refine lv_icmp_gt (tgt := 43) hx hb dX5_stoke_36 (by decide) (fun c_1 => ?_) (fun c_1 => ?_)
  · refine lv_iconst (v := 0) hx hb dX5_stoke_43 (by decide) ?_
    exact absurd h3 (by simp [c_1])
  · refine lv_iconst (v := 1) hx hb dX5_stoke_39 (by decide) ?_
    refine lv_goto (tgt := 44) hx hb dX5_stoke_40 (by decide) ?_
    refine fk_dv (fcS X hw (c_rS l g ad M) wq683 kSX5_requireState ⟨(Nat.le_of_ble_eq_true rfl), (Nat.le_of_ble_eq_true rfl)⟩ rfl hl.1 rfl (Nat.le_of_ble_eq_true rfl) dX5_stoke_44 ⟨Nat.le_refl _, Nat.le_refl _⟩) hw (fun H locs hw => ?_)
    refine lv_aload_n hx hb dX5_stoke_47 rfl (lv_at hl 0 rfl) ?_
    refine lv_dup hx hb dX5_stoke_48 rfl ?_
    refine f_getN X hw (hEs jen (by omega)) fc1 3 (by decide) wn522 rfl (v := .int ((tE T jen) 3)) rfl dX5_stoke_49 ?_
    refine lv_iload_n hx hb dX5_stoke_52 rfl (lv_at hl 3 rfl) ?_
    refine lv_iadd hx hb dX5_stoke_53 ?_
    refine f_putN X hw (hEs jen (by omega)) fc1 3 (by decide) wn522 rfl rfl (v := .int (((tE T jen) 3) + coal)) rfl rfl (Nat.le_of_ble_eq_true rfl) dX5_stoke_54 (fun H locs hw => ?_)
    have hw : fw g ad (fU M (1000 + 300 + jen) (.inr (1, eV (upd (tE T jen) 3 (((tE T jen) 3) + coal))))) s H locs := hw
    have hF : (fU M (1000 + 300 + jen) (.inr (1, eV (upd (tE T jen) 3 (((tE T jen) 3) + coal))))) 0 = some (.inr (6, [.ref (ad 1), .ref (ad 1000), .ref (ad 2000)])) := (fU_n (by omega)).trans hF
    have hG0 : (fU M (1000 + 300 + jen) (.inr (1, eV (upd (tE T jen) 3 (((tE T jen) 3) + coal))))) 1 = some (.inr (2, [.ref (ad 2), .ref (ad 3), .ref (ad 4)])) := (fU_n (by omega)).trans hG0
    have hT0 : (fU M (1000 + 300 + jen) (.inr (1, eV (upd (tE T jen) 3 (((tE T jen) 3) + coal))))) 1000 = some (.inr (5, [.int (tM T), .ref (ad (1000 + 1)), .ref (ad (1000 + 2)), .ref (ad (1000 + 3))])) := (fU_n (by omega)).trans hT0
    have hTh : fList g ad (fU M (1000 + 300 + jen) (.inr (1, eV (upd (tE T jen) 3 (((tE T jen) 3) + coal))))) (1000 + 1) (1000 + 4) (1000 + 100) (tHn T) := fList_V hTh (fU_n (by omega)) (fU_n (by omega))
    have hTp : fList g ad (fU M (1000 + 300 + jen) (.inr (1, eV (upd (tE T jen) 3 (((tE T jen) 3) + coal))))) (1000 + 2) (1000 + 5) (1000 + 200) (tPn T) := fList_V hTp (fU_n (by omega)) (fU_n (by omega))
    have hTe : fList g ad (fU M (1000 + 300 + jen) (.inr (1, eV (upd (tE T jen) 3 (((tE T jen) 3) + coal))))) (1000 + 3) (1000 + 6) (1000 + 300) (tEn T) := fList_V hTe (fU_n (by omega)) (fU_n (by omega))
    have hT0a : (fU M (1000 + 300 + jen) (.inr (1, eV (upd (tE T jen) 3 (((tE T jen) 3) + coal))))) 2000 = some (.inr (5, [.int (tM A), .ref (ad (2000 + 1)), .ref (ad (2000 + 2)), .ref (ad (2000 + 3))])) := (fU_n (by omega)).trans hT0a
    have hTha : fList g ad (fU M (1000 + 300 + jen) (.inr (1, eV (upd (tE T jen) 3 (((tE T jen) 3) + coal))))) (2000 + 1) (2000 + 4) (2000 + 100) (tHn A) := fList_V hTha (fU_n (by omega)) (fU_n (by omega))
    have hTpa : fList g ad (fU M (1000 + 300 + jen) (.inr (1, eV (upd (tE T jen) 3 (((tE T jen) 3) + coal))))) (2000 + 2) (2000 + 5) (2000 + 200) (tPn A) := fList_V hTpa (fU_n (by omega)) (fU_n (by omega))
    have hTea : fList g ad (fU M (1000 + 300 + jen) (.inr (1, eV (upd (tE T jen) 3 (((tE T jen) 3) + coal))))) (2000 + 3) (2000 + 6) (2000 + 300) (tEn A) := fList_V hTea (fU_n (by omega)) (fU_n (by omega))
    have hM_1000___300___jen : (fU M (1000 + 300 + jen) (.inr (1, eV (upd (tE T jen) 3 (((tE T jen) 3) + coal))))) (1000 + 300 + jen) = some (.inr (1, eV (upd (tE T jen) 3 (((tE T jen) 3) + coal)))) := fU_s
    refine lv_aload_n hx hb dX5_stoke_57 rfl (lv_at hl 0 rfl) ?_
    refine f_getN X hw hM_1000___300___jen fc1 3 (by decide) wn522 rfl (v := .int (((tE T jen) 3) + coal)) rfl dX5_stoke_58 ?_
    exact f_iret X hw (by have hTn := isTown_setE (f := upd (tE T jen) 3 (tE T jen 3 + coal)) hT h1 (hA jen h1); have ho : fOut 1000 M (fU M (1000 + 300 + jen) (.inr (1, eV (upd (tE T jen) 3 (tE T jen 3 + coal))))) := fOut_U fOut_rf (by omega); exact ⟨(isC_T hC hTn ho).1, (isC_T hC hTn ho).2, rfl, rfl⟩) (Nat.le_refl _) (Nat.le_refl _) dX5_stoke_61
set_option maxHeartbeats 4000000 in
set_option maxRecDepth 100000 in
theorem c_X5_takeUp (l : Launch) (g : fG) (ad : Nat → Nat) (M : fM) {T A : fTn} {kf nf sf : Nat → Int32} (hC : isC g ad M T A kf nf sf) {jen : Nat} (h1 : jen < tEn T) : fCi l g yX5_takeUp cX5_takeUp 4 ((some .boolean)) 7 180 0 0 ad M [.ref (ad 0), .int (nI jen)] (fCo g ad M (sE T jen (upd (tE T jen) 7 (-1))) A kf nf sf (bI (!decide (tE T jen 7 = -1)))) := by
  refine f_body (own := RX5) (by decide +kernel) rfl (Nat.le_of_ble_eq_true rfl) ?_
  intro p e s m args below meth c ls X hw hin hl
  have hx := X.1
  have hb := X.2.1
  have hl : lv_has ls 4 [(0, .ref (ad 0)), (1, .int (nI jen))] := hl
  obtain ⟨hF, hG, hT, hTA⟩ := id hC
  have hF : M 0 = some (.inr (6, [.ref (ad 1), .ref (ad 1000), .ref (ad 2000)])) := hF
  have hG0 := hG.1
  obtain ⟨hT0, hTh, hTp, hTe, hHs, hPs, hEs, hn1, hn2, hn3, hA⟩ := id hT
  obtain ⟨hT0a, hTha, hTpa, hTea, hHsa, hPsa, hEsa, hn1a, hn2a, hn3a, hAa⟩ := id hTA
  refine lv_aload_n hx hb dX5_takeUp_0 rfl (lv_at hl 0 rfl) ?_
  refine lv_iload_n hx hb dX5_takeUp_1 rfl (lv_at hl 1 rfl) ?_
  refine fk_dv (fcV X hw (c_rE l g ad M hC h1) hF rfl wq215 kVX5_requireEngine ⟨(Nat.le_of_ble_eq_true rfl), (Nat.le_of_ble_eq_true rfl)⟩ rfl hl.1 rfl (Nat.le_of_ble_eq_true rfl) dX5_takeUp_2 ⟨Nat.le_refl _, Nat.le_refl _⟩) hw (fun H locs hw => ?_)
  refine lv_aload_n hx hb dX5_takeUp_5 rfl (lv_at hl 0 rfl) ?_
  refine f_get X hw hF fc6 1 (by decide) wq99 rfl (v := .ref (ad 1000)) rfl dX5_takeUp_6 ?_
  refine f_getN X hw hT0 fc5 3 (by decide) wn88 rfl (v := .ref (ad (1000 + 3))) rfl dX5_takeUp_9 ?_
  refine lv_iload_n hx hb dX5_takeUp_12 rfl (lv_at hl 1 rfl) ?_
  refine fk_dr (fcVe X hw (c_get l g ad M hTe (by omega)) (fList_obj hTe) rfl wq192 kVJx4a65c_get_915e3 ⟨(Nat.le_of_ble_eq_true rfl), (Nat.le_of_ble_eq_true rfl)⟩ rfl hl.1 rfl (Nat.le_of_ble_eq_true rfl) dX5_takeUp_13 ⟨Nat.le_refl _, Nat.le_refl _⟩) hw (fun H locs hw => ?_)
  refine f_cast X hw (hEs jen (by omega)) fc1 wq220 dX5_takeUp_16 ?_
  refine lv_astore_n (lv' := [(2, .ref (ad (1000 + 300 + jen))), (0, .ref (ad 0)), (1, .int (nI jen))]) hx hb dX5_takeUp_19 rfl hl (by decide) rfl (fun ls hl => ?_)
  refine lv_aload_n hx hb dX5_takeUp_20 rfl (lv_at hl 0 rfl) ?_
  refine f_getN X hw (hEs jen (by omega)) fc1 7 (by decide) wn532 rfl (v := .int ((tE T jen) 7)) rfl dX5_takeUp_21 ?_
  refine lv_iconst (v := (-1)) hx hb dX5_takeUp_24 (by decide) ?_
  refine lv_icmp_eq (tgt := 32) hx hb dX5_takeUp_25 (by decide) (fun c_1 => ?_) (fun c_1 => ?_)
  · refine lv_iconst (v := 0) hx hb dX5_takeUp_32 (by decide) ?_
    refine lv_istore_n (lv' := [(3, .int 0), (2, .ref (ad (1000 + 300 + jen))), (0, .ref (ad 0)), (1, .int (nI jen))]) hx hb dX5_takeUp_33 rfl hl (by decide) rfl (fun ls hl => ?_)
    refine lv_aload_n hx hb dX5_takeUp_34 rfl (lv_at hl 1 rfl) ?_
    refine lv_iconst (v := (-1)) hx hb dX5_takeUp_35 (by decide) ?_
    refine f_putN X hw (hEs jen (by omega)) fc1 7 (by decide) wn532 rfl rfl (v := .int (-1)) rfl rfl (Nat.le_of_ble_eq_true rfl) dX5_takeUp_36 (fun H locs hw => ?_)
    have hw : fw g ad (fU M (1000 + 300 + jen) (.inr (1, eV (upd (tE T jen) 7 (-1))))) s H locs := hw
    have hF : (fU M (1000 + 300 + jen) (.inr (1, eV (upd (tE T jen) 7 (-1))))) 0 = some (.inr (6, [.ref (ad 1), .ref (ad 1000), .ref (ad 2000)])) := (fU_n (by omega)).trans hF
    have hG0 : (fU M (1000 + 300 + jen) (.inr (1, eV (upd (tE T jen) 7 (-1))))) 1 = some (.inr (2, [.ref (ad 2), .ref (ad 3), .ref (ad 4)])) := (fU_n (by omega)).trans hG0
    have hT0 : (fU M (1000 + 300 + jen) (.inr (1, eV (upd (tE T jen) 7 (-1))))) 1000 = some (.inr (5, [.int (tM T), .ref (ad (1000 + 1)), .ref (ad (1000 + 2)), .ref (ad (1000 + 3))])) := (fU_n (by omega)).trans hT0
    have hTh : fList g ad (fU M (1000 + 300 + jen) (.inr (1, eV (upd (tE T jen) 7 (-1))))) (1000 + 1) (1000 + 4) (1000 + 100) (tHn T) := fList_V hTh (fU_n (by omega)) (fU_n (by omega))
    have hTp : fList g ad (fU M (1000 + 300 + jen) (.inr (1, eV (upd (tE T jen) 7 (-1))))) (1000 + 2) (1000 + 5) (1000 + 200) (tPn T) := fList_V hTp (fU_n (by omega)) (fU_n (by omega))
    have hTe : fList g ad (fU M (1000 + 300 + jen) (.inr (1, eV (upd (tE T jen) 7 (-1))))) (1000 + 3) (1000 + 6) (1000 + 300) (tEn T) := fList_V hTe (fU_n (by omega)) (fU_n (by omega))
    have hT0a : (fU M (1000 + 300 + jen) (.inr (1, eV (upd (tE T jen) 7 (-1))))) 2000 = some (.inr (5, [.int (tM A), .ref (ad (2000 + 1)), .ref (ad (2000 + 2)), .ref (ad (2000 + 3))])) := (fU_n (by omega)).trans hT0a
    have hTha : fList g ad (fU M (1000 + 300 + jen) (.inr (1, eV (upd (tE T jen) 7 (-1))))) (2000 + 1) (2000 + 4) (2000 + 100) (tHn A) := fList_V hTha (fU_n (by omega)) (fU_n (by omega))
    have hTpa : fList g ad (fU M (1000 + 300 + jen) (.inr (1, eV (upd (tE T jen) 7 (-1))))) (2000 + 2) (2000 + 5) (2000 + 200) (tPn A) := fList_V hTpa (fU_n (by omega)) (fU_n (by omega))
    have hTea : fList g ad (fU M (1000 + 300 + jen) (.inr (1, eV (upd (tE T jen) 7 (-1))))) (2000 + 3) (2000 + 6) (2000 + 300) (tEn A) := fList_V hTea (fU_n (by omega)) (fU_n (by omega))
    have hM_1000___300___jen : (fU M (1000 + 300 + jen) (.inr (1, eV (upd (tE T jen) 7 (-1))))) (1000 + 300 + jen) = some (.inr (1, eV (upd (tE T jen) 7 (-1)))) := fU_s
    refine lv_iload_n hx hb dX5_takeUp_39 rfl (lv_at hl 0 rfl) ?_
    exact f_zret X hw rfl (by have hTn := isTown_setE (f := upd (tE T jen) 7 (-1)) hT h1 (hA jen h1); have ho : fOut 1000 M (fU M (1000 + 300 + jen) (.inr (1, eV (upd (tE T jen) 7 (-1))))) := fOut_U fOut_rf (by omega); exact ⟨(isC_T hC hTn ho).1, (isC_T hC hTn ho).2, rfl, by simp [bI, c_1]⟩) (Nat.le_refl _) (Nat.le_refl _) dX5_takeUp_40
  · refine lv_iconst (v := 1) hx hb dX5_takeUp_28 (by decide) ?_
    refine lv_goto (tgt := 33) hx hb dX5_takeUp_29 (by decide) ?_
    refine lv_istore_n (lv' := [(3, .int 1), (2, .ref (ad (1000 + 300 + jen))), (0, .ref (ad 0)), (1, .int (nI jen))]) hx hb dX5_takeUp_33 rfl hl (by decide) rfl (fun ls hl => ?_)
    refine lv_aload_n hx hb dX5_takeUp_34 rfl (lv_at hl 1 rfl) ?_
    refine lv_iconst (v := (-1)) hx hb dX5_takeUp_35 (by decide) ?_
    refine f_putN X hw (hEs jen (by omega)) fc1 7 (by decide) wn532 rfl rfl (v := .int (-1)) rfl rfl (Nat.le_of_ble_eq_true rfl) dX5_takeUp_36 (fun H locs hw => ?_)
    have hw : fw g ad (fU M (1000 + 300 + jen) (.inr (1, eV (upd (tE T jen) 7 (-1))))) s H locs := hw
    have hF : (fU M (1000 + 300 + jen) (.inr (1, eV (upd (tE T jen) 7 (-1))))) 0 = some (.inr (6, [.ref (ad 1), .ref (ad 1000), .ref (ad 2000)])) := (fU_n (by omega)).trans hF
    have hG0 : (fU M (1000 + 300 + jen) (.inr (1, eV (upd (tE T jen) 7 (-1))))) 1 = some (.inr (2, [.ref (ad 2), .ref (ad 3), .ref (ad 4)])) := (fU_n (by omega)).trans hG0
    have hT0 : (fU M (1000 + 300 + jen) (.inr (1, eV (upd (tE T jen) 7 (-1))))) 1000 = some (.inr (5, [.int (tM T), .ref (ad (1000 + 1)), .ref (ad (1000 + 2)), .ref (ad (1000 + 3))])) := (fU_n (by omega)).trans hT0
    have hTh : fList g ad (fU M (1000 + 300 + jen) (.inr (1, eV (upd (tE T jen) 7 (-1))))) (1000 + 1) (1000 + 4) (1000 + 100) (tHn T) := fList_V hTh (fU_n (by omega)) (fU_n (by omega))
    have hTp : fList g ad (fU M (1000 + 300 + jen) (.inr (1, eV (upd (tE T jen) 7 (-1))))) (1000 + 2) (1000 + 5) (1000 + 200) (tPn T) := fList_V hTp (fU_n (by omega)) (fU_n (by omega))
    have hTe : fList g ad (fU M (1000 + 300 + jen) (.inr (1, eV (upd (tE T jen) 7 (-1))))) (1000 + 3) (1000 + 6) (1000 + 300) (tEn T) := fList_V hTe (fU_n (by omega)) (fU_n (by omega))
    have hT0a : (fU M (1000 + 300 + jen) (.inr (1, eV (upd (tE T jen) 7 (-1))))) 2000 = some (.inr (5, [.int (tM A), .ref (ad (2000 + 1)), .ref (ad (2000 + 2)), .ref (ad (2000 + 3))])) := (fU_n (by omega)).trans hT0a
    have hTha : fList g ad (fU M (1000 + 300 + jen) (.inr (1, eV (upd (tE T jen) 7 (-1))))) (2000 + 1) (2000 + 4) (2000 + 100) (tHn A) := fList_V hTha (fU_n (by omega)) (fU_n (by omega))
    have hTpa : fList g ad (fU M (1000 + 300 + jen) (.inr (1, eV (upd (tE T jen) 7 (-1))))) (2000 + 2) (2000 + 5) (2000 + 200) (tPn A) := fList_V hTpa (fU_n (by omega)) (fU_n (by omega))
    have hTea : fList g ad (fU M (1000 + 300 + jen) (.inr (1, eV (upd (tE T jen) 7 (-1))))) (2000 + 3) (2000 + 6) (2000 + 300) (tEn A) := fList_V hTea (fU_n (by omega)) (fU_n (by omega))
    have hM_1000___300___jen : (fU M (1000 + 300 + jen) (.inr (1, eV (upd (tE T jen) 7 (-1))))) (1000 + 300 + jen) = some (.inr (1, eV (upd (tE T jen) 7 (-1)))) := fU_s
    refine lv_iload_n hx hb dX5_takeUp_39 rfl (lv_at hl 0 rfl) ?_
    exact f_zret X hw rfl (by have hTn := isTown_setE (f := upd (tE T jen) 7 (-1)) hT h1 (hA jen h1); have ho : fOut 1000 M (fU M (1000 + 300 + jen) (.inr (1, eV (upd (tE T jen) 7 (-1))))) := fOut_U fOut_rf (by omega); exact ⟨(isC_T hC hTn ho).1, (isC_T hC hTn ho).2, rfl, by simp [bI, c_1]⟩) (Nat.le_refl _) (Nat.le_refl _) dX5_takeUp_40
set_option maxHeartbeats 4000000 in
set_option maxRecDepth 100000 in
theorem c_X5_engine (l : Launch) (g : fG) (ad : Nat → Nat) (M : fM) {T A : fTn} {kf nf sf : Nat → Int32} (hC : isC g ad M T A kf nf sf) {what : Int32} {jen : Nat} (h1 : jen < tEn T) (h2 : inR what 0 9 = true) : fCi l g yX5_engine cX5_engine 3 ((some .int)) 7 180 0 0 ad M [.ref (ad 0), .int (nI jen), .int what] (fDi ad M (eTell T (tE T jen) what)) := by
  refine f_body (own := RX5) (by decide +kernel) rfl (Nat.le_of_ble_eq_true rfl) ?_
  intro p e s m args below meth c ls X hw hin hl
  have hx := X.1
  have hb := X.2.1
  have hl : lv_has ls 3 [(0, .ref (ad 0)), (1, .int (nI jen)), (2, .int what)] := hl
  obtain ⟨hF, hG, hT, hTA⟩ := id hC
  have hF : M 0 = some (.inr (6, [.ref (ad 1), .ref (ad 1000), .ref (ad 2000)])) := hF
  have hG0 := hG.1
  obtain ⟨hT0, hTh, hTp, hTe, hHs, hPs, hEs, hn1, hn2, hn3, hA⟩ := id hT
  obtain ⟨hT0a, hTha, hTpa, hTea, hHsa, hPsa, hEsa, hn1a, hn2a, hn3a, hAa⟩ := id hTA
  refine lv_aload_n hx hb dX5_engine_0 rfl (lv_at hl 0 rfl) ?_
  refine lv_iload_n hx hb dX5_engine_1 rfl (lv_at hl 1 rfl) ?_
  refine fk_dv (fcV X hw (c_rE l g ad M hC h1) hF rfl wq215 kVX5_requireEngine ⟨(Nat.le_of_ble_eq_true rfl), (Nat.le_of_ble_eq_true rfl)⟩ rfl hl.1 rfl (Nat.le_of_ble_eq_true rfl) dX5_engine_2 ⟨Nat.le_refl _, Nat.le_refl _⟩) hw (fun H locs hw => ?_)
  refine lv_iload_n hx hb dX5_engine_5 rfl (lv_at hl 2 rfl) ?_
  refine lv_bipush (v := 9) hx hb dX5_engine_6 (by decide) ?_
  refine fk_dv (fcS X hw (c_rQ l g ad M h2) wq188 kSX5_requireQuestion ⟨(Nat.le_of_ble_eq_true rfl), (Nat.le_of_ble_eq_true rfl)⟩ rfl hl.1 rfl (Nat.le_of_ble_eq_true rfl) dX5_engine_8 ⟨Nat.le_refl _, Nat.le_refl _⟩) hw (fun H locs hw => ?_)
  refine lv_aload_n hx hb dX5_engine_11 rfl (lv_at hl 0 rfl) ?_
  refine f_get X hw hF fc6 1 (by decide) wq99 rfl (v := .ref (ad 1000)) rfl dX5_engine_12 ?_
  refine lv_aload_n hx hb dX5_engine_15 rfl (lv_at hl 0 rfl) ?_
  refine f_get X hw hF fc6 1 (by decide) wq99 rfl (v := .ref (ad 1000)) rfl dX5_engine_16 ?_
  refine f_getN X hw hT0 fc5 3 (by decide) wn88 rfl (v := .ref (ad (1000 + 3))) rfl dX5_engine_19 ?_
  refine lv_iload_n hx hb dX5_engine_22 rfl (lv_at hl 1 rfl) ?_
  refine fk_dr (fcVe X hw (c_get l g ad M hTe (by omega)) (fList_obj hTe) rfl wq192 kVJx4a65c_get_915e3 ⟨(Nat.le_of_ble_eq_true rfl), (Nat.le_of_ble_eq_true rfl)⟩ rfl hl.1 rfl (Nat.le_of_ble_eq_true rfl) dX5_engine_23 ⟨Nat.le_refl _, Nat.le_refl _⟩) hw (fun H locs hw => ?_)
  refine f_cast X hw (hEs jen (by omega)) fc1 wq220 dX5_engine_26 ?_
  refine lv_iload_n hx hb dX5_engine_29 rfl (lv_at hl 2 rfl) ?_
  refine fk_di (fcV X hw (c_tellEngine l g ad M hT (hEs jen h1) what) hT0 rfl wq221 kVX4_tellEngine ⟨(Nat.le_of_ble_eq_true rfl), (Nat.le_of_ble_eq_true rfl)⟩ rfl hl.1 rfl (Nat.le_of_ble_eq_true rfl) dX5_engine_30 ⟨Nat.le_refl _, Nat.le_refl _⟩) hw (fun H locs hw => ?_)
  exact f_iret X hw ⟨rfl, rfl, rfl⟩ (Nat.le_refl _) (Nat.le_refl _) dX5_engine_33
set_option maxHeartbeats 4000000 in
set_option maxRecDepth 100000 in
theorem c_X5_count (l : Launch) (g : fG) (ad : Nat → Nat) (M : fM) {T A : fTn} {kf nf sf : Nat → Int32} (hC : isC g ad M T A kf nf sf) {what : Int32} (h1 : inR what 0 9 = true) : fCi l g yX5_count cX5_count 2 ((some .int)) 7 180 0 0 ad M [.ref (ad 0), .int what] (fDi ad M (tTell T what)) := by
  refine f_body (own := RX5) (by decide +kernel) rfl (Nat.le_of_ble_eq_true rfl) ?_
  intro p e s m args below meth c ls X hw hin hl
  have hx := X.1
  have hb := X.2.1
  have hl : lv_has ls 2 [(0, .ref (ad 0)), (1, .int what)] := hl
  obtain ⟨hF, hG, hT, hTA⟩ := id hC
  have hF : M 0 = some (.inr (6, [.ref (ad 1), .ref (ad 1000), .ref (ad 2000)])) := hF
  have hG0 := hG.1
  obtain ⟨hT0, hTh, hTp, hTe, hHs, hPs, hEs, hn1, hn2, hn3, hA⟩ := id hT
  obtain ⟨hT0a, hTha, hTpa, hTea, hHsa, hPsa, hEsa, hn1a, hn2a, hn3a, hAa⟩ := id hTA
  refine lv_iload_n hx hb dX5_count_0 rfl (lv_at hl 1 rfl) ?_
  refine lv_bipush (v := 9) hx hb dX5_count_1 (by decide) ?_
  refine fk_dv (fcS X hw (c_rQ l g ad M h1) wq188 kSX5_requireQuestion ⟨(Nat.le_of_ble_eq_true rfl), (Nat.le_of_ble_eq_true rfl)⟩ rfl hl.1 rfl (Nat.le_of_ble_eq_true rfl) dX5_count_3 ⟨Nat.le_refl _, Nat.le_refl _⟩) hw (fun H locs hw => ?_)
  refine lv_aload_n hx hb dX5_count_6 rfl (lv_at hl 0 rfl) ?_
  refine f_get X hw hF fc6 1 (by decide) wq99 rfl (v := .ref (ad 1000)) rfl dX5_count_7 ?_
  refine lv_iload_n hx hb dX5_count_10 rfl (lv_at hl 1 rfl) ?_
  refine fk_di (fcV X hw (c_tell l g ad M hT what) hT0 rfl wq372 kVX4_tell ⟨(Nat.le_of_ble_eq_true rfl), (Nat.le_of_ble_eq_true rfl)⟩ rfl hl.1 rfl (Nat.le_of_ble_eq_true rfl) dX5_count_11 ⟨Nat.le_refl _, Nat.le_refl _⟩) hw (fun H locs hw => ?_)
  exact f_iret X hw ⟨rfl, rfl, rfl⟩ (Nat.le_refl _) (Nat.le_refl _) dX5_count_14
set_option maxHeartbeats 4000000 in
set_option maxRecDepth 100000 in
theorem c_X5_pass (l : Launch) (g : fG) (ad : Nat → Nat) (M : fM) {T A : fTn} {kf nf sf : Nat → Int32} (hC : isC g ad M T A kf nf sf) {mi : Int32} (h1 : inR mi 1 100 = true) {N : Nat} (hN : mi = nI N) (hN2 : N < 2 ^ 31) : fCi l g yX5_pass cX5_pass 2 ((some .int)) 7 180 0 0 ad M [.ref (ad 0), .int mi] (fCo g ad M (goT T N).1 A kf nf sf (goT T N).2) := by
  refine f_body (own := RX5) (by decide +kernel) rfl (Nat.le_of_ble_eq_true rfl) ?_
  intro p e s m args below meth c ls X hw hin hl
  have hx := X.1
  have hb := X.2.1
  have hl : lv_has ls 2 [(0, .ref (ad 0)), (1, .int mi)] := hl
  obtain ⟨hF, hG, hT, hTA⟩ := id hC
  have hF : M 0 = some (.inr (6, [.ref (ad 1), .ref (ad 1000), .ref (ad 2000)])) := hF
  have hG0 := hG.1
  obtain ⟨hT0, hTh, hTp, hTe, hHs, hPs, hEs, hn1, hn2, hn3, hA⟩ := id hT
  obtain ⟨hT0a, hTha, hTpa, hTea, hHsa, hPsa, hEsa, hn1a, hn2a, hn3a, hAa⟩ := id hTA
  refine lv_iload_n hx hb dX5_pass_0 rfl (lv_at hl 1 rfl) ?_
  refine lv_iconst (v := 1) hx hb dX5_pass_1 (by decide) ?_
  refine lv_bipush (v := 100) hx hb dX5_pass_2 (by decide) ?_
  refine fk_dv (fcS X hw (c_rR l g ad M h1) wq254 kSX5_requireRange ⟨(Nat.le_of_ble_eq_true rfl), (Nat.le_of_ble_eq_true rfl)⟩ rfl hl.1 rfl (Nat.le_of_ble_eq_true rfl) dX5_pass_4 ⟨Nat.le_refl _, Nat.le_refl _⟩) hw (fun H locs hw => ?_)
  refine lv_aload_n hx hb dX5_pass_7 rfl (lv_at hl 0 rfl) ?_
  refine f_get X hw hF fc6 1 (by decide) wq99 rfl (v := .ref (ad 1000)) rfl dX5_pass_8 ?_
  refine lv_iload_n hx hb dX5_pass_11 rfl (lv_at hl 1 rfl) ?_
  refine fk_ti (fcV X hw (c_goOn l g ad M hT hN hN2) hT0 rfl wq273 kVX4_goOn ⟨(Nat.le_of_ble_eq_true rfl), (Nat.le_of_ble_eq_true rfl)⟩ rfl hl.1 rfl (Nat.le_of_ble_eq_true rfl) dX5_pass_12 ⟨Nat.le_refl _, Nat.le_refl _⟩) hw (fun M1 H locs hT1 ho1 hw => ?_)
  exact f_iret X hw ⟨(isC_T hC hT1 ho1).1, (isC_T hC hT1 ho1).2, rfl, rfl⟩ (Nat.le_refl _) (Nat.le_refl _) dX5_pass_15
set_option maxHeartbeats 4000000 in
set_option maxRecDepth 100000 in
theorem c_X5_relay (l : Launch) (g : fG) (ad : Nat → Nat) (M : fM) {T A : fTn} {kf nf sf : Nat → Int32} (hC : isC g ad M T A kf nf sf) {jen : Nat} (h1 : jen < tEn T) {jot : Nat} (h2 : jot < tEn T) (h3 : (eStands (tE T jen) && (eStands (tE T jot) && decide (¬ 6 < aDist (tE T jen 0) (tE T jot 0)))) = true) (h4 : (!(leadsN T (nI jen) 7 (nI jot))) = true) : fCi l g yX5_relay cX5_relay 6 ((some .int)) 7 180 0 0 ad M [.ref (ad 0), .int (nI jen), .int (nI jot)] (fCo g ad M (sE T jen (upd (tE T jen) 7 (nI jot))) A kf nf sf (aDist (tE T jen 0) (tE T jot 0))) := by
  refine f_body (own := RX5) (by decide +kernel) rfl (Nat.le_of_ble_eq_true rfl) ?_
  intro p e s m args below meth c ls X hw hin hl
  have hx := X.1
  have hb := X.2.1
  have hl : lv_has ls 6 [(0, .ref (ad 0)), (1, .int (nI jen)), (2, .int (nI jot))] := hl
  obtain ⟨hF, hG, hT, hTA⟩ := id hC
  have hF : M 0 = some (.inr (6, [.ref (ad 1), .ref (ad 1000), .ref (ad 2000)])) := hF
  have hG0 := hG.1
  obtain ⟨hT0, hTh, hTp, hTe, hHs, hPs, hEs, hn1, hn2, hn3, hA⟩ := id hT
  obtain ⟨hT0a, hTha, hTpa, hTea, hHsa, hPsa, hEsa, hn1a, hn2a, hn3a, hAa⟩ := id hTA
  refine lv_aload_n hx hb dX5_relay_0 rfl (lv_at hl 0 rfl) ?_
  refine lv_iload_n hx hb dX5_relay_1 rfl (lv_at hl 1 rfl) ?_
  refine fk_dv (fcV X hw (c_rE l g ad M hC h1) hF rfl wq215 kVX5_requireEngine ⟨(Nat.le_of_ble_eq_true rfl), (Nat.le_of_ble_eq_true rfl)⟩ rfl hl.1 rfl (Nat.le_of_ble_eq_true rfl) dX5_relay_2 ⟨Nat.le_refl _, Nat.le_refl _⟩) hw (fun H locs hw => ?_)
  refine lv_aload_n hx hb dX5_relay_5 rfl (lv_at hl 0 rfl) ?_
  refine lv_iload_n hx hb dX5_relay_6 rfl (lv_at hl 2 rfl) ?_
  refine fk_dv (fcV X hw (c_rE l g ad M hC h2) hF rfl wq215 kVX5_requireEngine ⟨(Nat.le_of_ble_eq_true rfl), (Nat.le_of_ble_eq_true rfl)⟩ rfl hl.1 rfl (Nat.le_of_ble_eq_true rfl) dX5_relay_7 ⟨Nat.le_refl _, Nat.le_refl _⟩) hw (fun H locs hw => ?_)
  refine lv_aload_n hx hb dX5_relay_10 rfl (lv_at hl 0 rfl) ?_
  refine f_get X hw hF fc6 1 (by decide) wq99 rfl (v := .ref (ad 1000)) rfl dX5_relay_11 ?_
  refine f_getN X hw hT0 fc5 3 (by decide) wn88 rfl (v := .ref (ad (1000 + 3))) rfl dX5_relay_14 ?_
  refine lv_iload_n hx hb dX5_relay_17 rfl (lv_at hl 1 rfl) ?_
  refine fk_dr (fcVe X hw (c_get l g ad M hTe (by omega)) (fList_obj hTe) rfl wq192 kVJx4a65c_get_915e3 ⟨(Nat.le_of_ble_eq_true rfl), (Nat.le_of_ble_eq_true rfl)⟩ rfl hl.1 rfl (Nat.le_of_ble_eq_true rfl) dX5_relay_18 ⟨Nat.le_refl _, Nat.le_refl _⟩) hw (fun H locs hw => ?_)
  refine f_cast X hw (hEs jen (by omega)) fc1 wq220 dX5_relay_21 ?_
  refine lv_astore_n (lv' := [(3, .ref (ad (1000 + 300 + jen))), (0, .ref (ad 0)), (1, .int (nI jen)), (2, .int (nI jot))]) hx hb dX5_relay_24 rfl hl (by decide) rfl (fun ls hl => ?_)
  refine lv_aload_n hx hb dX5_relay_25 rfl (lv_at hl 1 rfl) ?_
  refine f_get X hw hF fc6 1 (by decide) wq99 rfl (v := .ref (ad 1000)) rfl dX5_relay_26 ?_
  refine f_getN X hw hT0 fc5 3 (by decide) wn88 rfl (v := .ref (ad (1000 + 3))) rfl dX5_relay_29 ?_
  refine lv_iload_n hx hb dX5_relay_32 rfl (lv_at hl 3 rfl) ?_
  refine fk_dr (fcVe X hw (c_get l g ad M hTe (by omega)) (fList_obj hTe) rfl wq192 kVJx4a65c_get_915e3 ⟨(Nat.le_of_ble_eq_true rfl), (Nat.le_of_ble_eq_true rfl)⟩ rfl hl.1 rfl (Nat.le_of_ble_eq_true rfl) dX5_relay_33 ⟨Nat.le_refl _, Nat.le_refl _⟩) hw (fun H locs hw => ?_)
  refine f_cast X hw (hEs jot (by omega)) fc1 wq220 dX5_relay_36 ?_
  refine lv_astore (lv' := [(4, .ref (ad (1000 + 300 + jot))), (3, .ref (ad (1000 + 300 + jen))), (0, .ref (ad 0)), (1, .int (nI jen)), (2, .int (nI jot))]) hx hb dX5_relay_39 hl (by decide) rfl (fun ls hl => ?_)
  refine lv_aload_n hx hb dX5_relay_41 rfl (lv_at hl 1 rfl) ?_
  refine f_getN X hw (hEs jen (by omega)) fc1 0 (by decide) wn515 rfl (v := .int ((tE T jen) 0)) rfl dX5_relay_42 ?_
  refine lv_aload hx hb dX5_relay_45 (lv_at hl 0 rfl) ?_
  refine f_getN X hw (hEs jot (by omega)) fc1 0 (by decide) wn515 rfl (v := .int ((tE T jot) 0)) rfl dX5_relay_47 ?_
  refine fk_di (fcS X hw (c_distance l g ad M (tE T jen 0) (tE T jot 0)) wq868 kSX5_distance ⟨(Nat.le_of_ble_eq_true rfl), (Nat.le_of_ble_eq_true rfl)⟩ rfl hl.1 rfl (Nat.le_of_ble_eq_true rfl) dX5_relay_50 ⟨Nat.le_refl _, Nat.le_refl _⟩) hw (fun H locs hw => ?_)
  refine lv_istore (lv' := [(5, .int (aDist (tE T jen 0) (tE T jot 0))), (4, .ref (ad (1000 + 300 + jot))), (3, .ref (ad (1000 + 300 + jen))), (0, .ref (ad 0)), (1, .int (nI jen)), (2, .int (nI jot))]) hx hb dX5_relay_53 hl (by decide) rfl (fun ls hl => ?_)
  refine lv_aload_n hx hb dX5_relay_55 rfl (lv_at hl 2 rfl) ?_
  refine fk_di (fcV X hw (c_X0_stands l g ad M (hEs jen h1)) (hEs jen (by omega)) rfl wq832 kVX0_stands ⟨(Nat.le_of_ble_eq_true rfl), (Nat.le_of_ble_eq_true rfl)⟩ rfl hl.1 rfl (Nat.le_of_ble_eq_true rfl) dX5_relay_56 ⟨Nat.le_refl _, Nat.le_refl _⟩) hw (fun H locs hw => ?_)
  refine lv_if_eq (tgt := 81) hx hb dX5_relay_59 (by decide) (fun c_1 => ?_) (fun c_1 => ?_)
  · have c_1 := bI_f.mp c_1
    refine lv_iconst (v := 0) hx hb dX5_relay_81 (by decide) ?_
    exact absurd h3 (by simp [c_1])
  · have c_1 := bI_nf.mp c_1
    refine lv_aload hx hb dX5_relay_62 (lv_at hl 1 rfl) ?_
    refine fk_di (fcV X hw (c_X0_stands l g ad M (hEs jot h2)) (hEs jot (by omega)) rfl wq832 kVX0_stands ⟨(Nat.le_of_ble_eq_true rfl), (Nat.le_of_ble_eq_true rfl)⟩ rfl hl.1 rfl (Nat.le_of_ble_eq_true rfl) dX5_relay_64 ⟨Nat.le_refl _, Nat.le_refl _⟩) hw (fun H locs hw => ?_)
    refine lv_if_eq (tgt := 81) hx hb dX5_relay_67 (by decide) (fun c_2 => ?_) (fun c_2 => ?_)
    · have c_2 := bI_f.mp c_2
      refine lv_iconst (v := 0) hx hb dX5_relay_81 (by decide) ?_
      exact absurd h3 (by simp [c_1, c_2])
    · have c_2 := bI_nf.mp c_2
      refine lv_iload hx hb dX5_relay_70 (lv_at hl 0 rfl) ?_
      refine lv_bipush (v := 6) hx hb dX5_relay_72 (by decide) ?_
      refine lv_icmp_gt (tgt := 81) hx hb dX5_relay_74 (by decide) (fun c_3 => ?_) (fun c_3 => ?_)
      · refine lv_iconst (v := 0) hx hb dX5_relay_81 (by decide) ?_
        exact absurd h3 (by simp [c_1, c_2, c_3])
      · refine lv_iconst (v := 1) hx hb dX5_relay_77 (by decide) ?_
        refine lv_goto (tgt := 82) hx hb dX5_relay_78 (by decide) ?_
        refine fk_dv (fcS X hw (c_rS l g ad M) wq683 kSX5_requireState ⟨(Nat.le_of_ble_eq_true rfl), (Nat.le_of_ble_eq_true rfl)⟩ rfl hl.1 rfl (Nat.le_of_ble_eq_true rfl) dX5_relay_82 ⟨Nat.le_refl _, Nat.le_refl _⟩) hw (fun H locs hw => ?_)
        refine lv_aload_n hx hb dX5_relay_85 rfl (lv_at hl 3 rfl) ?_
        refine f_get X hw hF fc6 1 (by decide) wq99 rfl (v := .ref (ad 1000)) rfl dX5_relay_86 ?_
        refine lv_iload_n hx hb dX5_relay_89 rfl (lv_at hl 5 rfl) ?_
        refine lv_iload_n hx hb dX5_relay_90 rfl (lv_at hl 4 rfl) ?_
        refine fk_di (fcV X hw (c_hosesLead l g ad M hT (nI jot) (nI jen)) hT0 rfl wq869 kVX4_hosesLead ⟨(Nat.le_of_ble_eq_true rfl), (Nat.le_of_ble_eq_true rfl)⟩ rfl hl.1 rfl (Nat.le_of_ble_eq_true rfl) dX5_relay_91 ⟨Nat.le_refl _, Nat.le_refl _⟩) hw (fun H locs hw => ?_)
        refine lv_if_ne (tgt := 101) hx hb dX5_relay_94 (by decide) (fun c_4 => ?_) (fun c_4 => ?_)
        · have c_4 := bI_nf.mp c_4
          refine lv_iconst (v := 0) hx hb dX5_relay_101 (by decide) ?_
          exact absurd h4 (by simp [c_1, c_2, c_3, c_4])
        · have c_4 := bI_f.mp c_4
          refine lv_iconst (v := 1) hx hb dX5_relay_97 (by decide) ?_
          refine lv_goto (tgt := 102) hx hb dX5_relay_98 (by decide) ?_
          refine fk_dv (fcS X hw (c_rS l g ad M) wq683 kSX5_requireState ⟨(Nat.le_of_ble_eq_true rfl), (Nat.le_of_ble_eq_true rfl)⟩ rfl hl.1 rfl (Nat.le_of_ble_eq_true rfl) dX5_relay_102 ⟨Nat.le_refl _, Nat.le_refl _⟩) hw (fun H locs hw => ?_)
          refine lv_aload_n hx hb dX5_relay_105 rfl (lv_at hl 2 rfl) ?_
          refine lv_iload_n hx hb dX5_relay_106 rfl (lv_at hl 5 rfl) ?_
          refine f_putN X hw (hEs jen (by omega)) fc1 7 (by decide) wn532 rfl rfl (v := .int (nI jot)) rfl rfl (Nat.le_of_ble_eq_true rfl) dX5_relay_107 (fun H locs hw => ?_)
          have hw : fw g ad (fU M (1000 + 300 + jen) (.inr (1, eV (upd (tE T jen) 7 (nI jot))))) s H locs := hw
          have hM_1000___300___jen : (fU M (1000 + 300 + jen) (.inr (1, eV (upd (tE T jen) 7 (nI jot))))) (1000 + 300 + jen) = some (.inr (1, eV (upd (tE T jen) 7 (nI jot)))) := fU_s
          refine lv_iload hx hb dX5_relay_110 (lv_at hl 0 rfl) ?_
          exact f_iret X hw (by have hTn := isTown_setE (f := upd (tE T jen) 7 (nI jot)) hT h1 (hA jen h1); have ho : fOut 1000 M (fU M (1000 + 300 + jen) (.inr (1, eV (upd (tE T jen) 7 (nI jot))))) := fOut_U fOut_rf (by omega); exact ⟨(isC_T hC hTn ho).1, (isC_T hC hTn ho).2, rfl, rfl⟩) (Nat.le_refl _) (Nat.le_refl _) dX5_relay_112
set_option maxHeartbeats 4000000 in
set_option maxRecDepth 100000 in
theorem c_X5_aim (l : Launch) (g : fG) (ad : Nat → Nat) (M : fM) {T A : fTn} {kf nf sf : Nat → Int32} (hC : isC g ad M T A kf nf sf) {jen : Nat} (h1 : jen < tEn T) {jho : Nat} (h2 : jho < tHn T) (h3 : (eStands (tE T jen) && decide (¬ 6 < aDist (tE T jen 0) (tH T jho 0))) = true) : fCi l g yX5_aim cX5_aim 5 ((some .int)) 7 180 0 0 ad M [.ref (ad 0), .int (nI jen), .int (nI jho)] (fCo g ad M (sE T jen (upd (tE T jen) 7 (100 + nI jho))) A kf nf sf (aDist (tE T jen 0) (tH T jho 0))) := by
  refine f_body (own := RX5) (by decide +kernel) rfl (Nat.le_of_ble_eq_true rfl) ?_
  intro p e s m args below meth c ls X hw hin hl
  have hx := X.1
  have hb := X.2.1
  have hl : lv_has ls 5 [(0, .ref (ad 0)), (1, .int (nI jen)), (2, .int (nI jho))] := hl
  obtain ⟨hF, hG, hT, hTA⟩ := id hC
  have hF : M 0 = some (.inr (6, [.ref (ad 1), .ref (ad 1000), .ref (ad 2000)])) := hF
  have hG0 := hG.1
  obtain ⟨hT0, hTh, hTp, hTe, hHs, hPs, hEs, hn1, hn2, hn3, hA⟩ := id hT
  obtain ⟨hT0a, hTha, hTpa, hTea, hHsa, hPsa, hEsa, hn1a, hn2a, hn3a, hAa⟩ := id hTA
  refine lv_aload_n hx hb dX5_aim_0 rfl (lv_at hl 0 rfl) ?_
  refine lv_iload_n hx hb dX5_aim_1 rfl (lv_at hl 1 rfl) ?_
  refine fk_dv (fcV X hw (c_rE l g ad M hC h1) hF rfl wq215 kVX5_requireEngine ⟨(Nat.le_of_ble_eq_true rfl), (Nat.le_of_ble_eq_true rfl)⟩ rfl hl.1 rfl (Nat.le_of_ble_eq_true rfl) dX5_aim_2 ⟨Nat.le_refl _, Nat.le_refl _⟩) hw (fun H locs hw => ?_)
  refine lv_aload_n hx hb dX5_aim_5 rfl (lv_at hl 0 rfl) ?_
  refine lv_iload_n hx hb dX5_aim_6 rfl (lv_at hl 2 rfl) ?_
  refine fk_dv (fcV X hw (c_rH l g ad M hC h2) hF rfl wq112 kVX5_requireHouse ⟨(Nat.le_of_ble_eq_true rfl), (Nat.le_of_ble_eq_true rfl)⟩ rfl hl.1 rfl (Nat.le_of_ble_eq_true rfl) dX5_aim_7 ⟨Nat.le_refl _, Nat.le_refl _⟩) hw (fun H locs hw => ?_)
  refine lv_aload_n hx hb dX5_aim_10 rfl (lv_at hl 0 rfl) ?_
  refine f_get X hw hF fc6 1 (by decide) wq99 rfl (v := .ref (ad 1000)) rfl dX5_aim_11 ?_
  refine f_getN X hw hT0 fc5 3 (by decide) wn88 rfl (v := .ref (ad (1000 + 3))) rfl dX5_aim_14 ?_
  refine lv_iload_n hx hb dX5_aim_17 rfl (lv_at hl 1 rfl) ?_
  refine fk_dr (fcVe X hw (c_get l g ad M hTe (by omega)) (fList_obj hTe) rfl wq192 kVJx4a65c_get_915e3 ⟨(Nat.le_of_ble_eq_true rfl), (Nat.le_of_ble_eq_true rfl)⟩ rfl hl.1 rfl (Nat.le_of_ble_eq_true rfl) dX5_aim_18 ⟨Nat.le_refl _, Nat.le_refl _⟩) hw (fun H locs hw => ?_)
  refine f_cast X hw (hEs jen (by omega)) fc1 wq220 dX5_aim_21 ?_
  refine lv_astore_n (lv' := [(3, .ref (ad (1000 + 300 + jen))), (0, .ref (ad 0)), (1, .int (nI jen)), (2, .int (nI jho))]) hx hb dX5_aim_24 rfl hl (by decide) rfl (fun ls hl => ?_)
  refine lv_aload_n hx hb dX5_aim_25 rfl (lv_at hl 0 rfl) ?_
  refine f_getN X hw (hEs jen (by omega)) fc1 0 (by decide) wn515 rfl (v := .int ((tE T jen) 0)) rfl dX5_aim_26 ?_
  refine lv_aload_n hx hb dX5_aim_29 rfl (lv_at hl 1 rfl) ?_
  refine f_get X hw hF fc6 1 (by decide) wq99 rfl (v := .ref (ad 1000)) rfl dX5_aim_30 ?_
  refine f_getN X hw hT0 fc5 1 (by decide) wn84 rfl (v := .ref (ad (1000 + 1))) rfl dX5_aim_33 ?_
  refine lv_iload_n hx hb dX5_aim_36 rfl (lv_at hl 3 rfl) ?_
  refine fk_dr (fcVe X hw (c_get l g ad M hTh (by omega)) (fList_obj hTh) rfl wq192 kVJx4a65c_get_915e3 ⟨(Nat.le_of_ble_eq_true rfl), (Nat.le_of_ble_eq_true rfl)⟩ rfl hl.1 rfl (Nat.le_of_ble_eq_true rfl) dX5_aim_37 ⟨Nat.le_refl _, Nat.le_refl _⟩) hw (fun H locs hw => ?_)
  refine f_cast X hw (hHs jho (by omega)) fc3 wq206 dX5_aim_40 ?_
  refine f_getN X hw (hHs jho (by omega)) fc3 0 (by decide) wn403 rfl (v := .int ((tH T jho) 0)) rfl dX5_aim_43 ?_
  refine fk_di (fcS X hw (c_distance l g ad M (tE T jen 0) (tH T jho 0)) wq868 kSX5_distance ⟨(Nat.le_of_ble_eq_true rfl), (Nat.le_of_ble_eq_true rfl)⟩ rfl hl.1 rfl (Nat.le_of_ble_eq_true rfl) dX5_aim_46 ⟨Nat.le_refl _, Nat.le_refl _⟩) hw (fun H locs hw => ?_)
  refine lv_istore (lv' := [(4, .int (aDist (tE T jen 0) (tH T jho 0))), (3, .ref (ad (1000 + 300 + jen))), (0, .ref (ad 0)), (1, .int (nI jen)), (2, .int (nI jho))]) hx hb dX5_aim_49 hl (by decide) rfl (fun ls hl => ?_)
  refine lv_aload_n hx hb dX5_aim_51 rfl (lv_at hl 1 rfl) ?_
  refine fk_di (fcV X hw (c_X0_stands l g ad M (hEs jen h1)) (hEs jen (by omega)) rfl wq832 kVX0_stands ⟨(Nat.le_of_ble_eq_true rfl), (Nat.le_of_ble_eq_true rfl)⟩ rfl hl.1 rfl (Nat.le_of_ble_eq_true rfl) dX5_aim_52 ⟨Nat.le_refl _, Nat.le_refl _⟩) hw (fun H locs hw => ?_)
  refine lv_if_eq (tgt := 69) hx hb dX5_aim_55 (by decide) (fun c_1 => ?_) (fun c_1 => ?_)
  · have c_1 := bI_f.mp c_1
    refine lv_iconst (v := 0) hx hb dX5_aim_69 (by decide) ?_
    exact absurd h3 (by simp [c_1])
  · have c_1 := bI_nf.mp c_1
    refine lv_iload hx hb dX5_aim_58 (lv_at hl 0 rfl) ?_
    refine lv_bipush (v := 6) hx hb dX5_aim_60 (by decide) ?_
    refine lv_icmp_gt (tgt := 69) hx hb dX5_aim_62 (by decide) (fun c_2 => ?_) (fun c_2 => ?_)
    · refine lv_iconst (v := 0) hx hb dX5_aim_69 (by decide) ?_
      exact absurd h3 (by simp [c_1, c_2])
    · refine lv_iconst (v := 1) hx hb dX5_aim_65 (by decide) ?_
      refine lv_goto (tgt := 70) hx hb dX5_aim_66 (by decide) ?_
      refine fk_dv (fcS X hw (c_rS l g ad M) wq683 kSX5_requireState ⟨(Nat.le_of_ble_eq_true rfl), (Nat.le_of_ble_eq_true rfl)⟩ rfl hl.1 rfl (Nat.le_of_ble_eq_true rfl) dX5_aim_70 ⟨Nat.le_refl _, Nat.le_refl _⟩) hw (fun H locs hw => ?_)
      refine lv_aload_n hx hb dX5_aim_73 rfl (lv_at hl 1 rfl) ?_
      refine lv_bipush (v := 100) hx hb dX5_aim_74 (by decide) ?_
      refine lv_iload_n hx hb dX5_aim_76 rfl (lv_at hl 4 rfl) ?_
      refine lv_iadd hx hb dX5_aim_77 ?_
      refine f_putN X hw (hEs jen (by omega)) fc1 7 (by decide) wn532 rfl rfl (v := .int (100 + (nI jho))) rfl rfl (Nat.le_of_ble_eq_true rfl) dX5_aim_78 (fun H locs hw => ?_)
      have hw : fw g ad (fU M (1000 + 300 + jen) (.inr (1, eV (upd (tE T jen) 7 (100 + (nI jho)))))) s H locs := hw
      have hF : (fU M (1000 + 300 + jen) (.inr (1, eV (upd (tE T jen) 7 (100 + (nI jho)))))) 0 = some (.inr (6, [.ref (ad 1), .ref (ad 1000), .ref (ad 2000)])) := (fU_n (by omega)).trans hF
      have hG0 : (fU M (1000 + 300 + jen) (.inr (1, eV (upd (tE T jen) 7 (100 + (nI jho)))))) 1 = some (.inr (2, [.ref (ad 2), .ref (ad 3), .ref (ad 4)])) := (fU_n (by omega)).trans hG0
      have hT0 : (fU M (1000 + 300 + jen) (.inr (1, eV (upd (tE T jen) 7 (100 + (nI jho)))))) 1000 = some (.inr (5, [.int (tM T), .ref (ad (1000 + 1)), .ref (ad (1000 + 2)), .ref (ad (1000 + 3))])) := (fU_n (by omega)).trans hT0
      have hTh : fList g ad (fU M (1000 + 300 + jen) (.inr (1, eV (upd (tE T jen) 7 (100 + (nI jho)))))) (1000 + 1) (1000 + 4) (1000 + 100) (tHn T) := fList_V hTh (fU_n (by omega)) (fU_n (by omega))
      have hTp : fList g ad (fU M (1000 + 300 + jen) (.inr (1, eV (upd (tE T jen) 7 (100 + (nI jho)))))) (1000 + 2) (1000 + 5) (1000 + 200) (tPn T) := fList_V hTp (fU_n (by omega)) (fU_n (by omega))
      have hTe : fList g ad (fU M (1000 + 300 + jen) (.inr (1, eV (upd (tE T jen) 7 (100 + (nI jho)))))) (1000 + 3) (1000 + 6) (1000 + 300) (tEn T) := fList_V hTe (fU_n (by omega)) (fU_n (by omega))
      have hT0a : (fU M (1000 + 300 + jen) (.inr (1, eV (upd (tE T jen) 7 (100 + (nI jho)))))) 2000 = some (.inr (5, [.int (tM A), .ref (ad (2000 + 1)), .ref (ad (2000 + 2)), .ref (ad (2000 + 3))])) := (fU_n (by omega)).trans hT0a
      have hTha : fList g ad (fU M (1000 + 300 + jen) (.inr (1, eV (upd (tE T jen) 7 (100 + (nI jho)))))) (2000 + 1) (2000 + 4) (2000 + 100) (tHn A) := fList_V hTha (fU_n (by omega)) (fU_n (by omega))
      have hTpa : fList g ad (fU M (1000 + 300 + jen) (.inr (1, eV (upd (tE T jen) 7 (100 + (nI jho)))))) (2000 + 2) (2000 + 5) (2000 + 200) (tPn A) := fList_V hTpa (fU_n (by omega)) (fU_n (by omega))
      have hTea : fList g ad (fU M (1000 + 300 + jen) (.inr (1, eV (upd (tE T jen) 7 (100 + (nI jho)))))) (2000 + 3) (2000 + 6) (2000 + 300) (tEn A) := fList_V hTea (fU_n (by omega)) (fU_n (by omega))
      have hM_1000___300___jen : (fU M (1000 + 300 + jen) (.inr (1, eV (upd (tE T jen) 7 (100 + (nI jho)))))) (1000 + 300 + jen) = some (.inr (1, eV (upd (tE T jen) 7 (100 + (nI jho))))) := fU_s
      refine lv_iload hx hb dX5_aim_81 (lv_at hl 0 rfl) ?_
      exact f_iret X hw (by have hTn := isTown_setE (f := upd (tE T jen) 7 (100 + nI jho)) hT h1 (hA jen h1); have ho : fOut 1000 M (fU M (1000 + 300 + jen) (.inr (1, eV (upd (tE T jen) 7 (100 + nI jho))))) := fOut_U fOut_rf (by omega); exact ⟨(isC_T hC hTn ho).1, (isC_T hC hTn ho).2, rfl, rfl⟩) (Nat.le_refl _) (Nat.le_refl _) dX5_aim_83
set_option maxHeartbeats 4000000 in
set_option maxRecDepth 100000 in
theorem c_X5_pond (l : Launch) (g : fG) (ad : Nat → Nat) (M : fM) {T A : fTn} {kf nf sf : Nat → Int32} (hC : isC g ad M T A kf nf sf) {j : Nat} (hj : j < tPn T) : fCi l g yX5_pond cX5_pond 2 ((some .int)) 7 180 0 0 ad M [.ref (ad 0), .int (nI j)] (fDi ad M (tP T j 1)) := by
  refine f_body (own := RX5) (by decide +kernel) rfl (Nat.le_of_ble_eq_true rfl) ?_
  intro p e s m args below meth c ls X hw hin hl
  have hx := X.1
  have hb := X.2.1
  have hl : lv_has ls 2 [(0, .ref (ad 0)), (1, .int (nI j))] := hl
  obtain ⟨hF, hG, hT, hTA⟩ := id hC
  have hF : M 0 = some (.inr (6, [.ref (ad 1), .ref (ad 1000), .ref (ad 2000)])) := hF
  have hG0 := hG.1
  obtain ⟨hT0, hTh, hTp, hTe, hHs, hPs, hEs, hn1, hn2, hn3, hA⟩ := id hT
  obtain ⟨hT0a, hTha, hTpa, hTea, hHsa, hPsa, hEsa, hn1a, hn2a, hn3a, hAa⟩ := id hTA
  refine lv_iload_n hx hb dX5_pond_0 rfl (lv_at hl 1 rfl) ?_
  refine lv_if_lt (tgt := 18) hx hb dX5_pond_1 (by decide) (fun c_1 => absurd (nI_lt' (a := j) (b := 0) c_1 (by omega) (by omega)) (by omega)) (fun c_1 => ?_)
  have c_1 := nI_nlt' (a := j) (b := 0) c_1 (by omega) (by omega)
  refine lv_iload_n hx hb dX5_pond_4 rfl (lv_at hl 1 rfl) ?_
  refine lv_aload_n hx hb dX5_pond_5 rfl (lv_at hl 0 rfl) ?_
  refine f_get X hw hF fc6 1 (by decide) wq99 rfl (v := .ref (ad 1000)) rfl dX5_pond_6 ?_
  refine f_getN X hw hT0 fc5 2 (by decide) wn86 rfl (v := .ref (ad (1000 + 2))) rfl dX5_pond_9 ?_
  refine fk_di (fcVe X hw (c_size l g ad M hTp) (fList_obj hTp) rfl wq116 kVJx4a65c_size_8abf5 ⟨(Nat.le_of_ble_eq_true rfl), (Nat.le_of_ble_eq_true rfl)⟩ rfl hl.1 rfl (Nat.le_of_ble_eq_true rfl) dX5_pond_12 ⟨Nat.le_refl _, Nat.le_refl _⟩) hw (fun H locs hw => ?_)
  refine lv_icmp_lt (tgt := 28) hx hb dX5_pond_15 (by decide) (fun c_2 => ?_) (fun c_2 => absurd (nI_nlt' (a := j) (b := tPn T) c_2 (by omega) (by omega)) (by omega))
  have c_2 := nI_lt' (a := j) (b := (tPn T)) c_2 (by omega) (by omega)
  refine lv_aload_n hx hb dX5_pond_28 rfl (lv_at hl 0 rfl) ?_
  refine f_get X hw hF fc6 1 (by decide) wq99 rfl (v := .ref (ad 1000)) rfl dX5_pond_29 ?_
  refine f_getN X hw hT0 fc5 2 (by decide) wn86 rfl (v := .ref (ad (1000 + 2))) rfl dX5_pond_32 ?_
  refine lv_iload_n hx hb dX5_pond_35 rfl (lv_at hl 1 rfl) ?_
  refine fk_dr (fcVe X hw (c_get l g ad M hTp (by omega)) (fList_obj hTp) rfl wq192 kVJx4a65c_get_915e3 ⟨(Nat.le_of_ble_eq_true rfl), (Nat.le_of_ble_eq_true rfl)⟩ rfl hl.1 rfl (Nat.le_of_ble_eq_true rfl) dX5_pond_36 ⟨Nat.le_refl _, Nat.le_refl _⟩) hw (fun H locs hw => ?_)
  refine f_cast X hw (hPs j (by omega)) fc4 wq249 dX5_pond_39 ?_
  refine f_getN X hw (hPs j (by omega)) fc4 1 (by decide) wn498 rfl (v := .int ((tP T j) 1)) rfl dX5_pond_42 ?_
  exact f_iret X hw ⟨rfl, rfl, rfl⟩ (Nat.le_refl _) (Nat.le_refl _) dX5_pond_45
