/-! FireEngines: its methods -/
def freeB (kf : Nat → Int32) (T : fTn) (c : Int32) : Bool := kSt kf c && (decide (cntE (tE T) c (tEn T) = 0) && !(anyGoal (tE T) c (tEn T)))
abbrev fCo (g : fG) (ad : Nat → Nat) (M : fM) (T A : fTn) (kf nf sf : Nat → Int32) (v : Int32) : Int32 → (Nat → Nat) → fM → Prop := fun r ad1 M1 => isC g ad1 M1 T A kf nf sf ∧ fReg 0 3000 ad M ad1 M1 ∧ ad1 0 = ad 0 ∧ r = v
theorem isFE_of {ad ad1 : Nat → Nat} {M M1 : fM} (h : isFE ad M) (e0 : M1 0 = M 0) (e1 : ad1 1 = ad 1) (e2 : ad1 1000 = ad 1000) (e3 : ad1 2000 = ad 2000) : isFE ad1 M1 := by unfold isFE at h ⊢; rw [e0, e1, e2, e3]; exact h
/-- the town alone has changed -/
theorem isC_T {g : fG} {ad : Nat → Nat} {M M1 : fM} {T T1 A : fTn} {kf nf sf : Nat → Int32} (h : isC g ad M T A kf nf sf) (h1 : isTown g ad M1 1000 T1) (ho : fOut 1000 M M1) : isC g ad M1 T1 A kf nf sf ∧ fReg 0 3000 ad M ad M1 := by
  obtain ⟨hF, hG, hT, hA⟩ := h
  have hr := fReg_out (ad := ad) ho
  exact ⟨⟨isFE_of hF (ho 0 (by omega)) rfl rfl rfl, isGround_reg hG hr (by omega), h1, isTown_reg hA hr (by omega) (by omega)⟩, fReg_w hr (by omega) (by omega)⟩
/-- the town ahead alone has changed -/
theorem isC_A {g : fG} {ad ad1 : Nat → Nat} {M M1 : fM} {T A A1 : fTn} {kf nf sf : Nat → Int32} (h : isC g ad M T A kf nf sf) (h1 : isTown g ad1 M1 2000 A1) (hr : fReg 2000 3000 ad M ad1 M1) (hk : ad1 2000 = ad 2000) : isC g ad1 M1 T A1 kf nf sf ∧ fReg 0 3000 ad M ad1 M1 := by
  obtain ⟨hF, hG, hT, hA⟩ := h
  exact ⟨⟨isFE_of hF (hr 0 (by omega) (by omega)).2 (hr 1 (by omega) (by omega)).1 (hr 1000 (by omega) (by omega)).1 hk, isGround_reg hG hr (by omega), isTown_reg hT hr (by omega) (by omega), h1⟩, fReg_w hr (by omega) (by omega)⟩
abbrev newH (c w z : Int32) : Nat → Int32 := upd (upd (upd (upd f0 0 c) 1 w) 2 z) 3 0
abbrev newP (c w : Int32) : Nat → Int32 := upd (upd f0 0 c) 1 w
abbrev newE (c w z : Int32) : Nat → Int32 := upd (upd (upd (upd (upd (upd f0 0 c) 1 w) 2 z) 3 60) 6 (-1)) 7 (-1)
set_option maxHeartbeats 4000000 in
set_option maxRecDepth 100000 in
theorem c_isFree (l : Launch) (g : fG) (ad : Nat → Nat) (M : fM) {T A : fTn} {kf nf sf : Nat → Int32} (hC : isC g ad M T A kf nf sf) (c0 : Int32) : fCi l g yX5_isFree cX5_isFree 2 ((some .boolean)) 4 87 0 0 ad M [.ref (ad 0), .int c0] (fDi ad M (bI (freeB kf T c0))) := by
  refine f_body (own := RX5) (by decide +kernel) rfl (Nat.le_of_ble_eq_true rfl) ?_
  intro p e s m args below meth c ls X hw hin hl
  have hx := X.1
  have hb := X.2.1
  have hl : lv_has ls 2 [(0, .ref (ad 0)), (1, .int c0)] := hl
  obtain ⟨hF, hG, hT, hTA⟩ := id hC
  have hF : M 0 = some (.inr (6, [.ref (ad 1), .ref (ad 1000), .ref (ad 2000)])) := hF
  have hG0 := hG.1
  obtain ⟨hT0, hTh, hTp, hTe, hHs, hPs, hEs, hn1, hn2, hn3, hA⟩ := id hT
  obtain ⟨hT0a, hTha, hTpa, hTea, hHsa, hPsa, hEsa, hn1a, hn2a, hn3a, hAa⟩ := id hTA
  refine lv_aload_n hx hb dX5_isFree_0 rfl (lv_at hl 0 rfl) ?_
  refine f_get X hw hF fc6 0 (by decide) wq98 rfl (v := .ref (ad 1)) rfl dX5_isFree_1 ?_
  refine lv_iload_n hx hb dX5_isFree_4 rfl (lv_at hl 1 rfl) ?_
  refine fk_di (fcV X hw (c_isStreet l g ad M hG c0) hG0 rfl wq667 kVX1_isStreet ⟨(Nat.le_of_ble_eq_true rfl), (Nat.le_of_ble_eq_true rfl)⟩ rfl hl.1 rfl (Nat.le_of_ble_eq_true rfl) dX5_isFree_5 ⟨Nat.le_refl _, Nat.le_refl _⟩) hw (fun H locs hw => ?_)
  refine lv_if_eq (tgt := 37) hx hb dX5_isFree_8 (by decide) (fun c_1 => ?_) (fun c_1 => ?_)
  · have c_1 := bI_f.mp c_1
    refine lv_iconst (v := 0) hx hb dX5_isFree_37 (by decide) ?_
    exact f_zret X hw rfl ⟨rfl, rfl, by simp [freeB, bI, c_1]⟩ (Nat.le_refl _) (Nat.le_refl _) dX5_isFree_38
  · have c_1 := bI_nf.mp c_1
    refine lv_aload_n hx hb dX5_isFree_11 rfl (lv_at hl 0 rfl) ?_
    refine f_get X hw hF fc6 1 (by decide) wq99 rfl (v := .ref (ad 1000)) rfl dX5_isFree_12 ?_
    refine lv_iload_n hx hb dX5_isFree_15 rfl (lv_at hl 1 rfl) ?_
    refine fk_di (fcV X hw (c_enginesOn l g ad M hT c0) hT0 rfl wq675 kVX4_enginesOn ⟨(Nat.le_of_ble_eq_true rfl), (Nat.le_of_ble_eq_true rfl)⟩ rfl hl.1 rfl (Nat.le_of_ble_eq_true rfl) dX5_isFree_16 ⟨Nat.le_refl _, Nat.le_refl _⟩) hw (fun H locs hw => ?_)
    refine lv_if_ne (tgt := 37) hx hb dX5_isFree_19 (by decide) (fun c_2 => ?_) (fun c_2 => ?_)
    · refine lv_iconst (v := 0) hx hb dX5_isFree_37 (by decide) ?_
      exact f_zret X hw rfl ⟨rfl, rfl, by simp [freeB, bI, c_1, c_2]⟩ (Nat.le_refl _) (Nat.le_refl _) dX5_isFree_38
    · refine lv_aload_n hx hb dX5_isFree_22 rfl (lv_at hl 0 rfl) ?_
      refine f_get X hw hF fc6 1 (by decide) wq99 rfl (v := .ref (ad 1000)) rfl dX5_isFree_23 ?_
      refine lv_iload_n hx hb dX5_isFree_26 rfl (lv_at hl 1 rfl) ?_
      refine fk_di (fcV X hw (c_isGoal l g ad M hT c0) hT0 rfl wq679 kVX4_isGoal ⟨(Nat.le_of_ble_eq_true rfl), (Nat.le_of_ble_eq_true rfl)⟩ rfl hl.1 rfl (Nat.le_of_ble_eq_true rfl) dX5_isFree_27 ⟨Nat.le_refl _, Nat.le_refl _⟩) hw (fun H locs hw => ?_)
      refine lv_if_ne (tgt := 37) hx hb dX5_isFree_30 (by decide) (fun c_3 => ?_) (fun c_3 => ?_)
      · have c_3 := bI_nf.mp c_3
        refine lv_iconst (v := 0) hx hb dX5_isFree_37 (by decide) ?_
        exact f_zret X hw rfl ⟨rfl, rfl, by simp [freeB, bI, c_1, c_2, c_3]⟩ (Nat.le_refl _) (Nat.le_refl _) dX5_isFree_38
      · have c_3 := bI_f.mp c_3
        refine lv_iconst (v := 1) hx hb dX5_isFree_33 (by decide) ?_
        refine lv_goto (tgt := 38) hx hb dX5_isFree_34 (by decide) ?_
        exact f_zret X hw rfl ⟨rfl, rfl, by simp [freeB, bI, c_1, c_2, c_3]⟩ (Nat.le_refl _) (Nat.le_refl _) dX5_isFree_38
set_option maxHeartbeats 4000000 in
set_option maxRecDepth 100000 in
theorem c_X5_build (l : Launch) (g : fG) (ad : Nat → Nat) (M : fM) {T A : fTn} {kf nf sf : Nat → Int32} (hC : isC g ad M T A kf nf sf) {x y wood walls : Int32} (h1 : aOn x y = true) {jc : Nat} (hjc : jc < 140) (hxy : x + 14 * y = nI jc) (h2 : inR wood 1 9 = true) (h3 : inR walls 1 60 = true) (h4 : (freeB kf T (nI jc) && decide (tHn T < 30)) = true) : fCi l g yX5_build cX5_build 7 ((some .int)) 7 180 2 50 ad M [.ref (ad 0), .int x, .int y, .int wood, .int walls] (fCo g ad M (addH T (newH (nI jc) wood walls)) A (upd kf jc 1) (upd nf jc (nI (tHn T))) sf (nI (tHn T))) := by
  refine f_body (own := RX5) (by decide +kernel) rfl (Nat.le_of_ble_eq_true rfl) ?_
  intro p e s m args below meth c ls X hw hin hl
  have hx := X.1
  have hb := X.2.1
  have hl : lv_has ls 7 [(0, .ref (ad 0)), (1, .int x), (2, .int y), (3, .int wood), (4, .int walls)] := hl
  obtain ⟨hF, hG, hT, hTA⟩ := id hC
  have hF : M 0 = some (.inr (6, [.ref (ad 1), .ref (ad 1000), .ref (ad 2000)])) := hF
  have hG0 := hG.1
  obtain ⟨hT0, hTh, hTp, hTe, hHs, hPs, hEs, hn1, hn2, hn3, hA⟩ := id hT
  obtain ⟨hT0a, hTha, hTpa, hTea, hHsa, hPsa, hEsa, hn1a, hn2a, hn3a, hAa⟩ := id hTA
  refine lv_iload_n hx hb dX5_build_0 rfl (lv_at hl 1 rfl) ?_
  refine lv_iload_n hx hb dX5_build_1 rfl (lv_at hl 2 rfl) ?_
  refine fk_dv (fcS X hw (c_rC l g ad M h1) wq653 kSX5_requireCell ⟨(Nat.le_of_ble_eq_true rfl), (Nat.le_of_ble_eq_true rfl)⟩ rfl hl.1 rfl (Nat.le_of_ble_eq_true rfl) dX5_build_2 ⟨(by dsimp only [fR]; omega), (by dsimp only [fR]; omega)⟩) hw (fun H locs hw => ?_)
  refine lv_iload_n hx hb dX5_build_5 rfl (lv_at hl 3 rfl) ?_
  refine lv_iconst (v := 1) hx hb dX5_build_6 (by decide) ?_
  refine lv_bipush (v := 9) hx hb dX5_build_7 (by decide) ?_
  refine fk_dv (fcS X hw (c_rR l g ad M h2) wq254 kSX5_requireRange ⟨(Nat.le_of_ble_eq_true rfl), (Nat.le_of_ble_eq_true rfl)⟩ rfl hl.1 rfl (Nat.le_of_ble_eq_true rfl) dX5_build_9 ⟨(by dsimp only [fR]; omega), (by dsimp only [fR]; omega)⟩) hw (fun H locs hw => ?_)
  refine lv_iload hx hb dX5_build_12 (lv_at hl 4 rfl) ?_
  refine lv_iconst (v := 1) hx hb dX5_build_14 (by decide) ?_
  refine lv_bipush (v := 60) hx hb dX5_build_15 (by decide) ?_
  refine fk_dv (fcS X hw (c_rR l g ad M h3) wq254 kSX5_requireRange ⟨(Nat.le_of_ble_eq_true rfl), (Nat.le_of_ble_eq_true rfl)⟩ rfl hl.1 rfl (Nat.le_of_ble_eq_true rfl) dX5_build_17 ⟨(by dsimp only [fR]; omega), (by dsimp only [fR]; omega)⟩) hw (fun H locs hw => ?_)
  refine lv_iload_n hx hb dX5_build_20 rfl (lv_at hl 1 rfl) ?_
  refine lv_iload_n hx hb dX5_build_21 rfl (lv_at hl 2 rfl) ?_
  refine fk_di (fcS X hw (c_cellAt l g ad M x y) wq660 kSX5_cellAt ⟨(Nat.le_of_ble_eq_true rfl), (Nat.le_of_ble_eq_true rfl)⟩ rfl hl.1 rfl (Nat.le_of_ble_eq_true rfl) dX5_build_22 ⟨(by dsimp only [fR]; omega), (by dsimp only [fR]; omega)⟩) hw (fun H locs hw => ?_)
  refine f_top (y := nI jc) hxy ?_
  refine lv_istore (lv' := [(5, .int (nI jc)), (0, .ref (ad 0)), (1, .int x), (2, .int y), (3, .int wood), (4, .int walls)]) hx hb dX5_build_25 hl (by decide) rfl (fun ls hl => ?_)
  refine lv_aload_n hx hb dX5_build_27 rfl (lv_at hl 1 rfl) ?_
  refine lv_iload hx hb dX5_build_28 (lv_at hl 0 rfl) ?_
  refine fk_di (fcV X hw (c_isFree l g ad M hC (nI jc)) hF rfl wq663 kVX5_isFree ⟨(Nat.le_of_ble_eq_true rfl), (Nat.le_of_ble_eq_true rfl)⟩ rfl hl.1 rfl (Nat.le_of_ble_eq_true rfl) dX5_build_30 ⟨(by dsimp only [fR]; omega), (by dsimp only [fR]; omega)⟩) hw (fun H locs hw => ?_)
  refine lv_if_eq (tgt := 55) hx hb dX5_build_33 (by decide) (fun c_1 => ?_) (fun c_1 => ?_)
  · have c_1 := bI_f.mp c_1
    refine lv_iconst (v := 0) hx hb dX5_build_55 (by decide) ?_
    exact absurd h4 (by simp [c_1])
  · have c_1 := bI_nf.mp c_1
    refine lv_aload_n hx hb dX5_build_36 rfl (lv_at hl 1 rfl) ?_
    refine f_get X hw hF fc6 1 (by decide) wq99 rfl (v := .ref (ad 1000)) rfl dX5_build_37 ?_
    refine f_getN X hw hT0 fc5 1 (by decide) wn84 rfl (v := .ref (ad (1000 + 1))) rfl dX5_build_40 ?_
    refine fk_di (fcVe X hw (c_size l g ad M hTh) (fList_obj hTh) rfl wq116 kVJx4a65c_size_8abf5 ⟨(Nat.le_of_ble_eq_true rfl), (Nat.le_of_ble_eq_true rfl)⟩ rfl hl.1 rfl (Nat.le_of_ble_eq_true rfl) dX5_build_43 ⟨(by dsimp only [fR]; omega), (by dsimp only [fR]; omega)⟩) hw (fun H locs hw => ?_)
    refine lv_bipush (v := 30) hx hb dX5_build_46 (by decide) ?_
    refine lv_icmp_ge (tgt := 55) hx hb dX5_build_48 (by decide) (fun c_2 => ?_) (fun c_2 => ?_)
    · have c_2 := nI_le' (a := 30) (b := (tHn T)) c_2 (by omega) (by omega)
      refine lv_iconst (v := 0) hx hb dX5_build_55 (by decide) ?_
      exact absurd h4 (by simp [c_1, c_2])
    · have c_2 := nI_nle' (a := 30) (b := (tHn T)) c_2 (by omega) (by omega)
      refine lv_iconst (v := 1) hx hb dX5_build_51 (by decide) ?_
      refine lv_goto (tgt := 56) hx hb dX5_build_52 (by decide) ?_
      refine fk_dv (fcS X hw (c_rS l g ad M) wq683 kSX5_requireState ⟨(Nat.le_of_ble_eq_true rfl), (Nat.le_of_ble_eq_true rfl)⟩ rfl hl.1 rfl (Nat.le_of_ble_eq_true rfl) dX5_build_56 ⟨(by dsimp only [fR]; omega), (by dsimp only [fR]; omega)⟩) hw (fun H locs hw => ?_)
      refine lv_aload_n hx hb dX5_build_59 rfl (lv_at hl 1 rfl) ?_
      refine f_get X hw hF fc6 1 (by decide) wq99 rfl (v := .ref (ad 1000)) rfl dX5_build_60 ?_
      refine f_getN X hw hT0 fc5 1 (by decide) wn84 rfl (v := .ref (ad (1000 + 1))) rfl dX5_build_63 ?_
      refine fk_di (fcVe X hw (c_size l g ad M hTh) (fList_obj hTh) rfl wq116 kVJx4a65c_size_8abf5 ⟨(Nat.le_of_ble_eq_true rfl), (Nat.le_of_ble_eq_true rfl)⟩ rfl hl.1 rfl (Nat.le_of_ble_eq_true rfl) dX5_build_66 ⟨(by dsimp only [fR]; omega), (by dsimp only [fR]; omega)⟩) hw (fun H locs hw => ?_)
      refine lv_istore (lv' := [(6, .int (nI (tHn T))), (5, .int (nI jc)), (0, .ref (ad 0)), (1, .int x), (2, .int y), (3, .int wood), (4, .int walls)]) hx hb dX5_build_69 hl (by decide) rfl (fun ls hl => ?_)
      refine lv_aload_n hx hb dX5_build_71 rfl (lv_at hl 2 rfl) ?_
      refine f_get X hw hF fc6 1 (by decide) wq99 rfl (v := .ref (ad 1000)) rfl dX5_build_72 ?_
      refine f_getN X hw hT0 fc5 1 (by decide) wn84 rfl (v := .ref (ad (1000 + 1))) rfl dX5_build_75 ?_
      refine f_new X hw (1000 + 100 + tHn T) (by omega) fc3 wq206 wq357 wq16 (fs := [.int 0, .int 0, .int 0, .int 0, .int 0, .int 0, .int 0]) (by intro j hj; rcases (show j = 0 ∨ j = 1 ∨ j = 2 ∨ j = 3 ∨ j = 4 ∨ j = 5 ∨ j = 6 by omega) with rfl | rfl | rfl | rfl | rfl | rfl | rfl <;> rfl) (by dsimp only [fR]; omega) (by dsimp only [fR]; omega) dX5_build_78 (fun q1 H hw => ?_)
      obtain ⟨ad1, ea1⟩ : ∃ z, z = fV ad (1000 + 100 + tHn T) q1 := ⟨_, rfl⟩
      have eq1 : ad1 (1000 + 100 + tHn T) = q1 := by rw [ea1]; exact fV_s
      have eA1 : ∀ l, l ≠ 1000 + 100 + tHn T → ad1 l = ad l := fun l h => by rw [ea1]; exact fV_n h
      rw [← ea1] at hw
      obtain ⟨Mn1, em1⟩ : ∃ z, z = fU M (1000 + 100 + tHn T) (.inr (3, [.int 0, .int 0, .int 0, .int 0, .int 0, .int 0, .int 0])) := ⟨_, rfl⟩
      have eM1 : ∀ l, l ≠ 1000 + 100 + tHn T → Mn1 l = M l := fun l h => by rw [em1]; exact fU_n h
      have eS1 : Mn1 (1000 + 100 + tHn T) = some (.inr (3, [.int 0, .int 0, .int 0, .int 0, .int 0, .int 0, .int 0])) := by rw [em1]; exact fU_s
      rw [← em1] at hw
      refine lv_dup hx hb dX5_build_81 rfl ?_
      refine lv_iload hx hb dX5_build_82 (lv_at hl 1 rfl) ?_
      refine lv_iload_n hx hb dX5_build_84 rfl (lv_at hl 5 rfl) ?_
      refine lv_iload hx hb dX5_build_85 (lv_at hl 6 rfl) ?_
      refine f_adr4 (ad := ad1) (lb := 1000 + 100 + tHn T) eq1 ?_
      refine fk_dv (fcI X hw (c_X2_init l g ad1 Mn1 (lb := 1000 + 100 + tHn T) (f := f0) eS1 (nI jc) wood walls) wq702 kIX2_init ⟨(Nat.le_of_ble_eq_true rfl), (Nat.le_of_ble_eq_true rfl)⟩ rfl hl.1 rfl (Nat.le_of_ble_eq_true rfl) dX5_build_87 ⟨(by dsimp only [fR]; omega), (by dsimp only [fR]; omega)⟩) hw (fun H locs hw => ?_)
      refine f_adr (ad := ad1) (lb := 1000 + 100 + tHn T) eq1 ?_
      refine f_adr2 (ad := ad1) (lb := 1000 + 1) (eA1 _ (by omega)) ?_
      have hLn : fList g ad1 (fU Mn1 (1000 + 100 + tHn T) (.inr (3, hV (newH (nI jc) wood walls)))) (1000 + 1) (1000 + 4) (1000 + 100) (tHn T) := fList_A hTh (eA1 _ (by omega)) (fun i hi => eA1 _ (by omega)) ((fU_n (by omega)).trans (eM1 _ (by omega))) ((fU_n (by omega)).trans (eM1 _ (by omega)))
      refine fk_i (fcVe X hw (c_add l g ad1 (fU Mn1 (1000 + 100 + tHn T) (.inr (3, hV (newH (nI jc) wood walls)))) hLn (by omega) (ci := 3) rfl wn899 fU_s (by omega) (by omega) (by omega) (fun i hi => ⟨_, (fU_n (by omega)).trans ((eM1 _ (by omega)).trans (hHs i hi))⟩)) (fList_obj hLn) rfl wq703 kVJx4a65c_add_9ea2d ⟨(Nat.le_of_ble_eq_true rfl), (Nat.le_of_ble_eq_true rfl)⟩ rfl hl.1 rfl (Nat.le_of_ble_eq_true rfl) dX5_build_90 ⟨(by dsimp only [fR]; omega), (by dsimp only [fR]; omega)⟩) hw (fun r ad3 M3 H locs hp hw => ?_)
      have hTn := isTown_addH (ad1 := ad3) (M1 := M3) (f := newH (nI jc) wood walls) hT (by omega) hp.1.1 ((hp.1.2.2 _ (by omega) (by omega) (by omega)).trans fU_s) (fun l a1 a2 a3 a4 => ⟨(hp.1.2.1 l (by omega) (by omega)).trans (eA1 l (by omega)), fun a5 => (hp.1.2.2 l a5 (by omega) (by omega)).trans ((fU_n (by omega)).trans (eM1 l (by omega)))⟩)
      have hq : fReg 1000 2000 ad M ad3 M3 := fun l a1 a2 => ⟨(hp.1.2.1 l (by omega) (by omega)).trans (eA1 l (by omega)), (hp.1.2.2 l (by omega) (by omega) (by omega)).trans ((fU_n (by omega)).trans (eM1 l (by omega)))⟩
      have hG3 := isGround_reg hG hq (by omega)
      have hA3 := isTown_reg hTA hq (by omega) (by omega)
      have hb3 : ad3 1000 = ad 1000 := (hp.1.2.1 1000 (by omega) (by omega)).trans (eA1 1000 (by omega))
      have hF3 : isFE ad3 M3 := isFE_of hF (hq 0 (by omega) (by omega)).2 (hq 1 (by omega) (by omega)).1 hb3 (hq 2000 (by omega) (by omega)).1
      have hFx : M3 0 = some (.inr (6, [.ref (ad3 1), .ref (ad3 1000), .ref (ad3 2000)])) := hF3
      have hGx := hG3.1
      refine lv_pop hx hb dX5_build_93 rfl ?_
      refine lv_aload_n hx hb dX5_build_94 rfl (lv_at hl 2 rfl) ?_
      refine f_adr (ad := ad3) (lb := 0) (hq (0) (by omega) (by omega)).1 ?_
      refine f_get X hw hFx fc6 0 (by decide) wq98 rfl (v := .ref (ad3 1)) rfl dX5_build_95 ?_
      refine lv_iload hx hb dX5_build_98 (lv_at hl 1 rfl) ?_
      refine lv_iconst (v := 1) hx hb dX5_build_100 (by decide) ?_
      refine lv_iload hx hb dX5_build_101 (lv_at hl 0 rfl) ?_
      refine fk_dv (fcV X hw (c_put l g ad3 M3 hG3 hjc 1 (nI (tHn T))) hGx rfl wq704 kVX1_put ⟨(Nat.le_of_ble_eq_true rfl), (Nat.le_of_ble_eq_true rfl)⟩ rfl hl.1 rfl (Nat.le_of_ble_eq_true rfl) dX5_build_103 ⟨(by dsimp only [fR]; omega), (by dsimp only [fR]; omega)⟩) hw (fun H locs hw => ?_)
      rw [if_pos (show kSt kf (nI jc) = true by simp only [freeB, Bool.and_eq_true] at h4; exact h4.1.1)] at hw
      have hw : fw g ad3 (fU (fU M3 2 (.inl (gI g, 140, .inl (upd kf jc 1)))) 3 (.inl (gI g, 140, .inl (upd nf jc (nI (tHn T)))))) s H locs := hw
      have hq4 : fReg 2 4 ad3 M3 ad3 (fU (fU M3 2 (.inl (gI g, 140, .inl (upd kf jc 1)))) 3 (.inl (gI g, 140, .inl (upd nf jc (nI (tHn T)))))) := fReg_U (fReg_U fReg_rf (by omega)) (by omega)
      refine lv_iload hx hb dX5_build_106 (lv_at hl 0 rfl) ?_
      exact f_iret X hw ⟨⟨isFE_of hF3 (hq4 0 (by omega) (by omega)).2 rfl rfl rfl, ⟨(hq4 1 (by omega) (by omega)).2.trans hG3.1, (fU_n (by omega)).trans fU_s, fU_s, (fU_n (by omega)).trans ((fU_n (by omega)).trans hG3.2.2.2)⟩, isTown_reg hTn hq4 (by omega) (by omega), isTown_reg hA3 hq4 (by omega) (by omega)⟩, fReg_tr (fReg_w hq (by omega) (by omega)) (fReg_w hq4 (by omega) (by omega)), (hq 0 (by omega) (by omega)).1, rfl⟩ (by omega) (by omega) dX5_build_108
set_option maxHeartbeats 4000000 in
set_option maxRecDepth 100000 in
theorem c_X5_dig (l : Launch) (g : fG) (ad : Nat → Nat) (M : fM) {T A : fTn} {kf nf sf : Nat → Int32} (hC : isC g ad M T A kf nf sf) {x y wat : Int32} (h1 : aOn x y = true) {jc : Nat} (hjc : jc < 140) (hxy : x + 14 * y = nI jc) (h2 : inR wat 0 5000 = true) (h3 : (freeB kf T (nI jc) && decide (tPn T < 6)) = true) : fCi l g yX5_dig cX5_dig 6 ((some .int)) 7 180 2 45 ad M [.ref (ad 0), .int x, .int y, .int wat] (fCo g ad M (addP T (newP (nI jc) wat)) A (upd kf jc 2) (upd nf jc (nI (tPn T))) sf (nI (tPn T))) := by
  refine f_body (own := RX5) (by decide +kernel) rfl (Nat.le_of_ble_eq_true rfl) ?_
  intro p e s m args below meth c ls X hw hin hl
  have hx := X.1
  have hb := X.2.1
  have hl : lv_has ls 6 [(0, .ref (ad 0)), (1, .int x), (2, .int y), (3, .int wat)] := hl
  obtain ⟨hF, hG, hT, hTA⟩ := id hC
  have hF : M 0 = some (.inr (6, [.ref (ad 1), .ref (ad 1000), .ref (ad 2000)])) := hF
  have hG0 := hG.1
  obtain ⟨hT0, hTh, hTp, hTe, hHs, hPs, hEs, hn1, hn2, hn3, hA⟩ := id hT
  obtain ⟨hT0a, hTha, hTpa, hTea, hHsa, hPsa, hEsa, hn1a, hn2a, hn3a, hAa⟩ := id hTA
  refine lv_iload_n hx hb dX5_dig_0 rfl (lv_at hl 1 rfl) ?_
  refine lv_iload_n hx hb dX5_dig_1 rfl (lv_at hl 2 rfl) ?_
  refine fk_dv (fcS X hw (c_rC l g ad M h1) wq653 kSX5_requireCell ⟨(Nat.le_of_ble_eq_true rfl), (Nat.le_of_ble_eq_true rfl)⟩ rfl hl.1 rfl (Nat.le_of_ble_eq_true rfl) dX5_dig_2 ⟨(by dsimp only [fR]; omega), (by dsimp only [fR]; omega)⟩) hw (fun H locs hw => ?_)
  refine lv_iload_n hx hb dX5_dig_5 rfl (lv_at hl 3 rfl) ?_
  refine lv_iconst (v := 0) hx hb dX5_dig_6 (by decide) ?_
  refine lv_sipush (v := 5000) hx hb dX5_dig_7 (by decide) ?_
  refine fk_dv (fcS X hw (c_rR l g ad M h2) wq254 kSX5_requireRange ⟨(Nat.le_of_ble_eq_true rfl), (Nat.le_of_ble_eq_true rfl)⟩ rfl hl.1 rfl (Nat.le_of_ble_eq_true rfl) dX5_dig_10 ⟨(by dsimp only [fR]; omega), (by dsimp only [fR]; omega)⟩) hw (fun H locs hw => ?_)
  refine lv_iload_n hx hb dX5_dig_13 rfl (lv_at hl 1 rfl) ?_
  refine lv_iload_n hx hb dX5_dig_14 rfl (lv_at hl 2 rfl) ?_
  refine fk_di (fcS X hw (c_cellAt l g ad M x y) wq660 kSX5_cellAt ⟨(Nat.le_of_ble_eq_true rfl), (Nat.le_of_ble_eq_true rfl)⟩ rfl hl.1 rfl (Nat.le_of_ble_eq_true rfl) dX5_dig_15 ⟨(by dsimp only [fR]; omega), (by dsimp only [fR]; omega)⟩) hw (fun H locs hw => ?_)
  refine f_top (y := nI jc) hxy ?_
  refine lv_istore (lv' := [(4, .int (nI jc)), (0, .ref (ad 0)), (1, .int x), (2, .int y), (3, .int wat)]) hx hb dX5_dig_18 hl (by decide) rfl (fun ls hl => ?_)
  refine lv_aload_n hx hb dX5_dig_20 rfl (lv_at hl 1 rfl) ?_
  refine lv_iload hx hb dX5_dig_21 (lv_at hl 0 rfl) ?_
  refine fk_di (fcV X hw (c_isFree l g ad M hC (nI jc)) hF rfl wq663 kVX5_isFree ⟨(Nat.le_of_ble_eq_true rfl), (Nat.le_of_ble_eq_true rfl)⟩ rfl hl.1 rfl (Nat.le_of_ble_eq_true rfl) dX5_dig_23 ⟨(by dsimp only [fR]; omega), (by dsimp only [fR]; omega)⟩) hw (fun H locs hw => ?_)
  refine lv_if_eq (tgt := 48) hx hb dX5_dig_26 (by decide) (fun c_1 => ?_) (fun c_1 => ?_)
  · have c_1 := bI_f.mp c_1
    refine lv_iconst (v := 0) hx hb dX5_dig_48 (by decide) ?_
    exact absurd h3 (by simp [c_1])
  · have c_1 := bI_nf.mp c_1
    refine lv_aload_n hx hb dX5_dig_29 rfl (lv_at hl 1 rfl) ?_
    refine f_get X hw hF fc6 1 (by decide) wq99 rfl (v := .ref (ad 1000)) rfl dX5_dig_30 ?_
    refine f_getN X hw hT0 fc5 2 (by decide) wn86 rfl (v := .ref (ad (1000 + 2))) rfl dX5_dig_33 ?_
    refine fk_di (fcVe X hw (c_size l g ad M hTp) (fList_obj hTp) rfl wq116 kVJx4a65c_size_8abf5 ⟨(Nat.le_of_ble_eq_true rfl), (Nat.le_of_ble_eq_true rfl)⟩ rfl hl.1 rfl (Nat.le_of_ble_eq_true rfl) dX5_dig_36 ⟨(by dsimp only [fR]; omega), (by dsimp only [fR]; omega)⟩) hw (fun H locs hw => ?_)
    refine lv_bipush (v := 6) hx hb dX5_dig_39 (by decide) ?_
    refine lv_icmp_ge (tgt := 48) hx hb dX5_dig_41 (by decide) (fun c_2 => ?_) (fun c_2 => ?_)
    · have c_2 := nI_le' (a := 6) (b := (tPn T)) c_2 (by omega) (by omega)
      refine lv_iconst (v := 0) hx hb dX5_dig_48 (by decide) ?_
      exact absurd h3 (by simp [c_1, c_2])
    · have c_2 := nI_nle' (a := 6) (b := (tPn T)) c_2 (by omega) (by omega)
      refine lv_iconst (v := 1) hx hb dX5_dig_44 (by decide) ?_
      refine lv_goto (tgt := 49) hx hb dX5_dig_45 (by decide) ?_
      refine fk_dv (fcS X hw (c_rS l g ad M) wq683 kSX5_requireState ⟨(Nat.le_of_ble_eq_true rfl), (Nat.le_of_ble_eq_true rfl)⟩ rfl hl.1 rfl (Nat.le_of_ble_eq_true rfl) dX5_dig_49 ⟨(by dsimp only [fR]; omega), (by dsimp only [fR]; omega)⟩) hw (fun H locs hw => ?_)
      refine lv_aload_n hx hb dX5_dig_52 rfl (lv_at hl 1 rfl) ?_
      refine f_get X hw hF fc6 1 (by decide) wq99 rfl (v := .ref (ad 1000)) rfl dX5_dig_53 ?_
      refine f_getN X hw hT0 fc5 2 (by decide) wn86 rfl (v := .ref (ad (1000 + 2))) rfl dX5_dig_56 ?_
      refine fk_di (fcVe X hw (c_size l g ad M hTp) (fList_obj hTp) rfl wq116 kVJx4a65c_size_8abf5 ⟨(Nat.le_of_ble_eq_true rfl), (Nat.le_of_ble_eq_true rfl)⟩ rfl hl.1 rfl (Nat.le_of_ble_eq_true rfl) dX5_dig_59 ⟨(by dsimp only [fR]; omega), (by dsimp only [fR]; omega)⟩) hw (fun H locs hw => ?_)
      refine lv_istore (lv' := [(5, .int (nI (tPn T))), (4, .int (nI jc)), (0, .ref (ad 0)), (1, .int x), (2, .int y), (3, .int wat)]) hx hb dX5_dig_62 hl (by decide) rfl (fun ls hl => ?_)
      refine lv_aload_n hx hb dX5_dig_64 rfl (lv_at hl 2 rfl) ?_
      refine f_get X hw hF fc6 1 (by decide) wq99 rfl (v := .ref (ad 1000)) rfl dX5_dig_65 ?_
      refine f_getN X hw hT0 fc5 2 (by decide) wn86 rfl (v := .ref (ad (1000 + 2))) rfl dX5_dig_68 ?_
      refine f_new X hw (1000 + 200 + tPn T) (by omega) fc4 wq249 wq489 wq22 (fs := [.int 0, .int 0]) (by intro j hj; rcases (show j = 0 ∨ j = 1 by omega) with rfl | rfl <;> rfl) (by dsimp only [fR]; omega) (by dsimp only [fR]; omega) dX5_dig_71 (fun q1 H hw => ?_)
      obtain ⟨ad1, ea1⟩ : ∃ z, z = fV ad (1000 + 200 + tPn T) q1 := ⟨_, rfl⟩
      have eq1 : ad1 (1000 + 200 + tPn T) = q1 := by rw [ea1]; exact fV_s
      have eA1 : ∀ l, l ≠ 1000 + 200 + tPn T → ad1 l = ad l := fun l h => by rw [ea1]; exact fV_n h
      rw [← ea1] at hw
      obtain ⟨Mn1, em1⟩ : ∃ z, z = fU M (1000 + 200 + tPn T) (.inr (4, [.int 0, .int 0])) := ⟨_, rfl⟩
      have eM1 : ∀ l, l ≠ 1000 + 200 + tPn T → Mn1 l = M l := fun l h => by rw [em1]; exact fU_n h
      have eS1 : Mn1 (1000 + 200 + tPn T) = some (.inr (4, [.int 0, .int 0])) := by rw [em1]; exact fU_s
      rw [← em1] at hw
      refine lv_dup hx hb dX5_dig_74 rfl ?_
      refine lv_iload hx hb dX5_dig_75 (lv_at hl 1 rfl) ?_
      refine lv_iload_n hx hb dX5_dig_77 rfl (lv_at hl 5 rfl) ?_
      refine f_adr3 (ad := ad1) (lb := 1000 + 200 + tPn T) eq1 ?_
      refine fk_dv (fcI X hw (c_X3_init l g ad1 Mn1 (lb := 1000 + 200 + tPn T) (f := f0) eS1 (nI jc) wat) wq747 kIX3_init ⟨(Nat.le_of_ble_eq_true rfl), (Nat.le_of_ble_eq_true rfl)⟩ rfl hl.1 rfl (Nat.le_of_ble_eq_true rfl) dX5_dig_78 ⟨(by dsimp only [fR]; omega), (by dsimp only [fR]; omega)⟩) hw (fun H locs hw => ?_)
      refine f_adr (ad := ad1) (lb := 1000 + 200 + tPn T) eq1 ?_
      refine f_adr2 (ad := ad1) (lb := 1000 + 2) (eA1 _ (by omega)) ?_
      have hLn : fList g ad1 (fU Mn1 (1000 + 200 + tPn T) (.inr (4, pV (newP (nI jc) wat)))) (1000 + 2) (1000 + 5) (1000 + 200) (tPn T) := fList_A hTp (eA1 _ (by omega)) (fun i hi => eA1 _ (by omega)) ((fU_n (by omega)).trans (eM1 _ (by omega))) ((fU_n (by omega)).trans (eM1 _ (by omega)))
      refine fk_i (fcVe X hw (c_add l g ad1 (fU Mn1 (1000 + 200 + tPn T) (.inr (4, pV (newP (nI jc) wat)))) hLn (by omega) (ci := 4) rfl wn900 fU_s (by omega) (by omega) (by omega) (fun i hi => ⟨_, (fU_n (by omega)).trans ((eM1 _ (by omega)).trans (hPs i hi))⟩)) (fList_obj hLn) rfl wq703 kVJx4a65c_add_9ea2d ⟨(Nat.le_of_ble_eq_true rfl), (Nat.le_of_ble_eq_true rfl)⟩ rfl hl.1 rfl (Nat.le_of_ble_eq_true rfl) dX5_dig_81 ⟨(by dsimp only [fR]; omega), (by dsimp only [fR]; omega)⟩) hw (fun r ad3 M3 H locs hp hw => ?_)
      have hTn := isTown_addP (ad1 := ad3) (M1 := M3) (f := newP (nI jc) wat) hT (by omega) hp.1.1 ((hp.1.2.2 _ (by omega) (by omega) (by omega)).trans fU_s) (fun l a1 a2 a3 a4 => ⟨(hp.1.2.1 l (by omega) (by omega)).trans (eA1 l (by omega)), fun a5 => (hp.1.2.2 l a5 (by omega) (by omega)).trans ((fU_n (by omega)).trans (eM1 l (by omega)))⟩)
      have hq : fReg 1000 2000 ad M ad3 M3 := fun l a1 a2 => ⟨(hp.1.2.1 l (by omega) (by omega)).trans (eA1 l (by omega)), (hp.1.2.2 l (by omega) (by omega) (by omega)).trans ((fU_n (by omega)).trans (eM1 l (by omega)))⟩
      have hG3 := isGround_reg hG hq (by omega)
      have hA3 := isTown_reg hTA hq (by omega) (by omega)
      have hb3 : ad3 1000 = ad 1000 := (hp.1.2.1 1000 (by omega) (by omega)).trans (eA1 1000 (by omega))
      have hF3 : isFE ad3 M3 := isFE_of hF (hq 0 (by omega) (by omega)).2 (hq 1 (by omega) (by omega)).1 hb3 (hq 2000 (by omega) (by omega)).1
      have hFx : M3 0 = some (.inr (6, [.ref (ad3 1), .ref (ad3 1000), .ref (ad3 2000)])) := hF3
      have hGx := hG3.1
      refine lv_pop hx hb dX5_dig_84 rfl ?_
      refine lv_aload_n hx hb dX5_dig_85 rfl (lv_at hl 2 rfl) ?_
      refine f_adr (ad := ad3) (lb := 0) (hq (0) (by omega) (by omega)).1 ?_
      refine f_get X hw hFx fc6 0 (by decide) wq98 rfl (v := .ref (ad3 1)) rfl dX5_dig_86 ?_
      refine lv_iload hx hb dX5_dig_89 (lv_at hl 1 rfl) ?_
      refine lv_iconst (v := 2) hx hb dX5_dig_91 (by decide) ?_
      refine lv_iload hx hb dX5_dig_92 (lv_at hl 0 rfl) ?_
      refine fk_dv (fcV X hw (c_put l g ad3 M3 hG3 hjc 2 (nI (tPn T))) hGx rfl wq704 kVX1_put ⟨(Nat.le_of_ble_eq_true rfl), (Nat.le_of_ble_eq_true rfl)⟩ rfl hl.1 rfl (Nat.le_of_ble_eq_true rfl) dX5_dig_94 ⟨(by dsimp only [fR]; omega), (by dsimp only [fR]; omega)⟩) hw (fun H locs hw => ?_)
      rw [if_pos (show kSt kf (nI jc) = true by simp only [freeB, Bool.and_eq_true] at h3; exact h3.1.1)] at hw
      have hw : fw g ad3 (fU (fU M3 2 (.inl (gI g, 140, .inl (upd kf jc 2)))) 3 (.inl (gI g, 140, .inl (upd nf jc (nI (tPn T)))))) s H locs := hw
      have hq4 : fReg 2 4 ad3 M3 ad3 (fU (fU M3 2 (.inl (gI g, 140, .inl (upd kf jc 2)))) 3 (.inl (gI g, 140, .inl (upd nf jc (nI (tPn T)))))) := fReg_U (fReg_U fReg_rf (by omega)) (by omega)
      refine lv_iload hx hb dX5_dig_97 (lv_at hl 0 rfl) ?_
      exact f_iret X hw ⟨⟨isFE_of hF3 (hq4 0 (by omega) (by omega)).2 rfl rfl rfl, ⟨(hq4 1 (by omega) (by omega)).2.trans hG3.1, (fU_n (by omega)).trans fU_s, fU_s, (fU_n (by omega)).trans ((fU_n (by omega)).trans hG3.2.2.2)⟩, isTown_reg hTn hq4 (by omega) (by omega), isTown_reg hA3 hq4 (by omega) (by omega)⟩, fReg_tr (fReg_w hq (by omega) (by omega)) (fReg_w hq4 (by omega) (by omega)), (hq 0 (by omega) (by omega)).1, rfl⟩ (by omega) (by omega) dX5_dig_99
set_option maxHeartbeats 4000000 in
set_option maxRecDepth 100000 in
theorem c_X5_light (l : Launch) (g : fG) (ad : Nat → Nat) (M : fM) {T A : fTn} {kf nf sf : Nat → Int32} (hC : isC g ad M T A kf nf sf) {heat : Int32} {jho : Nat} (h1 : jho < tHn T) (h2 : inR heat 1 99 = true) (h3 : (decide (tH T jho 3 = 0)) = true) : fCi l g yX5_light cX5_light 4 ((some .int)) 7 180 0 0 ad M [.ref (ad 0), .int (nI jho), .int heat] (fCo g ad M (sH T jho (upd (upd (tH T jho) 3 1) 4 heat)) A kf nf sf (cntH (tH (sH T jho (upd (upd (tH T jho) 3 1) 4 heat))) 1 (tHn T))) := by
  refine f_body (own := RX5) (by decide +kernel) rfl (Nat.le_of_ble_eq_true rfl) ?_
  intro p e s m args below meth c ls X hw hin hl
  have hx := X.1
  have hb := X.2.1
  have hl : lv_has ls 4 [(0, .ref (ad 0)), (1, .int (nI jho)), (2, .int heat)] := hl
  obtain ⟨hF, hG, hT, hTA⟩ := id hC
  have hF : M 0 = some (.inr (6, [.ref (ad 1), .ref (ad 1000), .ref (ad 2000)])) := hF
  have hG0 := hG.1
  obtain ⟨hT0, hTh, hTp, hTe, hHs, hPs, hEs, hn1, hn2, hn3, hA⟩ := id hT
  obtain ⟨hT0a, hTha, hTpa, hTea, hHsa, hPsa, hEsa, hn1a, hn2a, hn3a, hAa⟩ := id hTA
  refine lv_aload_n hx hb dX5_light_0 rfl (lv_at hl 0 rfl) ?_
  refine lv_iload_n hx hb dX5_light_1 rfl (lv_at hl 1 rfl) ?_
  refine fk_dv (fcV X hw (c_rH l g ad M hC h1) hF rfl wq112 kVX5_requireHouse ⟨(Nat.le_of_ble_eq_true rfl), (Nat.le_of_ble_eq_true rfl)⟩ rfl hl.1 rfl (Nat.le_of_ble_eq_true rfl) dX5_light_2 ⟨Nat.le_refl _, Nat.le_refl _⟩) hw (fun H locs hw => ?_)
  refine lv_iload_n hx hb dX5_light_5 rfl (lv_at hl 2 rfl) ?_
  refine lv_iconst (v := 1) hx hb dX5_light_6 (by decide) ?_
  refine lv_bipush (v := 99) hx hb dX5_light_7 (by decide) ?_
  refine fk_dv (fcS X hw (c_rR l g ad M h2) wq254 kSX5_requireRange ⟨(Nat.le_of_ble_eq_true rfl), (Nat.le_of_ble_eq_true rfl)⟩ rfl hl.1 rfl (Nat.le_of_ble_eq_true rfl) dX5_light_9 ⟨Nat.le_refl _, Nat.le_refl _⟩) hw (fun H locs hw => ?_)
  refine lv_aload_n hx hb dX5_light_12 rfl (lv_at hl 0 rfl) ?_
  refine f_get X hw hF fc6 1 (by decide) wq99 rfl (v := .ref (ad 1000)) rfl dX5_light_13 ?_
  refine f_getN X hw hT0 fc5 1 (by decide) wn84 rfl (v := .ref (ad (1000 + 1))) rfl dX5_light_16 ?_
  refine lv_iload_n hx hb dX5_light_19 rfl (lv_at hl 1 rfl) ?_
  refine fk_dr (fcVe X hw (c_get l g ad M hTh (by omega)) (fList_obj hTh) rfl wq192 kVJx4a65c_get_915e3 ⟨(Nat.le_of_ble_eq_true rfl), (Nat.le_of_ble_eq_true rfl)⟩ rfl hl.1 rfl (Nat.le_of_ble_eq_true rfl) dX5_light_20 ⟨Nat.le_refl _, Nat.le_refl _⟩) hw (fun H locs hw => ?_)
  refine f_cast X hw (hHs jho (by omega)) fc3 wq206 dX5_light_23 ?_
  refine lv_astore_n (lv' := [(3, .ref (ad (1000 + 100 + jho))), (0, .ref (ad 0)), (1, .int (nI jho)), (2, .int heat)]) hx hb dX5_light_26 rfl hl (by decide) rfl (fun ls hl => ?_)
  refine lv_aload_n hx hb dX5_light_27 rfl (lv_at hl 0 rfl) ?_
  refine f_getN X hw (hHs jho (by omega)) fc3 3 (by decide) wn407 rfl (v := .int ((tH T jho) 3)) rfl dX5_light_28 ?_
  refine lv_if_ne (tgt := 38) hx hb dX5_light_31 (by decide) (fun c_1 => ?_) (fun c_1 => ?_)
  · refine lv_iconst (v := 0) hx hb dX5_light_38 (by decide) ?_
    exact absurd h3 (by simp [c_1])
  · refine lv_iconst (v := 1) hx hb dX5_light_34 (by decide) ?_
    refine lv_goto (tgt := 39) hx hb dX5_light_35 (by decide) ?_
    refine fk_dv (fcS X hw (c_rS l g ad M) wq683 kSX5_requireState ⟨(Nat.le_of_ble_eq_true rfl), (Nat.le_of_ble_eq_true rfl)⟩ rfl hl.1 rfl (Nat.le_of_ble_eq_true rfl) dX5_light_39 ⟨Nat.le_refl _, Nat.le_refl _⟩) hw (fun H locs hw => ?_)
    refine lv_aload_n hx hb dX5_light_42 rfl (lv_at hl 0 rfl) ?_
    refine lv_iload_n hx hb dX5_light_43 rfl (lv_at hl 3 rfl) ?_
    refine fk_dv (fcV X hw (c_X2_catchFire l g ad M (hHs jho (by omega)) heat) (hHs jho (by omega)) rfl wq813 kVX2_catchFire ⟨(Nat.le_of_ble_eq_true rfl), (Nat.le_of_ble_eq_true rfl)⟩ rfl hl.1 rfl (Nat.le_of_ble_eq_true rfl) dX5_light_44 ⟨Nat.le_refl _, Nat.le_refl _⟩) hw (fun H locs hw => ?_)
    have hw : fw g ad (fU M (1000 + 100 + jho) (.inr (3, hV (upd (upd (tH T jho) 3 1) 4 heat)))) s H locs := hw
    have hF : (fU M (1000 + 100 + jho) (.inr (3, hV (upd (upd (tH T jho) 3 1) 4 heat)))) 0 = some (.inr (6, [.ref (ad 1), .ref (ad 1000), .ref (ad 2000)])) := (fU_n (by omega)).trans hF
    have hG0 : (fU M (1000 + 100 + jho) (.inr (3, hV (upd (upd (tH T jho) 3 1) 4 heat)))) 1 = some (.inr (2, [.ref (ad 2), .ref (ad 3), .ref (ad 4)])) := (fU_n (by omega)).trans hG0
    have hT0 : (fU M (1000 + 100 + jho) (.inr (3, hV (upd (upd (tH T jho) 3 1) 4 heat)))) 1000 = some (.inr (5, [.int (tM T), .ref (ad (1000 + 1)), .ref (ad (1000 + 2)), .ref (ad (1000 + 3))])) := (fU_n (by omega)).trans hT0
    have hTh : fList g ad (fU M (1000 + 100 + jho) (.inr (3, hV (upd (upd (tH T jho) 3 1) 4 heat)))) (1000 + 1) (1000 + 4) (1000 + 100) (tHn T) := fList_V hTh (fU_n (by omega)) (fU_n (by omega))
    have hTp : fList g ad (fU M (1000 + 100 + jho) (.inr (3, hV (upd (upd (tH T jho) 3 1) 4 heat)))) (1000 + 2) (1000 + 5) (1000 + 200) (tPn T) := fList_V hTp (fU_n (by omega)) (fU_n (by omega))
    have hTe : fList g ad (fU M (1000 + 100 + jho) (.inr (3, hV (upd (upd (tH T jho) 3 1) 4 heat)))) (1000 + 3) (1000 + 6) (1000 + 300) (tEn T) := fList_V hTe (fU_n (by omega)) (fU_n (by omega))
    have hT0a : (fU M (1000 + 100 + jho) (.inr (3, hV (upd (upd (tH T jho) 3 1) 4 heat)))) 2000 = some (.inr (5, [.int (tM A), .ref (ad (2000 + 1)), .ref (ad (2000 + 2)), .ref (ad (2000 + 3))])) := (fU_n (by omega)).trans hT0a
    have hTha : fList g ad (fU M (1000 + 100 + jho) (.inr (3, hV (upd (upd (tH T jho) 3 1) 4 heat)))) (2000 + 1) (2000 + 4) (2000 + 100) (tHn A) := fList_V hTha (fU_n (by omega)) (fU_n (by omega))
    have hTpa : fList g ad (fU M (1000 + 100 + jho) (.inr (3, hV (upd (upd (tH T jho) 3 1) 4 heat)))) (2000 + 2) (2000 + 5) (2000 + 200) (tPn A) := fList_V hTpa (fU_n (by omega)) (fU_n (by omega))
    have hTea : fList g ad (fU M (1000 + 100 + jho) (.inr (3, hV (upd (upd (tH T jho) 3 1) 4 heat)))) (2000 + 3) (2000 + 6) (2000 + 300) (tEn A) := fList_V hTea (fU_n (by omega)) (fU_n (by omega))
    have hM_1000___100___jho : (fU M (1000 + 100 + jho) (.inr (3, hV (upd (upd (tH T jho) 3 1) 4 heat)))) (1000 + 100 + jho) = some (.inr (3, hV (upd (upd (tH T jho) 3 1) 4 heat))) := fU_s
    refine lv_aload_n hx hb dX5_light_47 rfl (lv_at hl 1 rfl) ?_
    refine f_get X hw hF fc6 1 (by decide) wq99 rfl (v := .ref (ad 1000)) rfl dX5_light_48 ?_
    refine lv_iconst (v := 1) hx hb dX5_light_51 (by decide) ?_
    have hTn := isTown_setH (f := upd (upd (tH T jho) 3 1) 4 heat) hT h1
    have ho : fOut 1000 M (fU M (1000 + 100 + jho) (.inr (3, hV (upd (upd (tH T jho) 3 1) 4 heat)))) := fOut_U fOut_rf (by omega)
    refine fk_di (fcV X hw (c_housesThatAre l g ad (fU M (1000 + 100 + jho) (.inr (3, hV (upd (upd (tH T jho) 3 1) 4 heat)))) hTn 1) hT0 rfl wq570 kVX4_housesThatAre ⟨(Nat.le_of_ble_eq_true rfl), (Nat.le_of_ble_eq_true rfl)⟩ rfl hl.1 rfl (Nat.le_of_ble_eq_true rfl) dX5_light_52 ⟨Nat.le_refl _, Nat.le_refl _⟩) hw (fun H locs hw => ?_)
    exact f_iret X hw ⟨(isC_T hC hTn ho).1, (isC_T hC hTn ho).2, rfl, rfl⟩ (Nat.le_refl _) (Nat.le_refl _) dX5_light_55
