section FTOP2
variable {p : Program} {l : Launch} {e : Env} {R : Room} {s : State} {m : MethodId} {args : Array Value} {below : List Frame} {meth : Method} {c : Code} {H : Heap} {locs : List Loc} {cells slots : Nat} {Q : State → Prop} {pc : Nat} {ls : Array Slot} {rest : List Value}
theorem f_top2 {x y : Int32} {v : Value} (h : x = y) (k : W p l e R s m args below meth c H locs cells slots Q (F0 m pc ls (v :: .int y :: rest))) : W p l e R s m args below meth c H locs cells slots Q (F0 m pc ls (v :: .int x :: rest)) := h ▸ k
end FTOP2
theorem isC_S {g : fG} {ad : Nat → Nat} {M : fM} {T A : fTn} {kf nf sf sf2 : Nat → Int32} (h : isC g ad M T A kf nf sf) : isC g ad (fU M 4 (.inl (gI g, 140, .inl sf2))) T A kf nf sf2 ∧ fReg 4 5 ad M ad (fU M 4 (.inl (gI g, 140, .inl sf2))) := by
  obtain ⟨hF, hG, hT, hA⟩ := h
  have hr : fReg 4 5 ad M ad (fU M 4 (.inl (gI g, 140, .inl sf2))) := fReg_U fReg_rf (by omega)
  exact ⟨⟨isFE_of hF (fU_n (by omega)) rfl rfl rfl, ⟨(fU_n (by omega)).trans hG.1, (fU_n (by omega)).trans hG.2.1, (fU_n (by omega)).trans hG.2.2.1, fU_s⟩, isTown_reg hT hr (by omega) (by omega), isTown_reg hA hr (by omega) (by omega)⟩, hr⟩
def leT (A T : fTn) : Prop := tHn A ≤ tHn T ∧ tPn A ≤ tPn T ∧ tEn A ≤ tEn T
def foreR (A : fTn) (w : Int32) : Int32 := if w = 0 then tTell A 2 else if w = 1 then tTell A 4 else tTell A 8
def restsP (T : fTn) (k : Nat) : Bool := decide (cntH (tH (goT T k).1) 1 (tHn (goT T k).1) = 0)
abbrev aimT (T : fTn) (e h : Nat) : fTn := sE T e (upd (tE T e) 7 (100 + nI h))
abbrev fFall (g : fG) (ad : Nat → Nat) (M : fM) (A : fTn) (v : Int32) : Int32 → (Nat → Nat) → fM → Prop := fun r ad1 M1 => isTown g ad1 M1 2000 A ∧ fReg 2000 3000 ad M ad1 M1 ∧ ad1 2000 = ad 2000 ∧ r = v
set_option maxHeartbeats 4000000 in
set_option maxRecDepth 100000 in
theorem c_X5_drive (l : Launch) (g : fG) (ad : Nat → Nat) (M : fM) {T A : fTn} {kf nf sf : Nat → Int32} (hC : isC g ad M T A kf nf sf) {x y : Int32} {jen : Nat} (h1 : jen < tEn T) (h2 : aOn x y = true) {jc : Nat} (hjc : jc < 140) (hxy : x + 14 * y = nI jc) (h3 : (eStands (tE T jen) && decide (¬ tE T jen 0 = nI jc)) = true) {a : Nat} (hea : tE T jen 0 = nI a) (ha : a < 140) (h4 : (decide (¬ stepsR kf sf a jc = -1)) = true) : fCi l g yX5_drive cX5_drive 7 ((some .int)) 7 180 0 0 ad M [.ref (ad 0), .int (nI jen), .int x, .int y] (fCo g ad M (sE (mEi (upHose (nI jen)) (tEn T) T) jen (eSetOut (tE (mEi (upHose (nI jen)) (tEn T) T) jen) (nI jc) (stepsR kf sf a jc))) A kf nf (stepsF kf sf a jc) ((eSetOut (tE (mEi (upHose (nI jen)) (tEn T) T) jen) (nI jc) (stepsR kf sf a jc)) 5)) := by
  refine f_body (own := RX5) (by decide +kernel) rfl (Nat.le_of_ble_eq_true rfl) ?_
  intro p e s m args below meth c ls X hw hin hl
  have hx := X.1
  have hb := X.2.1
  have hl : lv_has ls 7 [(0, .ref (ad 0)), (1, .int (nI jen)), (2, .int x), (3, .int y)] := hl
  obtain ⟨hF, hG, hT, hTA⟩ := id hC
  have hF : M 0 = some (.inr (6, [.ref (ad 1), .ref (ad 1000), .ref (ad 2000)])) := hF
  have hG0 := hG.1
  obtain ⟨hT0, hTh, hTp, hTe, hHs, hPs, hEs, hn1, hn2, hn3, hA⟩ := id hT
  obtain ⟨hT0a, hTha, hTpa, hTea, hHsa, hPsa, hEsa, hn1a, hn2a, hn3a, hAa⟩ := id hTA
  refine lv_aload_n hx hb dX5_drive_0 rfl (lv_at hl 0 rfl) ?_
  refine lv_iload_n hx hb dX5_drive_1 rfl (lv_at hl 1 rfl) ?_
  refine fk_dv (fcV X hw (c_rE l g ad M hC h1) hF rfl wq215 kVX5_requireEngine ⟨(Nat.le_of_ble_eq_true rfl), (Nat.le_of_ble_eq_true rfl)⟩ rfl hl.1 rfl (Nat.le_of_ble_eq_true rfl) dX5_drive_2 ⟨Nat.le_refl _, Nat.le_refl _⟩) hw (fun H locs hw => ?_)
  refine lv_iload_n hx hb dX5_drive_5 rfl (lv_at hl 2 rfl) ?_
  refine lv_iload_n hx hb dX5_drive_6 rfl (lv_at hl 3 rfl) ?_
  refine fk_dv (fcS X hw (c_rC l g ad M h2) wq653 kSX5_requireCell ⟨(Nat.le_of_ble_eq_true rfl), (Nat.le_of_ble_eq_true rfl)⟩ rfl hl.1 rfl (Nat.le_of_ble_eq_true rfl) dX5_drive_7 ⟨Nat.le_refl _, Nat.le_refl _⟩) hw (fun H locs hw => ?_)
  refine lv_aload_n hx hb dX5_drive_10 rfl (lv_at hl 0 rfl) ?_
  refine f_get X hw hF fc6 1 (by decide) wq99 rfl (v := .ref (ad 1000)) rfl dX5_drive_11 ?_
  refine f_getN X hw hT0 fc5 3 (by decide) wn88 rfl (v := .ref (ad (1000 + 3))) rfl dX5_drive_14 ?_
  refine lv_iload_n hx hb dX5_drive_17 rfl (lv_at hl 1 rfl) ?_
  refine fk_dr (fcVe X hw (c_get l g ad M hTe (by omega)) (fList_obj hTe) rfl wq192 kVJx4a65c_get_915e3 ⟨(Nat.le_of_ble_eq_true rfl), (Nat.le_of_ble_eq_true rfl)⟩ rfl hl.1 rfl (Nat.le_of_ble_eq_true rfl) dX5_drive_18 ⟨Nat.le_refl _, Nat.le_refl _⟩) hw (fun H locs hw => ?_)
  refine f_cast X hw (hEs jen (by omega)) fc1 wq220 dX5_drive_21 ?_
  refine lv_astore (lv' := [(4, .ref (ad (1000 + 300 + jen))), (0, .ref (ad 0)), (1, .int (nI jen)), (2, .int x), (3, .int y)]) hx hb dX5_drive_24 hl (by decide) rfl (fun ls hl => ?_)
  refine lv_iload_n hx hb dX5_drive_26 rfl (lv_at hl 3 rfl) ?_
  refine lv_iload_n hx hb dX5_drive_27 rfl (lv_at hl 4 rfl) ?_
  refine fk_di (fcS X hw (c_cellAt l g ad M x y) wq660 kSX5_cellAt ⟨(Nat.le_of_ble_eq_true rfl), (Nat.le_of_ble_eq_true rfl)⟩ rfl hl.1 rfl (Nat.le_of_ble_eq_true rfl) dX5_drive_28 ⟨Nat.le_refl _, Nat.le_refl _⟩) hw (fun H locs hw => ?_)
  refine f_top (y := nI jc) hxy ?_
  refine lv_istore (lv' := [(5, .int (nI jc)), (4, .ref (ad (1000 + 300 + jen))), (0, .ref (ad 0)), (1, .int (nI jen)), (2, .int x), (3, .int y)]) hx hb dX5_drive_31 hl (by decide) rfl (fun ls hl => ?_)
  refine lv_aload hx hb dX5_drive_33 (lv_at hl 1 rfl) ?_
  refine fk_di (fcV X hw (c_X0_stands l g ad M (hEs jen h1)) (hEs jen (by omega)) rfl wq832 kVX0_stands ⟨(Nat.le_of_ble_eq_true rfl), (Nat.le_of_ble_eq_true rfl)⟩ rfl hl.1 rfl (Nat.le_of_ble_eq_true rfl) dX5_drive_35 ⟨Nat.le_refl _, Nat.le_refl _⟩) hw (fun H locs hw => ?_)
  refine lv_if_eq (tgt := 55) hx hb dX5_drive_38 (by decide) (fun c_1 => ?_) (fun c_1 => ?_)
  · have c_1 := bI_f.mp c_1
    refine lv_iconst (v := 0) hx hb dX5_drive_55 (by decide) ?_
    exact absurd h3 (by simp [c_1])
  · have c_1 := bI_nf.mp c_1
    refine lv_aload hx hb dX5_drive_41 (lv_at hl 1 rfl) ?_
    refine f_getN X hw (hEs jen (by omega)) fc1 0 (by decide) wn515 rfl (v := .int ((tE T jen) 0)) rfl dX5_drive_43 ?_
    refine lv_iload hx hb dX5_drive_46 (lv_at hl 0 rfl) ?_
    refine lv_icmp_eq (tgt := 55) hx hb dX5_drive_48 (by decide) (fun c_2 => ?_) (fun c_2 => ?_)
    · refine lv_iconst (v := 0) hx hb dX5_drive_55 (by decide) ?_
      exact absurd h3 (by simp [c_1, c_2])
    · refine lv_iconst (v := 1) hx hb dX5_drive_51 (by decide) ?_
      refine lv_goto (tgt := 56) hx hb dX5_drive_52 (by decide) ?_
      refine fk_dv (fcS X hw (c_rS l g ad M) wq683 kSX5_requireState ⟨(Nat.le_of_ble_eq_true rfl), (Nat.le_of_ble_eq_true rfl)⟩ rfl hl.1 rfl (Nat.le_of_ble_eq_true rfl) dX5_drive_56 ⟨Nat.le_refl _, Nat.le_refl _⟩) hw (fun H locs hw => ?_)
      refine lv_aload_n hx hb dX5_drive_59 rfl (lv_at hl 2 rfl) ?_
      refine f_get X hw hF fc6 0 (by decide) wq98 rfl (v := .ref (ad 1)) rfl dX5_drive_60 ?_
      refine lv_aload hx hb dX5_drive_63 (lv_at hl 1 rfl) ?_
      refine f_getN X hw (hEs jen (by omega)) fc1 0 (by decide) wn515 rfl (v := .int ((tE T jen) 0)) rfl dX5_drive_65 ?_
      refine lv_iload hx hb dX5_drive_68 (lv_at hl 0 rfl) ?_
      have hG4 := hG.2.2.2
      refine f_top2 (y := nI a) hea ?_
      refine fk_di (fcV X hw (c_stepsBetween l g ad M hG ha hjc) hG0 rfl wq833 kVX1_stepsBetween ⟨(Nat.le_of_ble_eq_true rfl), (Nat.le_of_ble_eq_true rfl)⟩ rfl hl.1 rfl (Nat.le_of_ble_eq_true rfl) dX5_drive_70 ⟨Nat.le_refl _, Nat.le_refl _⟩) hw (fun H locs hw => ?_)
      have hw : fw g ad (fU M 4 (.inl (gI g, 140, .inl (stepsF kf sf a jc)))) s H locs := hw
      have hF : (fU M 4 (.inl (gI g, 140, .inl (stepsF kf sf a jc)))) 0 = some (.inr (6, [.ref (ad 1), .ref (ad 1000), .ref (ad 2000)])) := (fU_n (by omega)).trans hF
      have hG0 : (fU M 4 (.inl (gI g, 140, .inl (stepsF kf sf a jc)))) 1 = some (.inr (2, [.ref (ad 2), .ref (ad 3), .ref (ad 4)])) := (fU_n (by omega)).trans hG0
      have hT0 : (fU M 4 (.inl (gI g, 140, .inl (stepsF kf sf a jc)))) 1000 = some (.inr (5, [.int (tM T), .ref (ad (1000 + 1)), .ref (ad (1000 + 2)), .ref (ad (1000 + 3))])) := (fU_n (by omega)).trans hT0
      have hTh : fList g ad (fU M 4 (.inl (gI g, 140, .inl (stepsF kf sf a jc)))) (1000 + 1) (1000 + 4) (1000 + 100) (tHn T) := fList_V hTh (fU_n (by omega)) (fU_n (by omega))
      have hTp : fList g ad (fU M 4 (.inl (gI g, 140, .inl (stepsF kf sf a jc)))) (1000 + 2) (1000 + 5) (1000 + 200) (tPn T) := fList_V hTp (fU_n (by omega)) (fU_n (by omega))
      have hTe : fList g ad (fU M 4 (.inl (gI g, 140, .inl (stepsF kf sf a jc)))) (1000 + 3) (1000 + 6) (1000 + 300) (tEn T) := fList_V hTe (fU_n (by omega)) (fU_n (by omega))
      have hT0a : (fU M 4 (.inl (gI g, 140, .inl (stepsF kf sf a jc)))) 2000 = some (.inr (5, [.int (tM A), .ref (ad (2000 + 1)), .ref (ad (2000 + 2)), .ref (ad (2000 + 3))])) := (fU_n (by omega)).trans hT0a
      have hTha : fList g ad (fU M 4 (.inl (gI g, 140, .inl (stepsF kf sf a jc)))) (2000 + 1) (2000 + 4) (2000 + 100) (tHn A) := fList_V hTha (fU_n (by omega)) (fU_n (by omega))
      have hTpa : fList g ad (fU M 4 (.inl (gI g, 140, .inl (stepsF kf sf a jc)))) (2000 + 2) (2000 + 5) (2000 + 200) (tPn A) := fList_V hTpa (fU_n (by omega)) (fU_n (by omega))
      have hTea : fList g ad (fU M 4 (.inl (gI g, 140, .inl (stepsF kf sf a jc)))) (2000 + 3) (2000 + 6) (2000 + 300) (tEn A) := fList_V hTea (fU_n (by omega)) (fU_n (by omega))
      have hG4 : (fU M 4 (.inl (gI g, 140, .inl (stepsF kf sf a jc)))) 4 = some (.inl (gI g, 140, .inl (stepsF kf sf a jc))) := fU_s
      refine lv_istore (lv' := [(6, .int (stepsR kf sf a jc)), (5, .int (nI jc)), (4, .ref (ad (1000 + 300 + jen))), (0, .ref (ad 0)), (1, .int (nI jen)), (2, .int x), (3, .int y)]) hx hb dX5_drive_73 hl (by decide) rfl (fun ls hl => ?_)
      refine lv_iload hx hb dX5_drive_75 (lv_at hl 0 rfl) ?_
      refine lv_iconst (v := (-1)) hx hb dX5_drive_77 (by decide) ?_
      refine lv_icmp_eq (tgt := 85) hx hb dX5_drive_78 (by decide) (fun c_3 => ?_) (fun c_3 => ?_)
      · refine lv_iconst (v := 0) hx hb dX5_drive_85 (by decide) ?_
        exact absurd h4 (by simp [c_1, c_2, c_3])
      · refine lv_iconst (v := 1) hx hb dX5_drive_81 (by decide) ?_
        refine lv_goto (tgt := 86) hx hb dX5_drive_82 (by decide) ?_
        refine fk_dv (fcS X hw (c_rS l g ad (fU M 4 (.inl (gI g, 140, .inl (stepsF kf sf a jc))))) wq683 kSX5_requireState ⟨(Nat.le_of_ble_eq_true rfl), (Nat.le_of_ble_eq_true rfl)⟩ rfl hl.1 rfl (Nat.le_of_ble_eq_true rfl) dX5_drive_86 ⟨Nat.le_refl _, Nat.le_refl _⟩) hw (fun H locs hw => ?_)
        refine lv_aload_n hx hb dX5_drive_89 rfl (lv_at hl 3 rfl) ?_
        refine f_get X hw hF fc6 1 (by decide) wq99 rfl (v := .ref (ad 1000)) rfl dX5_drive_90 ?_
        refine lv_iload_n hx hb dX5_drive_93 rfl (lv_at hl 4 rfl) ?_
        have hC4 := isC_S (sf2 := stepsF kf sf a jc) hC
        refine fk_tv (fcV X hw (c_takeUpHoses l g ad (fU M 4 (.inl (gI g, 140, .inl (stepsF kf sf a jc)))) hC4.1.2.2.1 (nI jen)) hT0 rfl wq850 kVX4_takeUpHosesOfAndTo ⟨(Nat.le_of_ble_eq_true rfl), (Nat.le_of_ble_eq_true rfl)⟩ rfl hl.1 rfl (Nat.le_of_ble_eq_true rfl) dX5_drive_94 ⟨Nat.le_refl _, Nat.le_refl _⟩) hw (fun M1 H locs hT1 ho1 hw => ?_)
        have hE1 := hT1.2.2.2.2.2.2.1 jen h1
        have hA1 := hT1.2.2.2.2.2.2.2.2.2.2 jen h1
        refine lv_aload hx hb dX5_drive_97 (lv_at hl 2 rfl) ?_
        refine lv_iload hx hb dX5_drive_99 (lv_at hl 1 rfl) ?_
        refine lv_iload hx hb dX5_drive_101 (lv_at hl 0 rfl) ?_
        refine fk_dv (fcV X hw (c_X0_setOut l g ad M1 hE1 (nI jc) (stepsR kf sf a jc)) hE1 rfl wq854 kVX0_setOut ⟨(Nat.le_of_ble_eq_true rfl), (Nat.le_of_ble_eq_true rfl)⟩ rfl hl.1 rfl (Nat.le_of_ble_eq_true rfl) dX5_drive_103 ⟨Nat.le_refl _, Nat.le_refl _⟩) hw (fun H locs hw => ?_)
        have hw : fw g ad (fU M1 (1000 + 300 + jen) (.inr (1, eV (eSetOut (tE (mEi (upHose (nI jen)) (tEn T) T) jen) (nI jc) (stepsR kf sf a jc))))) s H locs := hw
        have hE1 : (fU M1 (1000 + 300 + jen) (.inr (1, eV (eSetOut (tE (mEi (upHose (nI jen)) (tEn T) T) jen) (nI jc) (stepsR kf sf a jc))))) (1000 + 300 + jen) = some (.inr (1, eV (eSetOut (tE (mEi (upHose (nI jen)) (tEn T) T) jen) (nI jc) (stepsR kf sf a jc)))) := fU_s
        refine lv_aload hx hb dX5_drive_106 (lv_at hl 2 rfl) ?_
        refine f_getN X hw hE1 fc1 5 (by decide) wn527 rfl (v := .int ((eSetOut (tE (mEi (upHose (nI jen)) (tEn T) T) jen) (nI jc) (stepsR kf sf a jc)) 5)) rfl dX5_drive_108 ?_
        exact f_iret X hw (by have hTn := isTown_setE (f := eSetOut (tE (mEi (upHose (nI jen)) (tEn T) T) jen) (nI jc) (stepsR kf sf a jc)) hT1 h1 hA1; have ho : fOut 1000 _ (fU M1 (1000 + 300 + jen) (.inr (1, eV (eSetOut (tE (mEi (upHose (nI jen)) (tEn T) T) jen) (nI jc) (stepsR kf sf a jc))))) := fOut_U ho1 (by omega); exact ⟨(isC_T hC4.1 hTn ho).1, fReg_tr (fReg_w hC4.2 (by omega) (by omega)) (isC_T hC4.1 hTn ho).2, rfl, rfl⟩) (Nat.le_refl _) (Nat.le_refl _) dX5_drive_111
set_option maxHeartbeats 4000000 in
set_option maxRecDepth 100000 in
theorem c_X5_foresee (l : Launch) (g : fG) (ad : Nat → Nat) (M : fM) {T A : fTn} {kf nf sf : Nat → Int32} (hC : isC g ad M T A kf nf sf) {mi what : Int32} (h1 : inR mi 1 100 = true) (h2 : inR what 0 2 = true) {N : Nat} (hN : mi = nI N) (hN2 : N < 2 ^ 31) (hLe : leT A T) : fCi l g yX5_foresee cX5_foresee 3 ((some .int)) 9 205 (2 * (tHn T - tHn A) + 2 * (tPn T - tPn A) + 2 * (tEn T - tEn A)) (50 * (tHn T - tHn A) + 45 * (tPn T - tPn A) + 54 * (tEn T - tEn A)) ad M [.ref (ad 0), .int mi, .int what] (fCo g ad M T (goT T N).1 kf nf sf (foreR (goT T N).1 what)) := by
  refine f_body (own := RX5) (by decide +kernel) rfl (Nat.le_of_ble_eq_true rfl) ?_
  intro p e s m args below meth c ls X hw hin hl
  have hx := X.1
  have hb := X.2.1
  have hl : lv_has ls 3 [(0, .ref (ad 0)), (1, .int mi), (2, .int what)] := hl
  obtain ⟨hF, hG, hT, hTA⟩ := id hC
  have hF : M 0 = some (.inr (6, [.ref (ad 1), .ref (ad 1000), .ref (ad 2000)])) := hF
  have hG0 := hG.1
  obtain ⟨hT0, hTh, hTp, hTe, hHs, hPs, hEs, hn1, hn2, hn3, hA⟩ := id hT
  obtain ⟨hT0a, hTha, hTpa, hTea, hHsa, hPsa, hEsa, hn1a, hn2a, hn3a, hAa⟩ := id hTA
  refine lv_iload_n hx hb dX5_foresee_0 rfl (lv_at hl 1 rfl) ?_
  refine lv_iconst (v := 1) hx hb dX5_foresee_1 (by decide) ?_
  refine lv_bipush (v := 100) hx hb dX5_foresee_2 (by decide) ?_
  refine fk_dv (fcS X hw (c_rR l g ad M h1) wq254 kSX5_requireRange ⟨(Nat.le_of_ble_eq_true rfl), (Nat.le_of_ble_eq_true rfl)⟩ rfl hl.1 rfl (Nat.le_of_ble_eq_true rfl) dX5_foresee_4 ⟨(by dsimp only [fR]; omega), (by dsimp only [fR]; omega)⟩) hw (fun H locs hw => ?_)
  refine lv_iload_n hx hb dX5_foresee_7 rfl (lv_at hl 2 rfl) ?_
  refine lv_iconst (v := 2) hx hb dX5_foresee_8 (by decide) ?_
  refine fk_dv (fcS X hw (c_rQ l g ad M h2) wq188 kSX5_requireQuestion ⟨(Nat.le_of_ble_eq_true rfl), (Nat.le_of_ble_eq_true rfl)⟩ rfl hl.1 rfl (Nat.le_of_ble_eq_true rfl) dX5_foresee_9 ⟨(by dsimp only [fR]; omega), (by dsimp only [fR]; omega)⟩) hw (fun H locs hw => ?_)
  refine lv_aload_n hx hb dX5_foresee_12 rfl (lv_at hl 0 rfl) ?_
  refine f_get X hw hF fc6 2 (by decide) wq100 rfl (v := .ref (ad 2000)) rfl dX5_foresee_13 ?_
  refine lv_aload_n hx hb dX5_foresee_16 rfl (lv_at hl 0 rfl) ?_
  refine f_get X hw hF fc6 1 (by decide) wq99 rfl (v := .ref (ad 1000)) rfl dX5_foresee_17 ?_
  refine fk_v (fcV X hw (c_copyFrom l g ad M hTA hT (by omega) (by omega) (by omega) hLe.1 hLe.2.1 hLe.2.2) hT0a rfl wq393 kVX4_copyFrom ⟨(Nat.le_of_ble_eq_true rfl), (Nat.le_of_ble_eq_true rfl)⟩ rfl hl.1 rfl (Nat.le_of_ble_eq_true rfl) dX5_foresee_20 ⟨(by dsimp only [fR]; omega), (by dsimp only [fR]; omega)⟩) hw (fun ad1 M1 H locs hp hw => ?_)
  obtain ⟨hT2, hr2, hk2⟩ := hp
  have hF1 : M1 0 = some (.inr (6, [.ref (ad 1), .ref (ad 1000), .ref (ad 2000)])) := (hr2 0 (by omega) (by omega)).2.trans hF
  refine lv_aload_n hx hb dX5_foresee_23 rfl (lv_at hl 0 rfl) ?_
  refine f_adr (ad := ad1) (lb := 0) (hr2 (0) (by omega) (by omega)).1 ?_
  refine f_get X hw hF1 fc6 2 (by decide) wq100 rfl (v := .ref (ad 2000)) rfl dX5_foresee_24 ?_
  refine lv_iload_n hx hb dX5_foresee_27 rfl (lv_at hl 1 rfl) ?_
  refine f_adr2 (ad := ad1) (lb := 2000) hk2 ?_
  refine fk_ti (fcV X hw (c_goOn l g ad1 M1 hT2 hN hN2) hT2.1 rfl wq273 kVX4_goOn ⟨(Nat.le_of_ble_eq_true rfl), (Nat.le_of_ble_eq_true rfl)⟩ rfl hl.1 rfl (Nat.le_of_ble_eq_true rfl) dX5_foresee_28 ⟨(by dsimp only [fR]; omega), (by dsimp only [fR]; omega)⟩) hw (fun M2 H locs hT3 ho3 hw => ?_)
  have hF2 : M2 0 = some (.inr (6, [.ref (ad 1), .ref (ad 1000), .ref (ad 2000)])) := (ho3 0 (by omega)).trans hF1
  refine lv_pop hx hb dX5_foresee_31 rfl ?_
  refine lv_iload_n hx hb dX5_foresee_32 rfl (lv_at hl 2 rfl) ?_
  by_cases k_1 : what = 0
  · refine lv_lookup (off := 27) (tgt := 60) hx hb dX5_foresee_33 (by decide) (by rw [k_1]; decide) (by decide) ?_
    refine lv_aload_n hx hb dX5_foresee_60 rfl (lv_at hl 0 rfl) ?_
    refine f_adr (ad := ad1) (lb := 0) (hr2 (0) (by omega) (by omega)).1 ?_
    refine f_get X hw hF2 fc6 2 (by decide) wq100 rfl (v := .ref (ad 2000)) rfl dX5_foresee_61 ?_
    refine lv_iconst (v := 2) hx hb dX5_foresee_64 (by decide) ?_
    refine f_adr2 (ad := ad1) (lb := 2000) hk2 ?_
    refine fk_di (fcV X hw (c_tell l g ad1 M2 hT3 2) hT3.1 rfl wq372 kVX4_tell ⟨(Nat.le_of_ble_eq_true rfl), (Nat.le_of_ble_eq_true rfl)⟩ rfl hl.1 rfl (Nat.le_of_ble_eq_true rfl) dX5_foresee_65 ⟨(by dsimp only [fR]; omega), (by dsimp only [fR]; omega)⟩) hw (fun H locs hw => ?_)
    exact f_iret X hw (by have q := isC_A hC hT3 (fReg_tr hr2 (fReg_out ho3)) hk2; exact ⟨q.1, q.2, (hr2 0 (by omega) (by omega)).1, by rw [k_1]; rfl⟩) (by omega) (by omega) dX5_foresee_68
  by_cases k_2 : what = 1
  · refine lv_lookup (off := 36) (tgt := 69) hx hb dX5_foresee_33 (by decide) (by rw [k_2]; decide) (by decide) ?_
    refine lv_aload_n hx hb dX5_foresee_69 rfl (lv_at hl 0 rfl) ?_
    refine f_adr (ad := ad1) (lb := 0) (hr2 (0) (by omega) (by omega)).1 ?_
    refine f_get X hw hF2 fc6 2 (by decide) wq100 rfl (v := .ref (ad 2000)) rfl dX5_foresee_70 ?_
    refine lv_iconst (v := 4) hx hb dX5_foresee_73 (by decide) ?_
    refine f_adr2 (ad := ad1) (lb := 2000) hk2 ?_
    refine fk_di (fcV X hw (c_tell l g ad1 M2 hT3 4) hT3.1 rfl wq372 kVX4_tell ⟨(Nat.le_of_ble_eq_true rfl), (Nat.le_of_ble_eq_true rfl)⟩ rfl hl.1 rfl (Nat.le_of_ble_eq_true rfl) dX5_foresee_74 ⟨(by dsimp only [fR]; omega), (by dsimp only [fR]; omega)⟩) hw (fun H locs hw => ?_)
    exact f_iret X hw (by have q := isC_A hC hT3 (fReg_tr hr2 (fReg_out ho3)) hk2; exact ⟨q.1, q.2, (hr2 0 (by omega) (by omega)).1, by rw [k_2]; rfl⟩) (by omega) (by omega) dX5_foresee_77
  refine lv_lookup (off := 45) (tgt := 78) hx hb dX5_foresee_33 (by decide) (by rw [lv_osw k_1 (a := 0) rfl]; rw [lv_osw k_2 (a := 1) rfl]; rfl) (by decide) ?_
  refine lv_aload_n hx hb dX5_foresee_78 rfl (lv_at hl 0 rfl) ?_
  refine f_adr (ad := ad1) (lb := 0) (hr2 (0) (by omega) (by omega)).1 ?_
  refine f_get X hw hF2 fc6 2 (by decide) wq100 rfl (v := .ref (ad 2000)) rfl dX5_foresee_79 ?_
  refine lv_bipush (v := 8) hx hb dX5_foresee_82 (by decide) ?_
  refine f_adr2 (ad := ad1) (lb := 2000) hk2 ?_
  refine fk_di (fcV X hw (c_tell l g ad1 M2 hT3 8) hT3.1 rfl wq372 kVX4_tell ⟨(Nat.le_of_ble_eq_true rfl), (Nat.le_of_ble_eq_true rfl)⟩ rfl hl.1 rfl (Nat.le_of_ble_eq_true rfl) dX5_foresee_84 ⟨(by dsimp only [fR]; omega), (by dsimp only [fR]; omega)⟩) hw (fun H locs hw => ?_)
  exact f_iret X hw (by have q := isC_A hC hT3 (fReg_tr hr2 (fReg_out ho3)) hk2; exact ⟨q.1, q.2, (hr2 0 (by omega) (by omega)).1, by simp only [foreR, k_1, k_2, if_false]⟩) (by omega) (by omega) dX5_foresee_87
set_option maxHeartbeats 4000000 in
set_option maxRecDepth 100000 in
theorem c_X5_lasts (l : Launch) (g : fG) (ad : Nat → Nat) (M : fM) {T A : fTn} {kf nf sf : Nat → Int32} (hC : isC g ad M T A kf nf sf) (hLe : leT A T) : fCi l g yX5_lasts cX5_lasts 2 ((some .int)) 9 205 (2 * (tHn T - tHn A) + 2 * (tPn T - tPn A) + 2 * (tEn T - tEn A)) (50 * (tHn T - tHn A) + 45 * (tPn T - tPn A) + 54 * (tEn T - tEn A)) ad M [.ref (ad 0)] (fCo g ad M T (goT T (firstN (restsP T) 201)).1 kf nf sf (jFirst (restsP T) 201)) := by
  refine f_body (own := RX5) (by decide +kernel) rfl (Nat.le_of_ble_eq_true rfl) ?_
  intro p e s m args below meth c ls X hw hin hl
  have hx := X.1
  have hb := X.2.1
  have hl : lv_has ls 2 [(0, .ref (ad 0))] := hl
  obtain ⟨hF, hG, hT, hTA⟩ := id hC
  have hF : M 0 = some (.inr (6, [.ref (ad 1), .ref (ad 1000), .ref (ad 2000)])) := hF
  have hG0 := hG.1
  obtain ⟨hT0, hTh, hTp, hTe, hHs, hPs, hEs, hn1, hn2, hn3, hA⟩ := id hT
  obtain ⟨hT0a, hTha, hTpa, hTea, hHsa, hPsa, hEsa, hn1a, hn2a, hn3a, hAa⟩ := id hTA
  refine lv_aload_n hx hb dX5_lasts_0 rfl (lv_at hl 0 rfl) ?_
  refine f_get X hw hF fc6 2 (by decide) wq100 rfl (v := .ref (ad 2000)) rfl dX5_lasts_1 ?_
  refine lv_aload_n hx hb dX5_lasts_4 rfl (lv_at hl 0 rfl) ?_
  refine f_get X hw hF fc6 1 (by decide) wq99 rfl (v := .ref (ad 1000)) rfl dX5_lasts_5 ?_
  refine fk_v (fcV X hw (c_copyFrom l g ad M hTA hT (by omega) (by omega) (by omega) hLe.1 hLe.2.1 hLe.2.2) hT0a rfl wq393 kVX4_copyFrom ⟨(Nat.le_of_ble_eq_true rfl), (Nat.le_of_ble_eq_true rfl)⟩ rfl hl.1 rfl (Nat.le_of_ble_eq_true rfl) dX5_lasts_8 ⟨(by dsimp only [fR]; omega), (by dsimp only [fR]; omega)⟩) hw (fun ad1 M1 H locs hp hw => ?_)
  obtain ⟨hT2, hr2, hk2⟩ := hp
  have hF1 : M1 0 = some (.inr (6, [.ref (ad 1), .ref (ad 1000), .ref (ad 2000)])) := (hr2 0 (by omega) (by omega)).2.trans hF
  refine lv_iconst (v := 0) hx hb dX5_lasts_11 (by decide) ?_
  refine lv_istore_n (lv' := [(1, .int 0), (0, .ref (ad 0))]) hx hb dX5_lasts_12 rfl hl (by decide) rfl (fun ls hl => ?_)
  have loop13 : ∀ (n k : Nat), k ≤ 201 → 201 < k + n → ∀ (M9 : fM) (hT3 : isTown g ad1 M9 2000 (goT T k).1) (ho3 : fOut 2000 M1 M9) (hg : ∀ j, j < k → restsP T j = false) (ls : Array Slot) (H : Heap) (locs : List Loc), fw g ad1 M9 s H locs → lv_has ls 2 [(1, .int (nI k)), (0, .ref (ad 0))] → W p l e (fR 9 205 (2 * (tHn T - tHn A) + 2 * (tPn T - tPn A) + 2 * (tEn T - tEn A)) (50 * (tHn T - tHn A) + 45 * (tPn T - tPn A) + 54 * (tEn T - tEn A))) s m args below meth c H locs (0 + (2 * (tHn T - tHn A) + 2 * (tPn T - tPn A) + 2 * (tEn T - tEn A))) (0 + (50 * (tHn T - tHn A) + 45 * (tPn T - tPn A) + 54 * (tEn T - tEn A))) (MQ below (fQi g (fCo g ad M T (goT T (firstN (restsP T) 201)).1 kf nf sf (jFirst (restsP T) 201))) args s (2 * (tHn T - tHn A) + 2 * (tPn T - tPn A) + 2 * (tEn T - tEn A)) (50 * (tHn T - tHn A) + 45 * (tPn T - tPn A) + 54 * (tEn T - tEn A)) (fA g)) (F0 m 13 ls []) := by
    intro n
    induction n with
    | zero => intro k h1 h2; omega
    | succ n ih =>
      intro k hk_ hn_ M9 hT3 ho3 hg ls H locs hw hl
      have hF9 : M9 0 = some (.inr (6, [.ref (ad 1), .ref (ad 1000), .ref (ad 2000)])) := (ho3 0 (by omega)).trans hF1
      refine lv_iload_n hx hb dX5_lasts_13 rfl (lv_at hl 0 rfl) ?_
      refine lv_sipush (v := 200) hx hb dX5_lasts_14 (by decide) ?_
      refine lv_icmp_gt (tgt := 48) hx hb dX5_lasts_17 (by decide) (fun c_1 => ?_) (fun c_1 => ?_)
      · have c_1 := nI_lt' (a := 200) (b := k) c_1 (by omega) (by omega)
        refine lv_iconst (v := (-1)) hx hb dX5_lasts_48 (by decide) ?_
        exact f_iret X hw (by have e8 : k = 201 := (by omega); have e9 : firstN (restsP T) 201 = k := (by rw [e8]; exact firstN_none (fun j hj => hg j (by omega))); rw [← e9] at hT3; have q := isC_A hC hT3 (fReg_tr hr2 (fReg_out ho3)) hk2; exact ⟨q.1, q.2, (hr2 0 (by omega) (by omega)).1, jFirst_none (fun j hj => hg j (by omega))⟩) (by omega) (by omega) dX5_lasts_49
      · have c_1 := nI_nlt' (a := 200) (b := k) c_1 (by omega) (by omega)
        refine lv_aload_n hx hb dX5_lasts_20 rfl (lv_at hl 1 rfl) ?_
        refine f_adr (ad := ad1) (lb := 0) (hr2 (0) (by omega) (by omega)).1 ?_
        refine f_get X hw hF9 fc6 2 (by decide) wq100 rfl (v := .ref (ad 2000)) rfl dX5_lasts_21 ?_
        refine lv_iconst (v := 1) hx hb dX5_lasts_24 (by decide) ?_
        refine f_adr2 (ad := ad1) (lb := 2000) hk2 ?_
        refine fk_di (fcV X hw (c_housesThatAre l g ad1 M9 hT3 1) hT3.1 rfl wq570 kVX4_housesThatAre ⟨(Nat.le_of_ble_eq_true rfl), (Nat.le_of_ble_eq_true rfl)⟩ rfl hl.1 rfl (Nat.le_of_ble_eq_true rfl) dX5_lasts_25 ⟨(by dsimp only [fR]; omega), (by dsimp only [fR]; omega)⟩) hw (fun H locs hw => ?_)
        refine lv_if_ne (tgt := 33) hx hb dX5_lasts_28 (by decide) (fun c_2 => ?_) (fun c_2 => ?_)
        · refine lv_aload_n hx hb dX5_lasts_33 rfl (lv_at hl 1 rfl) ?_
          refine f_adr (ad := ad1) (lb := 0) (hr2 (0) (by omega) (by omega)).1 ?_
          refine f_get X hw hF9 fc6 2 (by decide) wq100 rfl (v := .ref (ad 2000)) rfl dX5_lasts_34 ?_
          refine lv_iconst (v := 1) hx hb dX5_lasts_37 (by decide) ?_
          refine f_adr2 (ad := ad1) (lb := 2000) hk2 ?_
          refine fk_ti (fcV X hw (c_goOn l g ad1 M9 hT3 (N := 1) rfl (by omega)) hT3.1 rfl wq273 kVX4_goOn ⟨(Nat.le_of_ble_eq_true rfl), (Nat.le_of_ble_eq_true rfl)⟩ rfl hl.1 rfl (Nat.le_of_ble_eq_true rfl) dX5_lasts_38 ⟨(by dsimp only [fR]; omega), (by dsimp only [fR]; omega)⟩) hw (fun M8 H locs hT4 ho4 hw => ?_)
          refine lv_pop hx hb dX5_lasts_41 rfl ?_
          refine lv_iinc (v := nI (k + 1)) (lv' := [(1, .int (nI (k + 1))), (0, .ref (ad 0))]) hx hb dX5_lasts_42 hl (k := 0) rfl (nI_1 k) (by decide) rfl (fun ls hl => ?_)
          refine lv_goto (tgt := 13) hx hb dX5_lasts_45 (by decide) ?_
          exact ih (k + 1) (by omega) (by omega) M8 hT4 (fOut_tr ho3 ho4) (f_lts hg (by simp [restsP, c_2])) ls _ _ hw (lv_sub hl [0, 1] rfl)
        · refine lv_iload_n hx hb dX5_lasts_31 rfl (lv_at hl 0 rfl) ?_
          exact f_iret X hw (by have e9 : firstN (restsP T) 201 = k := firstN_at (show k < 201 by omega) (by simp [restsP, c_2]) hg; rw [← e9] at hT3; have q := isC_A hC hT3 (fReg_tr hr2 (fReg_out ho3)) hk2; exact ⟨q.1, q.2, (hr2 0 (by omega) (by omega)).1, jFirst_at (show k < 201 by omega) (by simp [restsP, c_2]) hg⟩) (by omega) (by omega) dX5_lasts_32
  exact loop13 202 0 (by omega) (by omega) M1 hT2 fOut_rf (fun j h => absurd h (Nat.not_lt_zero _)) ls _ _ hw (lv_sub hl [0, 1] rfl)
