/-! each call, case by case: the class and the reference answer alike -/
theorem add_nn {c q : Int32} (h0 : 0 ≤ c) (h1 : c ≤ 200) (h2 : inR q 1 100 = true) : 0 ≤ c + q := by
  obtain ⟨N, n1, n2, e⟩ := inR_ex (n := 1) (m := 100) h2 rfl rfl (by omega) (by omega)
  rw [sw_le, z0] at h0
  rw [sw_le, show (200 : Int32).toInt = 200 from rfl] at h1
  rw [sw_le, z0, e, Int32.toInt_add, nI_toInt (by omega), Int.bmod_eq_of_le] <;> omega
set_option maxHeartbeats 4000000 in
set_option maxRecDepth 100000 in
theorem wr_drive_x2g (l : Launch) (g : fG) (ad : Nat → Nat) (M : fM) {T A : fTn} {kf nf sf : Nat → Int32} (hC : isC g ad M T A kf nf sf) (hLe : leT A T) {f : Nat → Int64} (hO : M 3032 = some (oCell g f)) {a0 a1 a2 : Int32} {fr lo : Nat} {M2 : fM} {sf2 : Nat → Int32} (hC2 : isC g ad M2 T A kf nf sf2) (hO2 : ∀ l, 3000 ≤ l → M2 l = M l) (hX : fXt l g yX5_drive cX5_drive 7 (some .int) fr lo ad M [.ref (ad 0), .int a0, .int a1, .int a2] ISE ad M2) (b1 : fr ≤ 9) (b2 : lo ≤ 225) : vx_Met l yL_drive (fWsH yL_drive cL_drive 6 (some .int) [(0, 12, 15, 13), (0, 12, 19, 17)]) (fR 10 260 90 2200) (va_Pc [.ref (ad 0), .int a0, .int a1, .int a2, .ref (ad 3032)] (fSL g ad M)) (fQi g (fWr g ad M T kf nf 2 f)) fNX 90 2200 (fA g) := by
  refine f_bodyH (own := RL) (by decide +kernel) rfl (Nat.le_of_ble_eq_true rfl) ?_
  intro p e s m args below meth c ls X hnc ht hw hl
  have hx := X.1
  have hb := X.2.1
  have hM0 : M 0 = some (.inr (6, [.ref (ad 1), .ref (ad 1000), .ref (ad 2000)])) := hC.1
  have hl : lv_has ls 6 [(0, .ref (ad 0)), (1, .int a0), (2, .int a1), (3, .int a2), (4, .ref (ad 3032))] := hl
  refine lv_aload hx hb dL_drive_0 (lv_at hl 4 rfl) ?_
  refine lv_iconst (v := 0) hx hb dL_drive_2 (by decide) ?_
  refine lv_aload_n hx hb dL_drive_3 rfl (lv_at hl 0 rfl) ?_
  refine lv_iload_n hx hb dL_drive_4 rfl (lv_at hl 1 rfl) ?_
  refine lv_iload_n hx hb dL_drive_5 rfl (lv_at hl 2 rfl) ?_
  refine lv_iload_n hx hb dL_drive_6 rfl (lv_at hl 3 rfl) ?_
  refine fk_c X (fxV X hw hX hM0 rfl wq677 kVX5_drive ⟨by dsimp only [fR]; omega, by dsimp only [fR]; omega⟩ rfl hl.1 rfl (Nat.le_of_ble_eq_true rfl) dL_drive_7 ⟨by dsimp only [fR]; omega, by dsimp only [fR]; omega⟩) hw [⟨0, 12, 15, 13⟩] ⟨0, 12, 19, 17⟩ [] (by rw [ht]; rfl) (fun z hz => by
        simp only [List.mem_cons, List.not_mem_nil, or_false] at hz
        rcases hz with rfl
        · exact Or.inr ⟨by decide, IOO, X.2.2.2.2.1 _ wq457, hnc.2.1⟩) (by decide) (by decide) wq459 wn585 (fun q H locs hw => ?_)
  refine lv_astore (lv' := [(5, .ref q), (0, .ref (ad 0)), (1, .int a0), (2, .int a1), (3, .int a2), (4, .ref (ad 3032))]) hx hb dL_drive_19 hl (by decide) rfl (fun ls hl => ?_)
  refine lv_iconst (v := 2) hx hb dL_drive_21 (by decide) ?_
  exact vx_ret (f_iret X hw ⟨⟨A, sf2, hC2, hLe⟩, fun l a b => ⟨rfl, hO2 l a⟩, ⟨rfl, rfl⟩, (hO2 3032 (by omega)).trans hO, rfl⟩ (by omega) (by omega) dL_drive_22)
set_option maxHeartbeats 4000000 in
theorem cs_build (l : Launch) (hst : l.stackTraces = false) (g : fG) {T A : fTn} {kf nf sf : Nat → Int32} {th : Int32} {U : fTn} {sp ca : Nat → Int32} (hS : simT U T) (hT : okT kf T) (hG : gOk kf nf T) (hLe : leT A T) (f : Nat → Int64) (a0 a1 a2 a3 : Int32) :
    ∃ (k b2 : Int32) (f2 : Nat → Int64) (T2 : fTn) (kf2 nf2 : Nat → Int32) (fr2 lo2 mc2 ms2 : Nat), okT kf2 T2 ∧ gOk kf2 nf2 T2 ∧
      (∀ (ad : Nat → Nat) (M : fM), isC g ad M T A kf nf sf → M 3032 = some (oCell g f) → vx_Met l yL_build (fWsH yL_build cL_build 7 (some .int) [(0, 14, 17, 13), (0, 14, 21, 15), (0, 14, 25, 17)]) (fR 10 260 90 2200) (va_Pc [.ref (ad 0), .int a0, .int a1, .int a2, .int a3, .ref (ad 3032)] (fSL g ad M)) (fQi g (fWr g ad M T2 kf2 nf2 k f2)) fNX 90 2200 (fA g)) ∧
      (∀ (ad : Nat → Nat) (M : fM), isMo g ad M th U sp ca → fCi l g yX6_build cX6_build 6 (some .int) fr2 lo2 mc2 ms2 ad M [.ref (ad 5), .int a0, .int a1, .int a2, .int a3] (fRp g ad M T2 k b2)) ∧ fr2 ≤ 8 ∧ lo2 ≤ 190 ∧ mc2 ≤ 35 ∧ ms2 ≤ 395 ∧ (k = 0 → f2 0 = b2.toInt64) := by
  obtain ⟨⟨n0, n1, n2, n3⟩, sP, sH0, sE0⟩ := id hS
  obtain ⟨oH, oP, oE, oZ, ⟨rk, oR⟩, o1, o2, o3⟩ := id hT
  rcases h1 : aOn a0 a1 with - | -
  · exact ⟨1, 0, f, T, kf, nf, 7, 170, 0, 0, hT, hG, fun ad M hC hO => wr_build_x1 l g ad M hC hLe hO (x_X5_build_1 l hst g ad M hC h1) (by omega) (by omega), fun ad M hM => fCi_mono (x_m_build_1 l g ad M hM h1) (rp_Mi hS), by omega, by omega, by omega, by omega, fun z => absurd z (by decide)⟩
  obtain ⟨jc, hjc, hxy⟩ := aOn_ix h1
  rcases h2 : inR a2 1 9 with - | -
  · exact ⟨2, 0, f, T, kf, nf, 7, 170, 0, 0, hT, hG, fun ad M hC hO => wr_build_x2 l g ad M hC hLe hO (x_X5_build_2 l hst g ad M hC h1 hjc hxy h2) (by omega) (by omega), fun ad M hM => fCi_mono (x_m_build_2 l g ad M hM h1 (by rw [h2]; rfl)) (rp_Mi hS), by omega, by omega, by omega, by omega, fun z => absurd z (by decide)⟩
  rcases h3 : inR a3 1 60 with - | -
  · exact ⟨2, 0, f, T, kf, nf, 7, 170, 0, 0, hT, hG, fun ad M hC hO => wr_build_x2 l g ad M hC hLe hO (x_X5_build_3 l hst g ad M hC h1 hjc hxy h2 h3) (by omega) (by omega), fun ad M hM => fCi_mono (x_m_build_2 l g ad M hM h1 (by rw [h2, h3]; rfl)) (rp_Mi hS), by omega, by omega, by omega, by omega, fun z => absurd z (by decide)⟩
  have eF : (decide (¬ tHn U = 30) && frF U (a0 + 14 * a1) (tEn U)) = (freeB kf T (nI jc) && decide (tHn T < 30)) := by rw [hxy, free_same hS hG oE o1 o2 o3 hjc, n1, Bool.and_comm]; congr 1; exact decide_eq_decide.mpr (by omega)
  rcases h4 : (freeB kf T (nI jc) && decide (tHn T < 30)) with - | -
  · exact ⟨3, 0, f, T, kf, nf, 7, 170, 0, 0, hT, hG, fun ad M hC hO => wr_build_x3 l g ad M hC hLe hO (x_X5_build_4 l hst g ad M hC h1 hjc hxy h2 h3 h4) (by omega) (by omega), fun ad M hM => fCi_mono (x_m_build_3 l g ad M hM h1 h2 h3 (eF.trans h4)) (rp_Mi hS), by omega, by omega, by omega, by omega, fun z => absurd z (by decide)⟩
  have h5 := h4
  have h6 := eF.trans h4
  simp only [Bool.and_eq_true, decide_eq_true_eq] at h5 h6
  exact ⟨0, nI (tHn U), vp_updL f 0 (nI (tHn T)).toInt64, addH T (newH (nI jc) a2 a3), upd kf jc 1, upd nf jc (nI (tHn T)), 7, 170, 1, 7, ok_addH hT hjc h5.1 h5.2, g_addH hG hjc (free_un hjc o3 h5.1).1, fun ad M hC hO => wr_build_ok l g ad M hC hO (fCi_mono (c_X5_build l g ad M hC h1 hjc hxy h2 h3 h4) (cu_Co ⟨Nat.le_succ_of_le hLe.1, hLe.2⟩)) (by omega) (by omega) (by omega) (by omega), fun ad M hM => fCi_mono (c_m_build l g ad M hM h1 h2 h3 h6.1 h6.2) (rp_Mn (by rw [hxy]; exact sim_addH hS)), by omega, by omega, by omega, by omega, fun _ => pk_uLs.trans (by rw [n1])⟩
set_option maxHeartbeats 4000000 in
theorem cs_dig (l : Launch) (hst : l.stackTraces = false) (g : fG) {T A : fTn} {kf nf sf : Nat → Int32} {th : Int32} {U : fTn} {sp ca : Nat → Int32} (hS : simT U T) (hT : okT kf T) (hG : gOk kf nf T) (hLe : leT A T) (f : Nat → Int64) (a0 a1 a2 : Int32) :
    ∃ (k b2 : Int32) (f2 : Nat → Int64) (T2 : fTn) (kf2 nf2 : Nat → Int32) (fr2 lo2 mc2 ms2 : Nat), okT kf2 T2 ∧ gOk kf2 nf2 T2 ∧
      (∀ (ad : Nat → Nat) (M : fM), isC g ad M T A kf nf sf → M 3032 = some (oCell g f) → vx_Met l yL_dig (fWsH yL_dig cL_dig 6 (some .int) [(0, 12, 15, 13), (0, 12, 19, 15), (0, 12, 23, 17)]) (fR 10 260 90 2200) (va_Pc [.ref (ad 0), .int a0, .int a1, .int a2, .ref (ad 3032)] (fSL g ad M)) (fQi g (fWr g ad M T2 kf2 nf2 k f2)) fNX 90 2200 (fA g)) ∧
      (∀ (ad : Nat → Nat) (M : fM), isMo g ad M th U sp ca → fCi l g yX6_dig cX6_dig 4 (some .int) fr2 lo2 mc2 ms2 ad M [.ref (ad 5), .int a0, .int a1, .int a2] (fRp g ad M T2 k b2)) ∧ fr2 ≤ 8 ∧ lo2 ≤ 190 ∧ mc2 ≤ 35 ∧ ms2 ≤ 395 ∧ (k = 0 → f2 0 = b2.toInt64) := by
  obtain ⟨⟨n0, n1, n2, n3⟩, sP, sH0, sE0⟩ := id hS
  obtain ⟨oH, oP, oE, oZ, ⟨rk, oR⟩, o1, o2, o3⟩ := id hT
  rcases h1 : aOn a0 a1 with - | -
  · exact ⟨1, 0, f, T, kf, nf, 7, 170, 0, 0, hT, hG, fun ad M hC hO => wr_dig_x1 l g ad M hC hLe hO (x_X5_dig_1 l hst g ad M hC h1) (by omega) (by omega), fun ad M hM => fCi_mono (x_m_dig_1 l g ad M hM h1) (rp_Mi hS), by omega, by omega, by omega, by omega, fun z => absurd z (by decide)⟩
  obtain ⟨jc, hjc, hxy⟩ := aOn_ix h1
  rcases h2 : inR a2 0 5000 with - | -
  · exact ⟨2, 0, f, T, kf, nf, 7, 170, 0, 0, hT, hG, fun ad M hC hO => wr_dig_x2 l g ad M hC hLe hO (x_X5_dig_2 l hst g ad M hC h1 hjc hxy h2) (by omega) (by omega), fun ad M hM => fCi_mono (x_m_dig_2 l g ad M hM h1 h2) (rp_Mi hS), by omega, by omega, by omega, by omega, fun z => absurd z (by decide)⟩
  have eF : (decide (¬ tPn U = 6) && frF U (a0 + 14 * a1) (tEn U)) = (freeB kf T (nI jc) && decide (tPn T < 6)) := by rw [hxy, free_same hS hG oE o1 o2 o3 hjc, n2, Bool.and_comm]; congr 1; exact decide_eq_decide.mpr (by omega)
  rcases h4 : (freeB kf T (nI jc) && decide (tPn T < 6)) with - | -
  · exact ⟨3, 0, f, T, kf, nf, 7, 170, 0, 0, hT, hG, fun ad M hC hO => wr_dig_x3 l g ad M hC hLe hO (x_X5_dig_3 l hst g ad M hC h1 hjc hxy h2 h4) (by omega) (by omega), fun ad M hM => fCi_mono (x_m_dig_3 l g ad M hM h1 h2 (eF.trans h4)) (rp_Mi hS), by omega, by omega, by omega, by omega, fun z => absurd z (by decide)⟩
  have h5 := h4
  have h6 := eF.trans h4
  simp only [Bool.and_eq_true, decide_eq_true_eq] at h5 h6
  exact ⟨0, nI (tPn U), vp_updL f 0 (nI (tPn T)).toInt64, addP T (newP (nI jc) a2), upd kf jc 2, upd nf jc (nI (tPn T)), 7, 170, 0, 0, ok_addP hT hjc h5.1 h5.2 (Int32.not_lt.mp (inR_1 h2)), g_addP hG hjc (free_un hjc o3 h5.1).1, fun ad M hC hO => wr_dig_ok l g ad M hC hO (fCi_mono (c_X5_dig l g ad M hC h1 hjc hxy h2 h4) (cu_Co ⟨hLe.1, Nat.le_succ_of_le hLe.2.1, hLe.2.2⟩)) (by omega) (by omega) (by omega) (by omega), fun ad M hM => fCi_mono (c_m_dig l g ad M hM h1 h2 h6.1 h6.2) (rp_Mi (by rw [hxy]; exact sim_addP hS)), by omega, by omega, by omega, by omega, fun _ => pk_uLs.trans (by rw [n2])⟩
set_option maxHeartbeats 4000000 in
theorem cs_light (l : Launch) (hst : l.stackTraces = false) (g : fG) {T A : fTn} {kf nf sf : Nat → Int32} {th : Int32} {U : fTn} {sp ca : Nat → Int32} (hS : simT U T) (hT : okT kf T) (hG : gOk kf nf T) (hLe : leT A T) (f : Nat → Int64) (a0 a1 : Int32) :
    ∃ (k b2 : Int32) (f2 : Nat → Int64) (T2 : fTn) (kf2 nf2 : Nat → Int32) (fr2 lo2 mc2 ms2 : Nat), okT kf2 T2 ∧ gOk kf2 nf2 T2 ∧
      (∀ (ad : Nat → Nat) (M : fM), isC g ad M T A kf nf sf → M 3032 = some (oCell g f) → vx_Met l yL_light (fWsH yL_light cL_light 5 (some .int) [(0, 10, 13, 13), (0, 10, 17, 15), (0, 10, 21, 17)]) (fR 10 260 90 2200) (va_Pc [.ref (ad 0), .int a0, .int a1, .ref (ad 3032)] (fSL g ad M)) (fQi g (fWr g ad M T2 kf2 nf2 k f2)) fNX 90 2200 (fA g)) ∧
      (∀ (ad : Nat → Nat) (M : fM), isMo g ad M th U sp ca → fCi l g yX6_light cX6_light 3 (some .int) fr2 lo2 mc2 ms2 ad M [.ref (ad 5), .int a0, .int a1] (fRp g ad M T2 k b2)) ∧ fr2 ≤ 8 ∧ lo2 ≤ 190 ∧ mc2 ≤ 35 ∧ ms2 ≤ 395 ∧ (k = 0 → f2 0 = b2.toInt64) := by
  obtain ⟨⟨n0, n1, n2, n3⟩, sP, sH0, sE0⟩ := id hS
  obtain ⟨oH, oP, oE, oZ, ⟨rk, oR⟩, o1, o2, o3⟩ := id hT
  rcases h1 : isIx (tHn T) a0 with - | -
  · exact ⟨1, 0, f, T, kf, nf, 7, 170, 0, 0, hT, hG, fun ad M hC hO => wr_light_x1 l g ad M hC hLe hO (x_X5_light_1 l hst g ad M hC h1) (by omega) (by omega), fun ad M hM => fCi_mono (x_m_light_1 l g ad M hM (by rw [n1]; exact h1)) (rp_Mi hS), by omega, by omega, by omega, by omega, fun z => absurd z (by decide)⟩
  obtain ⟨j, hj, rfl⟩ := isIx_t h1 (by omega)
  rcases h2 : inR a1 1 99 with - | -
  · exact ⟨2, 0, f, T, kf, nf, 7, 170, 0, 0, hT, hG, fun ad M hC hO => wr_light_x2 l g ad M hC hLe hO (x_X5_light_2 l hst g ad M hC hj h2) (by omega) (by omega), fun ad M hM => fCi_mono (x_m_light_2 l g ad M hM (by omega) h2) (rp_Mi hS), by omega, by omega, by omega, by omega, fun z => absurd z (by decide)⟩
  rcases h3 : decide (tH T j 3 = 0) with - | -
  · exact ⟨3, 0, f, T, kf, nf, 7, 170, 0, 0, hT, hG, fun ad M hC hO => wr_light_x3 l g ad M hC hLe hO (x_X5_light_3 l hst g ad M hC hj h2 h3) (by omega) (by omega), fun ad M hM => fCi_mono (x_m_light_3 l g ad M hM (by omega) h2 (by rw [sH0 j hj 3 (by omega)]; exact of_decide_eq_false h3)) (rp_Mi hS), by omega, by omega, by omega, by omega, fun z => absurd z (by decide)⟩
  have hs2 : simT (sH U j (upd (upd (tH U j) 3 1) 4 a1)) (sH T j (upd (upd (tH T j) 3 1) 4 a1)) := sim_sH hS (upd_cong (upd_cong (sH0 j hj)))
  exact ⟨0, cntH (tH (sH U j (upd (upd (tH U j) 3 1) 4 a1))) 1 (tHn U), vp_updL f 0 (cntH (tH (sH T j (upd (upd (tH T j) 3 1) 4 a1))) 1 (tHn T)).toInt64, sH T j (upd (upd (tH T j) 3 1) 4 a1), kf, nf, 7, 170, 0, 0, ok_light hT, gOk_of hG rfl rfl (fun q _ => by show (if q = j then upd (upd (tH T j) 3 1) 4 a1 else tH T q) 0 = _; by_cases z : q = j; (rw [if_pos z, z]; rfl); rw [if_neg z]) (fun _ _ => rfl), fun ad M hC hO => wr_light_ok l g ad M hC hO (fCi_mono (c_X5_light l g ad M hC hj h2 h3) (cu_Co (show leT A _ from hLe))) (by omega) (by omega) (by omega) (by omega), fun ad M hM => fCi_mono (c_m_light l g ad M hM (by omega) h2 (by rw [sH0 j hj 3 (by omega)]; exact of_decide_eq_true h3)) (rp_Mi hs2), by omega, by omega, by omega, by omega, fun _ => pk_uLs.trans (congrArg Int32.toInt64 (cnt_same hs2).symm)⟩
set_option maxHeartbeats 4000000 in
theorem cs_cell (l : Launch) (hst : l.stackTraces = false) (g : fG) {T A : fTn} {kf nf sf : Nat → Int32} {th : Int32} {U : fTn} {sp ca : Nat → Int32} (hS : simT U T) (hT : okT kf T) (hG : gOk kf nf T) (hLe : leT A T) (f : Nat → Int64) (a0 a1 a2 : Int32) :
    ∃ (k b2 : Int32) (f2 : Nat → Int64) (T2 : fTn) (kf2 nf2 : Nat → Int32) (fr2 lo2 mc2 ms2 : Nat), okT kf2 T2 ∧ gOk kf2 nf2 T2 ∧
      (∀ (ad : Nat → Nat) (M : fM), isC g ad M T A kf nf sf → M 3032 = some (oCell g f) → vx_Met l yL_cell (fWsH yL_cell cL_cell 6 (some .int) [(0, 12, 15, 13)]) (fR 10 260 90 2200) (va_Pc [.ref (ad 0), .int a0, .int a1, .int a2, .ref (ad 3032)] (fSL g ad M)) (fQi g (fWr g ad M T2 kf2 nf2 k f2)) fNX 90 2200 (fA g)) ∧
      (∀ (ad : Nat → Nat) (M : fM), isMo g ad M th U sp ca → fCi l g yX6_cell cX6_cell 7 (some .int) fr2 lo2 mc2 ms2 ad M [.ref (ad 5), .int a0, .int a1, .int a2] (fRp g ad M T2 k b2)) ∧ fr2 ≤ 8 ∧ lo2 ≤ 190 ∧ mc2 ≤ 35 ∧ ms2 ≤ 395 ∧ (k = 0 → f2 0 = b2.toInt64) := by
  obtain ⟨⟨n0, n1, n2, n3⟩, sP, sH0, sE0⟩ := id hS
  obtain ⟨oH, oP, oE, oZ, ⟨rk, oR⟩, o1, o2, o3⟩ := id hT
  rcases h1 : aOn a0 a1 with - | -
  · exact ⟨1, 0, f, T, kf, nf, 7, 170, 0, 0, hT, hG, fun ad M hC hO => wr_cell_x1 l g ad M hC hLe hO (x_X5_cell_1 l hst g ad M hC h1) (by omega) (by omega), fun ad M hM => fCi_mono (x_m_cell_1 l g ad M hM h1) (rp_Mi hS), by omega, by omega, by omega, by omega, fun z => absurd z (by decide)⟩
  obtain ⟨jc, hjc, hxy⟩ := aOn_ix h1
  rcases h2 : inR a2 0 3 with - | -
  · exact ⟨1, 0, f, T, kf, nf, 7, 170, 0, 0, hT, hG, fun ad M hC hO => wr_cell_x1 l g ad M hC hLe hO (x_X5_cell_2 l hst g ad M hC h1 hjc hxy h2) (by omega) (by omega), fun ad M hM => fCi_mono (x_m_cell_2 l g ad M hM h1 h2) (rp_Mi hS), by omega, by omega, by omega, by omega, fun z => absurd z (by decide)⟩
  exact ⟨0, mCell U (a0 + 14 * a1) a2, vp_updL f 0 (cellR kf nf T (nI jc) a2).toInt64, T, kf, nf, 7, 170, 0, 0, hT, hG, fun ad M hC hO => wr_cell_ok l g ad M hC hO (fCi_mono (c_X5_cell l g ad M hC h1 hjc hxy h2) (cu_Di hC hLe)) (by omega) (by omega) (by omega) (by omega), fun ad M hM => fCi_mono (c_m_cell l g ad M hM h1 h2) (rp_Mi hS), by omega, by omega, by omega, by omega, fun _ => pk_uLs.trans (by rw [hxy, cell_same hS hG oH o1 o2 hjc])⟩
set_option maxHeartbeats 4000000 in
theorem cs_house (l : Launch) (hst : l.stackTraces = false) (g : fG) {T A : fTn} {kf nf sf : Nat → Int32} {th : Int32} {U : fTn} {sp ca : Nat → Int32} (hS : simT U T) (hT : okT kf T) (hG : gOk kf nf T) (hLe : leT A T) (f : Nat → Int64) (a0 a1 : Int32) :
    ∃ (k b2 : Int32) (f2 : Nat → Int64) (T2 : fTn) (kf2 nf2 : Nat → Int32) (fr2 lo2 mc2 ms2 : Nat), okT kf2 T2 ∧ gOk kf2 nf2 T2 ∧
      (∀ (ad : Nat → Nat) (M : fM), isC g ad M T A kf nf sf → M 3032 = some (oCell g f) → vx_Met l yL_house (fWsH yL_house cL_house 5 (some .int) [(0, 10, 13, 13)]) (fR 10 260 90 2200) (va_Pc [.ref (ad 0), .int a0, .int a1, .ref (ad 3032)] (fSL g ad M)) (fQi g (fWr g ad M T2 kf2 nf2 k f2)) fNX 90 2200 (fA g)) ∧
      (∀ (ad : Nat → Nat) (M : fM), isMo g ad M th U sp ca → fCi l g yX6_house cX6_house 3 (some .int) fr2 lo2 mc2 ms2 ad M [.ref (ad 5), .int a0, .int a1] (fRp g ad M T2 k b2)) ∧ fr2 ≤ 8 ∧ lo2 ≤ 190 ∧ mc2 ≤ 35 ∧ ms2 ≤ 395 ∧ (k = 0 → f2 0 = b2.toInt64) := by
  obtain ⟨⟨n0, n1, n2, n3⟩, sP, sH0, sE0⟩ := id hS
  obtain ⟨oH, oP, oE, oZ, ⟨rk, oR⟩, o1, o2, o3⟩ := id hT
  rcases h1 : isIx (tHn T) a0 with - | -
  · exact ⟨1, 0, f, T, kf, nf, 7, 170, 0, 0, hT, hG, fun ad M hC hO => wr_house_x1 l g ad M hC hLe hO (x_X5_house_1 l hst g ad M hC h1) (by omega) (by omega), fun ad M hM => fCi_mono (x_m_house_1 l g ad M hM (by rw [n1]; exact h1)) (rp_Mi hS), by omega, by omega, by omega, by omega, fun z => absurd z (by decide)⟩
  obtain ⟨j, hj, rfl⟩ := isIx_t h1 (by omega)
  rcases h2 : inR a1 0 6 with - | -
  · exact ⟨1, 0, f, T, kf, nf, 7, 170, 0, 0, hT, hG, fun ad M hC hO => wr_house_x1 l g ad M hC hLe hO (x_X5_house_2 l hst g ad M hC hj h2) (by omega) (by omega), fun ad M hM => fCi_mono (x_m_house_2 l g ad M hM (by omega) h2) (rp_Mi hS), by omega, by omega, by omega, by omega, fun z => absurd z (by decide)⟩
  obtain ⟨k0, -, hk, rfl⟩ := inR_ex (n := 0) (m := 6) h2 rfl rfl (by omega) (by omega)
  exact ⟨0, tH U j k0, vp_updL f 0 (hTell (tH T j) (nI k0)).toInt64, T, kf, nf, 7, 170, 0, 0, hT, hG, fun ad M hC hO => wr_house_ok l g ad M hC hO (fCi_mono (c_X5_house l g ad M hC hj h2) (cu_Di hC hLe)) (by omega) (by omega) (by omega) (by omega), fun ad M hM => fCi_mono (c_m_house l g ad M hM (by omega) h2 rfl (by omega)) (rp_Mi hS), by omega, by omega, by omega, by omega, fun _ => pk_uLs.trans (by rw [hTell_at (by omega), sH0 j hj k0 (by omega)])⟩
set_option maxHeartbeats 4000000 in
theorem cs_addEngine (l : Launch) (hst : l.stackTraces = false) (g : fG) {T A : fTn} {kf nf sf : Nat → Int32} {th : Int32} {U : fTn} {sp ca : Nat → Int32} (hS : simT U T) (hT : okT kf T) (hG : gOk kf nf T) (hLe : leT A T) (f : Nat → Int64) (a0 a1 a2 a3 : Int32) :
    ∃ (k b2 : Int32) (f2 : Nat → Int64) (T2 : fTn) (kf2 nf2 : Nat → Int32) (fr2 lo2 mc2 ms2 : Nat), okT kf2 T2 ∧ gOk kf2 nf2 T2 ∧
      (∀ (ad : Nat → Nat) (M : fM), isC g ad M T A kf nf sf → M 3032 = some (oCell g f) → vx_Met l yL_addEngine (fWsH yL_addEngine cL_addEngine 7 (some .int) [(0, 14, 17, 13), (0, 14, 21, 15), (0, 14, 25, 17)]) (fR 10 260 90 2200) (va_Pc [.ref (ad 0), .int a0, .int a1, .int a2, .int a3, .ref (ad 3032)] (fSL g ad M)) (fQi g (fWr g ad M T2 kf2 nf2 k f2)) fNX 90 2200 (fA g)) ∧
      (∀ (ad : Nat → Nat) (M : fM), isMo g ad M th U sp ca → fCi l g yX6_addEngine cX6_addEngine 6 (some .int) fr2 lo2 mc2 ms2 ad M [.ref (ad 5), .int a0, .int a1, .int a2, .int a3] (fRp g ad M T2 k b2)) ∧ fr2 ≤ 8 ∧ lo2 ≤ 190 ∧ mc2 ≤ 35 ∧ ms2 ≤ 395 ∧ (k = 0 → f2 0 = b2.toInt64) := by
  obtain ⟨⟨n0, n1, n2, n3⟩, sP, sH0, sE0⟩ := id hS
  obtain ⟨oH, oP, oE, oZ, ⟨rk, oR⟩, o1, o2, o3⟩ := id hT
  rcases h1 : aOn a0 a1 with - | -
  · exact ⟨1, 0, f, T, kf, nf, 7, 170, 0, 0, hT, hG, fun ad M hC hO => wr_addEngine_x1 l g ad M hC hLe hO (x_X5_addEngine_1 l hst g ad M hC h1) (by omega) (by omega), fun ad M hM => fCi_mono (x_m_addEngine_1 l g ad M hM h1) (rp_Mi hS), by omega, by omega, by omega, by omega, fun z => absurd z (by decide)⟩
  obtain ⟨jc, hjc, hxy⟩ := aOn_ix h1
  rcases h2 : inR a2 1 4 with - | -
  · exact ⟨2, 0, f, T, kf, nf, 7, 170, 0, 0, hT, hG, fun ad M hC hO => wr_addEngine_x2 l g ad M hC hLe hO (x_X5_addEngine_2 l hst g ad M hC h1 hjc hxy h2) (by omega) (by omega), fun ad M hM => fCi_mono (x_m_addEngine_2 l g ad M hM h1 (by rw [h2]; rfl)) (rp_Mi hS), by omega, by omega, by omega, by omega, fun z => absurd z (by decide)⟩
  rcases h3 : inR a3 1 20 with - | -
  · exact ⟨2, 0, f, T, kf, nf, 7, 170, 0, 0, hT, hG, fun ad M hC hO => wr_addEngine_x2 l g ad M hC hLe hO (x_X5_addEngine_3 l hst g ad M hC h1 hjc hxy h2 h3) (by omega) (by omega), fun ad M hM => fCi_mono (x_m_addEngine_2 l g ad M hM h1 (by rw [h2, h3]; rfl)) (rp_Mi hS), by omega, by omega, by omega, by omega, fun z => absurd z (by decide)⟩
  have eF : (decide (¬ tEn U = 6) && mSt U (a0 + 14 * a1)) = (kSt kf (nI jc) && decide (tEn T < 6)) := by rw [hxy, street_same hS hG o1 o2 hjc, n3, Bool.and_comm]; congr 1; exact decide_eq_decide.mpr (by omega)
  rcases h4 : (kSt kf (nI jc) && decide (tEn T < 6)) with - | -
  · exact ⟨3, 0, f, T, kf, nf, 7, 170, 0, 0, hT, hG, fun ad M hC hO => wr_addEngine_x3 l g ad M hC hLe hO (x_X5_addEngine_4 l hst g ad M hC h1 hjc hxy h2 h3 h4) (by omega) (by omega), fun ad M hM => fCi_mono (x_m_addEngine_3 l g ad M hM h1 h2 h3 (eF.trans h4)) (rp_Mi hS), by omega, by omega, by omega, by omega, fun z => absurd z (by decide)⟩
  have h5 := h4
  have h6 := eF.trans h4
  simp only [Bool.and_eq_true, decide_eq_true_eq] at h5 h6
  have h7 : kf jc = 0 := by have := h5.1; rw [kSt_nI hjc] at this; exact of_decide_eq_true this
  obtain ⟨r, r1, r2, er⟩ := inR_ex (n := 1) (m := 4) h2 rfl rfl (by omega) (by omega)
  exact ⟨0, nI (tEn U), vp_updL f 0 (nI (tEn T)).toInt64, addE T (newE (nI jc) a2 a3), kf, nf, 7, 170, 1, 9, ok_addE hT hjc h7 h5.2 er r1 r2, (gOk_of hG rfl rfl (fun _ _ => rfl) (fun _ _ => rfl)), fun ad M hC hO => wr_addEngine_ok l g ad M hC hO (fCi_mono (c_X5_addEngine l g ad M hC h1 hjc hxy h2 h3 h4) (cu_Co ⟨hLe.1, hLe.2.1, Nat.le_succ_of_le hLe.2.2⟩)) (by omega) (by omega) (by omega) (by omega), fun ad M hM => fCi_mono (c_m_addEngine l g ad M hM h1 h2 h3 h6.1 h6.2) (rp_Me (fun q hq => by rw [hxy] at hq; exact sim_addE hS hq)), by omega, by omega, by omega, by omega, fun _ => pk_uLs.trans (by rw [n3])⟩
set_option maxHeartbeats 4000000 in
theorem cs_stoke (l : Launch) (hst : l.stackTraces = false) (g : fG) {T A : fTn} {kf nf sf : Nat → Int32} {th : Int32} {U : fTn} {sp ca : Nat → Int32} (hS : simT U T) (hT : okT kf T) (hG : gOk kf nf T) (hLe : leT A T) (f : Nat → Int64) (a0 a1 : Int32) :
    ∃ (k b2 : Int32) (f2 : Nat → Int64) (T2 : fTn) (kf2 nf2 : Nat → Int32) (fr2 lo2 mc2 ms2 : Nat), okT kf2 T2 ∧ gOk kf2 nf2 T2 ∧
      (∀ (ad : Nat → Nat) (M : fM), isC g ad M T A kf nf sf → M 3032 = some (oCell g f) → vx_Met l yL_stoke (fWsH yL_stoke cL_stoke 5 (some .int) [(0, 10, 13, 13), (0, 10, 17, 15), (0, 10, 21, 17)]) (fR 10 260 90 2200) (va_Pc [.ref (ad 0), .int a0, .int a1, .ref (ad 3032)] (fSL g ad M)) (fQi g (fWr g ad M T2 kf2 nf2 k f2)) fNX 90 2200 (fA g)) ∧
      (∀ (ad : Nat → Nat) (M : fM), isMo g ad M th U sp ca → fCi l g yX6_stoke cX6_stoke 3 (some .int) fr2 lo2 mc2 ms2 ad M [.ref (ad 5), .int a0, .int a1] (fRp g ad M T2 k b2)) ∧ fr2 ≤ 8 ∧ lo2 ≤ 190 ∧ mc2 ≤ 35 ∧ ms2 ≤ 395 ∧ (k = 0 → f2 0 = b2.toInt64) := by
  obtain ⟨⟨n0, n1, n2, n3⟩, sP, sH0, sE0⟩ := id hS
  obtain ⟨oH, oP, oE, oZ, ⟨rk, oR⟩, o1, o2, o3⟩ := id hT
  rcases h1 : isIx (tEn T) a0 with - | -
  · exact ⟨1, 0, f, T, kf, nf, 7, 170, 0, 0, hT, hG, fun ad M hC hO => wr_stoke_x1 l g ad M hC hLe hO (x_X5_stoke_1 l hst g ad M hC h1) (by omega) (by omega), fun ad M hM => fCi_mono (x_m_stoke_1 l g ad M hM (by rw [n3]; exact h1)) (rp_Mi hS), by omega, by omega, by omega, by omega, fun z => absurd z (by decide)⟩
  obtain ⟨j, hj, rfl⟩ := isIx_t h1 (by omega)
  rcases h2 : inR a1 1 100 with - | -
  · exact ⟨2, 0, f, T, kf, nf, 7, 170, 0, 0, hT, hG, fun ad M hC hO => wr_stoke_x2 l g ad M hC hLe hO (x_X5_stoke_2 l hst g ad M hC hj h2) (by omega) (by omega), fun ad M hM => fCi_mono (x_m_stoke_2 l g ad M hM (by omega) h2) (rp_Mi hS), by omega, by omega, by omega, by omega, fun z => absurd z (by decide)⟩
  have e3 : tE U j 3 = tE T j 3 := (sE0 j hj).1.1 3 (by omega)
  rcases h3 : decide (¬ 200 < tE T j 3 + a1) with - | -
  · exact ⟨3, 0, f, T, kf, nf, 7, 170, 0, 0, hT, hG, fun ad M hC hO => wr_stoke_x3 l g ad M hC hLe hO (x_X5_stoke_3 l hst g ad M hC hj h2 h3) (by omega) (by omega), fun ad M hM => fCi_mono (x_m_stoke_3 l g ad M hM (by omega) h2 (by rw [e3]; exact fun z => of_decide_eq_false h3 (Int32.not_lt.mpr z))) (rp_Mi hS), by omega, by omega, by omega, by omega, fun z => absurd z (by decide)⟩
  have h4 : tE T j 3 + a1 ≤ 200 := Int32.not_lt.mp (of_decide_eq_true h3)
  obtain ⟨c1, ⟨c2, c3⟩, c4, c5⟩ := oE j hj
  exact ⟨0, tE U j 3 + a1, vp_updL f 0 (tE T j 3 + a1).toInt64, sE T j (upd (tE T j) 3 (tE T j 3 + a1)), kf, nf, 7, 170, 0, 0, ok_row hT ⟨c1, ⟨add_nn c2 c3 h2, h4⟩, c4, c5⟩ rfl, (gOk_of hG rfl rfl (fun _ _ => rfl) (fun _ _ => rfl)), fun ad M hC hO => wr_stoke_ok l g ad M hC hO (fCi_mono (c_X5_stoke l g ad M hC hj h2 h3) (cu_Co (show leT A _ from hLe))) (by omega) (by omega) (by omega) (by omega), fun ad M hM => fCi_mono (c_m_stoke l g ad M hM (by omega) h2 (by rw [e3]; exact h4)) (rp_Mi (by rw [e3]; exact sim_sE hS (by decide) (by decide))), by omega, by omega, by omega, by omega, fun _ => pk_uLs.trans (by rw [e3])⟩
set_option maxHeartbeats 4000000 in
theorem cs_drive (l : Launch) (hst : l.stackTraces = false) (g : fG) {T A : fTn} {kf nf sf : Nat → Int32} {th : Int32} {U : fTn} {sp ca : Nat → Int32} (hS : simT U T) (hT : okT kf T) (hG : gOk kf nf T) (hLe : leT A T) (f : Nat → Int64) (a0 a1 a2 : Int32) :
    ∃ (k b2 : Int32) (f2 : Nat → Int64) (T2 : fTn) (kf2 nf2 : Nat → Int32) (fr2 lo2 mc2 ms2 : Nat), okT kf2 T2 ∧ gOk kf2 nf2 T2 ∧
      (∀ (ad : Nat → Nat) (M : fM), isC g ad M T A kf nf sf → M 3032 = some (oCell g f) → vx_Met l yL_drive (fWsH yL_drive cL_drive 6 (some .int) [(0, 12, 15, 13), (0, 12, 19, 17)]) (fR 10 260 90 2200) (va_Pc [.ref (ad 0), .int a0, .int a1, .int a2, .ref (ad 3032)] (fSL g ad M)) (fQi g (fWr g ad M T2 kf2 nf2 k f2)) fNX 90 2200 (fA g)) ∧
      (∀ (ad : Nat → Nat) (M : fM), isMo g ad M th U sp ca → fCi l g yX6_drive cX6_drive 6 (some .int) fr2 lo2 mc2 ms2 ad M [.ref (ad 5), .int a0, .int a1, .int a2] (fRp g ad M T2 k b2)) ∧ fr2 ≤ 8 ∧ lo2 ≤ 190 ∧ mc2 ≤ 35 ∧ ms2 ≤ 395 ∧ (k = 0 → f2 0 = b2.toInt64) := by
  obtain ⟨⟨n0, n1, n2, n3⟩, sP, sH0, sE0⟩ := id hS
  obtain ⟨oH, oP, oE, oZ, ⟨rk, oR⟩, o1, o2, o3⟩ := id hT
  rcases h1 : isIx (tEn T) a0 with - | -
  · exact ⟨1, 0, f, T, kf, nf, 7, 170, 0, 0, hT, hG, fun ad M hC hO => wr_drive_x1 l g ad M hC hLe hO (x_X5_drive_1 l hst g ad M hC h1) (by omega) (by omega), fun ad M hM => fCi_mono (x_m_drive_1 l g ad M hM (by rw [n3]; exact h1)) (rp_Mi hS), by omega, by omega, by omega, by omega, fun z => absurd z (by decide)⟩
  obtain ⟨j, hj, rfl⟩ := isIx_t h1 (by omega)
  rcases h2 : aOn a1 a2 with - | -
  · exact ⟨1, 0, f, T, kf, nf, 7, 170, 0, 0, hT, hG, fun ad M hC hO => wr_drive_x1 l g ad M hC hLe hO (x_X5_drive_2 l hst g ad M hC hj h2) (by omega) (by omega), fun ad M hM => fCi_mono (x_m_drive_2 l g ad M hM (by omega) h2) (rp_Mi hS), by omega, by omega, by omega, by omega, fun z => absurd z (by decide)⟩
  obtain ⟨jc, hjc, hxy⟩ := aOn_ix h2
  obtain ⟨a, ha, hea, hka⟩ := (oE j hj).1
  have e0 : tE U j 0 = nI a := ((sE0 j hj).1.1 0 (by omega)).trans hea
  have e5 : tE U j 5 = tE T j 5 := (sE0 j hj).1.1 5 (by omega)
  rcases h3 : (eStands (tE T j) && decide (¬ tE T j 0 = nI jc)) with - | -
  · by_cases q : 0 < tE U j 5
    · exact ⟨2, 0, f, T, kf, nf, 7, 170, 0, 0, hT, hG, fun ad M hC hO => wr_drive_x2 l g ad M hC hLe hO (x_X5_drive_3 l hst g ad M hC hj h2 hjc hxy h3) (by omega) (by omega), fun ad M hM => fCi_mono (x_m_drive_3 l g ad M hM (by omega) h2 hjc hxy q) (rp_Mi hS), by omega, by omega, by omega, by omega, fun z => absurd z (by decide)⟩
    · have z5 : tE T j 5 = 0 := by
        rcases (oE j hj).2.2.2 with ⟨z, -⟩ | ⟨z, -⟩
        · exact z
        · rw [e5] at q; exact absurd z q
      have hajc : a = jc := by
        unfold eStands at h3
        rw [z5, hea] at h3
        by_cases w : a = jc
        · exact w
        · exact absurd h3 (by simp [show ¬ nI a = nI jc from fun y => w (nI_eq' y (by omega) (by omega))])
      exact ⟨2, 0, f, T, kf, nf, 7, 170, 0, 0, hT, hG, fun ad M hC hO => wr_drive_x2 l g ad M hC hLe hO (x_X5_drive_3 l hst g ad M hC hj h2 hjc hxy h3) (by omega) (by omega), fun ad M hM => fCi_mono (x_m_drive_4 l g ad M hM (by omega) h2 hjc hxy e0 ha q hajc) (rp_Mi hS), by omega, by omega, by omega, by omega, fun z => absurd z (by decide)⟩
  have h3b := h3
  simp only [Bool.and_eq_true, decide_eq_true_eq, eStands] at h3b
  have hajc : ¬ a = jc := fun y => h3b.2 (by rw [hea, y])
  have q5 : ¬ 0 < tE U j 5 := by rw [e5, h3b.1]; decide
  have Wy := way_same (sf := sf) (sp := sp) (U := U) (fun c hc => street_same hS hG o1 o2 hc) ha hjc (by rw [kSt_nI ha]; exact decide_eq_true hka) (fun y => hajc y.symm)
  rcases h4 : decide (¬ stepsR kf sf a jc = -1) with - | -
  · have h5 : stepsR kf sf a jc = -1 := Classical.not_not.mp (of_decide_eq_false h4)
    exact ⟨2, 0, f, T, kf, nf, 7, 170, 0, 0, hT, hG, fun ad M hC hO => wr_drive_x2g l g ad M hC hLe hO (isC_S hC).1 (fun l hl => fU_n (by omega)) (x_X5_drive_4 l hst g ad M hC hj h2 hjc hxy h3 hea ha h4) (by omega) (by omega), fun ad M hM => fCi_mono (x_m_drive_5 l g ad M hM (by omega) h2 hjc hxy e0 ha q5 hajc (Wy.1.symm.trans h5)) (rp_Mi hS), by omega, by omega, by omega, by omega, fun z => absurd z (by decide)⟩
  have h5 : ¬ stepsR kf sf a jc = -1 := of_decide_eq_true h4
  obtain ⟨w1, mm, m1, m2, em⟩ := Wy.2 (by rw [← Wy.1]; exact h5)
  have eV : wyO U sp a jc 140 jc * (5 - tE U j 1) = stepsR kf sf a jc * (5 - tE T j 1) := by rw [Wy.1, (sE0 j hj).1.1 1 (by omega)]
  have eW : (eSetOut (tE (mEi (upHose (nI j)) (tEn T) T) j) (nI jc) (stepsR kf sf a jc)) 5 = stepsR kf sf a jc * (5 - tE T j 1) := by
    have z := congrFun (drvT_row (T := T) (jc := jc) (st0 := stepsR kf sf a jc) hj hj) 5
    rw [if_pos rfl] at z
    exact (congrFun (tE_sE (U := mEi (upHose (nI j)) (tEn T) T) (i := j)) 5).symm.trans z
  exact ⟨0, wyO U sp a jc 140 jc * (5 - tE U j 1), vp_updL f 0 ((eSetOut (tE (mEi (upHose (nI j)) (tEn T) T) j) (nI jc) (stepsR kf sf a jc)) 5).toInt64, drvT T j jc (stepsR kf sf a jc), kf, nf, 7, 170, 0, 0, ok_drv hT hj hjc (by rw [kSt_nI hjc] at w1; exact of_decide_eq_true w1) m1 m2 (Wy.1.trans em), (gOk_of hG rfl rfl (fun _ _ => rfl) (fun _ _ => rfl)), fun ad M hC hO => wr_drive_ok l g ad M hC hO (fCi_mono (c_X5_drive l g ad M hC hj h2 hjc hxy h3 hea ha h4) (cu_Co (show leT A _ from hLe))) (by omega) (by omega) (by omega) (by omega), fun ad M hM => fCi_mono (c_m_drive l g ad M hM (by omega) h2 hjc hxy e0 ha q5 hajc (by rw [← Wy.1]; exact h5)) (rp_Mi (sim_drv hS hj o3 eV)), by omega, by omega, by omega, by omega, fun _ => pk_uLs.trans (by rw [eW, eV])⟩
set_option maxHeartbeats 4000000 in
theorem cs_relay (l : Launch) (hst : l.stackTraces = false) (g : fG) {T A : fTn} {kf nf sf : Nat → Int32} {th : Int32} {U : fTn} {sp ca : Nat → Int32} (hS : simT U T) (hT : okT kf T) (hG : gOk kf nf T) (hLe : leT A T) (f : Nat → Int64) (a0 a1 : Int32) :
    ∃ (k b2 : Int32) (f2 : Nat → Int64) (T2 : fTn) (kf2 nf2 : Nat → Int32) (fr2 lo2 mc2 ms2 : Nat), okT kf2 T2 ∧ gOk kf2 nf2 T2 ∧
      (∀ (ad : Nat → Nat) (M : fM), isC g ad M T A kf nf sf → M 3032 = some (oCell g f) → vx_Met l yL_relay (fWsH yL_relay cL_relay 5 (some .int) [(0, 10, 13, 13), (0, 10, 17, 17)]) (fR 10 260 90 2200) (va_Pc [.ref (ad 0), .int a0, .int a1, .ref (ad 3032)] (fSL g ad M)) (fQi g (fWr g ad M T2 kf2 nf2 k f2)) fNX 90 2200 (fA g)) ∧
      (∀ (ad : Nat → Nat) (M : fM), isMo g ad M th U sp ca → fCi l g yX6_relay cX6_relay 4 (some .int) fr2 lo2 mc2 ms2 ad M [.ref (ad 5), .int a0, .int a1] (fRp g ad M T2 k b2)) ∧ fr2 ≤ 8 ∧ lo2 ≤ 190 ∧ mc2 ≤ 35 ∧ ms2 ≤ 395 ∧ (k = 0 → f2 0 = b2.toInt64) := by
  obtain ⟨⟨n0, n1, n2, n3⟩, sP, sH0, sE0⟩ := id hS
  obtain ⟨oH, oP, oE, oZ, ⟨rk, oR⟩, o1, o2, o3⟩ := id hT
  rcases h1 : isIx (tEn T) a0 with - | -
  · exact ⟨1, 0, f, T, kf, nf, 7, 170, 0, 0, hT, hG, fun ad M hC hO => wr_relay_x1 l g ad M hC hLe hO (x_X5_relay_1 l hst g ad M hC h1) (by omega) (by omega), fun ad M hM => fCi_mono (x_m_relay_1 l g ad M hM (by rw [n3]; exact h1)) (rp_Mi hS), by omega, by omega, by omega, by omega, fun z => absurd z (by decide)⟩
  obtain ⟨j, hj, rfl⟩ := isIx_t h1 (by omega)
  rcases h2 : isIx (tEn T) a1 with - | -
  · exact ⟨1, 0, f, T, kf, nf, 7, 170, 0, 0, hT, hG, fun ad M hC hO => wr_relay_x1 l g ad M hC hLe hO (x_X5_relay_2 l hst g ad M hC hj h2) (by omega) (by omega), fun ad M hM => fCi_mono (x_m_relay_2 l g ad M hM (by omega) (by rw [n3]; exact h2)) (rp_Mi hS), by omega, by omega, by omega, by omega, fun z => absurd z (by decide)⟩
  obtain ⟨i, hi, rfl⟩ := isIx_t h2 (by omega)
  have uR := okH_U hS oR
  have eF : (eStands (tE U j) && (eStands (tE U i) && (decide (¬ 6 < aDist (tE U j 0) (tE U i 0)) && !(leadsN U (nI j) 7 (nI i))))) = ((eStands (tE T j) && (eStands (tE T i) && decide (¬ 6 < aDist (tE T j 0) (tE T i 0)))) && !(leadsN T (nI j) 7 (nI i))) := by
    unfold eStands
    rw [(sE0 j hj).1.1 5 (by omega), (sE0 i hi).1.1 5 (by omega), (sE0 j hj).1.1 0 (by omega), (sE0 i hi).1.1 0 (by omega), leads_same hS o3, Bool.and_assoc, Bool.and_assoc]
  rcases h3 : (eStands (tE T j) && (eStands (tE T i) && decide (¬ 6 < aDist (tE T j 0) (tE T i 0)))) with - | -
  · exact ⟨2, 0, f, T, kf, nf, 7, 170, 0, 0, hT, hG, fun ad M hC hO => wr_relay_x2 l g ad M hC hLe hO (x_X5_relay_3 l hst g ad M hC hj hi h3) (by omega) (by omega), fun ad M hM => fCi_mono (x_m_relay_3 l g ad M hM uR (by omega) (by omega) (by rw [eF, h3]; rfl)) (rp_Mi hS), by omega, by omega, by omega, by omega, fun z => absurd z (by decide)⟩
  rcases h4 : (!(leadsN T (nI j) 7 (nI i))) with - | -
  · exact ⟨2, 0, f, T, kf, nf, 7, 170, 0, 0, hT, hG, fun ad M hC hO => wr_relay_x2 l g ad M hC hLe hO (x_X5_relay_4 l hst g ad M hC hj hi h3 h4) (by omega) (by omega), fun ad M hM => fCi_mono (x_m_relay_3 l g ad M hM uR (by omega) (by omega) (by rw [eF, h3, h4]; rfl)) (rp_Mi hS), by omega, by omega, by omega, by omega, fun z => absurd z (by decide)⟩
  have hl : leadsN T (nI j) 7 (nI i) = false := by simpa using h4
  exact ⟨0, aDist (tE U j 0) (tE U i 0), vp_updL f 0 (aDist (tE T j 0) (tE T i 0)).toInt64, sE T j (upd (tE T j) 7 (nI i)), kf, nf, 7, 170, 0, 0, ok_hose hT (Or.inr (Or.inl ⟨i, hi, rfl⟩)) (relay_ok oR o3 hj hi hl), (gOk_of hG rfl rfl (fun _ _ => rfl) (fun _ _ => rfl)), fun ad M hC hO => wr_relay_ok l g ad M hC hO (fCi_mono (c_X5_relay l g ad M hC hj hi h3 h4) (cu_Co (show leT A _ from hLe))) (by omega) (by omega) (by omega) (by omega), fun ad M hM => fCi_mono (c_m_relay l g ad M hM uR (by omega) (by omega) (by rw [eF, h3, h4]; rfl)) (rp_Mi (sim_sE hS (by decide) (by decide))), by omega, by omega, by omega, by omega, fun _ => pk_uLs.trans (by rw [(sE0 j hj).1.1 0 (by omega), (sE0 i hi).1.1 0 (by omega)])⟩
set_option maxHeartbeats 4000000 in
theorem cs_aim (l : Launch) (hst : l.stackTraces = false) (g : fG) {T A : fTn} {kf nf sf : Nat → Int32} {th : Int32} {U : fTn} {sp ca : Nat → Int32} (hS : simT U T) (hT : okT kf T) (hG : gOk kf nf T) (hLe : leT A T) (f : Nat → Int64) (a0 a1 : Int32) :
    ∃ (k b2 : Int32) (f2 : Nat → Int64) (T2 : fTn) (kf2 nf2 : Nat → Int32) (fr2 lo2 mc2 ms2 : Nat), okT kf2 T2 ∧ gOk kf2 nf2 T2 ∧
      (∀ (ad : Nat → Nat) (M : fM), isC g ad M T A kf nf sf → M 3032 = some (oCell g f) → vx_Met l yL_aim (fWsH yL_aim cL_aim 5 (some .int) [(0, 10, 13, 13), (0, 10, 17, 17)]) (fR 10 260 90 2200) (va_Pc [.ref (ad 0), .int a0, .int a1, .ref (ad 3032)] (fSL g ad M)) (fQi g (fWr g ad M T2 kf2 nf2 k f2)) fNX 90 2200 (fA g)) ∧
      (∀ (ad : Nat → Nat) (M : fM), isMo g ad M th U sp ca → fCi l g yX6_aim cX6_aim 4 (some .int) fr2 lo2 mc2 ms2 ad M [.ref (ad 5), .int a0, .int a1] (fRp g ad M T2 k b2)) ∧ fr2 ≤ 8 ∧ lo2 ≤ 190 ∧ mc2 ≤ 35 ∧ ms2 ≤ 395 ∧ (k = 0 → f2 0 = b2.toInt64) := by
  obtain ⟨⟨n0, n1, n2, n3⟩, sP, sH0, sE0⟩ := id hS
  obtain ⟨oH, oP, oE, oZ, ⟨rk, oR⟩, o1, o2, o3⟩ := id hT
  rcases h1 : isIx (tEn T) a0 with - | -
  · exact ⟨1, 0, f, T, kf, nf, 7, 170, 0, 0, hT, hG, fun ad M hC hO => wr_aim_x1 l g ad M hC hLe hO (x_X5_aim_1 l hst g ad M hC h1) (by omega) (by omega), fun ad M hM => fCi_mono (x_m_aim_1 l g ad M hM (by rw [n3]; exact h1)) (rp_Mi hS), by omega, by omega, by omega, by omega, fun z => absurd z (by decide)⟩
  obtain ⟨j, hj, rfl⟩ := isIx_t h1 (by omega)
  rcases h2 : isIx (tHn T) a1 with - | -
  · exact ⟨1, 0, f, T, kf, nf, 7, 170, 0, 0, hT, hG, fun ad M hC hO => wr_aim_x1 l g ad M hC hLe hO (x_X5_aim_2 l hst g ad M hC hj h2) (by omega) (by omega), fun ad M hM => fCi_mono (x_m_aim_2 l g ad M hM (by omega) (by rw [n1]; exact h2)) (rp_Mi hS), by omega, by omega, by omega, by omega, fun z => absurd z (by decide)⟩
  obtain ⟨i, hi, rfl⟩ := isIx_t h2 (by omega)
  have eF : (eStands (tE U j) && decide (aDist (tE U j 0) (tH U i 0) ≤ 6)) = (eStands (tE T j) && decide (¬ 6 < aDist (tE T j 0) (tH T i 0))) := by
    unfold eStands
    rw [(sE0 j hj).1.1 5 (by omega), (sE0 j hj).1.1 0 (by omega), sH0 i hi 0 (by omega)]
    congr 1
    exact decide_eq_decide.mpr Int32.not_lt.symm
  rcases h3 : (eStands (tE T j) && decide (¬ 6 < aDist (tE T j 0) (tH T i 0))) with - | -
  · exact ⟨2, 0, f, T, kf, nf, 7, 170, 0, 0, hT, hG, fun ad M hC hO => wr_aim_x2 l g ad M hC hLe hO (x_X5_aim_3 l hst g ad M hC hj hi h3) (by omega) (by omega), fun ad M hM => fCi_mono (x_m_aim_3 l g ad M hM (by omega) (by omega) (eF.trans h3)) (rp_Mi hS), by omega, by omega, by omega, by omega, fun z => absurd z (by decide)⟩
  exact ⟨0, aDist (tE U j 0) (tH U i 0), vp_updL f 0 (aDist (tE T j 0) (tH T i 0)).toInt64, aimT T j i, kf, nf, 7, 170, 0, 0, ok_aim hT hi, (gOk_of hG rfl rfl (fun _ _ => rfl) (fun _ _ => rfl)), fun ad M hC hO => wr_aim_ok l g ad M hC hO (fCi_mono (c_X5_aim l g ad M hC hj hi h3) (cu_Co (show leT A _ from hLe))) (by omega) (by omega) (by omega) (by omega), fun ad M hM => fCi_mono (c_m_aim l g ad M hM (by omega) (by omega) (eF.trans h3)) (rp_Mi (sim_sE hS (by decide) (by decide))), by omega, by omega, by omega, by omega, fun _ => pk_uLs.trans (by rw [(sE0 j hj).1.1 0 (by omega), sH0 i hi 0 (by omega)])⟩
set_option maxHeartbeats 4000000 in
theorem cs_takeUp (l : Launch) (hst : l.stackTraces = false) (g : fG) {T A : fTn} {kf nf sf : Nat → Int32} {th : Int32} {U : fTn} {sp ca : Nat → Int32} (hS : simT U T) (hT : okT kf T) (hG : gOk kf nf T) (hLe : leT A T) (f : Nat → Int64) (a0 : Int32) :
    ∃ (k b2 : Int32) (f2 : Nat → Int64) (T2 : fTn) (kf2 nf2 : Nat → Int32) (fr2 lo2 mc2 ms2 : Nat), okT kf2 T2 ∧ gOk kf2 nf2 T2 ∧
      (∀ (ad : Nat → Nat) (M : fM), isC g ad M T A kf nf sf → M 3032 = some (oCell g f) → vx_Met l yL_takeUp (fWsH yL_takeUp cL_takeUp 4 (some .int) [(0, 16, 19, 13)]) (fR 10 260 90 2200) (va_Pc [.ref (ad 0), .int a0, .ref (ad 3032)] (fSL g ad M)) (fQi g (fWr g ad M T2 kf2 nf2 k f2)) fNX 90 2200 (fA g)) ∧
      (∀ (ad : Nat → Nat) (M : fM), isMo g ad M th U sp ca → fCi l g yX6_takeUp cX6_takeUp 3 (some .boolean) fr2 lo2 mc2 ms2 ad M [.ref (ad 5), .int a0] (fRp g ad M T2 k b2)) ∧ fr2 ≤ 8 ∧ lo2 ≤ 190 ∧ mc2 ≤ 35 ∧ ms2 ≤ 395 ∧ (k = 0 → f2 0 = b2.toInt64) ∧ (b2 = 0 ∨ b2 = 1) := by
  obtain ⟨⟨n0, n1, n2, n3⟩, sP, sH0, sE0⟩ := id hS
  obtain ⟨oH, oP, oE, oZ, ⟨rk, oR⟩, o1, o2, o3⟩ := id hT
  rcases h1 : isIx (tEn T) a0 with - | -
  · exact ⟨1, 0, f, T, kf, nf, 7, 170, 0, 0, hT, hG, fun ad M hC hO => wr_takeUp_x1 l g ad M hC hLe hO (x_X5_takeUp_1 l hst g ad M hC h1) (by omega) (by omega), fun ad M hM => fCi_mono (x_m_takeUp_1 l g ad M hM (by rw [n3]; exact h1)) (rp_Mi hS), by omega, by omega, by omega, by omega, fun z => absurd z (by decide), Or.inl rfl⟩
  obtain ⟨j, hj, rfl⟩ := isIx_t h1 (by omega)
  exact ⟨0, bI (!decide (tE U j 7 = -1)), vp_updL f 0 (bI (!decide (tE T j 7 = -1))).toInt64, sE T j (upd (tE T j) 7 (-1)), kf, nf, 7, 170, 0, 0, ok_hose hT (Or.inl rfl) ⟨rk, aim_ok oR (by decide)⟩, (gOk_of hG rfl rfl (fun _ _ => rfl) (fun _ _ => rfl)), fun ad M hC hO => wr_takeUp_ok l g ad M (v := 0) hC hO (fCi_mono (c_X5_takeUp l g ad M hC hj) (cu_Co (show leT A _ from hLe))) (by omega) (by omega) (by omega) (by omega), fun ad M hM => fCi_mono (c_m_takeUp l g ad M hM (by omega)) (rp_Mi (sim_sE hS (by decide) (by decide))), by omega, by omega, by omega, by omega, fun _ => pk_uLs.trans (by rw [(sE0 j hj).1.2.1]), (by cases (!decide (tE U j 7 = -1)); exact Or.inl rfl; exact Or.inr rfl)⟩
set_option maxHeartbeats 4000000 in
theorem cs_engine (l : Launch) (hst : l.stackTraces = false) (g : fG) {T A : fTn} {kf nf sf : Nat → Int32} {th : Int32} {U : fTn} {sp ca : Nat → Int32} (hS : simT U T) (hT : okT kf T) (hG : gOk kf nf T) (hLe : leT A T) (f : Nat → Int64) (a0 a1 : Int32) :
    ∃ (k b2 : Int32) (f2 : Nat → Int64) (T2 : fTn) (kf2 nf2 : Nat → Int32) (fr2 lo2 mc2 ms2 : Nat), okT kf2 T2 ∧ gOk kf2 nf2 T2 ∧
      (∀ (ad : Nat → Nat) (M : fM), isC g ad M T A kf nf sf → M 3032 = some (oCell g f) → vx_Met l yL_engine (fWsH yL_engine cL_engine 5 (some .int) [(0, 10, 13, 13)]) (fR 10 260 90 2200) (va_Pc [.ref (ad 0), .int a0, .int a1, .ref (ad 3032)] (fSL g ad M)) (fQi g (fWr g ad M T2 kf2 nf2 k f2)) fNX 90 2200 (fA g)) ∧
      (∀ (ad : Nat → Nat) (M : fM), isMo g ad M th U sp ca → fCi l g yX6_engine cX6_engine 3 (some .int) fr2 lo2 mc2 ms2 ad M [.ref (ad 5), .int a0, .int a1] (fRp g ad M T2 k b2)) ∧ fr2 ≤ 8 ∧ lo2 ≤ 190 ∧ mc2 ≤ 35 ∧ ms2 ≤ 395 ∧ (k = 0 → f2 0 = b2.toInt64) := by
  obtain ⟨⟨n0, n1, n2, n3⟩, sP, sH0, sE0⟩ := id hS
  obtain ⟨oH, oP, oE, oZ, ⟨rk, oR⟩, o1, o2, o3⟩ := id hT
  rcases h1 : isIx (tEn T) a0 with - | -
  · exact ⟨1, 0, f, T, kf, nf, 7, 170, 0, 0, hT, hG, fun ad M hC hO => wr_engine_x1 l g ad M hC hLe hO (x_X5_engine_1 l hst g ad M hC h1) (by omega) (by omega), fun ad M hM => fCi_mono (x_m_engine_1 l g ad M hM (by rw [n3]; exact h1)) (rp_Mi hS), by omega, by omega, by omega, by omega, fun z => absurd z (by decide)⟩
  obtain ⟨j, hj, rfl⟩ := isIx_t h1 (by omega)
  rcases h2 : inR a1 0 9 with - | -
  · exact ⟨1, 0, f, T, kf, nf, 7, 170, 0, 0, hT, hG, fun ad M hC hO => wr_engine_x1 l g ad M hC hLe hO (x_X5_engine_2 l hst g ad M hC hj h2) (by omega) (by omega), fun ad M hM => fCi_mono (x_m_engine_2 l g ad M hM (by omega) h2) (rp_Mi hS), by omega, by omega, by omega, by omega, fun z => absurd z (by decide)⟩
  obtain ⟨k0, -, hk, rfl⟩ := inR_ex (n := 0) (m := 9) h2 rfl rfl (by omega) (by omega)
  obtain ⟨c, hc, ec, -⟩ := (oE j hj).1
  exact ⟨0, mTell U (tE U j) k0, vp_updL f 0 (eTell T (tE T j) (nI k0)).toInt64, T, kf, nf, 7, 170, 0, 0, hT, hG, fun ad M hC hO => wr_engine_ok l g ad M hC hO (fCi_mono (c_X5_engine l g ad M hC hj h2) (cu_Di hC hLe)) (by omega) (by omega) (by omega) (by omega), fun ad M hM => fCi_mono (c_m_engine l g ad M hM (by omega) h2 (by omega)) (rp_Mi hS), by omega, by omega, by omega, by omega, fun _ => pk_uLs.trans (by rw [eng_same hS (fun q hq => (oP q hq).1) ⟨c, hc, ec⟩ hj (by omega)])⟩
set_option maxHeartbeats 4000000 in
theorem cs_pond (l : Launch) (hst : l.stackTraces = false) (g : fG) {T A : fTn} {kf nf sf : Nat → Int32} {th : Int32} {U : fTn} {sp ca : Nat → Int32} (hS : simT U T) (hT : okT kf T) (hG : gOk kf nf T) (hLe : leT A T) (f : Nat → Int64) (a0 : Int32) :
    ∃ (k b2 : Int32) (f2 : Nat → Int64) (T2 : fTn) (kf2 nf2 : Nat → Int32) (fr2 lo2 mc2 ms2 : Nat), okT kf2 T2 ∧ gOk kf2 nf2 T2 ∧
      (∀ (ad : Nat → Nat) (M : fM), isC g ad M T A kf nf sf → M 3032 = some (oCell g f) → vx_Met l yL_pond (fWsH yL_pond cL_pond 4 (some .int) [(0, 9, 12, 13)]) (fR 10 260 90 2200) (va_Pc [.ref (ad 0), .int a0, .ref (ad 3032)] (fSL g ad M)) (fQi g (fWr g ad M T2 kf2 nf2 k f2)) fNX 90 2200 (fA g)) ∧
      (∀ (ad : Nat → Nat) (M : fM), isMo g ad M th U sp ca → fCi l g yX6_pond cX6_pond 2 (some .int) fr2 lo2 mc2 ms2 ad M [.ref (ad 5), .int a0] (fRp g ad M T2 k b2)) ∧ fr2 ≤ 8 ∧ lo2 ≤ 190 ∧ mc2 ≤ 35 ∧ ms2 ≤ 395 ∧ (k = 0 → f2 0 = b2.toInt64) := by
  obtain ⟨⟨n0, n1, n2, n3⟩, sP, sH0, sE0⟩ := id hS
  obtain ⟨oH, oP, oE, oZ, ⟨rk, oR⟩, o1, o2, o3⟩ := id hT
  rcases h1 : isIx (tPn T) a0 with - | -
  · exact ⟨1, 0, f, T, kf, nf, 7, 170, 0, 0, hT, hG, fun ad M hC hO => wr_pond_x1 l g ad M hC hLe hO (x_X5_pond_1 l hst g ad M hC h1) (by omega) (by omega), fun ad M hM => fCi_mono (x_m_pond_1 l g ad M hM (by rw [n2]; exact h1)) (rp_Mi hS), by omega, by omega, by omega, by omega, fun z => absurd z (by decide)⟩
  obtain ⟨j, hj, rfl⟩ := isIx_t h1 (by omega)
  exact ⟨0, tP U j 1, vp_updL f 0 (tP T j 1).toInt64, T, kf, nf, 7, 170, 0, 0, hT, hG, fun ad M hC hO => wr_pond_ok l g ad M hC hO (fCi_mono (c_X5_pond l g ad M hC hj) (cu_Di hC hLe)) (by omega) (by omega) (by omega) (by omega), fun ad M hM => fCi_mono (c_m_pond l g ad M hM (by omega)) (rp_Mi hS), by omega, by omega, by omega, by omega, fun _ => pk_uLs.trans (by rw [(sP j hj).2])⟩
set_option maxHeartbeats 4000000 in
theorem cs_pass (l : Launch) (hst : l.stackTraces = false) (g : fG) {T A : fTn} {kf nf sf : Nat → Int32} {th : Int32} {U : fTn} {sp ca : Nat → Int32} (hS : simT U T) (hT : okT kf T) (hG : gOk kf nf T) (hLe : leT A T) (f : Nat → Int64) (a0 : Int32) :
    ∃ (k b2 : Int32) (f2 : Nat → Int64) (T2 : fTn) (kf2 nf2 : Nat → Int32) (fr2 lo2 mc2 ms2 : Nat), okT kf2 T2 ∧ gOk kf2 nf2 T2 ∧
      (∀ (ad : Nat → Nat) (M : fM), isC g ad M T A kf nf sf → M 3032 = some (oCell g f) → vx_Met l yL_pass (fWsH yL_pass cL_pass 4 (some .int) [(0, 9, 12, 15)]) (fR 10 260 90 2200) (va_Pc [.ref (ad 0), .int a0, .ref (ad 3032)] (fSL g ad M)) (fQi g (fWr g ad M T2 kf2 nf2 k f2)) fNX 90 2200 (fA g)) ∧
      (∀ (ad : Nat → Nat) (M : fM), isMo g ad M th U sp ca → fCi l g yX6_pass cX6_pass 4 (some .int) fr2 lo2 mc2 ms2 ad M [.ref (ad 5), .int a0] (fRp g ad M T2 k b2)) ∧ fr2 ≤ 8 ∧ lo2 ≤ 190 ∧ mc2 ≤ 35 ∧ ms2 ≤ 395 ∧ (k = 0 → f2 0 = b2.toInt64) := by
  obtain ⟨⟨n0, n1, n2, n3⟩, sP, sH0, sE0⟩ := id hS
  obtain ⟨oH, oP, oE, oZ, ⟨rk, oR⟩, o1, o2, o3⟩ := id hT
  rcases h1 : inR a0 1 100 with - | -
  · exact ⟨1, 0, f, T, kf, nf, 7, 170, 0, 0, hT, hG, fun ad M hC hO => wr_pass_x1 l g ad M hC hLe hO (x_X5_pass_1 l hst g ad M hC h1) (by omega) (by omega), fun ad M hM => fCi_mono (x_m_pass_1 l g ad M hM h1) (rp_Mi hS), by omega, by omega, by omega, by omega, fun z => absurd z (by decide)⟩
  obtain ⟨N, -, hN, rfl⟩ := inR_ex (n := 1) (m := 100) h1 rfl rfl (by omega) (by omega)
  obtain ⟨g1, g2, g3, g4⟩ := go_same hS hT N
  obtain ⟨t1, t2, t3⟩ := goT_n T N
  exact ⟨0, (goU U N).2, vp_updL f 0 ((goT T N).2).toInt64, (goT T N).1, kf, nf, 8, 190, 0, 0, g2, gOk_of hG t1 t2 (fun q _ => go_h0 T q N) (fun q _ => g4 q), fun ad M hC hO => wr_pass_ok l g ad M hC hO (fCi_mono (c_X5_pass l g ad M hC h1 rfl (by omega)) (cu_Co (by unfold leT; rw [t1, t2, t3]; exact hLe))) (by omega) (by omega) (by omega) (by omega), fun ad M hM => fCi_mono (c_m_pass l g ad M hM h1 (by omega) (okHz_U hS oZ)) (rp_Mx g1), by omega, by omega, by omega, by omega, fun _ => pk_uLs.trans (by rw [g3])⟩
set_option maxHeartbeats 4000000 in
theorem cs_count (l : Launch) (hst : l.stackTraces = false) (g : fG) {T A : fTn} {kf nf sf : Nat → Int32} {th : Int32} {U : fTn} {sp ca : Nat → Int32} (hS : simT U T) (hT : okT kf T) (hG : gOk kf nf T) (hLe : leT A T) (f : Nat → Int64) (a0 : Int32) :
    ∃ (k b2 : Int32) (f2 : Nat → Int64) (T2 : fTn) (kf2 nf2 : Nat → Int32) (fr2 lo2 mc2 ms2 : Nat), okT kf2 T2 ∧ gOk kf2 nf2 T2 ∧
      (∀ (ad : Nat → Nat) (M : fM), isC g ad M T A kf nf sf → M 3032 = some (oCell g f) → vx_Met l yL_count (fWsH yL_count cL_count 4 (some .int) [(0, 9, 12, 13)]) (fR 10 260 90 2200) (va_Pc [.ref (ad 0), .int a0, .ref (ad 3032)] (fSL g ad M)) (fQi g (fWr g ad M T2 kf2 nf2 k f2)) fNX 90 2200 (fA g)) ∧
      (∀ (ad : Nat → Nat) (M : fM), isMo g ad M th U sp ca → fCi l g yX6_count cX6_count 2 (some .int) fr2 lo2 mc2 ms2 ad M [.ref (ad 5), .int a0] (fRp g ad M T2 k b2)) ∧ fr2 ≤ 8 ∧ lo2 ≤ 190 ∧ mc2 ≤ 35 ∧ ms2 ≤ 395 ∧ (k = 0 → f2 0 = b2.toInt64) := by
  obtain ⟨⟨n0, n1, n2, n3⟩, sP, sH0, sE0⟩ := id hS
  obtain ⟨oH, oP, oE, oZ, ⟨rk, oR⟩, o1, o2, o3⟩ := id hT
  rcases h1 : inR a0 0 9 with - | -
  · exact ⟨1, 0, f, T, kf, nf, 7, 170, 0, 0, hT, hG, fun ad M hC hO => wr_count_x1 l g ad M hC hLe hO (x_X5_count_1 l hst g ad M hC h1) (by omega) (by omega), fun ad M hM => fCi_mono (x_m_count_1 l g ad M hM h1) (rp_Mi hS), by omega, by omega, by omega, by omega, fun z => absurd z (by decide)⟩
  exact ⟨0, tTell U a0, vp_updL f 0 (tTell T a0).toInt64, T, kf, nf, 7, 170, 0, 0, hT, hG, fun ad M hC hO => wr_count_ok l g ad M hC hO (fCi_mono (c_X5_count l g ad M hC h1) (cu_Di hC hLe)) (by omega) (by omega) (by omega) (by omega), fun ad M hM => fCi_mono (c_m_count l g ad M hM h1) (rp_Mi hS), by omega, by omega, by omega, by omega, fun _ => pk_uLs.trans (by rw [tell_same hS])⟩
set_option maxHeartbeats 4000000 in
theorem cs_foresee (l : Launch) (hst : l.stackTraces = false) (g : fG) {T A : fTn} {kf nf sf : Nat → Int32} {th : Int32} {U : fTn} {sp ca : Nat → Int32} (hS : simT U T) (hT : okT kf T) (hG : gOk kf nf T) (hLe : leT A T) (f : Nat → Int64) (a0 a1 : Int32) :
    ∃ (k b2 : Int32) (f2 : Nat → Int64) (T2 : fTn) (kf2 nf2 : Nat → Int32) (fr2 lo2 mc2 ms2 : Nat), okT kf2 T2 ∧ gOk kf2 nf2 T2 ∧
      (∀ (ad : Nat → Nat) (M : fM), isC g ad M T A kf nf sf → M 3032 = some (oCell g f) → vx_Met l yL_foresee (fWsH yL_foresee cL_foresee 5 (some .int) [(0, 10, 13, 15), (0, 10, 17, 13)]) (fR 10 260 90 2200) (va_Pc [.ref (ad 0), .int a0, .int a1, .ref (ad 3032)] (fSL g ad M)) (fQi g (fWr g ad M T2 kf2 nf2 k f2)) fNX 90 2200 (fA g)) ∧
      (∀ (ad : Nat → Nat) (M : fM), isMo g ad M th U sp ca → fCi l g yX6_foresee cX6_foresee 5 (some .int) fr2 lo2 mc2 ms2 ad M [.ref (ad 5), .int a0, .int a1] (fRp g ad M T2 k b2)) ∧ fr2 ≤ 8 ∧ lo2 ≤ 190 ∧ mc2 ≤ 35 ∧ ms2 ≤ 395 ∧ (k = 0 → f2 0 = b2.toInt64) := by
  obtain ⟨⟨n0, n1, n2, n3⟩, sP, sH0, sE0⟩ := id hS
  obtain ⟨oH, oP, oE, oZ, ⟨rk, oR⟩, o1, o2, o3⟩ := id hT
  rcases h1 : inR a0 1 100 with - | -
  · exact ⟨1, 0, f, T, kf, nf, 7, 170, 0, 0, hT, hG, fun ad M hC hO => wr_foresee_x1 l g ad M hC hLe hO (x_X5_foresee_1 l hst g ad M hC h1) (by omega) (by omega), fun ad M hM => fCi_mono (x_m_foresee_1 l g ad M hM h1) (rp_Mi hS), by omega, by omega, by omega, by omega, fun z => absurd z (by decide)⟩
  have h1b := h1
  obtain ⟨N, -, hN, rfl⟩ := inR_ex (n := 1) (m := 100) h1b rfl rfl (by omega) (by omega)
  rcases h2 : inR a1 0 2 with - | -
  · exact ⟨2, 0, f, T, kf, nf, 7, 170, 0, 0, hT, hG, fun ad M hC hO => wr_foresee_x2 l g ad M hC hLe hO (x_X5_foresee_2 l hst g ad M hC h1 h2) (by omega) (by omega), fun ad M hM => fCi_mono (x_m_foresee_2 l g ad M hM h1 h2) (rp_Mi hS), by omega, by omega, by omega, by omega, fun z => absurd z (by decide)⟩
  obtain ⟨g1, g2, g3, g4⟩ := go_same hS hT N
  exact ⟨0, mFore (goU U N).1 a1, vp_updL f 0 (foreR (goT T N).1 a1).toInt64, T, kf, nf, 8, 190, 6, 279, hT, hG, fun ad M hC hO => wr_foresee_ok l g ad M hC hO (fCi_mono (c_X5_foresee l g ad M hC h1 h2 rfl (by omega) hLe) (cu_Co (by obtain ⟨t1, t2, t3⟩ := goT_n T N; unfold leT; rw [t1, t2, t3]; exact ⟨Nat.le_refl _, Nat.le_refl _, Nat.le_refl _⟩))) (by omega) (by omega) (by omega) (by omega), fun ad M hM => fCi_mono (c_m_foresee l g ad M hM h1 h2 (by omega) (okHz_U hS oZ)) (rp_Ma (sim_goback hS hT N)), by omega, by omega, by omega, by omega, fun _ => pk_uLs.trans (by rw [fore_same g1])⟩
set_option maxHeartbeats 4000000 in
theorem cs_weakest (l : Launch) (hst : l.stackTraces = false) (g : fG) {T A : fTn} {kf nf sf : Nat → Int32} {th : Int32} {U : fTn} {sp ca : Nat → Int32} (hS : simT U T) (hT : okT kf T) (hG : gOk kf nf T) (hLe : leT A T) (f : Nat → Int64) (a0 : Int32) :
    ∃ (k b2 : Int32) (f2 : Nat → Int64) (T2 : fTn) (kf2 nf2 : Nat → Int32) (fr2 lo2 mc2 ms2 : Nat), okT kf2 T2 ∧ gOk kf2 nf2 T2 ∧
      (∀ (ad : Nat → Nat) (M : fM), isC g ad M T A kf nf sf → M 3032 = some (oCell g f) → vx_Met l yL_weakest (fWsH yL_weakest cL_weakest 4 (some .int) [(0, 9, 12, 13)]) (fR 10 260 90 2200) (va_Pc [.ref (ad 0), .int a0, .ref (ad 3032)] (fSL g ad M)) (fQi g (fWr g ad M T2 kf2 nf2 k f2)) fNX 90 2200 (fA g)) ∧
      (∀ (ad : Nat → Nat) (M : fM), isMo g ad M th U sp ca → fCi l g yX6_weakest cX6_weakest 4 (some .int) fr2 lo2 mc2 ms2 ad M [.ref (ad 5), .int a0] (fRp g ad M T2 k b2)) ∧ fr2 ≤ 8 ∧ lo2 ≤ 190 ∧ mc2 ≤ 35 ∧ ms2 ≤ 395 ∧ (k = 0 → f2 0 = b2.toInt64) := by
  obtain ⟨⟨n0, n1, n2, n3⟩, sP, sH0, sE0⟩ := id hS
  obtain ⟨oH, oP, oE, oZ, ⟨rk, oR⟩, o1, o2, o3⟩ := id hT
  rcases h1 : isIx (tEn T) a0 with - | -
  · exact ⟨1, 0, f, T, kf, nf, 7, 170, 0, 0, hT, hG, fun ad M hC hO => wr_weakest_x1 l g ad M hC hLe hO (x_X5_weakest_1 l hst g ad M hC h1) (by omega) (by omega), fun ad M hM => fCi_mono (x_m_weakest_1 l g ad M hM (by rw [n3]; exact h1)) (rp_Mi hS), by omega, by omega, by omega, by omega, fun z => absurd z (by decide)⟩
  obtain ⟨j, hj, rfl⟩ := isIx_t h1 (by omega)
  exact ⟨0, mwk U j (tEn U), vp_updL f 0 ((wkF T j (tEn T)).1).toInt64, T, kf, nf, 7, 170, 0, 0, hT, hG, fun ad M hC hO => wr_weakest_ok l g ad M hC hO (fCi_mono (c_X5_weakest l g ad M hC hj) (cu_Di hC hLe)) (by omega) (by omega) (by omega) (by omega), fun ad M hM => fCi_mono (c_m_weakest l g ad M hM (okH_U hS oR) (by omega)) (rp_Mi hS), by omega, by omega, by omega, by omega, fun _ => pk_uLs.trans (by rw [weak_same hS hj o3])⟩
set_option maxHeartbeats 4000000 in
theorem cs_advise (l : Launch) (hst : l.stackTraces = false) (g : fG) {T A : fTn} {kf nf sf : Nat → Int32} {th : Int32} {U : fTn} {sp ca : Nat → Int32} (hS : simT U T) (hT : okT kf T) (hG : gOk kf nf T) (hLe : leT A T) (f : Nat → Int64) (a0 a1 : Int32) :
    ∃ (k b2 : Int32) (f2 : Nat → Int64) (T2 : fTn) (kf2 nf2 : Nat → Int32) (fr2 lo2 mc2 ms2 : Nat), okT kf2 T2 ∧ gOk kf2 nf2 T2 ∧
      (∀ (ad : Nat → Nat) (M : fM), isC g ad M T A kf nf sf → M 3032 = some (oCell g f) → vx_Met l yL_advise (fWsH yL_advise cL_advise 5 (some .int) [(0, 10, 13, 13), (0, 10, 17, 15)]) (fR 10 260 90 2200) (va_Pc [.ref (ad 0), .int a0, .int a1, .ref (ad 3032)] (fSL g ad M)) (fQi g (fWr g ad M T2 kf2 nf2 k f2)) fNX 90 2200 (fA g)) ∧
      (∀ (ad : Nat → Nat) (M : fM), isMo g ad M th U sp ca → fCi l g yX6_advise cX6_advise 8 (some .int) fr2 lo2 mc2 ms2 ad M [.ref (ad 5), .int a0, .int a1] (fRp g ad M T2 k b2)) ∧ fr2 ≤ 8 ∧ lo2 ≤ 190 ∧ mc2 ≤ 35 ∧ ms2 ≤ 395 ∧ (k = 0 → f2 0 = b2.toInt64) := by
  obtain ⟨⟨n0, n1, n2, n3⟩, sP, sH0, sE0⟩ := id hS
  obtain ⟨oH, oP, oE, oZ, ⟨rk, oR⟩, o1, o2, o3⟩ := id hT
  rcases h1 : isIx (tEn T) a0 with - | -
  · exact ⟨1, 0, f, T, kf, nf, 7, 170, 0, 0, hT, hG, fun ad M hC hO => wr_advise_x1 l g ad M hC hLe hO (x_X5_advise_1 l hst g ad M hC h1) (by omega) (by omega), fun ad M hM => fCi_mono (x_m_advise_1 l g ad M hM (by rw [n3]; exact h1)) (rp_Mi hS), by omega, by omega, by omega, by omega, fun z => absurd z (by decide)⟩
  obtain ⟨j, hj, rfl⟩ := isIx_t h1 (by omega)
  rcases h2 : inR a1 1 50 with - | -
  · exact ⟨2, 0, f, T, kf, nf, 7, 170, 0, 0, hT, hG, fun ad M hC hO => wr_advise_x2 l g ad M hC hLe hO (x_X5_advise_2 l hst g ad M hC hj h2) (by omega) (by omega), fun ad M hM => fCi_mono (x_m_advise_2 l g ad M hM (by omega) h2) (rp_Mi hS), by omega, by omega, by omega, by omega, fun z => absurd z (by decide)⟩
  have h2b := h2
  obtain ⟨N, -, hN, rfl⟩ := inR_ex (n := 1) (m := 50) h2b rfl rfl (by omega) (by omega)
  exact ⟨0, (mAdvF U j N (tHn U)).1, vp_updL f 0 ((advF T j N (tHn T)).1).toInt64, T, kf, nf, 8, 190, 35, 395, hT, hG, fun ad M hC hO => wr_advise_ok l g ad M hC hO (fCi_mono (c_X5_advise l g ad M hC hj h2 rfl (by omega) hLe) cu_Adv) (by omega) (by omega) (by omega) (by omega), fun ad M hM => fCi_mono (c_m_advise l g ad M hM (by omega) h2 (by omega) (okHz_U hS oZ)) (rp_Ma (by rw [n1]; exact adv_sim hS hT hj _ (Nat.le_refl _))), by omega, by omega, by omega, by omega, fun _ => pk_uLs.trans (by rw [n1, adv_same hS hT hj _ (Nat.le_refl _)])⟩
