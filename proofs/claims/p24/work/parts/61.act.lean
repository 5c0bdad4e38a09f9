theorem st_of {kf nf : Nat → Int32} {U T : fTn} (s : simT U T) (g : gOk kf nf T) : stOk kf U := by
  obtain ⟨⟨-, n1, n2, -⟩, hP, hH, -⟩ := s
  obtain ⟨g1, g2, g3⟩ := g
  refine fun c hc => ⟨fun z => ?_, fun z1 z2 => ?_⟩
  · rcases z with ⟨j, hj, e⟩ | ⟨j, hj, e⟩
    · obtain ⟨d, hd, e2, e3, -⟩ := g1 j (by omega)
      rw [hH j (by omega) 0 (by omega), e2] at e
      rw [← nI_eq' e (by omega) (by omega), e3]; decide
    · obtain ⟨d, hd, e2, e3, -⟩ := g2 j (by omega)
      rw [(hP j (by omega)).1, e2] at e
      rw [← nI_eq' e (by omega) (by omega), e3]; decide
  · rcases g3 c hc with z | ⟨-, j, hj, e⟩ | ⟨-, j, hj, e⟩
    · exact z
    · exact absurd ((hH j hj 0 (by omega)).trans e) (z1 j (by omega))
    · exact absurd ((hP j hj).1.trans e) (z2 j (by omega))
theorem lk_of {U T : fTn} {rk : Nat → Nat} (s : simT U T) (h : okH T rk) (hl : hsOk T) (h6 : tEn T ≤ 6) (h30 : tHn T ≤ 30) : lkOk U rk := fun j hj => by
  obtain ⟨⟨-, -, -, n3⟩, -, -, hE⟩ := s
  have hj : j < tEn T := by omega
  rw [(hE j hj).1.2.1]
  rcases hl j hj with z | ⟨i, L, z1, z2, z3, -⟩ | ⟨h0, L, z1, z3, -⟩
  · rw [z]; exact Or.inl (Or.inl (by decide))
  · obtain ⟨i2, y1, y2, y3⟩ := (h j hj).2 (by rw [z3]; exact inR_nI (by omega))
    exact Or.inr ⟨i2, by omega, y2, y3⟩
  · rw [z3]; exact Or.inl (Or.inr (big100b (by omega)))
theorem mSet_eq {U : fTn} {j : Nat} {v x : Int32} : mSet U j v x = sE U j (upd (upd (upd (tE U j) 5 v) 6 x) 7 (-1)) := by
  unfold mSet
  rw [tE_sE, sE_sE, tE_sE, sE_sE]
/-- a hose lies or it doesn't -/
theorem had_of {T : fTn} {j : Nat} (hl : hsOk T) (hj : j < tEn T) (h6 : tEn T ≤ 6) (h30 : tHn T ≤ 30) : (0 ≤ tE T j 7 → ¬ tE T j 7 = -1) ∧ (¬ 0 ≤ tE T j 7 → tE T j 7 = -1) := by
  rcases hl j hj with z | ⟨i, L, z1, z2, z3, -⟩ | ⟨h0, L, z1, z3, -⟩
  · rw [z]; exact ⟨fun y => absurd y (by decide), fun _ => rfl⟩
  · rw [z3]; exact ⟨fun _ => nI_m1 (by omega), fun y => absurd (nI_pos' (by omega)) y⟩
  · rw [z3]; exact ⟨fun _ => nI_m1 (by omega), fun y => absurd (nI_pos' (by omega)) y⟩
theorem on_of {c : Nat} (h : c < 140) : aOn (nI (c % 14)) (nI (c / 14)) = true ∧ nI (c % 14) + 14 * nI (c / 14) = nI c := by
  refine ⟨?_, ?_⟩
  · rw [aOn_nI (by omega) (by omega), decide_eq_true (show c % 14 < 14 by omega), decide_eq_true (show c / 14 < 10 by omega)]; rfl
  · rw [xy_nI]; congr 1; omega
theorem up_rk {kf : Nat → Int32} {T : fTn} {j : Nat} (ho : okT kf T) : ∃ rk, okH (sE T j (upd (tE T j) 7 (-1))) rk := by
  obtain ⟨rk, h⟩ := ho.2.2.2.2.1
  exact ⟨rk, aim_ok h (by decide)⟩
theorem ok_coal {kf : Nat → Int32} {T : fTn} {j b : Nat} (ho : okT kf T) (hj : j < tEn T) (hb : b ≤ 99) (h : ¬ 200 < tE T j 3 + nI (b + 1)) : okT kf (sE T j (upd (tE T j) 3 (tE T j 3 + nI (b + 1)))) := by
  obtain ⟨c1, ⟨c2, c3⟩, c4, c5⟩ := ho.2.2.1 j hj
  obtain ⟨x, hx, ex⟩ := small_nI (n := 200) c2 c3 (by omega)
  refine ok_row ho ⟨c1, ?_, c4, c5⟩ rfl
  show 0 ≤ upd (tE T j) 3 (tE T j 3 + nI (b + 1)) 3 ∧ upd (tE T j) 3 (tE T j 3 + nI (b + 1)) 3 ≤ 200
  rw [upd_at]
  refine ⟨?_, Int32.not_lt.mp h⟩
  rw [ex, nI_add]
  exact nI_pos' (by omega)
set_option maxHeartbeats 4000000 in
set_option maxRecDepth 100000 in
theorem c_act (l : Launch) (g : fG) (ad : Nat → Nat) (M : fM) {T : fTn} {kf nf : Nat → Int32} (hLW : LW g ad M T kf nf) (hH : 0 < tHn T) (x : Int32) : fCi l g yL_act cL_act 11 ((some .boolean)) 10 290 142 840 ad M [.ref (ad 0), .ref (ad 3000), .int x] (fLw g ad M T kf nf) := by
  refine f_body (own := RL) (by decide +kernel) rfl (Nat.le_of_ble_eq_true rfl) ?_
  intro p e s m args below meth c ls X hw hin hl
  have hx := X.1
  have hb := X.2.1
  have hl : lv_has ls 11 [(0, .ref (ad 0)), (1, .ref (ad 3000)), (2, .int x)] := hl
  obtain ⟨U, A, sf, hC, hLe, hS, hs, ho, hg, hl9⟩ := id hLW
  have hF : M 0 = some (.inr (6, [.ref (ad 1), .ref (ad 1000), .ref (ad 2000)])) := hC.1
  obtain ⟨hS0, ⟨fHh, hSh, hSH⟩, ⟨fEe, hSe, hSE⟩, ⟨fPp, hSp, hSP⟩, hHs, hEs, hPs, hn1, hn3, hn2⟩ := id hS
  obtain ⟨e0U, e1U, e2U, e3U⟩ := id hs.1
  obtain ⟨ado, hado⟩ : ∃ z, z = ad := ⟨_, rfl⟩
  obtain ⟨Mo, hMo⟩ : ∃ z, z = M := ⟨_, rfl⟩
  have hrA : fReg 0 3420 ado Mo ad M := by rw [hado, hMo]; exact fReg_rf
  have h0 : ad 0 = ado 0 := by rw [hado]
  have h30 : ad 3000 = ado 3000 := by rw [hado]
  obtain ⟨Q9, hQ9⟩ : ∃ z, z = MQ below (fQi g (fLw g ad M T kf nf)) args s 142 840 (fA g) := ⟨_, rfl⟩
  show W p l e (fR 10 290 142 840) s m args below meth c _ _ 0 0 (MQ below (fQi g (fLw g ad M T kf nf)) args s 142 840 (fA g)) (F0 m 0 ls [])
  rw [← hQ9]
  refine lv_aload_n hx hb dL_act_0 rfl (lv_at hl 1 rfl) ?_
  refine f_get X hw hS0 fc9 2 (by decide) wq625 rfl (v := .ref (ad 3002)) rfl dL_act_1 ?_
  refine f_alen X hw 5 hSe rfl dL_act_4 ?_
  refine lv_if_ne (tgt := 15) hx hb dL_act_5 (by decide) (fun c_1 => ?_) (fun c_1 => ?_)
  · have c_1 := nI_neq' (a := (tEn U)) (b := 0) c_1 (by omega) (by omega)
    refine lv_iload_n hx hb dL_act_15 rfl (lv_at hl 2 rfl) ?_
    refine lv_aload_n hx hb dL_act_16 rfl (lv_at hl 1 rfl) ?_
    refine f_get X hw hS0 fc9 2 (by decide) wq625 rfl (v := .ref (ad 3002)) rfl dL_act_17 ?_
    refine f_alen X hw 5 hSe rfl dL_act_20 ?_
    refine fk_di (fcS X hw (c_below l g ad M x (N := tEn U) (by omega) (by omega)) wq637 kSL_below ⟨(Nat.le_of_ble_eq_true rfl), (Nat.le_of_ble_eq_true rfl)⟩ rfl hl.1 rfl (Nat.le_of_ble_eq_true rfl) dL_act_21 ⟨(by dsimp only [fR]; omega), (by dsimp only [fR]; omega)⟩) hw (fun H locs hw => ?_)
    have hb21 : lBel x (tEn U) < tEn U := lBel_lt (by omega)
    obtain ⟨je, eje⟩ : ∃ z, z = lBel x (tEn U) := ⟨_, rfl⟩
    rw [← eje] at hb21
    refine f_top (y := nI je) (by rw [eje]) ?_
    refine lv_istore_n (lv' := [(3, .int (nI je)), (0, .ref (ad 0)), (1, .ref (ad 3000)), (2, .int x)]) hx hb dL_act_24 rfl hl (by decide) rfl (fun ls hl => ?_)
    have hjT : je < tEn T := by omega
    have rU : ∀ k, k < 6 → tE U je k = tE T je k := (hs.2.2.2 je hjT).1.1
    have r7 : tE U je 7 = tE T je 7 := (hs.2.2.2 je hjT).1.2.1
    obtain ⟨⟨a, haa, ea, hka⟩, ⟨q3, q3b⟩, -, hdr⟩ := ho.2.2.1 je hjT
    have ea2 : tE U je 0 = nI a := (rU 0 (by omega)).trans ea
    have h6 : tEn T ≤ 6 := by omega
    have h30T : tHn T ≤ 30 := by omega
    have stn : ¬ 0 < tE U je 5 → eStands (tE T je) = true ∧ tE T je 5 = 0 := fun z => by
      rw [rU 5 (by omega)] at z
      rcases hdr with ⟨y, -⟩ | ⟨y, -⟩
      · exact ⟨by unfold eStands; rw [y]; rfl, y⟩
      · exact absurd y z
    refine lv_aload_n hx hb dL_act_25 rfl (lv_at hl 2 rfl) ?_
    refine f_get X hw hS0 fc9 2 (by decide) wq625 rfl (v := .ref (ad 3002)) rfl dL_act_26 ?_
    refine lv_iload_n hx hb dL_act_29 rfl (lv_at hl 0 rfl) ?_
    refine f_aaldW X hw hSe (vp_in_nI (n := je) (by omega) (by omega)) (q := ad (3300 + je)) (by rw [nI_clamp (by omega)]; exact hSE je (by omega)) dL_act_30 ?_
    refine lv_astore (lv' := [(4, .ref (ad (3300 + je))), (3, .int (nI je)), (0, .ref (ad 0)), (1, .ref (ad 3000)), (2, .int x)]) hx hb dL_act_31 hl (by decide) rfl (fun ls hl => ?_)
    refine lv_iload_n hx hb dL_act_33 rfl (lv_at hl 4 rfl) ?_
    refine lv_bipush (v := 8) hx hb dL_act_34 (by decide) ?_
    refine lv_ishr hx hb dL_act_36 ?_
    refine lv_bipush (v := 6) hx hb dL_act_37 (by decide) ?_
    refine fk_di (fcS X hw (c_below l g ad M (x >>> (8 &&& 31)) (N := 6) (by omega) (by omega)) wq637 kSL_below ⟨(Nat.le_of_ble_eq_true rfl), (Nat.le_of_ble_eq_true rfl)⟩ rfl hl.1 rfl (Nat.le_of_ble_eq_true rfl) dL_act_39 ⟨(by dsimp only [fR]; omega), (by dsimp only [fR]; omega)⟩) hw (fun H locs hw => ?_)
    have hb39 : lBel (x >>> (8 &&& 31)) 6 < 6 := lBel_lt (by omega)
    by_cases k_2 : (nI (lBel (x >>> (8 &&& 31)) 6)) = 0
    · refine lv_tableIn (off := 34) (tgt := 76) hx hb dL_act_42 (by rw [k_2]; decide) (by rw [k_2]; decide) (by rw [k_2]; rfl) (by decide) ?_
      refine lv_iload_n hx hb dL_act_76 rfl (lv_at hl 4 rfl) ?_
      refine lv_iconst (v := 2) hx hb dL_act_77 (by decide) ?_
      refine lv_ishr hx hb dL_act_78 ?_
      refine lv_sipush (v := 140) hx hb dL_act_79 (by decide) ?_
      refine fk_di (fcS X hw (c_below l g ad M (x >>> (2 &&& 31)) (N := 140) (by omega) (by omega)) wq637 kSL_below ⟨(Nat.le_of_ble_eq_true rfl), (Nat.le_of_ble_eq_true rfl)⟩ rfl hl.1 rfl (Nat.le_of_ble_eq_true rfl) dL_act_82 ⟨(by dsimp only [fR]; omega), (by dsimp only [fR]; omega)⟩) hw (fun H locs hw => ?_)
      have hb82 : lBel (x >>> (2 &&& 31)) 140 < 140 := lBel_lt (by omega)
      obtain ⟨jc, ejc⟩ : ∃ z, z = lBel (x >>> (2 &&& 31)) 140 := ⟨_, rfl⟩
      rw [← ejc] at hb82
      refine f_top (y := nI jc) (by rw [ejc]) ?_
      refine lv_istore (lv' := [(5, .int (nI jc)), (4, .ref (ad (3300 + je))), (3, .int (nI je)), (0, .ref (ad 0)), (1, .ref (ad 3000)), (2, .int x)]) hx hb dL_act_85 hl (by decide) rfl (fun ls hl => ?_)
      refine lv_aload hx hb dL_act_87 (lv_at hl 1 rfl) ?_
      refine f_get X hw (hEs je (by omega)) fc7 5 (by decide) wq779 rfl (v := .int ((tE U je) 5)) rfl dL_act_89 ?_
      refine lv_if_gt (tgt := 105) hx hb dL_act_92 (by decide) (fun c_3 => ?_) (fun c_3 => ?_)
      · refine lv_iconst (v := 1) hx hb dL_act_105 (by decide) ?_
        rw [hQ9, ← hado, ← hMo]
        exact f_zret X hw rfl ⟨rfl, ⟨T, ⟨U, A, sf, hC, hLe, hS, hs, ho, hg, hl9⟩, cntT_rf⟩, hrA, h0, h30⟩ (by omega) (by omega) dL_act_106
      · refine lv_aload hx hb dL_act_95 (lv_at hl 1 rfl) ?_
        refine f_get X hw (hEs je (by omega)) fc7 0 (by decide) wq768 rfl (v := .int ((tE U je) 0)) rfl dL_act_97 ?_
        refine lv_iload hx hb dL_act_100 (lv_at hl 0 rfl) ?_
        refine lv_icmp_ne (tgt := 107) hx hb dL_act_102 (by decide) (fun c_4 => ?_) (fun c_4 => ?_)
        · refine lv_aload_n hx hb dL_act_107 rfl (lv_at hl 4 rfl) ?_
          refine lv_aload hx hb dL_act_108 (lv_at hl 1 rfl) ?_
          refine f_get X hw (hEs je (by omega)) fc7 0 (by decide) wq768 rfl (v := .int ((tE U je) 0)) rfl dL_act_110 ?_
          refine f_top (y := nI a) ea2 ?_
          refine lv_iload hx hb dL_act_113 (lv_at hl 0 rfl) ?_
          have hso := stn c_3
          have hne : ¬ nI a = nI jc := fun z => c_4 (ea2.trans z)
          have rest118 : ∀ (ad : Nat → Nat) (M : fM) (hC : isC g ad M T A kf nf sf) (hS : isSim g ad M U) (hrA : fReg 0 3420 ado Mo ad M) (h0 : ad 0 = ado 0) (h30 : ad 3000 = ado 3000) (ls : Array Slot) (H : Heap) (locs : List Loc), fw g ad M s H locs → lv_has ls 11 [(5, .int (nI jc)), (4, .ref (ad (3300 + je))), (3, .int (nI je)), (0, .ref (ad 0)), (1, .ref (ad 3000)), (2, .int x)] → W p l e (fR 10 290 142 840) s m args below meth c H locs (0 + 142) (0 + 840) Q9 (F0 m 118 ls [.int (stepsR kf sf a jc)]) := by
            intro ad M hC hS hrA h0 h30 ls H locs hw hl
            have hF : M 0 = some (.inr (6, [.ref (ad 1), .ref (ad 1000), .ref (ad 2000)])) := hC.1
            obtain ⟨hS0, ⟨fHh, hSh, hSH⟩, ⟨fEe, hSe, hSE⟩, ⟨fPp, hSp, hSP⟩, hHs, hEs, hPs, hn1, hn3, hn2⟩ := id hS
            refine lv_istore (lv' := [(6, .int (stepsR kf sf a jc)), (5, .int (nI jc)), (4, .ref (ad (3300 + je))), (3, .int (nI je)), (0, .ref (ad 0)), (1, .ref (ad 3000)), (2, .int x)]) hx hb dL_act_118 hl (by decide) rfl (fun ls hl => ?_)
            refine lv_iload hx hb dL_act_120 (lv_at hl 0 rfl) ?_
            refine lv_if_ge (tgt := 127) hx hb dL_act_122 (by decide) (fun c_5 => ?_) (fun c_5 => ?_)
            · have hsr : stepsR kf sf a jc ≠ -1 := fun z => absurd c_5 (by rw [z]; decide)
              obtain ⟨hkc, mm, hm1, hm2, hmm⟩ := steps_ok haa (show jc < 140 by omega) (fun z => hne (by rw [z])) hsr
              refine lv_aload hx hb dL_act_127 (lv_at hl 2 rfl) ?_
              refine lv_iload hx hb dL_act_129 (lv_at hl 0 rfl) ?_
              refine lv_iconst (v := 5) hx hb dL_act_131 (by decide) ?_
              refine lv_aload hx hb dL_act_132 (lv_at hl 2 rfl) ?_
              refine f_get X hw (hEs je (by omega)) fc7 1 (by decide) wq770 rfl (v := .int ((tE U je) 1)) rfl dL_act_134 ?_
              refine lv_isub hx hb dL_act_137 ?_
              refine lv_imul hx hb dL_act_138 ?_
              refine f_put X hw (hEs je (by omega)) fc7 5 (by decide) wq779 rfl rfl (v := .int ((stepsR kf sf a jc) * (5 - ((tE U je) 1)))) rfl rfl (Nat.le_of_ble_eq_true rfl) dL_act_139 (fun H locs hw => ?_)
              have hw : fw g ad (fU M (3300 + je) (.inr (7, gV (upd (tE U je) 5 ((stepsR kf sf a jc) * (5 - ((tE U je) 1))))))) s H locs := hw
              have hS0 : (fU M (3300 + je) (.inr (7, gV (upd (tE U je) 5 ((stepsR kf sf a jc) * (5 - ((tE U je) 1))))))) 3000 = some (.inr (9, [.int (tM U), .ref (ad 3001), .ref (ad 3002), .ref (ad 3003)])) := (fU_n (by omega)).trans hS0
              have hSh : (fU M (3300 + je) (.inr (7, gV (upd (tE U je) 5 ((stepsR kf sf a jc) * (5 - ((tE U je) 1))))))) 3001 = some (.inl (gY g, tHn U, .inr (.inr (.inr (.inr fHh))))) := (fU_n (by omega)).trans hSh
              have hSe : (fU M (3300 + je) (.inr (7, gV (upd (tE U je) 5 ((stepsR kf sf a jc) * (5 - ((tE U je) 1))))))) 3002 = some (.inl (gW g, tEn U, .inr (.inr (.inr (.inr fEe))))) := (fU_n (by omega)).trans hSe
              have hSp : (fU M (3300 + je) (.inr (7, gV (upd (tE U je) 5 ((stepsR kf sf a jc) * (5 - ((tE U je) 1))))))) 3003 = some (.inl (gQ g, tPn U, .inr (.inr (.inr (.inr fPp))))) := (fU_n (by omega)).trans hSp
              have hF : (fU M (3300 + je) (.inr (7, gV (upd (tE U je) 5 ((stepsR kf sf a jc) * (5 - ((tE U je) 1))))))) 0 = some (.inr (6, [.ref (ad 1), .ref (ad 1000), .ref (ad 2000)])) := (fU_n (by omega)).trans hF
              have hM_3300___je : (fU M (3300 + je) (.inr (7, gV (upd (tE U je) 5 ((stepsR kf sf a jc) * (5 - ((tE U je) 1))))))) (3300 + je) = some (.inr (7, gV (upd (tE U je) 5 ((stepsR kf sf a jc) * (5 - ((tE U je) 1)))))) := fU_s
              refine lv_aload hx hb dL_act_142 (lv_at hl 2 rfl) ?_
              refine lv_iload hx hb dL_act_144 (lv_at hl 1 rfl) ?_
              refine f_put X hw hM_3300___je fc7 6 (by decide) wq781 rfl rfl (v := .int (nI jc)) rfl rfl (Nat.le_of_ble_eq_true rfl) dL_act_146 (fun H locs hw => ?_)
              have hw : fw g ad (fU (fU M (3300 + je) (.inr (7, gV (upd (tE U je) 5 ((stepsR kf sf a jc) * (5 - ((tE U je) 1))))))) (3300 + je) (.inr (7, gV (upd (upd (tE U je) 5 ((stepsR kf sf a jc) * (5 - ((tE U je) 1)))) 6 (nI jc))))) s H locs := hw
              rw [fU_U] at hw
              have hS0 : (fU M (3300 + je) (.inr (7, gV (upd (upd (tE U je) 5 ((stepsR kf sf a jc) * (5 - ((tE U je) 1)))) 6 (nI jc))))) 3000 = some (.inr (9, [.int (tM U), .ref (ad 3001), .ref (ad 3002), .ref (ad 3003)])) := ((fU_n (by omega)).trans (fU_n (by omega)).symm).trans hS0
              have hSh : (fU M (3300 + je) (.inr (7, gV (upd (upd (tE U je) 5 ((stepsR kf sf a jc) * (5 - ((tE U je) 1)))) 6 (nI jc))))) 3001 = some (.inl (gY g, tHn U, .inr (.inr (.inr (.inr fHh))))) := ((fU_n (by omega)).trans (fU_n (by omega)).symm).trans hSh
              have hSe : (fU M (3300 + je) (.inr (7, gV (upd (upd (tE U je) 5 ((stepsR kf sf a jc) * (5 - ((tE U je) 1)))) 6 (nI jc))))) 3002 = some (.inl (gW g, tEn U, .inr (.inr (.inr (.inr fEe))))) := ((fU_n (by omega)).trans (fU_n (by omega)).symm).trans hSe
              have hSp : (fU M (3300 + je) (.inr (7, gV (upd (upd (tE U je) 5 ((stepsR kf sf a jc) * (5 - ((tE U je) 1)))) 6 (nI jc))))) 3003 = some (.inl (gQ g, tPn U, .inr (.inr (.inr (.inr fPp))))) := ((fU_n (by omega)).trans (fU_n (by omega)).symm).trans hSp
              have hF : (fU M (3300 + je) (.inr (7, gV (upd (upd (tE U je) 5 ((stepsR kf sf a jc) * (5 - ((tE U je) 1)))) 6 (nI jc))))) 0 = some (.inr (6, [.ref (ad 1), .ref (ad 1000), .ref (ad 2000)])) := ((fU_n (by omega)).trans (fU_n (by omega)).symm).trans hF
              have hM_3300___je : (fU M (3300 + je) (.inr (7, gV (upd (upd (tE U je) 5 ((stepsR kf sf a jc) * (5 - ((tE U je) 1)))) 6 (nI jc))))) (3300 + je) = some (.inr (7, gV (upd (upd (tE U je) 5 ((stepsR kf sf a jc) * (5 - ((tE U je) 1)))) 6 (nI jc)))) := fU_s
              refine lv_aload hx hb dL_act_149 (lv_at hl 2 rfl) ?_
              refine lv_iconst (v := (-1)) hx hb dL_act_151 (by decide) ?_
              refine f_put X hw hM_3300___je fc7 7 (by decide) wq784 rfl rfl (v := .int (-1)) rfl rfl (Nat.le_of_ble_eq_true rfl) dL_act_152 (fun H locs hw => ?_)
              have hw : fw g ad (fU (fU M (3300 + je) (.inr (7, gV (upd (upd (tE U je) 5 ((stepsR kf sf a jc) * (5 - ((tE U je) 1)))) 6 (nI jc))))) (3300 + je) (.inr (7, gV (upd (upd (upd (tE U je) 5 ((stepsR kf sf a jc) * (5 - ((tE U je) 1)))) 6 (nI jc)) 7 (-1))))) s H locs := hw
              rw [fU_U] at hw
              have hS0 : (fU M (3300 + je) (.inr (7, gV (upd (upd (upd (tE U je) 5 ((stepsR kf sf a jc) * (5 - ((tE U je) 1)))) 6 (nI jc)) 7 (-1))))) 3000 = some (.inr (9, [.int (tM U), .ref (ad 3001), .ref (ad 3002), .ref (ad 3003)])) := ((fU_n (by omega)).trans (fU_n (by omega)).symm).trans hS0
              have hSh : (fU M (3300 + je) (.inr (7, gV (upd (upd (upd (tE U je) 5 ((stepsR kf sf a jc) * (5 - ((tE U je) 1)))) 6 (nI jc)) 7 (-1))))) 3001 = some (.inl (gY g, tHn U, .inr (.inr (.inr (.inr fHh))))) := ((fU_n (by omega)).trans (fU_n (by omega)).symm).trans hSh
              have hSe : (fU M (3300 + je) (.inr (7, gV (upd (upd (upd (tE U je) 5 ((stepsR kf sf a jc) * (5 - ((tE U je) 1)))) 6 (nI jc)) 7 (-1))))) 3002 = some (.inl (gW g, tEn U, .inr (.inr (.inr (.inr fEe))))) := ((fU_n (by omega)).trans (fU_n (by omega)).symm).trans hSe
              have hSp : (fU M (3300 + je) (.inr (7, gV (upd (upd (upd (tE U je) 5 ((stepsR kf sf a jc) * (5 - ((tE U je) 1)))) 6 (nI jc)) 7 (-1))))) 3003 = some (.inl (gQ g, tPn U, .inr (.inr (.inr (.inr fPp))))) := ((fU_n (by omega)).trans (fU_n (by omega)).symm).trans hSp
              have hF : (fU M (3300 + je) (.inr (7, gV (upd (upd (upd (tE U je) 5 ((stepsR kf sf a jc) * (5 - ((tE U je) 1)))) 6 (nI jc)) 7 (-1))))) 0 = some (.inr (6, [.ref (ad 1), .ref (ad 1000), .ref (ad 2000)])) := ((fU_n (by omega)).trans (fU_n (by omega)).symm).trans hF
              have hM_3300___je : (fU M (3300 + je) (.inr (7, gV (upd (upd (upd (tE U je) 5 ((stepsR kf sf a jc) * (5 - ((tE U je) 1)))) 6 (nI jc)) 7 (-1))))) (3300 + je) = some (.inr (7, gV (upd (upd (upd (tE U je) 5 ((stepsR kf sf a jc) * (5 - ((tE U je) 1)))) 6 (nI jc)) 7 (-1)))) := fU_s
              refine lv_aload_n hx hb dL_act_155 rfl (lv_at hl 5 rfl) ?_
              refine f_get X hw hS0 fc9 2 (by decide) wq625 rfl (v := .ref (ad 3002)) rfl dL_act_156 ?_
              refine lv_astore (lv' := [(7, .ref (ad 3002)), (6, .int (stepsR kf sf a jc)), (5, .int (nI jc)), (4, .ref (ad (3300 + je))), (3, .int (nI je)), (0, .ref (ad 0)), (1, .ref (ad 3000)), (2, .int x)]) hx hb dL_act_159 hl (by decide) rfl (fun ls hl => ?_)
              refine lv_aload hx hb dL_act_161 (lv_at hl 0 rfl) ?_
              refine f_alen X hw 5 hSe rfl dL_act_163 ?_
              refine lv_istore (lv' := [(8, .int (nI (tEn U))), (7, .ref (ad 3002)), (6, .int (stepsR kf sf a jc)), (5, .int (nI jc)), (4, .ref (ad (3300 + je))), (3, .int (nI je)), (0, .ref (ad 0)), (1, .ref (ad 3000)), (2, .int x)]) hx hb dL_act_164 hl (by decide) rfl (fun ls hl => ?_)
              refine lv_iconst (v := 0) hx hb dL_act_166 (by decide) ?_
              refine lv_istore (lv' := [(9, .int 0), (8, .int (nI (tEn U))), (7, .ref (ad 3002)), (6, .int (stepsR kf sf a jc)), (5, .int (nI jc)), (4, .ref (ad (3300 + je))), (3, .int (nI je)), (0, .ref (ad 0)), (1, .ref (ad 3000)), (2, .int x)]) hx hb dL_act_167 hl (by decide) rfl (fun ls hl => ?_)
              obtain ⟨V, hV⟩ : ∃ z, z = sE U je (upd (upd (upd (tE U je) 5 (stepsR kf sf a jc * (5 - tE U je 1))) 6 (nI jc)) 7 (-1)) := ⟨_, rfl⟩
              have hSv : isSim g ad (fU M (3300 + je) (.inr (7, gV (upd (upd (upd (tE U je) 5 ((stepsR kf sf a jc) * (5 - ((tE U je) 1)))) 6 (nI jc)) 7 (-1))))) V := by rw [hV]; exact isSim_E (j := je) (f := upd (upd (upd (tE U je) 5 ((stepsR kf sf a jc) * (5 - ((tE U je) 1)))) 6 (nI jc)) 7 (-1)) hS (by omega)
              have hCv := isC_hi (M1 := (fU M (3300 + je) (.inr (7, gV (upd (upd (upd (tE U je) 5 ((stepsR kf sf a jc) * (5 - ((tE U je) 1)))) 6 (nI jc)) 7 (-1)))))) hC (fun l h => fU_n (by omega))
              have nV : tEn V = tEn U ∧ tHn V = tHn U ∧ tPn V = tPn U ∧ tM V = tM U := by rw [hV]; exact ⟨rfl, rfl, rfl, rfl⟩
              have loop169 : ∀ (n k : Nat), k ≤ tEn U → tEn U < k + n → ∀ (M : fM) (hC : isC g ad M T A kf nf sf) (hS : isSim g ad M (mE (mOff (nI je)) k V)) (hrA : fReg 0 3420 ado Mo ad M) (ls : Array Slot) (H : Heap) (locs : List Loc), fw g ad M s H locs → lv_has ls 11 [(9, .int (nI k)), (8, .int (nI (tEn U))), (7, .ref (ad 3002)), (5, .int (nI jc)), (4, .ref (ad (3300 + je))), (3, .int (nI je)), (0, .ref (ad 0)), (1, .ref (ad 3000))] → W p l e (fR 10 290 142 840) s m args below meth c H locs (0 + 142) (0 + 840) Q9 (F0 m 169 ls []) := by
                intro n
                induction n with
                | zero => intro k h1 h2; omega
                | succ n ih =>
                  intro k hk_ hn_ M hC hS hrA ls H locs hw hl
                  obtain ⟨hS0, ⟨fHh, hSh, hSH⟩, ⟨fEe, hSe, hSE⟩, ⟨fPp, hSp, hSP⟩, hHs, hEs, hPs, hn1, hn3, hn2⟩ := id hS
                  rw [show tM (mE (mOff (nI je)) k V) = tM U from nV.2.2.2] at hS0
                  rw [show tHn (mE (mOff (nI je)) k V) = tHn U from nV.2.1] at hSh hSH hHs
                  rw [show tEn (mE (mOff (nI je)) k V) = tEn U from nV.1] at hSe hSE hEs
                  rw [show tPn (mE (mOff (nI je)) k V) = tPn U from nV.2.2.1] at hSp hSP hPs
                  have hn1 : tHn U ≤ 30 := by omega
                  have hn2 : tPn U ≤ 6 := by omega
                  have hn3 : tEn U ≤ 6 := by omega
                  have hel : k < tEn U → M (3300 + k) = some (.inr (7, gV (tE V k))) := fun h => by rw [hEs k h]; exact congrArg (fun f => some (Sum.inr (7, gV f))) (mE_ge (Nat.le_refl k))
                  have hF : M 0 = some (.inr (6, [.ref (ad 1), .ref (ad 1000), .ref (ad 2000)])) := hC.1
                  refine lv_iload hx hb dL_act_169 (lv_at hl 0 rfl) ?_
                  refine lv_iload hx hb dL_act_171 (lv_at hl 1 rfl) ?_
                  refine lv_icmp_ge (tgt := 204) hx hb dL_act_173 (by decide) (fun c_6 => ?_) (fun c_6 => ?_)
                  · have c_6 := nI_le' (a := (tEn U)) (b := k) c_6 (by omega) (by omega)
                    have ek : k = tEn U := by omega
                    refine lv_aload_n hx hb dL_act_204 rfl (lv_at hl 6 rfl) ?_
                    refine lv_iload_n hx hb dL_act_205 rfl (lv_at hl 5 rfl) ?_
                    refine lv_iload hx hb dL_act_206 (lv_at hl 3 rfl) ?_
                    refine lv_bipush (v := 14) hx hb dL_act_208 (by decide) ?_
                    refine lv_irem hx hb dL_act_210 (by decide) ?_
                    refine f_top (y := nI (jc % 14)) (pk_rem (a := jc) (d := 14) (by omega) (by omega) (by omega)) ?_
                    refine lv_iload hx hb dL_act_211 (lv_at hl 3 rfl) ?_
                    refine lv_bipush (v := 14) hx hb dL_act_213 (by decide) ?_
                    refine lv_idiv hx hb dL_act_215 (by decide) ?_
                    refine f_top (y := nI (jc / 14)) (pk_div (a := jc) (d := 14) (by omega) (by omega) (by omega)) ?_
                    rw [ek] at hS
                    have hon := on_of (show jc < 140 by omega)
                    refine fk_i (fcV X hw (c_X5_drive l g ad M hC hjT hon.1 (show jc < 140 by omega) hon.2 (by rw [hso.1, ea]; exact decide_eq_true hne) ea haa (decide_eq_true hsr)) hF rfl wq828 kVX5_drive ⟨(Nat.le_of_ble_eq_true rfl), (Nat.le_of_ble_eq_true rfl)⟩ rfl hl.1 rfl (Nat.le_of_ble_eq_true rfl) dL_act_216 ⟨(by dsimp only [fR]; omega), (by dsimp only [fR]; omega)⟩) hw (fun r ad1 Mn1 H locs hp hw => ?_)
                    obtain ⟨hC3, hr3, h03, er⟩ := hp
                    have er2 : r = tE (drvT T je jc (stepsR kf sf a jc)) je 5 := er.trans (congrFun (show _ = tE (drvT T je jc (stepsR kf sf a jc)) je from (if_pos rfl).symm) 5)
                    rw [er2]
                    have hSd := isSim_reg hS hr3 (Or.inl (by omega))
                    have h30d : ad1 3000 = ado 3000 := (hr3 3000 (by omega) (by omega)).1.trans h30
                    have eUd : mE (mOff (nI je)) (tEn U) V = drvU U je jc (stepsR kf sf a jc * (5 - tE U je 1)) := by unfold drvU; rw [mSet_eq, hV]
                    have sd := sim_drv (U := U) (T := T) (j := je) (jc := jc) (st0 := stepsR kf sf a jc) (v := stepsR kf sf a jc * (5 - tE U je 1)) hs hjT h6 (by rw [rU 1 (by omega)])
                    rw [← eUd] at sd
                    have heq : tE (drvT T je jc (stepsR kf sf a jc)) je 5 = tE (mE (mOff (nI je)) (tEn U) V) je 5 := ((sd.2.2.2 je hjT).1.1 5 (by omega)).symm
                    have hEd : Mn1 (3300 + je) = some (.inr (7, gV (tE (mE (mOff (nI je)) (tEn U) V) je))) := hSd.2.2.2.2.2.1 je (by show je < tEn V; omega)
                    refine lv_aload hx hb dL_act_219 (lv_at hl 4 rfl) ?_
                    refine f_adr (ad := ad1) (lb := (3300 + je)) (hr3 (3300 + je) (by omega) (by omega)).1 ?_
                    refine f_get X hw hEd fc7 5 (by decide) wq779 rfl (v := .int ((tE (mE (mOff (nI je)) (tEn U) V) je) 5)) rfl dL_act_221 ?_
                    refine lv_icmp_ne (tgt := 231) hx hb dL_act_224 (by decide) (fun c_7 => absurd heq c_7) (fun c_7 => ?_)
                    refine lv_iconst (v := 1) hx hb dL_act_227 (by decide) ?_
                    refine lv_goto (tgt := 232) hx hb dL_act_228 (by decide) ?_
                    rw [hQ9, ← hado, ← hMo]
                    exact f_zret X hw rfl ⟨rfl, ⟨drvT T je jc (stepsR kf sf a jc), ⟨mE (mOff (nI je)) (tEn U) V, A, _, hC3, hLe, hSd, sd, (ok_drv ho hjT (show jc < 140 by omega) hkc hm1 hm2 hmm), (gOk_of hg rfl rfl (fun _ _ => rfl) (fun _ _ => rfl)), (okL_drv hl9 hjT h6)⟩, cntT_rf⟩, (fReg_tr hrA (fReg_w hr3 (by omega) (by omega))), (h03.trans h0), h30d⟩ (by omega) (by omega) dL_act_232
                  · have c_6 := nI_nle' (a := (tEn U)) (b := k) c_6 (by omega) (by omega)
                    refine lv_aload hx hb dL_act_176 (lv_at hl 2 rfl) ?_
                    refine lv_iload hx hb dL_act_178 (lv_at hl 0 rfl) ?_
                    refine f_aaldW X hw hSe (vp_in_nI (n := k) (by omega) (by omega)) (q := ad (3300 + k)) (by rw [nI_clamp (by omega)]; exact hSE k (by omega)) dL_act_180 ?_
                    refine lv_astore (lv' := [(10, .ref (ad (3300 + k))), (9, .int (nI k)), (8, .int (nI (tEn U))), (7, .ref (ad 3002)), (5, .int (nI jc)), (4, .ref (ad (3300 + je))), (3, .int (nI je)), (0, .ref (ad 0)), (1, .ref (ad 3000))]) hx hb dL_act_181 hl (by decide) rfl (fun ls hl => ?_)
                    refine lv_aload hx hb dL_act_183 (lv_at hl 0 rfl) ?_
                    refine f_get X hw (hel (by omega)) fc7 7 (by decide) wq784 rfl (v := .int ((tE V k) 7)) rfl dL_act_185 ?_
                    refine lv_iload_n hx hb dL_act_188 rfl (lv_at hl 6 rfl) ?_
                    refine lv_icmp_ne (tgt := 198) hx hb dL_act_189 (by decide) (fun c_8 => ?_) (fun c_8 => ?_)
                    · refine lv_iinc (v := nI (k + 1)) (lv' := [(9, .int (nI (k + 1))), (10, .ref (ad (3300 + k))), (8, .int (nI (tEn U))), (7, .ref (ad 3002)), (5, .int (nI jc)), (4, .ref (ad (3300 + je))), (3, .int (nI je)), (0, .ref (ad 0)), (1, .ref (ad 3000))]) hx hb dL_act_198 hl (k := 1) rfl (nI_1 k) (by decide) rfl (fun ls hl => ?_)
                      refine lv_goto (tgt := 169) hx hb dL_act_201 (by decide) ?_
                      have eU : mE (mOff (nI je)) k V = mE (mOff (nI je)) (k + 1) V := by rw [← mE_step, show mOff (nI je) (tE V k) = tE V k from if_neg c_8, ← show tE (mE (mOff (nI je)) k V) k = tE V k from mE_ge (Nat.le_refl k)]; exact sE_same.symm
                      rw [eU] at hS
                      exact ih (k + 1) (by omega) (by omega) M hC hS hrA ls _ _ hw (lv_sub hl [0, 2, 3, 4, 5, 6, 7, 8] rfl)
                    · refine lv_aload hx hb dL_act_192 (lv_at hl 0 rfl) ?_
                      refine lv_iconst (v := (-1)) hx hb dL_act_194 (by decide) ?_
                      refine f_put X hw (hel (by omega)) fc7 7 (by decide) wq784 rfl rfl (v := .int (-1)) rfl rfl (Nat.le_of_ble_eq_true rfl) dL_act_195 (fun H locs hw => ?_)
                      have hw : fw g ad (fU M (3300 + k) (.inr (7, gV (upd (tE V k) 7 (-1))))) s H locs := hw
                      have hS0 : (fU M (3300 + k) (.inr (7, gV (upd (tE V k) 7 (-1))))) 3000 = some (.inr (9, [.int (tM U), .ref (ad 3001), .ref (ad 3002), .ref (ad 3003)])) := (fU_n (by omega)).trans hS0
                      have hSh : (fU M (3300 + k) (.inr (7, gV (upd (tE V k) 7 (-1))))) 3001 = some (.inl (gY g, tHn U, .inr (.inr (.inr (.inr fHh))))) := (fU_n (by omega)).trans hSh
                      have hSe : (fU M (3300 + k) (.inr (7, gV (upd (tE V k) 7 (-1))))) 3002 = some (.inl (gW g, tEn U, .inr (.inr (.inr (.inr fEe))))) := (fU_n (by omega)).trans hSe
                      have hSp : (fU M (3300 + k) (.inr (7, gV (upd (tE V k) 7 (-1))))) 3003 = some (.inl (gQ g, tPn U, .inr (.inr (.inr (.inr fPp))))) := (fU_n (by omega)).trans hSp
                      have hF : (fU M (3300 + k) (.inr (7, gV (upd (tE V k) 7 (-1))))) 0 = some (.inr (6, [.ref (ad 1), .ref (ad 1000), .ref (ad 2000)])) := (fU_n (by omega)).trans hF
                      have hM_3300___k : (fU M (3300 + k) (.inr (7, gV (upd (tE V k) 7 (-1))))) (3300 + k) = some (.inr (7, gV (upd (tE V k) 7 (-1)))) := fU_s
                      refine lv_iinc (v := nI (k + 1)) (lv' := [(9, .int (nI (k + 1))), (10, .ref (ad (3300 + k))), (8, .int (nI (tEn U))), (7, .ref (ad 3002)), (5, .int (nI jc)), (4, .ref (ad (3300 + je))), (3, .int (nI je)), (0, .ref (ad 0)), (1, .ref (ad 3000))]) hx hb dL_act_198 hl (k := 1) rfl (nI_1 k) (by decide) rfl (fun ls hl => ?_)
                      refine lv_goto (tgt := 169) hx hb dL_act_201 (by decide) ?_
                      have eF : upd (tE V k) 7 (-1) = mOff (nI je) (tE V k) := Eq.symm (if_pos c_8)
                      have hS2 := isSim_E (j := k) (f := upd (tE V k) 7 (-1)) hS (by show k < tEn V; omega)
                      have eU : sE (mE (mOff (nI je)) k V) k (upd (tE V k) 7 (-1)) = mE (mOff (nI je)) (k + 1) V := by rw [eF]; exact mE_step
                      rw [eU] at hS2
                      exact ih (k + 1) (by omega) (by omega) _ (isC_hi hC (fun l h => fU_n (by omega))) hS2 (fReg_U hrA (by omega)) ls _ _ hw (lv_sub hl [0, 2, 3, 4, 5, 6, 7, 8] rfl)
              exact loop169 (tEn U + 1) 0 (by omega) (by omega) _ hCv (by rw [mE_0]; exact hSv) (fReg_U hrA (by omega)) ls _ _ hw (lv_sub hl [0, 1, 2, 4, 5, 6, 7, 8] rfl)
            · refine lv_iconst (v := 1) hx hb dL_act_125 (by decide) ?_
              rw [hQ9, ← hado, ← hMo]
              exact f_zret X hw rfl ⟨rfl, ⟨T, ⟨U, A, sf, hC, hLe, hS, hs, ho, hg, hl9⟩, cntT_rf⟩, hrA, h0, h30⟩ (by omega) (by omega) dL_act_126
          refine fk_i (fcV X hw (c_s_way l g ad M hS (sf := sf) (st_of hs hg) haa (show jc < 140 by omega) (fun z => hne (by rw [z])) hka) hS0 rfl wq824 kVX8_way ⟨(Nat.le_of_ble_eq_true rfl), (Nat.le_of_ble_eq_true rfl)⟩ rfl hl.1 rfl (Nat.le_of_ble_eq_true rfl) dL_act_115 ⟨(by dsimp only [fR]; omega), (by dsimp only [fR]; omega)⟩) hw (fun r ad1 M1 H locs hp hw => ?_)
          obtain ⟨hr1, er⟩ := hp
          rw [er]
          have R1 : ∀ l, l < 3400 → ad1 l = ad l ∧ M1 l = M l := fun l h => hr1 l (by omega) (by omega)
          rw [← (R1 0 (by omega)).1, ← (R1 3000 (by omega)).1, ← (R1 (3300 + je) (by omega)).1] at hl
          exact rest118 ad1 M1 (isC_eq hC (fun l h => R1 l (by omega))) (isSim_eq hS (fun l _ h => R1 l h)) (fReg_tr hrA (fReg_w hr1 (by omega) (by omega))) ((R1 0 (by omega)).1.trans h0) ((R1 3000 (by omega)).1.trans h30) ls _ _ hw (lv_sub hl [0, 1, 2, 3, 4, 5] rfl)
        · refine lv_iconst (v := 1) hx hb dL_act_105 (by decide) ?_
          rw [hQ9, ← hado, ← hMo]
          exact f_zret X hw rfl ⟨rfl, ⟨T, ⟨U, A, sf, hC, hLe, hS, hs, ho, hg, hl9⟩, cntT_rf⟩, hrA, h0, h30⟩ (by omega) (by omega) dL_act_106
    by_cases k_9 : (nI (lBel (x >>> (8 &&& 31)) 6)) = 1
    · refine lv_tableIn (off := 191) (tgt := 233) hx hb dL_act_42 (by rw [k_9]; decide) (by rw [k_9]; decide) (by rw [k_9]; rfl) (by decide) ?_
      refine lv_iload_n hx hb dL_act_233 rfl (lv_at hl 4 rfl) ?_
      refine lv_iconst (v := 3) hx hb dL_act_234 (by decide) ?_
      refine lv_ishr hx hb dL_act_235 ?_
      refine lv_aload_n hx hb dL_act_236 rfl (lv_at hl 3 rfl) ?_
      refine f_get X hw hS0 fc9 2 (by decide) wq625 rfl (v := .ref (ad 3002)) rfl dL_act_237 ?_
      refine f_alen X hw 5 hSe rfl dL_act_240 ?_
      refine fk_di (fcS X hw (c_below l g ad M (x >>> (3 &&& 31)) (N := tEn U) (by omega) (by omega)) wq637 kSL_below ⟨(Nat.le_of_ble_eq_true rfl), (Nat.le_of_ble_eq_true rfl)⟩ rfl hl.1 rfl (Nat.le_of_ble_eq_true rfl) dL_act_241 ⟨(by dsimp only [fR]; omega), (by dsimp only [fR]; omega)⟩) hw (fun H locs hw => ?_)
      have hb241 : lBel (x >>> (3 &&& 31)) (tEn U) < tEn U := lBel_lt (by omega)
      obtain ⟨jo, ejo⟩ : ∃ z, z = lBel (x >>> (3 &&& 31)) (tEn U) := ⟨_, rfl⟩
      rw [← ejo] at hb241
      refine f_top (y := nI jo) (by rw [ejo]) ?_
      refine lv_istore (lv' := [(7, .int (nI jo)), (4, .ref (ad (3300 + je))), (3, .int (nI je)), (0, .ref (ad 0)), (1, .ref (ad 3000)), (2, .int x)]) hx hb dL_act_244 hl (by decide) rfl (fun ls hl => ?_)
      have hjoT : jo < tEn T := by omega
      have rO : ∀ k, k < 6 → tE U jo k = tE T jo k := (hs.2.2.2 jo hjoT).1.1
      obtain ⟨rk, hRk⟩ := ho.2.2.2.2.1
      refine lv_aload hx hb dL_act_246 (lv_at hl 1 rfl) ?_
      refine f_get X hw (hEs je (by omega)) fc7 5 (by decide) wq779 rfl (v := .int ((tE U je) 5)) rfl dL_act_248 ?_
      refine lv_if_gt (tgt := 300) hx hb dL_act_251 (by decide) (fun c_10 => ?_) (fun c_10 => ?_)
      · refine lv_iconst (v := 1) hx hb dL_act_300 (by decide) ?_
        rw [hQ9, ← hado, ← hMo]
        exact f_zret X hw rfl ⟨rfl, ⟨T, ⟨U, A, sf, hC, hLe, hS, hs, ho, hg, hl9⟩, cntT_rf⟩, hrA, h0, h30⟩ (by omega) (by omega) dL_act_301
      · refine lv_aload_n hx hb dL_act_254 rfl (lv_at hl 4 rfl) ?_
        refine f_get X hw hS0 fc9 2 (by decide) wq625 rfl (v := .ref (ad 3002)) rfl dL_act_255 ?_
        refine lv_iload hx hb dL_act_258 (lv_at hl 0 rfl) ?_
        refine f_aaldW X hw hSe (vp_in_nI (n := jo) (by omega) (by omega)) (q := ad (3300 + jo)) (by rw [nI_clamp (by omega)]; exact hSE jo (by omega)) dL_act_260 ?_
        refine f_get X hw (hEs jo (by omega)) fc7 5 (by decide) wq779 rfl (v := .int ((tE U jo) 5)) rfl dL_act_261 ?_
        refine lv_if_gt (tgt := 300) hx hb dL_act_264 (by decide) (fun c_11 => ?_) (fun c_11 => ?_)
        · refine lv_iconst (v := 1) hx hb dL_act_300 (by decide) ?_
          rw [hQ9, ← hado, ← hMo]
          exact f_zret X hw rfl ⟨rfl, ⟨T, ⟨U, A, sf, hC, hLe, hS, hs, ho, hg, hl9⟩, cntT_rf⟩, hrA, h0, h30⟩ (by omega) (by omega) dL_act_301
        · refine lv_aload hx hb dL_act_267 (lv_at hl 1 rfl) ?_
          refine f_get X hw (hEs je (by omega)) fc7 0 (by decide) wq768 rfl (v := .int ((tE U je) 0)) rfl dL_act_269 ?_
          refine lv_aload_n hx hb dL_act_272 rfl (lv_at hl 4 rfl) ?_
          refine f_get X hw hS0 fc9 2 (by decide) wq625 rfl (v := .ref (ad 3002)) rfl dL_act_273 ?_
          refine lv_iload hx hb dL_act_276 (lv_at hl 0 rfl) ?_
          refine f_aaldW X hw hSe (vp_in_nI (n := jo) (by omega) (by omega)) (q := ad (3300 + jo)) (by rw [nI_clamp (by omega)]; exact hSE jo (by omega)) dL_act_278 ?_
          refine f_get X hw (hEs jo (by omega)) fc7 0 (by decide) wq768 rfl (v := .int ((tE U jo) 0)) rfl dL_act_279 ?_
          refine fk_di (fcS X hw (c_s_far l g ad M ((tE U je) 0) ((tE U jo) 0)) wq858 kSX8_far ⟨(Nat.le_of_ble_eq_true rfl), (Nat.le_of_ble_eq_true rfl)⟩ rfl hl.1 rfl (Nat.le_of_ble_eq_true rfl) dL_act_282 ⟨(by dsimp only [fR]; omega), (by dsimp only [fR]; omega)⟩) hw (fun H locs hw => ?_)
          refine lv_bipush (v := 6) hx hb dL_act_285 (by decide) ?_
          refine lv_icmp_gt (tgt := 300) hx hb dL_act_287 (by decide) (fun c_12 => ?_) (fun c_12 => ?_)
          · refine lv_iconst (v := 1) hx hb dL_act_300 (by decide) ?_
            rw [hQ9, ← hado, ← hMo]
            exact f_zret X hw rfl ⟨rfl, ⟨T, ⟨U, A, sf, hC, hLe, hS, hs, ho, hg, hl9⟩, cntT_rf⟩, hrA, h0, h30⟩ (by omega) (by omega) dL_act_301
          · refine lv_aload_n hx hb dL_act_290 rfl (lv_at hl 4 rfl) ?_
            refine lv_iload hx hb dL_act_291 (lv_at hl 0 rfl) ?_
            refine lv_iload_n hx hb dL_act_293 rfl (lv_at hl 2 rfl) ?_
            refine fk_di (fcV X hw (c_s_leads l (to := nI je) (lk_of hs hRk hl9.2.2.2.1 h6 h30T) 6 g ad M hS jo (by omega) (hRk jo hjoT).1) hS0 rfl wq859 kVX8_leads ⟨(Nat.le_of_ble_eq_true rfl), (Nat.le_of_ble_eq_true rfl)⟩ rfl hl.1 rfl (Nat.le_of_ble_eq_true rfl) dL_act_294 ⟨(by dsimp only [fR]; omega), (by dsimp only [fR]; omega)⟩) hw (fun H locs hw => ?_)
            refine lv_if_eq (tgt := 302) hx hb dL_act_297 (by decide) (fun c_13 => ?_) (fun c_13 => ?_)
            · have c_13 := bI_f.mp c_13
              have hso := stn c_10
              have hlf : leadsN T (nI je) 7 (nI jo) = false := by rw [leads_fuel hRk h6 6 jo hjoT (hRk jo hjoT).1, ← leads_same hs h6]; exact c_13
              have o5 : tE T jo 5 = 0 := by
                have z := c_11
                rw [rO 5 (by omega)] at z
                rcases (ho.2.2.1 jo hjoT).2.2.2 with ⟨y, -⟩ | ⟨y, -⟩
                · exact y
                · exact absurd y z
              have hd6 : ¬ 6 < aDist (tE T je 0) (tE T jo 0) := by rw [← rU 0 (by omega), ← rO 0 (by omega)]; exact c_12
              obtain ⟨L9, eL, hL⟩ := dist_6 (show isC0 (tE T je 0) from ⟨a, haa, ea⟩) (show isC0 (tE T jo 0) by obtain ⟨c, c1, c2, -⟩ := (ho.2.2.1 jo hjoT).1; exact ⟨c, c1, c2⟩) hd6
              have hne : jo ≠ je := fun z => by rw [z, leads_self hjT h6] at hlf; exact Bool.noConfusion hlf
              refine lv_aload hx hb dL_act_302 (lv_at hl 1 rfl) ?_
              refine lv_iload hx hb dL_act_304 (lv_at hl 0 rfl) ?_
              refine f_put X hw (hEs je (by omega)) fc7 7 (by decide) wq784 rfl rfl (v := .int (nI jo)) rfl rfl (Nat.le_of_ble_eq_true rfl) dL_act_306 (fun H locs hw => ?_)
              have hw : fw g ad (fU M (3300 + je) (.inr (7, gV (upd (tE U je) 7 (nI jo))))) s H locs := hw
              have hS0 : (fU M (3300 + je) (.inr (7, gV (upd (tE U je) 7 (nI jo))))) 3000 = some (.inr (9, [.int (tM U), .ref (ad 3001), .ref (ad 3002), .ref (ad 3003)])) := (fU_n (by omega)).trans hS0
              have hSh : (fU M (3300 + je) (.inr (7, gV (upd (tE U je) 7 (nI jo))))) 3001 = some (.inl (gY g, tHn U, .inr (.inr (.inr (.inr fHh))))) := (fU_n (by omega)).trans hSh
              have hSe : (fU M (3300 + je) (.inr (7, gV (upd (tE U je) 7 (nI jo))))) 3002 = some (.inl (gW g, tEn U, .inr (.inr (.inr (.inr fEe))))) := (fU_n (by omega)).trans hSe
              have hSp : (fU M (3300 + je) (.inr (7, gV (upd (tE U je) 7 (nI jo))))) 3003 = some (.inl (gQ g, tPn U, .inr (.inr (.inr (.inr fPp))))) := (fU_n (by omega)).trans hSp
              have hF : (fU M (3300 + je) (.inr (7, gV (upd (tE U je) 7 (nI jo))))) 0 = some (.inr (6, [.ref (ad 1), .ref (ad 1000), .ref (ad 2000)])) := (fU_n (by omega)).trans hF
              have hM_3300___je : (fU M (3300 + je) (.inr (7, gV (upd (tE U je) 7 (nI jo))))) (3300 + je) = some (.inr (7, gV (upd (tE U je) 7 (nI jo)))) := fU_s
              refine lv_aload_n hx hb dL_act_309 rfl (lv_at hl 3 rfl) ?_
              refine lv_iload_n hx hb dL_act_310 rfl (lv_at hl 2 rfl) ?_
              refine lv_iload hx hb dL_act_311 (lv_at hl 0 rfl) ?_
              have hCv := isC_hi (M1 := (fU M (3300 + je) (.inr (7, gV (upd (tE U je) 7 (nI jo)))))) hC (fun l h => fU_n (by omega))
              have hSv : isSim g ad (fU M (3300 + je) (.inr (7, gV (upd (tE U je) 7 (nI jo))))) (sE U je (upd (tE U je) 7 (nI jo))) := isSim_E hS (by omega)
              refine fk_i (fcV X hw (c_X5_relay l g ad (fU M (3300 + je) (.inr (7, gV (upd (tE U je) 7 (nI jo))))) hCv hjT hjoT (by rw [hso.1, show eStands (tE T jo) = true by unfold eStands; rw [o5]; rfl, decide_eq_true hd6]; rfl) (by rw [hlf]; rfl)) hF rfl wq864 kVX5_relay ⟨(Nat.le_of_ble_eq_true rfl), (Nat.le_of_ble_eq_true rfl)⟩ rfl hl.1 rfl (Nat.le_of_ble_eq_true rfl) dL_act_313 ⟨(by dsimp only [fR]; omega), (by dsimp only [fR]; omega)⟩) hw (fun r ad1 Mn1 H locs hp hw => ?_)
              obtain ⟨hC3, hr3, h03, er⟩ := hp
              rw [er]
              have hSd := isSim_reg hSv hr3 (Or.inl (by omega))
              have h30d : ad1 3000 = ado 3000 := (hr3 3000 (by omega) (by omega)).1.trans h30
              have hS0 : Mn1 3000 = some (.inr (9, [.int (tM U), .ref (ad 3001), .ref (ad 3002), .ref (ad 3003)])) := (hr3 _ (by omega) (by omega)).2.trans hS0
              have hSh : Mn1 3001 = some (.inl (gY g, tHn U, .inr (.inr (.inr (.inr fHh))))) := (hr3 _ (by omega) (by omega)).2.trans hSh
              have hSe : Mn1 3002 = some (.inl (gW g, tEn U, .inr (.inr (.inr (.inr fEe))))) := (hr3 _ (by omega) (by omega)).2.trans hSe
              have hSp : Mn1 3003 = some (.inl (gQ g, tPn U, .inr (.inr (.inr (.inr fPp))))) := (hr3 _ (by omega) (by omega)).2.trans hSp
              have hM_3300___je : Mn1 (3300 + je) = some (.inr (7, gV (upd (tE U je) 7 (nI jo)))) := (hr3 _ (by omega) (by omega)).2.trans hM_3300___je
              refine lv_aload hx hb dL_act_316 (lv_at hl 1 rfl) ?_
              refine f_adr (ad := ad1) (lb := (3300 + je)) ((hr3 (3300 + je) (by omega) (by omega)).1) ?_
              refine f_get X hw hM_3300___je fc7 0 (by decide) wq768 rfl (v := .int ((tE U je) 0)) rfl dL_act_318 ?_
              refine lv_aload_n hx hb dL_act_321 rfl (lv_at hl 4 rfl) ?_
              refine f_adr (ad := ad1) (lb := 3000) ((hr3 3000 (by omega) (by omega)).1) ?_
              refine f_get X hw hS0 fc9 2 (by decide) wq625 rfl (v := .ref (ad 3002)) rfl dL_act_322 ?_
              refine lv_iload hx hb dL_act_325 (lv_at hl 0 rfl) ?_
              refine f_adr2 (ad := ad1) (lb := 3002) ((hr3 3002 (by omega) (by omega)).1) ?_
              refine f_aaldW X hw hSe (vp_in_nI (n := jo) (by omega) (by omega)) (q := ad1 (3300 + jo)) (by rw [nI_clamp (by omega)]; exact ((hSE jo (by omega)).trans (congrArg some (hr3 (3300 + jo) (by omega) (by omega)).1.symm))) dL_act_327 ?_
              refine f_adr (ad := ad1) (lb := (3300 + jo)) rfl ?_
              refine f_get X hw ((hr3 _ (by omega) (by omega)).2.trans ((fU_n (by omega)).trans (hEs jo (by omega)))) fc7 0 (by decide) wq768 rfl (v := .int ((tE U jo) 0)) rfl dL_act_328 ?_
              refine fk_di (fcS X hw (c_s_far l g ad1 Mn1 ((tE U je) 0) ((tE U jo) 0)) wq858 kSX8_far ⟨(Nat.le_of_ble_eq_true rfl), (Nat.le_of_ble_eq_true rfl)⟩ rfl hl.1 rfl (Nat.le_of_ble_eq_true rfl) dL_act_331 ⟨(by dsimp only [fR]; omega), (by dsimp only [fR]; omega)⟩) hw (fun H locs hw => ?_)
              refine lv_icmp_ne (tgt := 341) hx hb dL_act_334 (by decide) (fun c_14 => absurd (by rw [rU 0 (by omega), rO 0 (by omega)]) c_14) (fun c_14 => ?_)
              refine lv_iconst (v := 1) hx hb dL_act_337 (by decide) ?_
              refine lv_goto (tgt := 342) hx hb dL_act_338 (by decide) ?_
              rw [hQ9, ← hado, ← hMo]
              exact f_zret X hw rfl ⟨rfl, ⟨sE T je (upd (tE T je) 7 (nI jo)), ⟨sE U je (upd (tE U je) 7 (nI jo)), A, sf, hC3, hLe, hSd, (sim_sE hs (by omega) (by omega)), (ok_hose ho (Or.inr (Or.inl ⟨jo, hjoT, rfl⟩)) (relay_ok hRk h6 hjT hjoT hlf)), (gOk_of hg rfl rfl (fun _ _ => rfl) (fun _ _ => rfl)), (okL_hose hl9 hjT (fun _ => hso.2) (Or.inr (Or.inl ⟨jo, L9, hjoT, hne, rfl, eL, hL, o5⟩)) h6 h30T)⟩, cntT_rf⟩, (fReg_tr (fReg_U hrA (by omega)) (fReg_w hr3 (by omega) (by omega))), (h03.trans h0), h30d⟩ (by omega) (by omega) dL_act_342
            · have c_13 := bI_nf.mp c_13
              refine lv_iconst (v := 1) hx hb dL_act_300 (by decide) ?_
              rw [hQ9, ← hado, ← hMo]
              exact f_zret X hw rfl ⟨rfl, ⟨T, ⟨U, A, sf, hC, hLe, hS, hs, ho, hg, hl9⟩, cntT_rf⟩, hrA, h0, h30⟩ (by omega) (by omega) dL_act_301
    by_cases k_15 : (nI (lBel (x >>> (8 &&& 31)) 6)) = 2
    · refine lv_tableIn (off := 301) (tgt := 343) hx hb dL_act_42 (by rw [k_15]; decide) (by rw [k_15]; decide) (by rw [k_15]; rfl) (by decide) ?_
      refine lv_iload_n hx hb dL_act_343 rfl (lv_at hl 4 rfl) ?_
      refine lv_iconst (v := 2) hx hb dL_act_344 (by decide) ?_
      refine lv_ishr hx hb dL_act_345 ?_
      refine lv_aload_n hx hb dL_act_346 rfl (lv_at hl 3 rfl) ?_
      refine f_get X hw hS0 fc9 1 (by decide) wq623 rfl (v := .ref (ad 3001)) rfl dL_act_347 ?_
      refine f_alen X hw 4 hSh rfl dL_act_350 ?_
      refine fk_di (fcS X hw (c_below l g ad M (x >>> (2 &&& 31)) (N := tHn U) (by omega) (by omega)) wq637 kSL_below ⟨(Nat.le_of_ble_eq_true rfl), (Nat.le_of_ble_eq_true rfl)⟩ rfl hl.1 rfl (Nat.le_of_ble_eq_true rfl) dL_act_351 ⟨(by dsimp only [fR]; omega), (by dsimp only [fR]; omega)⟩) hw (fun H locs hw => ?_)
      have hb351 : lBel (x >>> (2 &&& 31)) (tHn U) < tHn U := lBel_lt (by omega)
      obtain ⟨jh, ejh⟩ : ∃ z, z = lBel (x >>> (2 &&& 31)) (tHn U) := ⟨_, rfl⟩
      rw [← ejh] at hb351
      refine f_top (y := nI jh) (by rw [ejh]) ?_
      refine lv_istore (lv' := [(8, .int (nI jh)), (4, .ref (ad (3300 + je))), (3, .int (nI je)), (0, .ref (ad 0)), (1, .ref (ad 3000)), (2, .int x)]) hx hb dL_act_354 hl (by decide) rfl (fun ls hl => ?_)
      have hjhT : jh < tHn T := by omega
      have rH : tH U jh 0 = tH T jh 0 := hs.2.2.1 jh hjhT 0 (by omega)
      refine lv_aload hx hb dL_act_356 (lv_at hl 1 rfl) ?_
      refine f_get X hw (hEs je (by omega)) fc7 5 (by decide) wq779 rfl (v := .int ((tE U je) 5)) rfl dL_act_358 ?_
      refine lv_if_gt (tgt := 387) hx hb dL_act_361 (by decide) (fun c_16 => ?_) (fun c_16 => ?_)
      · refine lv_iconst (v := 1) hx hb dL_act_387 (by decide) ?_
        rw [hQ9, ← hado, ← hMo]
        exact f_zret X hw rfl ⟨rfl, ⟨T, ⟨U, A, sf, hC, hLe, hS, hs, ho, hg, hl9⟩, cntT_rf⟩, hrA, h0, h30⟩ (by omega) (by omega) dL_act_388
      · refine lv_aload hx hb dL_act_364 (lv_at hl 1 rfl) ?_
        refine f_get X hw (hEs je (by omega)) fc7 0 (by decide) wq768 rfl (v := .int ((tE U je) 0)) rfl dL_act_366 ?_
        refine lv_aload_n hx hb dL_act_369 rfl (lv_at hl 4 rfl) ?_
        refine f_get X hw hS0 fc9 1 (by decide) wq623 rfl (v := .ref (ad 3001)) rfl dL_act_370 ?_
        refine lv_iload hx hb dL_act_373 (lv_at hl 0 rfl) ?_
        refine f_aaldY X hw hSh (vp_in_nI (n := jh) (by omega) (by omega)) (q := ad (3100 + jh)) (by rw [nI_clamp (by omega)]; exact hSH jh (by omega)) dL_act_375 ?_
        refine f_get X hw (hHs jh (by omega)) fc8 0 (by decide) wq719 rfl (v := .int ((tH U jh) 0)) rfl dL_act_376 ?_
        refine fk_di (fcS X hw (c_s_far l g ad M ((tE U je) 0) ((tH U jh) 0)) wq858 kSX8_far ⟨(Nat.le_of_ble_eq_true rfl), (Nat.le_of_ble_eq_true rfl)⟩ rfl hl.1 rfl (Nat.le_of_ble_eq_true rfl) dL_act_379 ⟨(by dsimp only [fR]; omega), (by dsimp only [fR]; omega)⟩) hw (fun H locs hw => ?_)
        refine lv_bipush (v := 6) hx hb dL_act_382 (by decide) ?_
        refine lv_icmp_le (tgt := 389) hx hb dL_act_384 (by decide) (fun c_17 => ?_) (fun c_17 => ?_)
        · have hso := stn c_16
          have hd6 : ¬ 6 < aDist (tE T je 0) (tH T jh 0) := by rw [← rU 0 (by omega), ← rH]; exact Int32.not_lt.mpr c_17
          obtain ⟨L9, eL, hL⟩ := dist_6 (show isC0 (tE T je 0) from ⟨a, haa, ea⟩) (show isC0 (tH T jh 0) from (ho.1 jh hjhT).1) hd6
          refine lv_aload hx hb dL_act_389 (lv_at hl 1 rfl) ?_
          refine lv_bipush (v := 100) hx hb dL_act_391 (by decide) ?_
          refine lv_iload hx hb dL_act_393 (lv_at hl 0 rfl) ?_
          refine lv_iadd hx hb dL_act_395 ?_
          refine f_put X hw (hEs je (by omega)) fc7 7 (by decide) wq784 rfl rfl (v := .int (100 + (nI jh))) rfl rfl (Nat.le_of_ble_eq_true rfl) dL_act_396 (fun H locs hw => ?_)
          have hw : fw g ad (fU M (3300 + je) (.inr (7, gV (upd (tE U je) 7 (100 + (nI jh)))))) s H locs := hw
          have hS0 : (fU M (3300 + je) (.inr (7, gV (upd (tE U je) 7 (100 + (nI jh)))))) 3000 = some (.inr (9, [.int (tM U), .ref (ad 3001), .ref (ad 3002), .ref (ad 3003)])) := (fU_n (by omega)).trans hS0
          have hSh : (fU M (3300 + je) (.inr (7, gV (upd (tE U je) 7 (100 + (nI jh)))))) 3001 = some (.inl (gY g, tHn U, .inr (.inr (.inr (.inr fHh))))) := (fU_n (by omega)).trans hSh
          have hSe : (fU M (3300 + je) (.inr (7, gV (upd (tE U je) 7 (100 + (nI jh)))))) 3002 = some (.inl (gW g, tEn U, .inr (.inr (.inr (.inr fEe))))) := (fU_n (by omega)).trans hSe
          have hSp : (fU M (3300 + je) (.inr (7, gV (upd (tE U je) 7 (100 + (nI jh)))))) 3003 = some (.inl (gQ g, tPn U, .inr (.inr (.inr (.inr fPp))))) := (fU_n (by omega)).trans hSp
          have hF : (fU M (3300 + je) (.inr (7, gV (upd (tE U je) 7 (100 + (nI jh)))))) 0 = some (.inr (6, [.ref (ad 1), .ref (ad 1000), .ref (ad 2000)])) := (fU_n (by omega)).trans hF
          have hM_3300___je : (fU M (3300 + je) (.inr (7, gV (upd (tE U je) 7 (100 + (nI jh)))))) (3300 + je) = some (.inr (7, gV (upd (tE U je) 7 (100 + (nI jh))))) := fU_s
          refine lv_aload_n hx hb dL_act_399 rfl (lv_at hl 3 rfl) ?_
          refine lv_iload_n hx hb dL_act_400 rfl (lv_at hl 2 rfl) ?_
          refine lv_iload hx hb dL_act_401 (lv_at hl 0 rfl) ?_
          have hCv := isC_hi (M1 := (fU M (3300 + je) (.inr (7, gV (upd (tE U je) 7 (100 + (nI jh))))))) hC (fun l h => fU_n (by omega))
          have hSv : isSim g ad (fU M (3300 + je) (.inr (7, gV (upd (tE U je) 7 (100 + (nI jh)))))) (sE U je (upd (tE U je) 7 (100 + nI jh))) := isSim_E hS (by omega)
          refine fk_i (fcV X hw (c_X5_aim l g ad (fU M (3300 + je) (.inr (7, gV (upd (tE U je) 7 (100 + (nI jh)))))) hCv hjT hjhT (by rw [hso.1, decide_eq_true hd6]; rfl)) hF rfl wq873 kVX5_aim ⟨(Nat.le_of_ble_eq_true rfl), (Nat.le_of_ble_eq_true rfl)⟩ rfl hl.1 rfl (Nat.le_of_ble_eq_true rfl) dL_act_403 ⟨(by dsimp only [fR]; omega), (by dsimp only [fR]; omega)⟩) hw (fun r ad1 Mn1 H locs hp hw => ?_)
          obtain ⟨hC3, hr3, h03, er⟩ := hp
          rw [er]
          have hSd := isSim_reg hSv hr3 (Or.inl (by omega))
          have h30d : ad1 3000 = ado 3000 := (hr3 3000 (by omega) (by omega)).1.trans h30
          have hS0 : Mn1 3000 = some (.inr (9, [.int (tM U), .ref (ad 3001), .ref (ad 3002), .ref (ad 3003)])) := (hr3 _ (by omega) (by omega)).2.trans hS0
          have hSh : Mn1 3001 = some (.inl (gY g, tHn U, .inr (.inr (.inr (.inr fHh))))) := (hr3 _ (by omega) (by omega)).2.trans hSh
          have hSe : Mn1 3002 = some (.inl (gW g, tEn U, .inr (.inr (.inr (.inr fEe))))) := (hr3 _ (by omega) (by omega)).2.trans hSe
          have hSp : Mn1 3003 = some (.inl (gQ g, tPn U, .inr (.inr (.inr (.inr fPp))))) := (hr3 _ (by omega) (by omega)).2.trans hSp
          have hM_3300___je : Mn1 (3300 + je) = some (.inr (7, gV (upd (tE U je) 7 (100 + (nI jh))))) := (hr3 _ (by omega) (by omega)).2.trans hM_3300___je
          refine lv_aload hx hb dL_act_406 (lv_at hl 1 rfl) ?_
          refine f_adr (ad := ad1) (lb := (3300 + je)) ((hr3 (3300 + je) (by omega) (by omega)).1) ?_
          refine f_get X hw hM_3300___je fc7 0 (by decide) wq768 rfl (v := .int ((tE U je) 0)) rfl dL_act_408 ?_
          refine lv_aload_n hx hb dL_act_411 rfl (lv_at hl 4 rfl) ?_
          refine f_adr (ad := ad1) (lb := 3000) ((hr3 3000 (by omega) (by omega)).1) ?_
          refine f_get X hw hS0 fc9 1 (by decide) wq623 rfl (v := .ref (ad 3001)) rfl dL_act_412 ?_
          refine lv_iload hx hb dL_act_415 (lv_at hl 0 rfl) ?_
          refine f_adr2 (ad := ad1) (lb := 3001) ((hr3 3001 (by omega) (by omega)).1) ?_
          refine f_aaldY X hw hSh (vp_in_nI (n := jh) (by omega) (by omega)) (q := ad1 (3100 + jh)) (by rw [nI_clamp (by omega)]; exact ((hSH jh (by omega)).trans (congrArg some (hr3 (3100 + jh) (by omega) (by omega)).1.symm))) dL_act_417 ?_
          refine f_adr (ad := ad1) (lb := (3100 + jh)) rfl ?_
          refine f_get X hw ((hr3 _ (by omega) (by omega)).2.trans ((fU_n (by omega)).trans (hHs jh (by omega)))) fc8 0 (by decide) wq719 rfl (v := .int ((tH U jh) 0)) rfl dL_act_418 ?_
          refine fk_di (fcS X hw (c_s_far l g ad1 Mn1 ((tE U je) 0) ((tH U jh) 0)) wq858 kSX8_far ⟨(Nat.le_of_ble_eq_true rfl), (Nat.le_of_ble_eq_true rfl)⟩ rfl hl.1 rfl (Nat.le_of_ble_eq_true rfl) dL_act_421 ⟨(by dsimp only [fR]; omega), (by dsimp only [fR]; omega)⟩) hw (fun H locs hw => ?_)
          refine lv_icmp_ne (tgt := 431) hx hb dL_act_424 (by decide) (fun c_18 => absurd (by rw [rU 0 (by omega), rH]) c_18) (fun c_18 => ?_)
          refine lv_iconst (v := 1) hx hb dL_act_427 (by decide) ?_
          refine lv_goto (tgt := 432) hx hb dL_act_428 (by decide) ?_
          rw [hQ9, ← hado, ← hMo]
          exact f_zret X hw rfl ⟨rfl, ⟨sE T je (upd (tE T je) 7 (100 + nI jh)), ⟨sE U je (upd (tE U je) 7 (100 + nI jh)), A, sf, hC3, hLe, hSd, (sim_sE hs (by omega) (by omega)), (ok_aim ho hjhT), (gOk_of hg rfl rfl (fun _ _ => rfl) (fun _ _ => rfl)), (okL_hose hl9 hjT (fun _ => hso.2) (Or.inr (Or.inr ⟨jh, L9, hjhT, nI_add 100 jh, eL, hL⟩)) h6 h30T)⟩, cntT_rf⟩, (fReg_tr (fReg_U hrA (by omega)) (fReg_w hr3 (by omega) (by omega))), (h03.trans h0), h30d⟩ (by omega) (by omega) dL_act_432
        · refine lv_iconst (v := 1) hx hb dL_act_387 (by decide) ?_
          rw [hQ9, ← hado, ← hMo]
          exact f_zret X hw rfl ⟨rfl, ⟨T, ⟨U, A, sf, hC, hLe, hS, hs, ho, hg, hl9⟩, cntT_rf⟩, hrA, h0, h30⟩ (by omega) (by omega) dL_act_388
    by_cases k_19 : (nI (lBel (x >>> (8 &&& 31)) 6)) = 3
    · refine lv_tableIn (off := 301) (tgt := 343) hx hb dL_act_42 (by rw [k_19]; decide) (by rw [k_19]; decide) (by rw [k_19]; rfl) (by decide) ?_
      refine lv_iload_n hx hb dL_act_343 rfl (lv_at hl 4 rfl) ?_
      refine lv_iconst (v := 2) hx hb dL_act_344 (by decide) ?_
      refine lv_ishr hx hb dL_act_345 ?_
      refine lv_aload_n hx hb dL_act_346 rfl (lv_at hl 3 rfl) ?_
      refine f_get X hw hS0 fc9 1 (by decide) wq623 rfl (v := .ref (ad 3001)) rfl dL_act_347 ?_
      refine f_alen X hw 4 hSh rfl dL_act_350 ?_
      refine fk_di (fcS X hw (c_below l g ad M (x >>> (2 &&& 31)) (N := tHn U) (by omega) (by omega)) wq637 kSL_below ⟨(Nat.le_of_ble_eq_true rfl), (Nat.le_of_ble_eq_true rfl)⟩ rfl hl.1 rfl (Nat.le_of_ble_eq_true rfl) dL_act_351 ⟨(by dsimp only [fR]; omega), (by dsimp only [fR]; omega)⟩) hw (fun H locs hw => ?_)
      have hb351 : lBel (x >>> (2 &&& 31)) (tHn U) < tHn U := lBel_lt (by omega)
      obtain ⟨jh, ejh⟩ : ∃ z, z = lBel (x >>> (2 &&& 31)) (tHn U) := ⟨_, rfl⟩
      rw [← ejh] at hb351
      refine f_top (y := nI jh) (by rw [ejh]) ?_
      refine lv_istore (lv' := [(8, .int (nI jh)), (4, .ref (ad (3300 + je))), (3, .int (nI je)), (0, .ref (ad 0)), (1, .ref (ad 3000)), (2, .int x)]) hx hb dL_act_354 hl (by decide) rfl (fun ls hl => ?_)
      have hjhT : jh < tHn T := by omega
      have rH : tH U jh 0 = tH T jh 0 := hs.2.2.1 jh hjhT 0 (by omega)
      refine lv_aload hx hb dL_act_356 (lv_at hl 1 rfl) ?_
      refine f_get X hw (hEs je (by omega)) fc7 5 (by decide) wq779 rfl (v := .int ((tE U je) 5)) rfl dL_act_358 ?_
      refine lv_if_gt (tgt := 387) hx hb dL_act_361 (by decide) (fun c_20 => ?_) (fun c_20 => ?_)
      · refine lv_iconst (v := 1) hx hb dL_act_387 (by decide) ?_
        rw [hQ9, ← hado, ← hMo]
        exact f_zret X hw rfl ⟨rfl, ⟨T, ⟨U, A, sf, hC, hLe, hS, hs, ho, hg, hl9⟩, cntT_rf⟩, hrA, h0, h30⟩ (by omega) (by omega) dL_act_388
      · refine lv_aload hx hb dL_act_364 (lv_at hl 1 rfl) ?_
        refine f_get X hw (hEs je (by omega)) fc7 0 (by decide) wq768 rfl (v := .int ((tE U je) 0)) rfl dL_act_366 ?_
        refine lv_aload_n hx hb dL_act_369 rfl (lv_at hl 4 rfl) ?_
        refine f_get X hw hS0 fc9 1 (by decide) wq623 rfl (v := .ref (ad 3001)) rfl dL_act_370 ?_
        refine lv_iload hx hb dL_act_373 (lv_at hl 0 rfl) ?_
        refine f_aaldY X hw hSh (vp_in_nI (n := jh) (by omega) (by omega)) (q := ad (3100 + jh)) (by rw [nI_clamp (by omega)]; exact hSH jh (by omega)) dL_act_375 ?_
        refine f_get X hw (hHs jh (by omega)) fc8 0 (by decide) wq719 rfl (v := .int ((tH U jh) 0)) rfl dL_act_376 ?_
        refine fk_di (fcS X hw (c_s_far l g ad M ((tE U je) 0) ((tH U jh) 0)) wq858 kSX8_far ⟨(Nat.le_of_ble_eq_true rfl), (Nat.le_of_ble_eq_true rfl)⟩ rfl hl.1 rfl (Nat.le_of_ble_eq_true rfl) dL_act_379 ⟨(by dsimp only [fR]; omega), (by dsimp only [fR]; omega)⟩) hw (fun H locs hw => ?_)
        refine lv_bipush (v := 6) hx hb dL_act_382 (by decide) ?_
        refine lv_icmp_le (tgt := 389) hx hb dL_act_384 (by decide) (fun c_21 => ?_) (fun c_21 => ?_)
        · have hso := stn c_20
          have hd6 : ¬ 6 < aDist (tE T je 0) (tH T jh 0) := by rw [← rU 0 (by omega), ← rH]; exact Int32.not_lt.mpr c_21
          obtain ⟨L9, eL, hL⟩ := dist_6 (show isC0 (tE T je 0) from ⟨a, haa, ea⟩) (show isC0 (tH T jh 0) from (ho.1 jh hjhT).1) hd6
          refine lv_aload hx hb dL_act_389 (lv_at hl 1 rfl) ?_
          refine lv_bipush (v := 100) hx hb dL_act_391 (by decide) ?_
          refine lv_iload hx hb dL_act_393 (lv_at hl 0 rfl) ?_
          refine lv_iadd hx hb dL_act_395 ?_
          refine f_put X hw (hEs je (by omega)) fc7 7 (by decide) wq784 rfl rfl (v := .int (100 + (nI jh))) rfl rfl (Nat.le_of_ble_eq_true rfl) dL_act_396 (fun H locs hw => ?_)
          have hw : fw g ad (fU M (3300 + je) (.inr (7, gV (upd (tE U je) 7 (100 + (nI jh)))))) s H locs := hw
          have hS0 : (fU M (3300 + je) (.inr (7, gV (upd (tE U je) 7 (100 + (nI jh)))))) 3000 = some (.inr (9, [.int (tM U), .ref (ad 3001), .ref (ad 3002), .ref (ad 3003)])) := (fU_n (by omega)).trans hS0
          have hSh : (fU M (3300 + je) (.inr (7, gV (upd (tE U je) 7 (100 + (nI jh)))))) 3001 = some (.inl (gY g, tHn U, .inr (.inr (.inr (.inr fHh))))) := (fU_n (by omega)).trans hSh
          have hSe : (fU M (3300 + je) (.inr (7, gV (upd (tE U je) 7 (100 + (nI jh)))))) 3002 = some (.inl (gW g, tEn U, .inr (.inr (.inr (.inr fEe))))) := (fU_n (by omega)).trans hSe
          have hSp : (fU M (3300 + je) (.inr (7, gV (upd (tE U je) 7 (100 + (nI jh)))))) 3003 = some (.inl (gQ g, tPn U, .inr (.inr (.inr (.inr fPp))))) := (fU_n (by omega)).trans hSp
          have hF : (fU M (3300 + je) (.inr (7, gV (upd (tE U je) 7 (100 + (nI jh)))))) 0 = some (.inr (6, [.ref (ad 1), .ref (ad 1000), .ref (ad 2000)])) := (fU_n (by omega)).trans hF
          have hM_3300___je : (fU M (3300 + je) (.inr (7, gV (upd (tE U je) 7 (100 + (nI jh)))))) (3300 + je) = some (.inr (7, gV (upd (tE U je) 7 (100 + (nI jh))))) := fU_s
          refine lv_aload_n hx hb dL_act_399 rfl (lv_at hl 3 rfl) ?_
          refine lv_iload_n hx hb dL_act_400 rfl (lv_at hl 2 rfl) ?_
          refine lv_iload hx hb dL_act_401 (lv_at hl 0 rfl) ?_
          have hCv := isC_hi (M1 := (fU M (3300 + je) (.inr (7, gV (upd (tE U je) 7 (100 + (nI jh))))))) hC (fun l h => fU_n (by omega))
          have hSv : isSim g ad (fU M (3300 + je) (.inr (7, gV (upd (tE U je) 7 (100 + (nI jh)))))) (sE U je (upd (tE U je) 7 (100 + nI jh))) := isSim_E hS (by omega)
          refine fk_i (fcV X hw (c_X5_aim l g ad (fU M (3300 + je) (.inr (7, gV (upd (tE U je) 7 (100 + (nI jh)))))) hCv hjT hjhT (by rw [hso.1, decide_eq_true hd6]; rfl)) hF rfl wq873 kVX5_aim ⟨(Nat.le_of_ble_eq_true rfl), (Nat.le_of_ble_eq_true rfl)⟩ rfl hl.1 rfl (Nat.le_of_ble_eq_true rfl) dL_act_403 ⟨(by dsimp only [fR]; omega), (by dsimp only [fR]; omega)⟩) hw (fun r ad1 Mn1 H locs hp hw => ?_)
          obtain ⟨hC3, hr3, h03, er⟩ := hp
          rw [er]
          have hSd := isSim_reg hSv hr3 (Or.inl (by omega))
          have h30d : ad1 3000 = ado 3000 := (hr3 3000 (by omega) (by omega)).1.trans h30
          have hS0 : Mn1 3000 = some (.inr (9, [.int (tM U), .ref (ad 3001), .ref (ad 3002), .ref (ad 3003)])) := (hr3 _ (by omega) (by omega)).2.trans hS0
          have hSh : Mn1 3001 = some (.inl (gY g, tHn U, .inr (.inr (.inr (.inr fHh))))) := (hr3 _ (by omega) (by omega)).2.trans hSh
          have hSe : Mn1 3002 = some (.inl (gW g, tEn U, .inr (.inr (.inr (.inr fEe))))) := (hr3 _ (by omega) (by omega)).2.trans hSe
          have hSp : Mn1 3003 = some (.inl (gQ g, tPn U, .inr (.inr (.inr (.inr fPp))))) := (hr3 _ (by omega) (by omega)).2.trans hSp
          have hM_3300___je : Mn1 (3300 + je) = some (.inr (7, gV (upd (tE U je) 7 (100 + (nI jh))))) := (hr3 _ (by omega) (by omega)).2.trans hM_3300___je
          refine lv_aload hx hb dL_act_406 (lv_at hl 1 rfl) ?_
          refine f_adr (ad := ad1) (lb := (3300 + je)) ((hr3 (3300 + je) (by omega) (by omega)).1) ?_
          refine f_get X hw hM_3300___je fc7 0 (by decide) wq768 rfl (v := .int ((tE U je) 0)) rfl dL_act_408 ?_
          refine lv_aload_n hx hb dL_act_411 rfl (lv_at hl 4 rfl) ?_
          refine f_adr (ad := ad1) (lb := 3000) ((hr3 3000 (by omega) (by omega)).1) ?_
          refine f_get X hw hS0 fc9 1 (by decide) wq623 rfl (v := .ref (ad 3001)) rfl dL_act_412 ?_
          refine lv_iload hx hb dL_act_415 (lv_at hl 0 rfl) ?_
          refine f_adr2 (ad := ad1) (lb := 3001) ((hr3 3001 (by omega) (by omega)).1) ?_
          refine f_aaldY X hw hSh (vp_in_nI (n := jh) (by omega) (by omega)) (q := ad1 (3100 + jh)) (by rw [nI_clamp (by omega)]; exact ((hSH jh (by omega)).trans (congrArg some (hr3 (3100 + jh) (by omega) (by omega)).1.symm))) dL_act_417 ?_
          refine f_adr (ad := ad1) (lb := (3100 + jh)) rfl ?_
          refine f_get X hw ((hr3 _ (by omega) (by omega)).2.trans ((fU_n (by omega)).trans (hHs jh (by omega)))) fc8 0 (by decide) wq719 rfl (v := .int ((tH U jh) 0)) rfl dL_act_418 ?_
          refine fk_di (fcS X hw (c_s_far l g ad1 Mn1 ((tE U je) 0) ((tH U jh) 0)) wq858 kSX8_far ⟨(Nat.le_of_ble_eq_true rfl), (Nat.le_of_ble_eq_true rfl)⟩ rfl hl.1 rfl (Nat.le_of_ble_eq_true rfl) dL_act_421 ⟨(by dsimp only [fR]; omega), (by dsimp only [fR]; omega)⟩) hw (fun H locs hw => ?_)
          refine lv_icmp_ne (tgt := 431) hx hb dL_act_424 (by decide) (fun c_22 => absurd (by rw [rU 0 (by omega), rH]) c_22) (fun c_22 => ?_)
          refine lv_iconst (v := 1) hx hb dL_act_427 (by decide) ?_
          refine lv_goto (tgt := 432) hx hb dL_act_428 (by decide) ?_
          rw [hQ9, ← hado, ← hMo]
          exact f_zret X hw rfl ⟨rfl, ⟨sE T je (upd (tE T je) 7 (100 + nI jh)), ⟨sE U je (upd (tE U je) 7 (100 + nI jh)), A, sf, hC3, hLe, hSd, (sim_sE hs (by omega) (by omega)), (ok_aim ho hjhT), (gOk_of hg rfl rfl (fun _ _ => rfl) (fun _ _ => rfl)), (okL_hose hl9 hjT (fun _ => hso.2) (Or.inr (Or.inr ⟨jh, L9, hjhT, nI_add 100 jh, eL, hL⟩)) h6 h30T)⟩, cntT_rf⟩, (fReg_tr (fReg_U hrA (by omega)) (fReg_w hr3 (by omega) (by omega))), (h03.trans h0), h30d⟩ (by omega) (by omega) dL_act_432
        · refine lv_iconst (v := 1) hx hb dL_act_387 (by decide) ?_
          rw [hQ9, ← hado, ← hMo]
          exact f_zret X hw rfl ⟨rfl, ⟨T, ⟨U, A, sf, hC, hLe, hS, hs, ho, hg, hl9⟩, cntT_rf⟩, hrA, h0, h30⟩ (by omega) (by omega) dL_act_388
    by_cases k_23 : (nI (lBel (x >>> (8 &&& 31)) 6)) = 4
    · refine lv_tableIn (off := 391) (tgt := 433) hx hb dL_act_42 (by rw [k_23]; decide) (by rw [k_23]; decide) (by rw [k_23]; rfl) (by decide) ?_
      refine lv_iconst (v := 1) hx hb dL_act_433 (by decide) ?_
      refine lv_iload_n hx hb dL_act_434 rfl (lv_at hl 4 rfl) ?_
      refine lv_iconst (v := 3) hx hb dL_act_435 (by decide) ?_
      refine lv_ishr hx hb dL_act_436 ?_
      refine lv_bipush (v := 100) hx hb dL_act_437 (by decide) ?_
      refine fk_di (fcS X hw (c_below l g ad M (x >>> (3 &&& 31)) (N := 100) (by omega) (by omega)) wq637 kSL_below ⟨(Nat.le_of_ble_eq_true rfl), (Nat.le_of_ble_eq_true rfl)⟩ rfl hl.1 rfl (Nat.le_of_ble_eq_true rfl) dL_act_439 ⟨(by dsimp only [fR]; omega), (by dsimp only [fR]; omega)⟩) hw (fun H locs hw => ?_)
      have hb439 : lBel (x >>> (3 &&& 31)) 100 < 100 := lBel_lt (by omega)
      obtain ⟨b8, eb8⟩ : ∃ z, z = lBel (x >>> (3 &&& 31)) 100 := ⟨_, rfl⟩
      rw [← eb8] at hb439
      refine f_top (y := nI b8) (by rw [eb8]) ?_
      refine lv_iadd hx hb dL_act_442 ?_
      refine f_top (y := nI (b8 + 1)) ((nI_add 1 b8).trans (by rw [Nat.add_comm])) ?_
      refine lv_istore (lv' := [(9, .int (nI (b8 + 1))), (4, .ref (ad (3300 + je))), (3, .int (nI je)), (0, .ref (ad 0)), (1, .ref (ad 3000)), (2, .int x)]) hx hb dL_act_443 hl (by decide) rfl (fun ls hl => ?_)
      refine lv_aload hx hb dL_act_445 (lv_at hl 1 rfl) ?_
      refine f_get X hw (hEs je (by omega)) fc7 3 (by decide) wq774 rfl (v := .int ((tE U je) 3)) rfl dL_act_447 ?_
      refine lv_iload hx hb dL_act_450 (lv_at hl 0 rfl) ?_
      refine lv_iadd hx hb dL_act_452 ?_
      refine lv_sipush (v := 200) hx hb dL_act_453 (by decide) ?_
      refine lv_icmp_le (tgt := 468) hx hb dL_act_456 (by decide) (fun c_24 => ?_) (fun c_24 => ?_)
      · have hco : ¬ 200 < tE T je 3 + nI (b8 + 1) := by rw [← rU 3 (by omega)]; exact Int32.not_lt.mpr c_24
        refine lv_aload hx hb dL_act_468 (lv_at hl 1 rfl) ?_
        refine lv_dup hx hb dL_act_470 rfl ?_
        refine f_get X hw (hEs je (by omega)) fc7 3 (by decide) wq774 rfl (v := .int ((tE U je) 3)) rfl dL_act_471 ?_
        refine lv_iload hx hb dL_act_474 (lv_at hl 0 rfl) ?_
        refine lv_iadd hx hb dL_act_476 ?_
        refine f_put X hw (hEs je (by omega)) fc7 3 (by decide) wq774 rfl rfl (v := .int (((tE U je) 3) + (nI (b8 + 1)))) rfl rfl (Nat.le_of_ble_eq_true rfl) dL_act_477 (fun H locs hw => ?_)
        have hw : fw g ad (fU M (3300 + je) (.inr (7, gV (upd (tE U je) 3 (((tE U je) 3) + (nI (b8 + 1))))))) s H locs := hw
        have hS0 : (fU M (3300 + je) (.inr (7, gV (upd (tE U je) 3 (((tE U je) 3) + (nI (b8 + 1))))))) 3000 = some (.inr (9, [.int (tM U), .ref (ad 3001), .ref (ad 3002), .ref (ad 3003)])) := (fU_n (by omega)).trans hS0
        have hSh : (fU M (3300 + je) (.inr (7, gV (upd (tE U je) 3 (((tE U je) 3) + (nI (b8 + 1))))))) 3001 = some (.inl (gY g, tHn U, .inr (.inr (.inr (.inr fHh))))) := (fU_n (by omega)).trans hSh
        have hSe : (fU M (3300 + je) (.inr (7, gV (upd (tE U je) 3 (((tE U je) 3) + (nI (b8 + 1))))))) 3002 = some (.inl (gW g, tEn U, .inr (.inr (.inr (.inr fEe))))) := (fU_n (by omega)).trans hSe
        have hSp : (fU M (3300 + je) (.inr (7, gV (upd (tE U je) 3 (((tE U je) 3) + (nI (b8 + 1))))))) 3003 = some (.inl (gQ g, tPn U, .inr (.inr (.inr (.inr fPp))))) := (fU_n (by omega)).trans hSp
        have hF : (fU M (3300 + je) (.inr (7, gV (upd (tE U je) 3 (((tE U je) 3) + (nI (b8 + 1))))))) 0 = some (.inr (6, [.ref (ad 1), .ref (ad 1000), .ref (ad 2000)])) := (fU_n (by omega)).trans hF
        have hM_3300___je : (fU M (3300 + je) (.inr (7, gV (upd (tE U je) 3 (((tE U je) 3) + (nI (b8 + 1))))))) (3300 + je) = some (.inr (7, gV (upd (tE U je) 3 (((tE U je) 3) + (nI (b8 + 1)))))) := fU_s
        refine lv_aload_n hx hb dL_act_480 rfl (lv_at hl 3 rfl) ?_
        refine lv_iload_n hx hb dL_act_481 rfl (lv_at hl 2 rfl) ?_
        refine lv_iload hx hb dL_act_482 (lv_at hl 0 rfl) ?_
        have hCv := isC_hi (M1 := (fU M (3300 + je) (.inr (7, gV (upd (tE U je) 3 (((tE U je) 3) + (nI (b8 + 1)))))))) hC (fun l h => fU_n (by omega))
        have hSv : isSim g ad (fU M (3300 + je) (.inr (7, gV (upd (tE U je) 3 (((tE U je) 3) + (nI (b8 + 1))))))) (sE U je (upd (tE U je) 3 (tE U je 3 + nI (b8 + 1)))) := isSim_E hS (by omega)
        refine fk_i (fcV X hw (c_X5_stoke l g ad (fU M (3300 + je) (.inr (7, gV (upd (tE U je) 3 (((tE U je) 3) + (nI (b8 + 1))))))) hCv hjT (inR_n (a := 1) (b := 100) (by omega) (by omega) (by omega)) (decide_eq_true hco)) hF rfl wq877 kVX5_stoke ⟨(Nat.le_of_ble_eq_true rfl), (Nat.le_of_ble_eq_true rfl)⟩ rfl hl.1 rfl (Nat.le_of_ble_eq_true rfl) dL_act_484 ⟨(by dsimp only [fR]; omega), (by dsimp only [fR]; omega)⟩) hw (fun r ad1 Mn1 H locs hp hw => ?_)
        obtain ⟨hC3, hr3, h03, er⟩ := hp
        rw [er]
        have hSd := isSim_reg hSv hr3 (Or.inl (by omega))
        have h30d : ad1 3000 = ado 3000 := (hr3 3000 (by omega) (by omega)).1.trans h30
        have hS0 : Mn1 3000 = some (.inr (9, [.int (tM U), .ref (ad 3001), .ref (ad 3002), .ref (ad 3003)])) := (hr3 _ (by omega) (by omega)).2.trans hS0
        have hSh : Mn1 3001 = some (.inl (gY g, tHn U, .inr (.inr (.inr (.inr fHh))))) := (hr3 _ (by omega) (by omega)).2.trans hSh
        have hSe : Mn1 3002 = some (.inl (gW g, tEn U, .inr (.inr (.inr (.inr fEe))))) := (hr3 _ (by omega) (by omega)).2.trans hSe
        have hSp : Mn1 3003 = some (.inl (gQ g, tPn U, .inr (.inr (.inr (.inr fPp))))) := (hr3 _ (by omega) (by omega)).2.trans hSp
        have hM_3300___je : Mn1 (3300 + je) = some (.inr (7, gV (upd (tE U je) 3 (((tE U je) 3) + (nI (b8 + 1)))))) := (hr3 _ (by omega) (by omega)).2.trans hM_3300___je
        refine lv_aload hx hb dL_act_487 (lv_at hl 1 rfl) ?_
        refine f_adr (ad := ad1) (lb := (3300 + je)) ((hr3 (3300 + je) (by omega) (by omega)).1) ?_
        refine f_get X hw hM_3300___je fc7 3 (by decide) wq774 rfl (v := .int (((tE U je) 3) + (nI (b8 + 1)))) rfl dL_act_489 ?_
        refine lv_icmp_ne (tgt := 499) hx hb dL_act_492 (by decide) (fun c_25 => absurd (by rw [rU 3 (by omega)]) c_25) (fun c_25 => ?_)
        refine lv_iconst (v := 1) hx hb dL_act_495 (by decide) ?_
        refine lv_goto (tgt := 500) hx hb dL_act_496 (by decide) ?_
        rw [hQ9, ← hado, ← hMo]
        exact f_zret X hw rfl ⟨rfl, ⟨sE T je (upd (tE T je) 3 (tE T je 3 + nI (b8 + 1))), ⟨sE U je (upd (tE U je) 3 (tE U je 3 + nI (b8 + 1))), A, sf, hC3, hLe, hSd, (by have z := sim_sE (j := je) (c0 := 3) (v := tE T je 3 + nI (b8 + 1)) hs (by omega) (by omega); rw [rU 3 (by omega)]; exact z), (ok_coal ho hjT (by omega) hco), (gOk_of hg rfl rfl (fun _ _ => rfl) (fun _ _ => rfl)), (okL_coal hl9)⟩, cntT_rf⟩, (fReg_tr (fReg_U hrA (by omega)) (fReg_w hr3 (by omega) (by omega))), (h03.trans h0), h30d⟩ (by omega) (by omega) dL_act_500
      · refine lv_aload_n hx hb dL_act_459 rfl (lv_at hl 3 rfl) ?_
        refine lv_aload_n hx hb dL_act_460 rfl (lv_at hl 4 rfl) ?_
        refine lv_iload_n hx hb dL_act_461 rfl (lv_at hl 5 rfl) ?_
        refine lv_iconst (v := 4) hx hb dL_act_462 (by decide) ?_
        refine lv_ishr hx hb dL_act_463 ?_
        refine fk_i (fcS X hw (c_light l g ad M hLW hH (x >>> (4 &&& 31))) wq806 kSL_light ⟨(Nat.le_of_ble_eq_true rfl), (Nat.le_of_ble_eq_true rfl)⟩ rfl hl.1 rfl (Nat.le_of_ble_eq_true rfl) dL_act_464 ⟨(by dsimp only [fR]; omega), (by dsimp only [fR]; omega)⟩) hw (fun r ad1 M1 H locs hp hw => ?_)
        obtain ⟨er, hT2, hr2, h02, h302⟩ := hp
        rw [er]
        rw [hQ9, ← hado, ← hMo]
        exact f_zret X hw rfl ⟨rfl, hT2, fReg_tr hrA hr2, h02.trans h0, h302.trans h30⟩ (by omega) (by omega) dL_act_467
    refine lv_tableOut (tgt := 501) hx hb dL_act_42 (f_tout (lo := 0) (hi := 4) (by intro k a b; rcases (show k = 0 ∨ k = 1 ∨ k = 2 ∨ k = 3 ∨ k = 4 by omega) with rfl | rfl | rfl | rfl | rfl <;> assumption)) (by decide) ?_
    refine lv_iload_n hx hb dL_act_501 rfl (lv_at hl 4 rfl) ?_
    refine lv_iconst (v := 4) hx hb dL_act_502 (by decide) ?_
    refine lv_ishr hx hb dL_act_503 ?_
    refine lv_iconst (v := 3) hx hb dL_act_504 (by decide) ?_
    refine fk_di (fcS X hw (c_below l g ad M (x >>> (4 &&& 31)) (N := 3) (by omega) (by omega)) wq637 kSL_below ⟨(Nat.le_of_ble_eq_true rfl), (Nat.le_of_ble_eq_true rfl)⟩ rfl hl.1 rfl (Nat.le_of_ble_eq_true rfl) dL_act_505 ⟨(by dsimp only [fR]; omega), (by dsimp only [fR]; omega)⟩) hw (fun H locs hw => ?_)
    have hb505 : lBel (x >>> (4 &&& 31)) 3 < 3 := lBel_lt (by omega)
    obtain ⟨b7, eb7⟩ : ∃ z, z = lBel (x >>> (4 &&& 31)) 3 := ⟨_, rfl⟩
    rw [← eb7] at hb505
    refine f_top (y := nI b7) (by rw [eb7]) ?_
    refine lv_if_le (tgt := 520) hx hb dL_act_508 (by decide) (fun c_26 => ?_) (fun c_26 => ?_)
    · have c_26 := nI_le' (a := b7) (b := 0) c_26 (by omega) (by omega)
      refine lv_aload hx hb dL_act_520 (lv_at hl 0 rfl) ?_
      refine f_get X hw (hEs je (by omega)) fc7 7 (by decide) wq784 rfl (v := .int ((tE U je) 7)) rfl dL_act_522 ?_
      refine lv_if_lt (tgt := 532) hx hb dL_act_525 (by decide) (fun c_27 => ?_) (fun c_27 => ?_)
      · have hhd : bI (!decide (tE T je 7 = -1)) = 0 := by rw [decide_eq_true ((had_of hl9.2.2.2.1 hjT h6 h30T).2 (by rw [← r7]; exact Int32.not_le.mpr c_27))]; rfl
        refine lv_iconst (v := 0) hx hb dL_act_532 (by decide) ?_
        refine lv_istore (lv' := [(10, .int 0), (4, .ref (ad (3300 + je))), (3, .int (nI je)), (0, .ref (ad 0)), (1, .ref (ad 3000)), (2, .int x)]) hx hb dL_act_533 hl (by decide) rfl (fun ls hl => ?_)
        refine lv_aload hx hb dL_act_535 (lv_at hl 1 rfl) ?_
        refine lv_iconst (v := (-1)) hx hb dL_act_537 (by decide) ?_
        refine f_put X hw (hEs je (by omega)) fc7 7 (by decide) wq784 rfl rfl (v := .int (-1)) rfl rfl (Nat.le_of_ble_eq_true rfl) dL_act_538 (fun H locs hw => ?_)
        have hw : fw g ad (fU M (3300 + je) (.inr (7, gV (upd (tE U je) 7 (-1))))) s H locs := hw
        have hS0 : (fU M (3300 + je) (.inr (7, gV (upd (tE U je) 7 (-1))))) 3000 = some (.inr (9, [.int (tM U), .ref (ad 3001), .ref (ad 3002), .ref (ad 3003)])) := (fU_n (by omega)).trans hS0
        have hSh : (fU M (3300 + je) (.inr (7, gV (upd (tE U je) 7 (-1))))) 3001 = some (.inl (gY g, tHn U, .inr (.inr (.inr (.inr fHh))))) := (fU_n (by omega)).trans hSh
        have hSe : (fU M (3300 + je) (.inr (7, gV (upd (tE U je) 7 (-1))))) 3002 = some (.inl (gW g, tEn U, .inr (.inr (.inr (.inr fEe))))) := (fU_n (by omega)).trans hSe
        have hSp : (fU M (3300 + je) (.inr (7, gV (upd (tE U je) 7 (-1))))) 3003 = some (.inl (gQ g, tPn U, .inr (.inr (.inr (.inr fPp))))) := (fU_n (by omega)).trans hSp
        have hF : (fU M (3300 + je) (.inr (7, gV (upd (tE U je) 7 (-1))))) 0 = some (.inr (6, [.ref (ad 1), .ref (ad 1000), .ref (ad 2000)])) := (fU_n (by omega)).trans hF
        have hM_3300___je : (fU M (3300 + je) (.inr (7, gV (upd (tE U je) 7 (-1))))) (3300 + je) = some (.inr (7, gV (upd (tE U je) 7 (-1)))) := fU_s
        refine lv_aload_n hx hb dL_act_541 rfl (lv_at hl 3 rfl) ?_
        refine lv_iload_n hx hb dL_act_542 rfl (lv_at hl 2 rfl) ?_
        have hCv := isC_hi (M1 := (fU M (3300 + je) (.inr (7, gV (upd (tE U je) 7 (-1)))))) hC (fun l h => fU_n (by omega))
        have hSv : isSim g ad (fU M (3300 + je) (.inr (7, gV (upd (tE U je) 7 (-1))))) (sE U je (upd (tE U je) 7 (-1))) := isSim_E hS (by omega)
        refine fk_i (fcV X hw (c_X5_takeUp l g ad (fU M (3300 + je) (.inr (7, gV (upd (tE U je) 7 (-1))))) hCv hjT) hF rfl wq881 kVX5_takeUp ⟨(Nat.le_of_ble_eq_true rfl), (Nat.le_of_ble_eq_true rfl)⟩ rfl hl.1 rfl (Nat.le_of_ble_eq_true rfl) dL_act_543 ⟨(by dsimp only [fR]; omega), (by dsimp only [fR]; omega)⟩) hw (fun r ad1 Mn1 H locs hp hw => ?_)
        obtain ⟨hC3, hr3, h03, er⟩ := hp
        rw [er]
        have hSd := isSim_reg hSv hr3 (Or.inl (by omega))
        have h30d : ad1 3000 = ado 3000 := (hr3 3000 (by omega) (by omega)).1.trans h30
        have hS0 : Mn1 3000 = some (.inr (9, [.int (tM U), .ref (ad 3001), .ref (ad 3002), .ref (ad 3003)])) := (hr3 _ (by omega) (by omega)).2.trans hS0
        have hSh : Mn1 3001 = some (.inl (gY g, tHn U, .inr (.inr (.inr (.inr fHh))))) := (hr3 _ (by omega) (by omega)).2.trans hSh
        have hSe : Mn1 3002 = some (.inl (gW g, tEn U, .inr (.inr (.inr (.inr fEe))))) := (hr3 _ (by omega) (by omega)).2.trans hSe
        have hSp : Mn1 3003 = some (.inl (gQ g, tPn U, .inr (.inr (.inr (.inr fPp))))) := (hr3 _ (by omega) (by omega)).2.trans hSp
        have hM_3300___je : Mn1 (3300 + je) = some (.inr (7, gV (upd (tE U je) 7 (-1)))) := (hr3 _ (by omega) (by omega)).2.trans hM_3300___je
        refine lv_iload hx hb dL_act_546 (lv_at hl 0 rfl) ?_
        refine lv_icmp_ne (tgt := 555) hx hb dL_act_548 (by decide) (fun c_28 => absurd hhd c_28) (fun c_28 => ?_)
        have c_28 := bI_f.mp c_28
        refine lv_iconst (v := 1) hx hb dL_act_551 (by decide) ?_
        refine lv_goto (tgt := 556) hx hb dL_act_552 (by decide) ?_
        rw [hQ9, ← hado, ← hMo]
        exact f_zret X hw rfl ⟨rfl, ⟨sE T je (upd (tE T je) 7 (-1)), ⟨sE U je (upd (tE U je) 7 (-1)), A, sf, hC3, hLe, hSd, (sim_sE hs (by omega) (by omega)), (ok_hose ho (Or.inl rfl) (up_rk ho)), (gOk_of hg rfl rfl (fun _ _ => rfl) (fun _ _ => rfl)), (okL_hose hl9 hjT (fun z => absurd rfl z) (Or.inl rfl) h6 h30T)⟩, cntT_rf⟩, (fReg_tr (fReg_U hrA (by omega)) (fReg_w hr3 (by omega) (by omega))), (h03.trans h0), h30d⟩ (by omega) (by omega) dL_act_556
      · have hhd : bI (!decide (tE T je 7 = -1)) = 1 := by rw [decide_eq_false ((had_of hl9.2.2.2.1 hjT h6 h30T).1 (by rw [← r7]; exact Int32.not_lt.mp c_27))]; rfl
        refine lv_iconst (v := 1) hx hb dL_act_528 (by decide) ?_
        refine lv_goto (tgt := 533) hx hb dL_act_529 (by decide) ?_
        refine lv_istore (lv' := [(10, .int 1), (4, .ref (ad (3300 + je))), (3, .int (nI je)), (0, .ref (ad 0)), (1, .ref (ad 3000)), (2, .int x)]) hx hb dL_act_533 hl (by decide) rfl (fun ls hl => ?_)
        refine lv_aload hx hb dL_act_535 (lv_at hl 1 rfl) ?_
        refine lv_iconst (v := (-1)) hx hb dL_act_537 (by decide) ?_
        refine f_put X hw (hEs je (by omega)) fc7 7 (by decide) wq784 rfl rfl (v := .int (-1)) rfl rfl (Nat.le_of_ble_eq_true rfl) dL_act_538 (fun H locs hw => ?_)
        have hw : fw g ad (fU M (3300 + je) (.inr (7, gV (upd (tE U je) 7 (-1))))) s H locs := hw
        have hS0 : (fU M (3300 + je) (.inr (7, gV (upd (tE U je) 7 (-1))))) 3000 = some (.inr (9, [.int (tM U), .ref (ad 3001), .ref (ad 3002), .ref (ad 3003)])) := (fU_n (by omega)).trans hS0
        have hSh : (fU M (3300 + je) (.inr (7, gV (upd (tE U je) 7 (-1))))) 3001 = some (.inl (gY g, tHn U, .inr (.inr (.inr (.inr fHh))))) := (fU_n (by omega)).trans hSh
        have hSe : (fU M (3300 + je) (.inr (7, gV (upd (tE U je) 7 (-1))))) 3002 = some (.inl (gW g, tEn U, .inr (.inr (.inr (.inr fEe))))) := (fU_n (by omega)).trans hSe
        have hSp : (fU M (3300 + je) (.inr (7, gV (upd (tE U je) 7 (-1))))) 3003 = some (.inl (gQ g, tPn U, .inr (.inr (.inr (.inr fPp))))) := (fU_n (by omega)).trans hSp
        have hF : (fU M (3300 + je) (.inr (7, gV (upd (tE U je) 7 (-1))))) 0 = some (.inr (6, [.ref (ad 1), .ref (ad 1000), .ref (ad 2000)])) := (fU_n (by omega)).trans hF
        have hM_3300___je : (fU M (3300 + je) (.inr (7, gV (upd (tE U je) 7 (-1))))) (3300 + je) = some (.inr (7, gV (upd (tE U je) 7 (-1)))) := fU_s
        refine lv_aload_n hx hb dL_act_541 rfl (lv_at hl 3 rfl) ?_
        refine lv_iload_n hx hb dL_act_542 rfl (lv_at hl 2 rfl) ?_
        have hCv := isC_hi (M1 := (fU M (3300 + je) (.inr (7, gV (upd (tE U je) 7 (-1)))))) hC (fun l h => fU_n (by omega))
        have hSv : isSim g ad (fU M (3300 + je) (.inr (7, gV (upd (tE U je) 7 (-1))))) (sE U je (upd (tE U je) 7 (-1))) := isSim_E hS (by omega)
        refine fk_i (fcV X hw (c_X5_takeUp l g ad (fU M (3300 + je) (.inr (7, gV (upd (tE U je) 7 (-1))))) hCv hjT) hF rfl wq881 kVX5_takeUp ⟨(Nat.le_of_ble_eq_true rfl), (Nat.le_of_ble_eq_true rfl)⟩ rfl hl.1 rfl (Nat.le_of_ble_eq_true rfl) dL_act_543 ⟨(by dsimp only [fR]; omega), (by dsimp only [fR]; omega)⟩) hw (fun r ad1 Mn1 H locs hp hw => ?_)
        obtain ⟨hC3, hr3, h03, er⟩ := hp
        rw [er]
        have hSd := isSim_reg hSv hr3 (Or.inl (by omega))
        have h30d : ad1 3000 = ado 3000 := (hr3 3000 (by omega) (by omega)).1.trans h30
        have hS0 : Mn1 3000 = some (.inr (9, [.int (tM U), .ref (ad 3001), .ref (ad 3002), .ref (ad 3003)])) := (hr3 _ (by omega) (by omega)).2.trans hS0
        have hSh : Mn1 3001 = some (.inl (gY g, tHn U, .inr (.inr (.inr (.inr fHh))))) := (hr3 _ (by omega) (by omega)).2.trans hSh
        have hSe : Mn1 3002 = some (.inl (gW g, tEn U, .inr (.inr (.inr (.inr fEe))))) := (hr3 _ (by omega) (by omega)).2.trans hSe
        have hSp : Mn1 3003 = some (.inl (gQ g, tPn U, .inr (.inr (.inr (.inr fPp))))) := (hr3 _ (by omega) (by omega)).2.trans hSp
        have hM_3300___je : Mn1 (3300 + je) = some (.inr (7, gV (upd (tE U je) 7 (-1)))) := (hr3 _ (by omega) (by omega)).2.trans hM_3300___je
        refine lv_iload hx hb dL_act_546 (lv_at hl 0 rfl) ?_
        refine lv_icmp_ne (tgt := 555) hx hb dL_act_548 (by decide) (fun c_29 => absurd hhd c_29) (fun c_29 => ?_)
        refine lv_iconst (v := 1) hx hb dL_act_551 (by decide) ?_
        refine lv_goto (tgt := 556) hx hb dL_act_552 (by decide) ?_
        rw [hQ9, ← hado, ← hMo]
        exact f_zret X hw rfl ⟨rfl, ⟨sE T je (upd (tE T je) 7 (-1)), ⟨sE U je (upd (tE U je) 7 (-1)), A, sf, hC3, hLe, hSd, (sim_sE hs (by omega) (by omega)), (ok_hose ho (Or.inl rfl) (up_rk ho)), (gOk_of hg rfl rfl (fun _ _ => rfl) (fun _ _ => rfl)), (okL_hose hl9 hjT (fun z => absurd rfl z) (Or.inl rfl) h6 h30T)⟩, cntT_rf⟩, (fReg_tr (fReg_U hrA (by omega)) (fReg_w hr3 (by omega) (by omega))), (h03.trans h0), h30d⟩ (by omega) (by omega) dL_act_556
    · have c_26 := nI_nle' (a := b7) (b := 0) c_26 (by omega) (by omega)
      refine lv_aload_n hx hb dL_act_511 rfl (lv_at hl 2 rfl) ?_
      refine lv_aload_n hx hb dL_act_512 rfl (lv_at hl 3 rfl) ?_
      refine lv_iload_n hx hb dL_act_513 rfl (lv_at hl 4 rfl) ?_
      refine lv_iconst (v := 3) hx hb dL_act_514 (by decide) ?_
      refine lv_ishr hx hb dL_act_515 ?_
      refine fk_i (fcS X hw (c_light l g ad M hLW hH (x >>> (3 &&& 31))) wq806 kSL_light ⟨(Nat.le_of_ble_eq_true rfl), (Nat.le_of_ble_eq_true rfl)⟩ rfl hl.1 rfl (Nat.le_of_ble_eq_true rfl) dL_act_516 ⟨(by dsimp only [fR]; omega), (by dsimp only [fR]; omega)⟩) hw (fun r ad1 M1 H locs hp hw => ?_)
      obtain ⟨er, hT2, hr2, h02, h302⟩ := hp
      rw [er]
      rw [hQ9, ← hado, ← hMo]
      exact f_zret X hw rfl ⟨rfl, hT2, fReg_tr hrA hr2, h02.trans h0, h302.trans h30⟩ (by omega) (by omega) dL_act_519
  · have c_1 := nI_eq' (a := (tEn U)) (b := 0) c_1 (by omega) (by omega)
    refine lv_aload_n hx hb dL_act_8 rfl (lv_at hl 0 rfl) ?_
    refine lv_aload_n hx hb dL_act_9 rfl (lv_at hl 1 rfl) ?_
    refine lv_iload_n hx hb dL_act_10 rfl (lv_at hl 2 rfl) ?_
    refine fk_i (fcS X hw (c_light l g ad M hLW hH x) wq806 kSL_light ⟨(Nat.le_of_ble_eq_true rfl), (Nat.le_of_ble_eq_true rfl)⟩ rfl hl.1 rfl (Nat.le_of_ble_eq_true rfl) dL_act_11 ⟨(by dsimp only [fR]; omega), (by dsimp only [fR]; omega)⟩) hw (fun r ad1 M1 H locs hp hw => ?_)
    obtain ⟨er, hT2, hr2, h02, h302⟩ := hp
    rw [er]
    rw [hQ9, ← hado, ← hMo]
    exact f_zret X hw rfl ⟨rfl, hT2, fReg_tr hrA hr2, h02.trans h0, h302.trans h30⟩ (by omega) (by omega) dL_act_14
