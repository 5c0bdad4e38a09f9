/-! the law's methods: each calls the class, and catches -/
set_option maxHeartbeats 4000000 in
set_option maxRecDepth 100000 in
theorem wr_build_ok (l : Launch) (g : fG) (ad : Nat → Nat) (M : fM) {T A : fTn} {kf nf sf : Nat → Int32} (hC : isC g ad M T A kf nf sf) {f : Nat → Int64} (hO : M 3032 = some (oCell g f)) {a0 a1 a2 a3 : Int32} {fr lo mcX msX : Nat} {T2 : fTn} {kf2 nf2 : Nat → Int32} {v : Int32} (hX : fCi l g yX5_build cX5_build 7 (some .int) fr lo mcX msX ad M [.ref (ad 0), .int a0, .int a1, .int a2, .int a3] (fCu g ad M T2 kf2 nf2 v)) (b1 : fr ≤ 9) (b2 : lo ≤ 225) (b3 : mcX ≤ 89) (b4 : msX ≤ 2190) : vx_Met l yL_build (fWsH yL_build cL_build 7 (some .int) [(0, 14, 17, 13), (0, 14, 21, 15), (0, 14, 25, 17)]) (fR 10 260 90 2200) (va_Pc [.ref (ad 0), .int a0, .int a1, .int a2, .int a3, .ref (ad 3032)] (fSL g ad M)) (fQi g (fWr g ad M T2 kf2 nf2 0 (vp_updL f 0 v.toInt64))) fNX 90 2200 (fA g) := by
  refine f_bodyH (own := RL) (by decide +kernel) rfl (Nat.le_of_ble_eq_true rfl) ?_
  intro p e s m args below meth c ls X hnc ht hw hl
  have hx := X.1
  have hb := X.2.1
  have hM0 : M 0 = some (.inr (6, [.ref (ad 1), .ref (ad 1000), .ref (ad 2000)])) := hC.1
  have hl : lv_has ls 7 [(0, .ref (ad 0)), (1, .int a0), (2, .int a1), (3, .int a2), (4, .int a3), (5, .ref (ad 3032))] := hl
  refine lv_aload hx hb dL_build_0 (lv_at hl 5 rfl) ?_
  refine lv_iconst (v := 0) hx hb dL_build_2 (by decide) ?_
  refine lv_aload_n hx hb dL_build_3 rfl (lv_at hl 0 rfl) ?_
  refine lv_iload_n hx hb dL_build_4 rfl (lv_at hl 1 rfl) ?_
  refine lv_iload_n hx hb dL_build_5 rfl (lv_at hl 2 rfl) ?_
  refine lv_iload_n hx hb dL_build_6 rfl (lv_at hl 3 rfl) ?_
  refine lv_iload hx hb dL_build_7 (lv_at hl 4 rfl) ?_
  refine fk_i (fcV X hw hX hM0 rfl wq460 kVX5_build ⟨by dsimp only [fR]; omega, by dsimp only [fR]; omega⟩ rfl hl.1 rfl (Nat.le_of_ble_eq_true rfl) dL_build_9 ⟨by dsimp only [fR]; omega, by dsimp only [fR]; omega⟩) hw (fun r ad1 M1 H locs hp hw => ?_)
  obtain ⟨⟨A2, sf2, hC2, hL2⟩, hr, h0, er⟩ := hp
  rw [er]
  have hO1 : M1 3032 = some (oCell g f) := (hr 3032 (by omega) (by omega)).2.trans hO
  refine lv_i2l hx hb dL_build_12 rfl ?_
  refine f_adr3 (ad := ad1) (lb := 3032) (hr 3032 (by omega) (by omega)).1 ?_
  refine f_last X hw hO1 (by unfold vp_in; decide) dL_build_13 (fun H locs hw => ?_)
  rw [show (0 : Int32).toNatClampNeg = 0 from rfl] at hw
  have hw : fw g ad1 (fU M1 3032 (.inl (gJ g, 1, .inr (.inl (vp_updL f 0 v.toInt64))))) s H locs := hw
  have hO1 : (fU M1 3032 (.inl (gJ g, 1, .inr (.inl (vp_updL f 0 v.toInt64))))) 3032 = some (.inl (gJ g, 1, .inr (.inl (vp_updL f 0 v.toInt64)))) := fU_s
  refine lv_goto (tgt := 29) hx hb dL_build_14 (by decide) ?_
  refine lv_iconst (v := 0) hx hb dL_build_29 (by decide) ?_
  exact vx_ret (f_iret X hw ⟨⟨A2, sf2, isC_eq hC2 (fun l hl => ⟨rfl, fU_n (by omega)⟩), hL2⟩, fun l a b => ⟨(hr l (by omega) (by omega)).1, (fU_n (by omega)).trans (hr l (by omega) (by omega)).2⟩, ⟨h0, (hr 3032 (by omega) (by omega)).1⟩, fU_s, rfl⟩ (by omega) (by omega) dL_build_30)
set_option maxHeartbeats 4000000 in
set_option maxRecDepth 100000 in
theorem wr_build_x1 (l : Launch) (g : fG) (ad : Nat → Nat) (M : fM) {T A : fTn} {kf nf sf : Nat → Int32} (hC : isC g ad M T A kf nf sf) (hLe : leT A T) {f : Nat → Int64} (hO : M 3032 = some (oCell g f)) {a0 a1 a2 a3 : Int32} {fr lo : Nat} (hX : fXt l g yX5_build cX5_build 7 (some .int) fr lo ad M [.ref (ad 0), .int a0, .int a1, .int a2, .int a3] IOO ad M) (b1 : fr ≤ 9) (b2 : lo ≤ 225) : vx_Met l yL_build (fWsH yL_build cL_build 7 (some .int) [(0, 14, 17, 13), (0, 14, 21, 15), (0, 14, 25, 17)]) (fR 10 260 90 2200) (va_Pc [.ref (ad 0), .int a0, .int a1, .int a2, .int a3, .ref (ad 3032)] (fSL g ad M)) (fQi g (fWr g ad M T kf nf 1 f)) fNX 90 2200 (fA g) := by
  refine f_bodyH (own := RL) (by decide +kernel) rfl (Nat.le_of_ble_eq_true rfl) ?_
  intro p e s m args below meth c ls X hnc ht hw hl
  have hx := X.1
  have hb := X.2.1
  have hM0 : M 0 = some (.inr (6, [.ref (ad 1), .ref (ad 1000), .ref (ad 2000)])) := hC.1
  have hl : lv_has ls 7 [(0, .ref (ad 0)), (1, .int a0), (2, .int a1), (3, .int a2), (4, .int a3), (5, .ref (ad 3032))] := hl
  refine lv_aload hx hb dL_build_0 (lv_at hl 5 rfl) ?_
  refine lv_iconst (v := 0) hx hb dL_build_2 (by decide) ?_
  refine lv_aload_n hx hb dL_build_3 rfl (lv_at hl 0 rfl) ?_
  refine lv_iload_n hx hb dL_build_4 rfl (lv_at hl 1 rfl) ?_
  refine lv_iload_n hx hb dL_build_5 rfl (lv_at hl 2 rfl) ?_
  refine lv_iload_n hx hb dL_build_6 rfl (lv_at hl 3 rfl) ?_
  refine lv_iload hx hb dL_build_7 (lv_at hl 4 rfl) ?_
  refine fk_c X (fxV X hw hX hM0 rfl wq460 kVX5_build ⟨by dsimp only [fR]; omega, by dsimp only [fR]; omega⟩ rfl hl.1 rfl (Nat.le_of_ble_eq_true rfl) dL_build_9 ⟨by dsimp only [fR]; omega, by dsimp only [fR]; omega⟩) hw [] ⟨0, 14, 17, 13⟩ [⟨0, 14, 21, 15⟩, ⟨0, 14, 25, 17⟩] (by rw [ht]; rfl) (fun z hz => absurd hz List.not_mem_nil) (by decide) (by decide) wq457 wn472 (fun q H locs hw => ?_)
  refine lv_astore (lv' := [(6, .ref q), (0, .ref (ad 0)), (1, .int a0), (2, .int a1), (3, .int a2), (4, .int a3), (5, .ref (ad 3032))]) hx hb dL_build_17 hl (by decide) rfl (fun ls hl => ?_)
  refine lv_iconst (v := 1) hx hb dL_build_19 (by decide) ?_
  exact vx_ret (f_iret X hw ⟨⟨A, sf, hC, hLe⟩, fun l a b => ⟨rfl, rfl⟩, ⟨rfl, rfl⟩, hO, rfl⟩ (by omega) (by omega) dL_build_20)
set_option maxHeartbeats 4000000 in
set_option maxRecDepth 100000 in
theorem wr_build_x2 (l : Launch) (g : fG) (ad : Nat → Nat) (M : fM) {T A : fTn} {kf nf sf : Nat → Int32} (hC : isC g ad M T A kf nf sf) (hLe : leT A T) {f : Nat → Int64} (hO : M 3032 = some (oCell g f)) {a0 a1 a2 a3 : Int32} {fr lo : Nat} (hX : fXt l g yX5_build cX5_build 7 (some .int) fr lo ad M [.ref (ad 0), .int a0, .int a1, .int a2, .int a3] IAE ad M) (b1 : fr ≤ 9) (b2 : lo ≤ 225) : vx_Met l yL_build (fWsH yL_build cL_build 7 (some .int) [(0, 14, 17, 13), (0, 14, 21, 15), (0, 14, 25, 17)]) (fR 10 260 90 2200) (va_Pc [.ref (ad 0), .int a0, .int a1, .int a2, .int a3, .ref (ad 3032)] (fSL g ad M)) (fQi g (fWr g ad M T kf nf 2 f)) fNX 90 2200 (fA g) := by
  refine f_bodyH (own := RL) (by decide +kernel) rfl (Nat.le_of_ble_eq_true rfl) ?_
  intro p e s m args below meth c ls X hnc ht hw hl
  have hx := X.1
  have hb := X.2.1
  have hM0 : M 0 = some (.inr (6, [.ref (ad 1), .ref (ad 1000), .ref (ad 2000)])) := hC.1
  have hl : lv_has ls 7 [(0, .ref (ad 0)), (1, .int a0), (2, .int a1), (3, .int a2), (4, .int a3), (5, .ref (ad 3032))] := hl
  refine lv_aload hx hb dL_build_0 (lv_at hl 5 rfl) ?_
  refine lv_iconst (v := 0) hx hb dL_build_2 (by decide) ?_
  refine lv_aload_n hx hb dL_build_3 rfl (lv_at hl 0 rfl) ?_
  refine lv_iload_n hx hb dL_build_4 rfl (lv_at hl 1 rfl) ?_
  refine lv_iload_n hx hb dL_build_5 rfl (lv_at hl 2 rfl) ?_
  refine lv_iload_n hx hb dL_build_6 rfl (lv_at hl 3 rfl) ?_
  refine lv_iload hx hb dL_build_7 (lv_at hl 4 rfl) ?_
  refine fk_c X (fxV X hw hX hM0 rfl wq460 kVX5_build ⟨by dsimp only [fR]; omega, by dsimp only [fR]; omega⟩ rfl hl.1 rfl (Nat.le_of_ble_eq_true rfl) dL_build_9 ⟨by dsimp only [fR]; omega, by dsimp only [fR]; omega⟩) hw [⟨0, 14, 17, 13⟩] ⟨0, 14, 21, 15⟩ [⟨0, 14, 25, 17⟩] (by rw [ht]; rfl) (fun z hz => by
        simp only [List.mem_cons, List.not_mem_nil, or_false] at hz
        rcases hz with rfl
        · exact Or.inr ⟨by decide, IOO, X.2.2.2.2.1 _ wq457, hnc.1⟩) (by decide) (by decide) wq458 wn543 (fun q H locs hw => ?_)
  refine lv_astore (lv' := [(6, .ref q), (0, .ref (ad 0)), (1, .int a0), (2, .int a1), (3, .int a2), (4, .int a3), (5, .ref (ad 3032))]) hx hb dL_build_21 hl (by decide) rfl (fun ls hl => ?_)
  refine lv_iconst (v := 2) hx hb dL_build_23 (by decide) ?_
  exact vx_ret (f_iret X hw ⟨⟨A, sf, hC, hLe⟩, fun l a b => ⟨rfl, rfl⟩, ⟨rfl, rfl⟩, hO, rfl⟩ (by omega) (by omega) dL_build_24)
set_option maxHeartbeats 4000000 in
set_option maxRecDepth 100000 in
theorem wr_build_x3 (l : Launch) (g : fG) (ad : Nat → Nat) (M : fM) {T A : fTn} {kf nf sf : Nat → Int32} (hC : isC g ad M T A kf nf sf) (hLe : leT A T) {f : Nat → Int64} (hO : M 3032 = some (oCell g f)) {a0 a1 a2 a3 : Int32} {fr lo : Nat} (hX : fXt l g yX5_build cX5_build 7 (some .int) fr lo ad M [.ref (ad 0), .int a0, .int a1, .int a2, .int a3] ISE ad M) (b1 : fr ≤ 9) (b2 : lo ≤ 225) : vx_Met l yL_build (fWsH yL_build cL_build 7 (some .int) [(0, 14, 17, 13), (0, 14, 21, 15), (0, 14, 25, 17)]) (fR 10 260 90 2200) (va_Pc [.ref (ad 0), .int a0, .int a1, .int a2, .int a3, .ref (ad 3032)] (fSL g ad M)) (fQi g (fWr g ad M T kf nf 3 f)) fNX 90 2200 (fA g) := by
  refine f_bodyH (own := RL) (by decide +kernel) rfl (Nat.le_of_ble_eq_true rfl) ?_
  intro p e s m args below meth c ls X hnc ht hw hl
  have hx := X.1
  have hb := X.2.1
  have hM0 : M 0 = some (.inr (6, [.ref (ad 1), .ref (ad 1000), .ref (ad 2000)])) := hC.1
  have hl : lv_has ls 7 [(0, .ref (ad 0)), (1, .int a0), (2, .int a1), (3, .int a2), (4, .int a3), (5, .ref (ad 3032))] := hl
  refine lv_aload hx hb dL_build_0 (lv_at hl 5 rfl) ?_
  refine lv_iconst (v := 0) hx hb dL_build_2 (by decide) ?_
  refine lv_aload_n hx hb dL_build_3 rfl (lv_at hl 0 rfl) ?_
  refine lv_iload_n hx hb dL_build_4 rfl (lv_at hl 1 rfl) ?_
  refine lv_iload_n hx hb dL_build_5 rfl (lv_at hl 2 rfl) ?_
  refine lv_iload_n hx hb dL_build_6 rfl (lv_at hl 3 rfl) ?_
  refine lv_iload hx hb dL_build_7 (lv_at hl 4 rfl) ?_
  refine fk_c X (fxV X hw hX hM0 rfl wq460 kVX5_build ⟨by dsimp only [fR]; omega, by dsimp only [fR]; omega⟩ rfl hl.1 rfl (Nat.le_of_ble_eq_true rfl) dL_build_9 ⟨by dsimp only [fR]; omega, by dsimp only [fR]; omega⟩) hw [⟨0, 14, 17, 13⟩, ⟨0, 14, 21, 15⟩] ⟨0, 14, 25, 17⟩ [] (by rw [ht]; rfl) (fun z hz => by
        simp only [List.mem_cons, List.not_mem_nil, or_false] at hz
        rcases hz with rfl | rfl
        · exact Or.inr ⟨by decide, IOO, X.2.2.2.2.1 _ wq457, hnc.2.1⟩
        · exact Or.inr ⟨by decide, IAE, X.2.2.2.2.1 _ wq458, hnc.2.2.1⟩) (by decide) (by decide) wq459 wn585 (fun q H locs hw => ?_)
  refine lv_astore (lv' := [(6, .ref q), (0, .ref (ad 0)), (1, .int a0), (2, .int a1), (3, .int a2), (4, .int a3), (5, .ref (ad 3032))]) hx hb dL_build_25 hl (by decide) rfl (fun ls hl => ?_)
  refine lv_iconst (v := 3) hx hb dL_build_27 (by decide) ?_
  exact vx_ret (f_iret X hw ⟨⟨A, sf, hC, hLe⟩, fun l a b => ⟨rfl, rfl⟩, ⟨rfl, rfl⟩, hO, rfl⟩ (by omega) (by omega) dL_build_28)
set_option maxHeartbeats 4000000 in
set_option maxRecDepth 100000 in
theorem wr_dig_ok (l : Launch) (g : fG) (ad : Nat → Nat) (M : fM) {T A : fTn} {kf nf sf : Nat → Int32} (hC : isC g ad M T A kf nf sf) {f : Nat → Int64} (hO : M 3032 = some (oCell g f)) {a0 a1 a2 : Int32} {fr lo mcX msX : Nat} {T2 : fTn} {kf2 nf2 : Nat → Int32} {v : Int32} (hX : fCi l g yX5_dig cX5_dig 6 (some .int) fr lo mcX msX ad M [.ref (ad 0), .int a0, .int a1, .int a2] (fCu g ad M T2 kf2 nf2 v)) (b1 : fr ≤ 9) (b2 : lo ≤ 225) (b3 : mcX ≤ 89) (b4 : msX ≤ 2190) : vx_Met l yL_dig (fWsH yL_dig cL_dig 6 (some .int) [(0, 12, 15, 13), (0, 12, 19, 15), (0, 12, 23, 17)]) (fR 10 260 90 2200) (va_Pc [.ref (ad 0), .int a0, .int a1, .int a2, .ref (ad 3032)] (fSL g ad M)) (fQi g (fWr g ad M T2 kf2 nf2 0 (vp_updL f 0 v.toInt64))) fNX 90 2200 (fA g) := by
  refine f_bodyH (own := RL) (by decide +kernel) rfl (Nat.le_of_ble_eq_true rfl) ?_
  intro p e s m args below meth c ls X hnc ht hw hl
  have hx := X.1
  have hb := X.2.1
  have hM0 : M 0 = some (.inr (6, [.ref (ad 1), .ref (ad 1000), .ref (ad 2000)])) := hC.1
  have hl : lv_has ls 6 [(0, .ref (ad 0)), (1, .int a0), (2, .int a1), (3, .int a2), (4, .ref (ad 3032))] := hl
  refine lv_aload hx hb dL_dig_0 (lv_at hl 4 rfl) ?_
  refine lv_iconst (v := 0) hx hb dL_dig_2 (by decide) ?_
  refine lv_aload_n hx hb dL_dig_3 rfl (lv_at hl 0 rfl) ?_
  refine lv_iload_n hx hb dL_dig_4 rfl (lv_at hl 1 rfl) ?_
  refine lv_iload_n hx hb dL_dig_5 rfl (lv_at hl 2 rfl) ?_
  refine lv_iload_n hx hb dL_dig_6 rfl (lv_at hl 3 rfl) ?_
  refine fk_i (fcV X hw hX hM0 rfl wq609 kVX5_dig ⟨by dsimp only [fR]; omega, by dsimp only [fR]; omega⟩ rfl hl.1 rfl (Nat.le_of_ble_eq_true rfl) dL_dig_7 ⟨by dsimp only [fR]; omega, by dsimp only [fR]; omega⟩) hw (fun r ad1 M1 H locs hp hw => ?_)
  obtain ⟨⟨A2, sf2, hC2, hL2⟩, hr, h0, er⟩ := hp
  rw [er]
  have hO1 : M1 3032 = some (oCell g f) := (hr 3032 (by omega) (by omega)).2.trans hO
  refine lv_i2l hx hb dL_dig_10 rfl ?_
  refine f_adr3 (ad := ad1) (lb := 3032) (hr 3032 (by omega) (by omega)).1 ?_
  refine f_last X hw hO1 (by unfold vp_in; decide) dL_dig_11 (fun H locs hw => ?_)
  rw [show (0 : Int32).toNatClampNeg = 0 from rfl] at hw
  have hw : fw g ad1 (fU M1 3032 (.inl (gJ g, 1, .inr (.inl (vp_updL f 0 v.toInt64))))) s H locs := hw
  have hO1 : (fU M1 3032 (.inl (gJ g, 1, .inr (.inl (vp_updL f 0 v.toInt64))))) 3032 = some (.inl (gJ g, 1, .inr (.inl (vp_updL f 0 v.toInt64)))) := fU_s
  refine lv_goto (tgt := 27) hx hb dL_dig_12 (by decide) ?_
  refine lv_iconst (v := 0) hx hb dL_dig_27 (by decide) ?_
  exact vx_ret (f_iret X hw ⟨⟨A2, sf2, isC_eq hC2 (fun l hl => ⟨rfl, fU_n (by omega)⟩), hL2⟩, fun l a b => ⟨(hr l (by omega) (by omega)).1, (fU_n (by omega)).trans (hr l (by omega) (by omega)).2⟩, ⟨h0, (hr 3032 (by omega) (by omega)).1⟩, fU_s, rfl⟩ (by omega) (by omega) dL_dig_28)
set_option maxHeartbeats 4000000 in
set_option maxRecDepth 100000 in
theorem wr_dig_x1 (l : Launch) (g : fG) (ad : Nat → Nat) (M : fM) {T A : fTn} {kf nf sf : Nat → Int32} (hC : isC g ad M T A kf nf sf) (hLe : leT A T) {f : Nat → Int64} (hO : M 3032 = some (oCell g f)) {a0 a1 a2 : Int32} {fr lo : Nat} (hX : fXt l g yX5_dig cX5_dig 6 (some .int) fr lo ad M [.ref (ad 0), .int a0, .int a1, .int a2] IOO ad M) (b1 : fr ≤ 9) (b2 : lo ≤ 225) : vx_Met l yL_dig (fWsH yL_dig cL_dig 6 (some .int) [(0, 12, 15, 13), (0, 12, 19, 15), (0, 12, 23, 17)]) (fR 10 260 90 2200) (va_Pc [.ref (ad 0), .int a0, .int a1, .int a2, .ref (ad 3032)] (fSL g ad M)) (fQi g (fWr g ad M T kf nf 1 f)) fNX 90 2200 (fA g) := by
  refine f_bodyH (own := RL) (by decide +kernel) rfl (Nat.le_of_ble_eq_true rfl) ?_
  intro p e s m args below meth c ls X hnc ht hw hl
  have hx := X.1
  have hb := X.2.1
  have hM0 : M 0 = some (.inr (6, [.ref (ad 1), .ref (ad 1000), .ref (ad 2000)])) := hC.1
  have hl : lv_has ls 6 [(0, .ref (ad 0)), (1, .int a0), (2, .int a1), (3, .int a2), (4, .ref (ad 3032))] := hl
  refine lv_aload hx hb dL_dig_0 (lv_at hl 4 rfl) ?_
  refine lv_iconst (v := 0) hx hb dL_dig_2 (by decide) ?_
  refine lv_aload_n hx hb dL_dig_3 rfl (lv_at hl 0 rfl) ?_
  refine lv_iload_n hx hb dL_dig_4 rfl (lv_at hl 1 rfl) ?_
  refine lv_iload_n hx hb dL_dig_5 rfl (lv_at hl 2 rfl) ?_
  refine lv_iload_n hx hb dL_dig_6 rfl (lv_at hl 3 rfl) ?_
  refine fk_c X (fxV X hw hX hM0 rfl wq609 kVX5_dig ⟨by dsimp only [fR]; omega, by dsimp only [fR]; omega⟩ rfl hl.1 rfl (Nat.le_of_ble_eq_true rfl) dL_dig_7 ⟨by dsimp only [fR]; omega, by dsimp only [fR]; omega⟩) hw [] ⟨0, 12, 15, 13⟩ [⟨0, 12, 19, 15⟩, ⟨0, 12, 23, 17⟩] (by rw [ht]; rfl) (fun z hz => absurd hz List.not_mem_nil) (by decide) (by decide) wq457 wn472 (fun q H locs hw => ?_)
  refine lv_astore (lv' := [(5, .ref q), (0, .ref (ad 0)), (1, .int a0), (2, .int a1), (3, .int a2), (4, .ref (ad 3032))]) hx hb dL_dig_15 hl (by decide) rfl (fun ls hl => ?_)
  refine lv_iconst (v := 1) hx hb dL_dig_17 (by decide) ?_
  exact vx_ret (f_iret X hw ⟨⟨A, sf, hC, hLe⟩, fun l a b => ⟨rfl, rfl⟩, ⟨rfl, rfl⟩, hO, rfl⟩ (by omega) (by omega) dL_dig_18)
set_option maxHeartbeats 4000000 in
set_option maxRecDepth 100000 in
theorem wr_dig_x2 (l : Launch) (g : fG) (ad : Nat → Nat) (M : fM) {T A : fTn} {kf nf sf : Nat → Int32} (hC : isC g ad M T A kf nf sf) (hLe : leT A T) {f : Nat → Int64} (hO : M 3032 = some (oCell g f)) {a0 a1 a2 : Int32} {fr lo : Nat} (hX : fXt l g yX5_dig cX5_dig 6 (some .int) fr lo ad M [.ref (ad 0), .int a0, .int a1, .int a2] IAE ad M) (b1 : fr ≤ 9) (b2 : lo ≤ 225) : vx_Met l yL_dig (fWsH yL_dig cL_dig 6 (some .int) [(0, 12, 15, 13), (0, 12, 19, 15), (0, 12, 23, 17)]) (fR 10 260 90 2200) (va_Pc [.ref (ad 0), .int a0, .int a1, .int a2, .ref (ad 3032)] (fSL g ad M)) (fQi g (fWr g ad M T kf nf 2 f)) fNX 90 2200 (fA g) := by
  refine f_bodyH (own := RL) (by decide +kernel) rfl (Nat.le_of_ble_eq_true rfl) ?_
  intro p e s m args below meth c ls X hnc ht hw hl
  have hx := X.1
  have hb := X.2.1
  have hM0 : M 0 = some (.inr (6, [.ref (ad 1), .ref (ad 1000), .ref (ad 2000)])) := hC.1
  have hl : lv_has ls 6 [(0, .ref (ad 0)), (1, .int a0), (2, .int a1), (3, .int a2), (4, .ref (ad 3032))] := hl
  refine lv_aload hx hb dL_dig_0 (lv_at hl 4 rfl) ?_
  refine lv_iconst (v := 0) hx hb dL_dig_2 (by decide) ?_
  refine lv_aload_n hx hb dL_dig_3 rfl (lv_at hl 0 rfl) ?_
  refine lv_iload_n hx hb dL_dig_4 rfl (lv_at hl 1 rfl) ?_
  refine lv_iload_n hx hb dL_dig_5 rfl (lv_at hl 2 rfl) ?_
  refine lv_iload_n hx hb dL_dig_6 rfl (lv_at hl 3 rfl) ?_
  refine fk_c X (fxV X hw hX hM0 rfl wq609 kVX5_dig ⟨by dsimp only [fR]; omega, by dsimp only [fR]; omega⟩ rfl hl.1 rfl (Nat.le_of_ble_eq_true rfl) dL_dig_7 ⟨by dsimp only [fR]; omega, by dsimp only [fR]; omega⟩) hw [⟨0, 12, 15, 13⟩] ⟨0, 12, 19, 15⟩ [⟨0, 12, 23, 17⟩] (by rw [ht]; rfl) (fun z hz => by
        simp only [List.mem_cons, List.not_mem_nil, or_false] at hz
        rcases hz with rfl
        · exact Or.inr ⟨by decide, IOO, X.2.2.2.2.1 _ wq457, hnc.1⟩) (by decide) (by decide) wq458 wn543 (fun q H locs hw => ?_)
  refine lv_astore (lv' := [(5, .ref q), (0, .ref (ad 0)), (1, .int a0), (2, .int a1), (3, .int a2), (4, .ref (ad 3032))]) hx hb dL_dig_19 hl (by decide) rfl (fun ls hl => ?_)
  refine lv_iconst (v := 2) hx hb dL_dig_21 (by decide) ?_
  exact vx_ret (f_iret X hw ⟨⟨A, sf, hC, hLe⟩, fun l a b => ⟨rfl, rfl⟩, ⟨rfl, rfl⟩, hO, rfl⟩ (by omega) (by omega) dL_dig_22)
set_option maxHeartbeats 4000000 in
set_option maxRecDepth 100000 in
theorem wr_dig_x3 (l : Launch) (g : fG) (ad : Nat → Nat) (M : fM) {T A : fTn} {kf nf sf : Nat → Int32} (hC : isC g ad M T A kf nf sf) (hLe : leT A T) {f : Nat → Int64} (hO : M 3032 = some (oCell g f)) {a0 a1 a2 : Int32} {fr lo : Nat} (hX : fXt l g yX5_dig cX5_dig 6 (some .int) fr lo ad M [.ref (ad 0), .int a0, .int a1, .int a2] ISE ad M) (b1 : fr ≤ 9) (b2 : lo ≤ 225) : vx_Met l yL_dig (fWsH yL_dig cL_dig 6 (some .int) [(0, 12, 15, 13), (0, 12, 19, 15), (0, 12, 23, 17)]) (fR 10 260 90 2200) (va_Pc [.ref (ad 0), .int a0, .int a1, .int a2, .ref (ad 3032)] (fSL g ad M)) (fQi g (fWr g ad M T kf nf 3 f)) fNX 90 2200 (fA g) := by
  refine f_bodyH (own := RL) (by decide +kernel) rfl (Nat.le_of_ble_eq_true rfl) ?_
  intro p e s m args below meth c ls X hnc ht hw hl
  have hx := X.1
  have hb := X.2.1
  have hM0 : M 0 = some (.inr (6, [.ref (ad 1), .ref (ad 1000), .ref (ad 2000)])) := hC.1
  have hl : lv_has ls 6 [(0, .ref (ad 0)), (1, .int a0), (2, .int a1), (3, .int a2), (4, .ref (ad 3032))] := hl
  refine lv_aload hx hb dL_dig_0 (lv_at hl 4 rfl) ?_
  refine lv_iconst (v := 0) hx hb dL_dig_2 (by decide) ?_
  refine lv_aload_n hx hb dL_dig_3 rfl (lv_at hl 0 rfl) ?_
  refine lv_iload_n hx hb dL_dig_4 rfl (lv_at hl 1 rfl) ?_
  refine lv_iload_n hx hb dL_dig_5 rfl (lv_at hl 2 rfl) ?_
  refine lv_iload_n hx hb dL_dig_6 rfl (lv_at hl 3 rfl) ?_
  refine fk_c X (fxV X hw hX hM0 rfl wq609 kVX5_dig ⟨by dsimp only [fR]; omega, by dsimp only [fR]; omega⟩ rfl hl.1 rfl (Nat.le_of_ble_eq_true rfl) dL_dig_7 ⟨by dsimp only [fR]; omega, by dsimp only [fR]; omega⟩) hw [⟨0, 12, 15, 13⟩, ⟨0, 12, 19, 15⟩] ⟨0, 12, 23, 17⟩ [] (by rw [ht]; rfl) (fun z hz => by
        simp only [List.mem_cons, List.not_mem_nil, or_false] at hz
        rcases hz with rfl | rfl
        · exact Or.inr ⟨by decide, IOO, X.2.2.2.2.1 _ wq457, hnc.2.1⟩
        · exact Or.inr ⟨by decide, IAE, X.2.2.2.2.1 _ wq458, hnc.2.2.1⟩) (by decide) (by decide) wq459 wn585 (fun q H locs hw => ?_)
  refine lv_astore (lv' := [(5, .ref q), (0, .ref (ad 0)), (1, .int a0), (2, .int a1), (3, .int a2), (4, .ref (ad 3032))]) hx hb dL_dig_23 hl (by decide) rfl (fun ls hl => ?_)
  refine lv_iconst (v := 3) hx hb dL_dig_25 (by decide) ?_
  exact vx_ret (f_iret X hw ⟨⟨A, sf, hC, hLe⟩, fun l a b => ⟨rfl, rfl⟩, ⟨rfl, rfl⟩, hO, rfl⟩ (by omega) (by omega) dL_dig_26)
set_option maxHeartbeats 4000000 in
set_option maxRecDepth 100000 in
theorem wr_light_ok (l : Launch) (g : fG) (ad : Nat → Nat) (M : fM) {T A : fTn} {kf nf sf : Nat → Int32} (hC : isC g ad M T A kf nf sf) {f : Nat → Int64} (hO : M 3032 = some (oCell g f)) {a0 a1 : Int32} {fr lo mcX msX : Nat} {T2 : fTn} {kf2 nf2 : Nat → Int32} {v : Int32} (hX : fCi l g yX5_light cX5_light 4 (some .int) fr lo mcX msX ad M [.ref (ad 0), .int a0, .int a1] (fCu g ad M T2 kf2 nf2 v)) (b1 : fr ≤ 9) (b2 : lo ≤ 225) (b3 : mcX ≤ 89) (b4 : msX ≤ 2190) : vx_Met l yL_light (fWsH yL_light cL_light 5 (some .int) [(0, 10, 13, 13), (0, 10, 17, 15), (0, 10, 21, 17)]) (fR 10 260 90 2200) (va_Pc [.ref (ad 0), .int a0, .int a1, .ref (ad 3032)] (fSL g ad M)) (fQi g (fWr g ad M T2 kf2 nf2 0 (vp_updL f 0 v.toInt64))) fNX 90 2200 (fA g) := by
  refine f_bodyH (own := RL) (by decide +kernel) rfl (Nat.le_of_ble_eq_true rfl) ?_
  intro p e s m args below meth c ls X hnc ht hw hl
  have hx := X.1
  have hb := X.2.1
  have hM0 : M 0 = some (.inr (6, [.ref (ad 1), .ref (ad 1000), .ref (ad 2000)])) := hC.1
  have hl : lv_has ls 5 [(0, .ref (ad 0)), (1, .int a0), (2, .int a1), (3, .ref (ad 3032))] := hl
  refine lv_aload_n hx hb dL_light_0 rfl (lv_at hl 3 rfl) ?_
  refine lv_iconst (v := 0) hx hb dL_light_1 (by decide) ?_
  refine lv_aload_n hx hb dL_light_2 rfl (lv_at hl 0 rfl) ?_
  refine lv_iload_n hx hb dL_light_3 rfl (lv_at hl 1 rfl) ?_
  refine lv_iload_n hx hb dL_light_4 rfl (lv_at hl 2 rfl) ?_
  refine fk_i (fcV X hw hX hM0 rfl wq617 kVX5_light ⟨by dsimp only [fR]; omega, by dsimp only [fR]; omega⟩ rfl hl.1 rfl (Nat.le_of_ble_eq_true rfl) dL_light_5 ⟨by dsimp only [fR]; omega, by dsimp only [fR]; omega⟩) hw (fun r ad1 M1 H locs hp hw => ?_)
  obtain ⟨⟨A2, sf2, hC2, hL2⟩, hr, h0, er⟩ := hp
  rw [er]
  have hO1 : M1 3032 = some (oCell g f) := (hr 3032 (by omega) (by omega)).2.trans hO
  refine lv_i2l hx hb dL_light_8 rfl ?_
  refine f_adr3 (ad := ad1) (lb := 3032) (hr 3032 (by omega) (by omega)).1 ?_
  refine f_last X hw hO1 (by unfold vp_in; decide) dL_light_9 (fun H locs hw => ?_)
  rw [show (0 : Int32).toNatClampNeg = 0 from rfl] at hw
  have hw : fw g ad1 (fU M1 3032 (.inl (gJ g, 1, .inr (.inl (vp_updL f 0 v.toInt64))))) s H locs := hw
  have hO1 : (fU M1 3032 (.inl (gJ g, 1, .inr (.inl (vp_updL f 0 v.toInt64))))) 3032 = some (.inl (gJ g, 1, .inr (.inl (vp_updL f 0 v.toInt64)))) := fU_s
  refine lv_goto (tgt := 25) hx hb dL_light_10 (by decide) ?_
  refine lv_iconst (v := 0) hx hb dL_light_25 (by decide) ?_
  exact vx_ret (f_iret X hw ⟨⟨A2, sf2, isC_eq hC2 (fun l hl => ⟨rfl, fU_n (by omega)⟩), hL2⟩, fun l a b => ⟨(hr l (by omega) (by omega)).1, (fU_n (by omega)).trans (hr l (by omega) (by omega)).2⟩, ⟨h0, (hr 3032 (by omega) (by omega)).1⟩, fU_s, rfl⟩ (by omega) (by omega) dL_light_26)
set_option maxHeartbeats 4000000 in
set_option maxRecDepth 100000 in
theorem wr_light_x1 (l : Launch) (g : fG) (ad : Nat → Nat) (M : fM) {T A : fTn} {kf nf sf : Nat → Int32} (hC : isC g ad M T A kf nf sf) (hLe : leT A T) {f : Nat → Int64} (hO : M 3032 = some (oCell g f)) {a0 a1 : Int32} {fr lo : Nat} (hX : fXt l g yX5_light cX5_light 4 (some .int) fr lo ad M [.ref (ad 0), .int a0, .int a1] IOO ad M) (b1 : fr ≤ 9) (b2 : lo ≤ 225) : vx_Met l yL_light (fWsH yL_light cL_light 5 (some .int) [(0, 10, 13, 13), (0, 10, 17, 15), (0, 10, 21, 17)]) (fR 10 260 90 2200) (va_Pc [.ref (ad 0), .int a0, .int a1, .ref (ad 3032)] (fSL g ad M)) (fQi g (fWr g ad M T kf nf 1 f)) fNX 90 2200 (fA g) := by
  refine f_bodyH (own := RL) (by decide +kernel) rfl (Nat.le_of_ble_eq_true rfl) ?_
  intro p e s m args below meth c ls X hnc ht hw hl
  have hx := X.1
  have hb := X.2.1
  have hM0 : M 0 = some (.inr (6, [.ref (ad 1), .ref (ad 1000), .ref (ad 2000)])) := hC.1
  have hl : lv_has ls 5 [(0, .ref (ad 0)), (1, .int a0), (2, .int a1), (3, .ref (ad 3032))] := hl
  refine lv_aload_n hx hb dL_light_0 rfl (lv_at hl 3 rfl) ?_
  refine lv_iconst (v := 0) hx hb dL_light_1 (by decide) ?_
  refine lv_aload_n hx hb dL_light_2 rfl (lv_at hl 0 rfl) ?_
  refine lv_iload_n hx hb dL_light_3 rfl (lv_at hl 1 rfl) ?_
  refine lv_iload_n hx hb dL_light_4 rfl (lv_at hl 2 rfl) ?_
  refine fk_c X (fxV X hw hX hM0 rfl wq617 kVX5_light ⟨by dsimp only [fR]; omega, by dsimp only [fR]; omega⟩ rfl hl.1 rfl (Nat.le_of_ble_eq_true rfl) dL_light_5 ⟨by dsimp only [fR]; omega, by dsimp only [fR]; omega⟩) hw [] ⟨0, 10, 13, 13⟩ [⟨0, 10, 17, 15⟩, ⟨0, 10, 21, 17⟩] (by rw [ht]; rfl) (fun z hz => absurd hz List.not_mem_nil) (by decide) (by decide) wq457 wn472 (fun q H locs hw => ?_)
  refine lv_astore (lv' := [(4, .ref q), (0, .ref (ad 0)), (1, .int a0), (2, .int a1), (3, .ref (ad 3032))]) hx hb dL_light_13 hl (by decide) rfl (fun ls hl => ?_)
  refine lv_iconst (v := 1) hx hb dL_light_15 (by decide) ?_
  exact vx_ret (f_iret X hw ⟨⟨A, sf, hC, hLe⟩, fun l a b => ⟨rfl, rfl⟩, ⟨rfl, rfl⟩, hO, rfl⟩ (by omega) (by omega) dL_light_16)
set_option maxHeartbeats 4000000 in
set_option maxRecDepth 100000 in
theorem wr_light_x2 (l : Launch) (g : fG) (ad : Nat → Nat) (M : fM) {T A : fTn} {kf nf sf : Nat → Int32} (hC : isC g ad M T A kf nf sf) (hLe : leT A T) {f : Nat → Int64} (hO : M 3032 = some (oCell g f)) {a0 a1 : Int32} {fr lo : Nat} (hX : fXt l g yX5_light cX5_light 4 (some .int) fr lo ad M [.ref (ad 0), .int a0, .int a1] IAE ad M) (b1 : fr ≤ 9) (b2 : lo ≤ 225) : vx_Met l yL_light (fWsH yL_light cL_light 5 (some .int) [(0, 10, 13, 13), (0, 10, 17, 15), (0, 10, 21, 17)]) (fR 10 260 90 2200) (va_Pc [.ref (ad 0), .int a0, .int a1, .ref (ad 3032)] (fSL g ad M)) (fQi g (fWr g ad M T kf nf 2 f)) fNX 90 2200 (fA g) := by
  refine f_bodyH (own := RL) (by decide +kernel) rfl (Nat.le_of_ble_eq_true rfl) ?_
  intro p e s m args below meth c ls X hnc ht hw hl
  have hx := X.1
  have hb := X.2.1
  have hM0 : M 0 = some (.inr (6, [.ref (ad 1), .ref (ad 1000), .ref (ad 2000)])) := hC.1
  have hl : lv_has ls 5 [(0, .ref (ad 0)), (1, .int a0), (2, .int a1), (3, .ref (ad 3032))] := hl
  refine lv_aload_n hx hb dL_light_0 rfl (lv_at hl 3 rfl) ?_
  refine lv_iconst (v := 0) hx hb dL_light_1 (by decide) ?_
  refine lv_aload_n hx hb dL_light_2 rfl (lv_at hl 0 rfl) ?_
  refine lv_iload_n hx hb dL_light_3 rfl (lv_at hl 1 rfl) ?_
  refine lv_iload_n hx hb dL_light_4 rfl (lv_at hl 2 rfl) ?_
  refine fk_c X (fxV X hw hX hM0 rfl wq617 kVX5_light ⟨by dsimp only [fR]; omega, by dsimp only [fR]; omega⟩ rfl hl.1 rfl (Nat.le_of_ble_eq_true rfl) dL_light_5 ⟨by dsimp only [fR]; omega, by dsimp only [fR]; omega⟩) hw [⟨0, 10, 13, 13⟩] ⟨0, 10, 17, 15⟩ [⟨0, 10, 21, 17⟩] (by rw [ht]; rfl) (fun z hz => by
        simp only [List.mem_cons, List.not_mem_nil, or_false] at hz
        rcases hz with rfl
        · exact Or.inr ⟨by decide, IOO, X.2.2.2.2.1 _ wq457, hnc.1⟩) (by decide) (by decide) wq458 wn543 (fun q H locs hw => ?_)
  refine lv_astore (lv' := [(4, .ref q), (0, .ref (ad 0)), (1, .int a0), (2, .int a1), (3, .ref (ad 3032))]) hx hb dL_light_17 hl (by decide) rfl (fun ls hl => ?_)
  refine lv_iconst (v := 2) hx hb dL_light_19 (by decide) ?_
  exact vx_ret (f_iret X hw ⟨⟨A, sf, hC, hLe⟩, fun l a b => ⟨rfl, rfl⟩, ⟨rfl, rfl⟩, hO, rfl⟩ (by omega) (by omega) dL_light_20)
set_option maxHeartbeats 4000000 in
set_option maxRecDepth 100000 in
theorem wr_light_x3 (l : Launch) (g : fG) (ad : Nat → Nat) (M : fM) {T A : fTn} {kf nf sf : Nat → Int32} (hC : isC g ad M T A kf nf sf) (hLe : leT A T) {f : Nat → Int64} (hO : M 3032 = some (oCell g f)) {a0 a1 : Int32} {fr lo : Nat} (hX : fXt l g yX5_light cX5_light 4 (some .int) fr lo ad M [.ref (ad 0), .int a0, .int a1] ISE ad M) (b1 : fr ≤ 9) (b2 : lo ≤ 225) : vx_Met l yL_light (fWsH yL_light cL_light 5 (some .int) [(0, 10, 13, 13), (0, 10, 17, 15), (0, 10, 21, 17)]) (fR 10 260 90 2200) (va_Pc [.ref (ad 0), .int a0, .int a1, .ref (ad 3032)] (fSL g ad M)) (fQi g (fWr g ad M T kf nf 3 f)) fNX 90 2200 (fA g) := by
  refine f_bodyH (own := RL) (by decide +kernel) rfl (Nat.le_of_ble_eq_true rfl) ?_
  intro p e s m args below meth c ls X hnc ht hw hl
  have hx := X.1
  have hb := X.2.1
  have hM0 : M 0 = some (.inr (6, [.ref (ad 1), .ref (ad 1000), .ref (ad 2000)])) := hC.1
  have hl : lv_has ls 5 [(0, .ref (ad 0)), (1, .int a0), (2, .int a1), (3, .ref (ad 3032))] := hl
  refine lv_aload_n hx hb dL_light_0 rfl (lv_at hl 3 rfl) ?_
  refine lv_iconst (v := 0) hx hb dL_light_1 (by decide) ?_
  refine lv_aload_n hx hb dL_light_2 rfl (lv_at hl 0 rfl) ?_
  refine lv_iload_n hx hb dL_light_3 rfl (lv_at hl 1 rfl) ?_
  refine lv_iload_n hx hb dL_light_4 rfl (lv_at hl 2 rfl) ?_
  refine fk_c X (fxV X hw hX hM0 rfl wq617 kVX5_light ⟨by dsimp only [fR]; omega, by dsimp only [fR]; omega⟩ rfl hl.1 rfl (Nat.le_of_ble_eq_true rfl) dL_light_5 ⟨by dsimp only [fR]; omega, by dsimp only [fR]; omega⟩) hw [⟨0, 10, 13, 13⟩, ⟨0, 10, 17, 15⟩] ⟨0, 10, 21, 17⟩ [] (by rw [ht]; rfl) (fun z hz => by
        simp only [List.mem_cons, List.not_mem_nil, or_false] at hz
        rcases hz with rfl | rfl
        · exact Or.inr ⟨by decide, IOO, X.2.2.2.2.1 _ wq457, hnc.2.1⟩
        · exact Or.inr ⟨by decide, IAE, X.2.2.2.2.1 _ wq458, hnc.2.2.1⟩) (by decide) (by decide) wq459 wn585 (fun q H locs hw => ?_)
  refine lv_astore (lv' := [(4, .ref q), (0, .ref (ad 0)), (1, .int a0), (2, .int a1), (3, .ref (ad 3032))]) hx hb dL_light_21 hl (by decide) rfl (fun ls hl => ?_)
  refine lv_iconst (v := 3) hx hb dL_light_23 (by decide) ?_
  exact vx_ret (f_iret X hw ⟨⟨A, sf, hC, hLe⟩, fun l a b => ⟨rfl, rfl⟩, ⟨rfl, rfl⟩, hO, rfl⟩ (by omega) (by omega) dL_light_24)
set_option maxHeartbeats 4000000 in
set_option maxRecDepth 100000 in
theorem wr_cell_ok (l : Launch) (g : fG) (ad : Nat → Nat) (M : fM) {T A : fTn} {kf nf sf : Nat → Int32} (hC : isC g ad M T A kf nf sf) {f : Nat → Int64} (hO : M 3032 = some (oCell g f)) {a0 a1 a2 : Int32} {fr lo mcX msX : Nat} {T2 : fTn} {kf2 nf2 : Nat → Int32} {v : Int32} (hX : fCi l g yX5_cell cX5_cell 5 (some .int) fr lo mcX msX ad M [.ref (ad 0), .int a0, .int a1, .int a2] (fCu g ad M T2 kf2 nf2 v)) (b1 : fr ≤ 9) (b2 : lo ≤ 225) (b3 : mcX ≤ 89) (b4 : msX ≤ 2190) : vx_Met l yL_cell (fWsH yL_cell cL_cell 6 (some .int) [(0, 12, 15, 13)]) (fR 10 260 90 2200) (va_Pc [.ref (ad 0), .int a0, .int a1, .int a2, .ref (ad 3032)] (fSL g ad M)) (fQi g (fWr g ad M T2 kf2 nf2 0 (vp_updL f 0 v.toInt64))) fNX 90 2200 (fA g) := by
  refine f_bodyH (own := RL) (by decide +kernel) rfl (Nat.le_of_ble_eq_true rfl) ?_
  intro p e s m args below meth c ls X hnc ht hw hl
  have hx := X.1
  have hb := X.2.1
  have hM0 : M 0 = some (.inr (6, [.ref (ad 1), .ref (ad 1000), .ref (ad 2000)])) := hC.1
  have hl : lv_has ls 6 [(0, .ref (ad 0)), (1, .int a0), (2, .int a1), (3, .int a2), (4, .ref (ad 3032))] := hl
  refine lv_aload hx hb dL_cell_0 (lv_at hl 4 rfl) ?_
  refine lv_iconst (v := 0) hx hb dL_cell_2 (by decide) ?_
  refine lv_aload_n hx hb dL_cell_3 rfl (lv_at hl 0 rfl) ?_
  refine lv_iload_n hx hb dL_cell_4 rfl (lv_at hl 1 rfl) ?_
  refine lv_iload_n hx hb dL_cell_5 rfl (lv_at hl 2 rfl) ?_
  refine lv_iload_n hx hb dL_cell_6 rfl (lv_at hl 3 rfl) ?_
  refine fk_i (fcV X hw hX hM0 rfl wq633 kVX5_cell ⟨by dsimp only [fR]; omega, by dsimp only [fR]; omega⟩ rfl hl.1 rfl (Nat.le_of_ble_eq_true rfl) dL_cell_7 ⟨by dsimp only [fR]; omega, by dsimp only [fR]; omega⟩) hw (fun r ad1 M1 H locs hp hw => ?_)
  obtain ⟨⟨A2, sf2, hC2, hL2⟩, hr, h0, er⟩ := hp
  rw [er]
  have hO1 : M1 3032 = some (oCell g f) := (hr 3032 (by omega) (by omega)).2.trans hO
  refine lv_i2l hx hb dL_cell_10 rfl ?_
  refine f_adr3 (ad := ad1) (lb := 3032) (hr 3032 (by omega) (by omega)).1 ?_
  refine f_last X hw hO1 (by unfold vp_in; decide) dL_cell_11 (fun H locs hw => ?_)
  rw [show (0 : Int32).toNatClampNeg = 0 from rfl] at hw
  have hw : fw g ad1 (fU M1 3032 (.inl (gJ g, 1, .inr (.inl (vp_updL f 0 v.toInt64))))) s H locs := hw
  have hO1 : (fU M1 3032 (.inl (gJ g, 1, .inr (.inl (vp_updL f 0 v.toInt64))))) 3032 = some (.inl (gJ g, 1, .inr (.inl (vp_updL f 0 v.toInt64)))) := fU_s
  refine lv_goto (tgt := 19) hx hb dL_cell_12 (by decide) ?_
  refine lv_iconst (v := 0) hx hb dL_cell_19 (by decide) ?_
  exact vx_ret (f_iret X hw ⟨⟨A2, sf2, isC_eq hC2 (fun l hl => ⟨rfl, fU_n (by omega)⟩), hL2⟩, fun l a b => ⟨(hr l (by omega) (by omega)).1, (fU_n (by omega)).trans (hr l (by omega) (by omega)).2⟩, ⟨h0, (hr 3032 (by omega) (by omega)).1⟩, fU_s, rfl⟩ (by omega) (by omega) dL_cell_20)
set_option maxHeartbeats 4000000 in
set_option maxRecDepth 100000 in
theorem wr_cell_x1 (l : Launch) (g : fG) (ad : Nat → Nat) (M : fM) {T A : fTn} {kf nf sf : Nat → Int32} (hC : isC g ad M T A kf nf sf) (hLe : leT A T) {f : Nat → Int64} (hO : M 3032 = some (oCell g f)) {a0 a1 a2 : Int32} {fr lo : Nat} (hX : fXt l g yX5_cell cX5_cell 5 (some .int) fr lo ad M [.ref (ad 0), .int a0, .int a1, .int a2] IOO ad M) (b1 : fr ≤ 9) (b2 : lo ≤ 225) : vx_Met l yL_cell (fWsH yL_cell cL_cell 6 (some .int) [(0, 12, 15, 13)]) (fR 10 260 90 2200) (va_Pc [.ref (ad 0), .int a0, .int a1, .int a2, .ref (ad 3032)] (fSL g ad M)) (fQi g (fWr g ad M T kf nf 1 f)) fNX 90 2200 (fA g) := by
  refine f_bodyH (own := RL) (by decide +kernel) rfl (Nat.le_of_ble_eq_true rfl) ?_
  intro p e s m args below meth c ls X hnc ht hw hl
  have hx := X.1
  have hb := X.2.1
  have hM0 : M 0 = some (.inr (6, [.ref (ad 1), .ref (ad 1000), .ref (ad 2000)])) := hC.1
  have hl : lv_has ls 6 [(0, .ref (ad 0)), (1, .int a0), (2, .int a1), (3, .int a2), (4, .ref (ad 3032))] := hl
  refine lv_aload hx hb dL_cell_0 (lv_at hl 4 rfl) ?_
  refine lv_iconst (v := 0) hx hb dL_cell_2 (by decide) ?_
  refine lv_aload_n hx hb dL_cell_3 rfl (lv_at hl 0 rfl) ?_
  refine lv_iload_n hx hb dL_cell_4 rfl (lv_at hl 1 rfl) ?_
  refine lv_iload_n hx hb dL_cell_5 rfl (lv_at hl 2 rfl) ?_
  refine lv_iload_n hx hb dL_cell_6 rfl (lv_at hl 3 rfl) ?_
  refine fk_c X (fxV X hw hX hM0 rfl wq633 kVX5_cell ⟨by dsimp only [fR]; omega, by dsimp only [fR]; omega⟩ rfl hl.1 rfl (Nat.le_of_ble_eq_true rfl) dL_cell_7 ⟨by dsimp only [fR]; omega, by dsimp only [fR]; omega⟩) hw [] ⟨0, 12, 15, 13⟩ [] (by rw [ht]; rfl) (fun z hz => absurd hz List.not_mem_nil) (by decide) (by decide) wq457 wn472 (fun q H locs hw => ?_)
  refine lv_astore (lv' := [(5, .ref q), (0, .ref (ad 0)), (1, .int a0), (2, .int a1), (3, .int a2), (4, .ref (ad 3032))]) hx hb dL_cell_15 hl (by decide) rfl (fun ls hl => ?_)
  refine lv_iconst (v := 1) hx hb dL_cell_17 (by decide) ?_
  exact vx_ret (f_iret X hw ⟨⟨A, sf, hC, hLe⟩, fun l a b => ⟨rfl, rfl⟩, ⟨rfl, rfl⟩, hO, rfl⟩ (by omega) (by omega) dL_cell_18)
set_option maxHeartbeats 4000000 in
set_option maxRecDepth 100000 in
theorem wr_house_ok (l : Launch) (g : fG) (ad : Nat → Nat) (M : fM) {T A : fTn} {kf nf sf : Nat → Int32} (hC : isC g ad M T A kf nf sf) {f : Nat → Int64} (hO : M 3032 = some (oCell g f)) {a0 a1 : Int32} {fr lo mcX msX : Nat} {T2 : fTn} {kf2 nf2 : Nat → Int32} {v : Int32} (hX : fCi l g yX5_house cX5_house 3 (some .int) fr lo mcX msX ad M [.ref (ad 0), .int a0, .int a1] (fCu g ad M T2 kf2 nf2 v)) (b1 : fr ≤ 9) (b2 : lo ≤ 225) (b3 : mcX ≤ 89) (b4 : msX ≤ 2190) : vx_Met l yL_house (fWsH yL_house cL_house 5 (some .int) [(0, 10, 13, 13)]) (fR 10 260 90 2200) (va_Pc [.ref (ad 0), .int a0, .int a1, .ref (ad 3032)] (fSL g ad M)) (fQi g (fWr g ad M T2 kf2 nf2 0 (vp_updL f 0 v.toInt64))) fNX 90 2200 (fA g) := by
  refine f_bodyH (own := RL) (by decide +kernel) rfl (Nat.le_of_ble_eq_true rfl) ?_
  intro p e s m args below meth c ls X hnc ht hw hl
  have hx := X.1
  have hb := X.2.1
  have hM0 : M 0 = some (.inr (6, [.ref (ad 1), .ref (ad 1000), .ref (ad 2000)])) := hC.1
  have hl : lv_has ls 5 [(0, .ref (ad 0)), (1, .int a0), (2, .int a1), (3, .ref (ad 3032))] := hl
  refine lv_aload_n hx hb dL_house_0 rfl (lv_at hl 3 rfl) ?_
  refine lv_iconst (v := 0) hx hb dL_house_1 (by decide) ?_
  refine lv_aload_n hx hb dL_house_2 rfl (lv_at hl 0 rfl) ?_
  refine lv_iload_n hx hb dL_house_3 rfl (lv_at hl 1 rfl) ?_
  refine lv_iload_n hx hb dL_house_4 rfl (lv_at hl 2 rfl) ?_
  refine fk_i (fcV X hw hX hM0 rfl wq650 kVX5_house ⟨by dsimp only [fR]; omega, by dsimp only [fR]; omega⟩ rfl hl.1 rfl (Nat.le_of_ble_eq_true rfl) dL_house_5 ⟨by dsimp only [fR]; omega, by dsimp only [fR]; omega⟩) hw (fun r ad1 M1 H locs hp hw => ?_)
  obtain ⟨⟨A2, sf2, hC2, hL2⟩, hr, h0, er⟩ := hp
  rw [er]
  have hO1 : M1 3032 = some (oCell g f) := (hr 3032 (by omega) (by omega)).2.trans hO
  refine lv_i2l hx hb dL_house_8 rfl ?_
  refine f_adr3 (ad := ad1) (lb := 3032) (hr 3032 (by omega) (by omega)).1 ?_
  refine f_last X hw hO1 (by unfold vp_in; decide) dL_house_9 (fun H locs hw => ?_)
  rw [show (0 : Int32).toNatClampNeg = 0 from rfl] at hw
  have hw : fw g ad1 (fU M1 3032 (.inl (gJ g, 1, .inr (.inl (vp_updL f 0 v.toInt64))))) s H locs := hw
  have hO1 : (fU M1 3032 (.inl (gJ g, 1, .inr (.inl (vp_updL f 0 v.toInt64))))) 3032 = some (.inl (gJ g, 1, .inr (.inl (vp_updL f 0 v.toInt64)))) := fU_s
  refine lv_goto (tgt := 17) hx hb dL_house_10 (by decide) ?_
  refine lv_iconst (v := 0) hx hb dL_house_17 (by decide) ?_
  exact vx_ret (f_iret X hw ⟨⟨A2, sf2, isC_eq hC2 (fun l hl => ⟨rfl, fU_n (by omega)⟩), hL2⟩, fun l a b => ⟨(hr l (by omega) (by omega)).1, (fU_n (by omega)).trans (hr l (by omega) (by omega)).2⟩, ⟨h0, (hr 3032 (by omega) (by omega)).1⟩, fU_s, rfl⟩ (by omega) (by omega) dL_house_18)
set_option maxHeartbeats 4000000 in
set_option maxRecDepth 100000 in
theorem wr_house_x1 (l : Launch) (g : fG) (ad : Nat → Nat) (M : fM) {T A : fTn} {kf nf sf : Nat → Int32} (hC : isC g ad M T A kf nf sf) (hLe : leT A T) {f : Nat → Int64} (hO : M 3032 = some (oCell g f)) {a0 a1 : Int32} {fr lo : Nat} (hX : fXt l g yX5_house cX5_house 3 (some .int) fr lo ad M [.ref (ad 0), .int a0, .int a1] IOO ad M) (b1 : fr ≤ 9) (b2 : lo ≤ 225) : vx_Met l yL_house (fWsH yL_house cL_house 5 (some .int) [(0, 10, 13, 13)]) (fR 10 260 90 2200) (va_Pc [.ref (ad 0), .int a0, .int a1, .ref (ad 3032)] (fSL g ad M)) (fQi g (fWr g ad M T kf nf 1 f)) fNX 90 2200 (fA g) := by
  refine f_bodyH (own := RL) (by decide +kernel) rfl (Nat.le_of_ble_eq_true rfl) ?_
  intro p e s m args below meth c ls X hnc ht hw hl
  have hx := X.1
  have hb := X.2.1
  have hM0 : M 0 = some (.inr (6, [.ref (ad 1), .ref (ad 1000), .ref (ad 2000)])) := hC.1
  have hl : lv_has ls 5 [(0, .ref (ad 0)), (1, .int a0), (2, .int a1), (3, .ref (ad 3032))] := hl
  refine lv_aload_n hx hb dL_house_0 rfl (lv_at hl 3 rfl) ?_
  refine lv_iconst (v := 0) hx hb dL_house_1 (by decide) ?_
  refine lv_aload_n hx hb dL_house_2 rfl (lv_at hl 0 rfl) ?_
  refine lv_iload_n hx hb dL_house_3 rfl (lv_at hl 1 rfl) ?_
  refine lv_iload_n hx hb dL_house_4 rfl (lv_at hl 2 rfl) ?_
  refine fk_c X (fxV X hw hX hM0 rfl wq650 kVX5_house ⟨by dsimp only [fR]; omega, by dsimp only [fR]; omega⟩ rfl hl.1 rfl (Nat.le_of_ble_eq_true rfl) dL_house_5 ⟨by dsimp only [fR]; omega, by dsimp only [fR]; omega⟩) hw [] ⟨0, 10, 13, 13⟩ [] (by rw [ht]; rfl) (fun z hz => absurd hz List.not_mem_nil) (by decide) (by decide) wq457 wn472 (fun q H locs hw => ?_)
  refine lv_astore (lv' := [(4, .ref q), (0, .ref (ad 0)), (1, .int a0), (2, .int a1), (3, .ref (ad 3032))]) hx hb dL_house_13 hl (by decide) rfl (fun ls hl => ?_)
  refine lv_iconst (v := 1) hx hb dL_house_15 (by decide) ?_
  exact vx_ret (f_iret X hw ⟨⟨A, sf, hC, hLe⟩, fun l a b => ⟨rfl, rfl⟩, ⟨rfl, rfl⟩, hO, rfl⟩ (by omega) (by omega) dL_house_16)
set_option maxHeartbeats 4000000 in
set_option maxRecDepth 100000 in
theorem wr_addEngine_ok (l : Launch) (g : fG) (ad : Nat → Nat) (M : fM) {T A : fTn} {kf nf sf : Nat → Int32} (hC : isC g ad M T A kf nf sf) {f : Nat → Int64} (hO : M 3032 = some (oCell g f)) {a0 a1 a2 a3 : Int32} {fr lo mcX msX : Nat} {T2 : fTn} {kf2 nf2 : Nat → Int32} {v : Int32} (hX : fCi l g yX5_addEngine cX5_addEngine 7 (some .int) fr lo mcX msX ad M [.ref (ad 0), .int a0, .int a1, .int a2, .int a3] (fCu g ad M T2 kf2 nf2 v)) (b1 : fr ≤ 9) (b2 : lo ≤ 225) (b3 : mcX ≤ 89) (b4 : msX ≤ 2190) : vx_Met l yL_addEngine (fWsH yL_addEngine cL_addEngine 7 (some .int) [(0, 14, 17, 13), (0, 14, 21, 15), (0, 14, 25, 17)]) (fR 10 260 90 2200) (va_Pc [.ref (ad 0), .int a0, .int a1, .int a2, .int a3, .ref (ad 3032)] (fSL g ad M)) (fQi g (fWr g ad M T2 kf2 nf2 0 (vp_updL f 0 v.toInt64))) fNX 90 2200 (fA g) := by
  refine f_bodyH (own := RL) (by decide +kernel) rfl (Nat.le_of_ble_eq_true rfl) ?_
  intro p e s m args below meth c ls X hnc ht hw hl
  have hx := X.1
  have hb := X.2.1
  have hM0 : M 0 = some (.inr (6, [.ref (ad 1), .ref (ad 1000), .ref (ad 2000)])) := hC.1
  have hl : lv_has ls 7 [(0, .ref (ad 0)), (1, .int a0), (2, .int a1), (3, .int a2), (4, .int a3), (5, .ref (ad 3032))] := hl
  refine lv_aload hx hb dL_addEngine_0 (lv_at hl 5 rfl) ?_
  refine lv_iconst (v := 0) hx hb dL_addEngine_2 (by decide) ?_
  refine lv_aload_n hx hb dL_addEngine_3 rfl (lv_at hl 0 rfl) ?_
  refine lv_iload_n hx hb dL_addEngine_4 rfl (lv_at hl 1 rfl) ?_
  refine lv_iload_n hx hb dL_addEngine_5 rfl (lv_at hl 2 rfl) ?_
  refine lv_iload_n hx hb dL_addEngine_6 rfl (lv_at hl 3 rfl) ?_
  refine lv_iload hx hb dL_addEngine_7 (lv_at hl 4 rfl) ?_
  refine fk_i (fcV X hw hX hM0 rfl wq657 kVX5_addEngine ⟨by dsimp only [fR]; omega, by dsimp only [fR]; omega⟩ rfl hl.1 rfl (Nat.le_of_ble_eq_true rfl) dL_addEngine_9 ⟨by dsimp only [fR]; omega, by dsimp only [fR]; omega⟩) hw (fun r ad1 M1 H locs hp hw => ?_)
  obtain ⟨⟨A2, sf2, hC2, hL2⟩, hr, h0, er⟩ := hp
  rw [er]
  have hO1 : M1 3032 = some (oCell g f) := (hr 3032 (by omega) (by omega)).2.trans hO
  refine lv_i2l hx hb dL_addEngine_12 rfl ?_
  refine f_adr3 (ad := ad1) (lb := 3032) (hr 3032 (by omega) (by omega)).1 ?_
  refine f_last X hw hO1 (by unfold vp_in; decide) dL_addEngine_13 (fun H locs hw => ?_)
  rw [show (0 : Int32).toNatClampNeg = 0 from rfl] at hw
  have hw : fw g ad1 (fU M1 3032 (.inl (gJ g, 1, .inr (.inl (vp_updL f 0 v.toInt64))))) s H locs := hw
  have hO1 : (fU M1 3032 (.inl (gJ g, 1, .inr (.inl (vp_updL f 0 v.toInt64))))) 3032 = some (.inl (gJ g, 1, .inr (.inl (vp_updL f 0 v.toInt64)))) := fU_s
  refine lv_goto (tgt := 29) hx hb dL_addEngine_14 (by decide) ?_
  refine lv_iconst (v := 0) hx hb dL_addEngine_29 (by decide) ?_
  exact vx_ret (f_iret X hw ⟨⟨A2, sf2, isC_eq hC2 (fun l hl => ⟨rfl, fU_n (by omega)⟩), hL2⟩, fun l a b => ⟨(hr l (by omega) (by omega)).1, (fU_n (by omega)).trans (hr l (by omega) (by omega)).2⟩, ⟨h0, (hr 3032 (by omega) (by omega)).1⟩, fU_s, rfl⟩ (by omega) (by omega) dL_addEngine_30)
set_option maxHeartbeats 4000000 in
set_option maxRecDepth 100000 in
theorem wr_addEngine_x1 (l : Launch) (g : fG) (ad : Nat → Nat) (M : fM) {T A : fTn} {kf nf sf : Nat → Int32} (hC : isC g ad M T A kf nf sf) (hLe : leT A T) {f : Nat → Int64} (hO : M 3032 = some (oCell g f)) {a0 a1 a2 a3 : Int32} {fr lo : Nat} (hX : fXt l g yX5_addEngine cX5_addEngine 7 (some .int) fr lo ad M [.ref (ad 0), .int a0, .int a1, .int a2, .int a3] IOO ad M) (b1 : fr ≤ 9) (b2 : lo ≤ 225) : vx_Met l yL_addEngine (fWsH yL_addEngine cL_addEngine 7 (some .int) [(0, 14, 17, 13), (0, 14, 21, 15), (0, 14, 25, 17)]) (fR 10 260 90 2200) (va_Pc [.ref (ad 0), .int a0, .int a1, .int a2, .int a3, .ref (ad 3032)] (fSL g ad M)) (fQi g (fWr g ad M T kf nf 1 f)) fNX 90 2200 (fA g) := by
  refine f_bodyH (own := RL) (by decide +kernel) rfl (Nat.le_of_ble_eq_true rfl) ?_
  intro p e s m args below meth c ls X hnc ht hw hl
  have hx := X.1
  have hb := X.2.1
  have hM0 : M 0 = some (.inr (6, [.ref (ad 1), .ref (ad 1000), .ref (ad 2000)])) := hC.1
  have hl : lv_has ls 7 [(0, .ref (ad 0)), (1, .int a0), (2, .int a1), (3, .int a2), (4, .int a3), (5, .ref (ad 3032))] := hl
  refine lv_aload hx hb dL_addEngine_0 (lv_at hl 5 rfl) ?_
  refine lv_iconst (v := 0) hx hb dL_addEngine_2 (by decide) ?_
  refine lv_aload_n hx hb dL_addEngine_3 rfl (lv_at hl 0 rfl) ?_
  refine lv_iload_n hx hb dL_addEngine_4 rfl (lv_at hl 1 rfl) ?_
  refine lv_iload_n hx hb dL_addEngine_5 rfl (lv_at hl 2 rfl) ?_
  refine lv_iload_n hx hb dL_addEngine_6 rfl (lv_at hl 3 rfl) ?_
  refine lv_iload hx hb dL_addEngine_7 (lv_at hl 4 rfl) ?_
  refine fk_c X (fxV X hw hX hM0 rfl wq657 kVX5_addEngine ⟨by dsimp only [fR]; omega, by dsimp only [fR]; omega⟩ rfl hl.1 rfl (Nat.le_of_ble_eq_true rfl) dL_addEngine_9 ⟨by dsimp only [fR]; omega, by dsimp only [fR]; omega⟩) hw [] ⟨0, 14, 17, 13⟩ [⟨0, 14, 21, 15⟩, ⟨0, 14, 25, 17⟩] (by rw [ht]; rfl) (fun z hz => absurd hz List.not_mem_nil) (by decide) (by decide) wq457 wn472 (fun q H locs hw => ?_)
  refine lv_astore (lv' := [(6, .ref q), (0, .ref (ad 0)), (1, .int a0), (2, .int a1), (3, .int a2), (4, .int a3), (5, .ref (ad 3032))]) hx hb dL_addEngine_17 hl (by decide) rfl (fun ls hl => ?_)
  refine lv_iconst (v := 1) hx hb dL_addEngine_19 (by decide) ?_
  exact vx_ret (f_iret X hw ⟨⟨A, sf, hC, hLe⟩, fun l a b => ⟨rfl, rfl⟩, ⟨rfl, rfl⟩, hO, rfl⟩ (by omega) (by omega) dL_addEngine_20)
set_option maxHeartbeats 4000000 in
set_option maxRecDepth 100000 in
theorem wr_addEngine_x2 (l : Launch) (g : fG) (ad : Nat → Nat) (M : fM) {T A : fTn} {kf nf sf : Nat → Int32} (hC : isC g ad M T A kf nf sf) (hLe : leT A T) {f : Nat → Int64} (hO : M 3032 = some (oCell g f)) {a0 a1 a2 a3 : Int32} {fr lo : Nat} (hX : fXt l g yX5_addEngine cX5_addEngine 7 (some .int) fr lo ad M [.ref (ad 0), .int a0, .int a1, .int a2, .int a3] IAE ad M) (b1 : fr ≤ 9) (b2 : lo ≤ 225) : vx_Met l yL_addEngine (fWsH yL_addEngine cL_addEngine 7 (some .int) [(0, 14, 17, 13), (0, 14, 21, 15), (0, 14, 25, 17)]) (fR 10 260 90 2200) (va_Pc [.ref (ad 0), .int a0, .int a1, .int a2, .int a3, .ref (ad 3032)] (fSL g ad M)) (fQi g (fWr g ad M T kf nf 2 f)) fNX 90 2200 (fA g) := by
  refine f_bodyH (own := RL) (by decide +kernel) rfl (Nat.le_of_ble_eq_true rfl) ?_
  intro p e s m args below meth c ls X hnc ht hw hl
  have hx := X.1
  have hb := X.2.1
  have hM0 : M 0 = some (.inr (6, [.ref (ad 1), .ref (ad 1000), .ref (ad 2000)])) := hC.1
  have hl : lv_has ls 7 [(0, .ref (ad 0)), (1, .int a0), (2, .int a1), (3, .int a2), (4, .int a3), (5, .ref (ad 3032))] := hl
  refine lv_aload hx hb dL_addEngine_0 (lv_at hl 5 rfl) ?_
  refine lv_iconst (v := 0) hx hb dL_addEngine_2 (by decide) ?_
  refine lv_aload_n hx hb dL_addEngine_3 rfl (lv_at hl 0 rfl) ?_
  refine lv_iload_n hx hb dL_addEngine_4 rfl (lv_at hl 1 rfl) ?_
  refine lv_iload_n hx hb dL_addEngine_5 rfl (lv_at hl 2 rfl) ?_
  refine lv_iload_n hx hb dL_addEngine_6 rfl (lv_at hl 3 rfl) ?_
  refine lv_iload hx hb dL_addEngine_7 (lv_at hl 4 rfl) ?_
  refine fk_c X (fxV X hw hX hM0 rfl wq657 kVX5_addEngine ⟨by dsimp only [fR]; omega, by dsimp only [fR]; omega⟩ rfl hl.1 rfl (Nat.le_of_ble_eq_true rfl) dL_addEngine_9 ⟨by dsimp only [fR]; omega, by dsimp only [fR]; omega⟩) hw [⟨0, 14, 17, 13⟩] ⟨0, 14, 21, 15⟩ [⟨0, 14, 25, 17⟩] (by rw [ht]; rfl) (fun z hz => by
        simp only [List.mem_cons, List.not_mem_nil, or_false] at hz
        rcases hz with rfl
        · exact Or.inr ⟨by decide, IOO, X.2.2.2.2.1 _ wq457, hnc.1⟩) (by decide) (by decide) wq458 wn543 (fun q H locs hw => ?_)
  refine lv_astore (lv' := [(6, .ref q), (0, .ref (ad 0)), (1, .int a0), (2, .int a1), (3, .int a2), (4, .int a3), (5, .ref (ad 3032))]) hx hb dL_addEngine_21 hl (by decide) rfl (fun ls hl => ?_)
  refine lv_iconst (v := 2) hx hb dL_addEngine_23 (by decide) ?_
  exact vx_ret (f_iret X hw ⟨⟨A, sf, hC, hLe⟩, fun l a b => ⟨rfl, rfl⟩, ⟨rfl, rfl⟩, hO, rfl⟩ (by omega) (by omega) dL_addEngine_24)
set_option maxHeartbeats 4000000 in
set_option maxRecDepth 100000 in
theorem wr_addEngine_x3 (l : Launch) (g : fG) (ad : Nat → Nat) (M : fM) {T A : fTn} {kf nf sf : Nat → Int32} (hC : isC g ad M T A kf nf sf) (hLe : leT A T) {f : Nat → Int64} (hO : M 3032 = some (oCell g f)) {a0 a1 a2 a3 : Int32} {fr lo : Nat} (hX : fXt l g yX5_addEngine cX5_addEngine 7 (some .int) fr lo ad M [.ref (ad 0), .int a0, .int a1, .int a2, .int a3] ISE ad M) (b1 : fr ≤ 9) (b2 : lo ≤ 225) : vx_Met l yL_addEngine (fWsH yL_addEngine cL_addEngine 7 (some .int) [(0, 14, 17, 13), (0, 14, 21, 15), (0, 14, 25, 17)]) (fR 10 260 90 2200) (va_Pc [.ref (ad 0), .int a0, .int a1, .int a2, .int a3, .ref (ad 3032)] (fSL g ad M)) (fQi g (fWr g ad M T kf nf 3 f)) fNX 90 2200 (fA g) := by
  refine f_bodyH (own := RL) (by decide +kernel) rfl (Nat.le_of_ble_eq_true rfl) ?_
  intro p e s m args below meth c ls X hnc ht hw hl
  have hx := X.1
  have hb := X.2.1
  have hM0 : M 0 = some (.inr (6, [.ref (ad 1), .ref (ad 1000), .ref (ad 2000)])) := hC.1
  have hl : lv_has ls 7 [(0, .ref (ad 0)), (1, .int a0), (2, .int a1), (3, .int a2), (4, .int a3), (5, .ref (ad 3032))] := hl
  refine lv_aload hx hb dL_addEngine_0 (lv_at hl 5 rfl) ?_
  refine lv_iconst (v := 0) hx hb dL_addEngine_2 (by decide) ?_
  refine lv_aload_n hx hb dL_addEngine_3 rfl (lv_at hl 0 rfl) ?_
  refine lv_iload_n hx hb dL_addEngine_4 rfl (lv_at hl 1 rfl) ?_
  refine lv_iload_n hx hb dL_addEngine_5 rfl (lv_at hl 2 rfl) ?_
  refine lv_iload_n hx hb dL_addEngine_6 rfl (lv_at hl 3 rfl) ?_
  refine lv_iload hx hb dL_addEngine_7 (lv_at hl 4 rfl) ?_
  refine fk_c X (fxV X hw hX hM0 rfl wq657 kVX5_addEngine ⟨by dsimp only [fR]; omega, by dsimp only [fR]; omega⟩ rfl hl.1 rfl (Nat.le_of_ble_eq_true rfl) dL_addEngine_9 ⟨by dsimp only [fR]; omega, by dsimp only [fR]; omega⟩) hw [⟨0, 14, 17, 13⟩, ⟨0, 14, 21, 15⟩] ⟨0, 14, 25, 17⟩ [] (by rw [ht]; rfl) (fun z hz => by
        simp only [List.mem_cons, List.not_mem_nil, or_false] at hz
        rcases hz with rfl | rfl
        · exact Or.inr ⟨by decide, IOO, X.2.2.2.2.1 _ wq457, hnc.2.1⟩
        · exact Or.inr ⟨by decide, IAE, X.2.2.2.2.1 _ wq458, hnc.2.2.1⟩) (by decide) (by decide) wq459 wn585 (fun q H locs hw => ?_)
  refine lv_astore (lv' := [(6, .ref q), (0, .ref (ad 0)), (1, .int a0), (2, .int a1), (3, .int a2), (4, .int a3), (5, .ref (ad 3032))]) hx hb dL_addEngine_25 hl (by decide) rfl (fun ls hl => ?_)
  refine lv_iconst (v := 3) hx hb dL_addEngine_27 (by decide) ?_
  exact vx_ret (f_iret X hw ⟨⟨A, sf, hC, hLe⟩, fun l a b => ⟨rfl, rfl⟩, ⟨rfl, rfl⟩, hO, rfl⟩ (by omega) (by omega) dL_addEngine_28)
set_option maxHeartbeats 4000000 in
set_option maxRecDepth 100000 in
theorem wr_stoke_ok (l : Launch) (g : fG) (ad : Nat → Nat) (M : fM) {T A : fTn} {kf nf sf : Nat → Int32} (hC : isC g ad M T A kf nf sf) {f : Nat → Int64} (hO : M 3032 = some (oCell g f)) {a0 a1 : Int32} {fr lo mcX msX : Nat} {T2 : fTn} {kf2 nf2 : Nat → Int32} {v : Int32} (hX : fCi l g yX5_stoke cX5_stoke 4 (some .int) fr lo mcX msX ad M [.ref (ad 0), .int a0, .int a1] (fCu g ad M T2 kf2 nf2 v)) (b1 : fr ≤ 9) (b2 : lo ≤ 225) (b3 : mcX ≤ 89) (b4 : msX ≤ 2190) : vx_Met l yL_stoke (fWsH yL_stoke cL_stoke 5 (some .int) [(0, 10, 13, 13), (0, 10, 17, 15), (0, 10, 21, 17)]) (fR 10 260 90 2200) (va_Pc [.ref (ad 0), .int a0, .int a1, .ref (ad 3032)] (fSL g ad M)) (fQi g (fWr g ad M T2 kf2 nf2 0 (vp_updL f 0 v.toInt64))) fNX 90 2200 (fA g) := by
  refine f_bodyH (own := RL) (by decide +kernel) rfl (Nat.le_of_ble_eq_true rfl) ?_
  intro p e s m args below meth c ls X hnc ht hw hl
  have hx := X.1
  have hb := X.2.1
  have hM0 : M 0 = some (.inr (6, [.ref (ad 1), .ref (ad 1000), .ref (ad 2000)])) := hC.1
  have hl : lv_has ls 5 [(0, .ref (ad 0)), (1, .int a0), (2, .int a1), (3, .ref (ad 3032))] := hl
  refine lv_aload_n hx hb dL_stoke_0 rfl (lv_at hl 3 rfl) ?_
  refine lv_iconst (v := 0) hx hb dL_stoke_1 (by decide) ?_
  refine lv_aload_n hx hb dL_stoke_2 rfl (lv_at hl 0 rfl) ?_
  refine lv_iload_n hx hb dL_stoke_3 rfl (lv_at hl 1 rfl) ?_
  refine lv_iload_n hx hb dL_stoke_4 rfl (lv_at hl 2 rfl) ?_
  refine fk_i (fcV X hw hX hM0 rfl wq665 kVX5_stoke ⟨by dsimp only [fR]; omega, by dsimp only [fR]; omega⟩ rfl hl.1 rfl (Nat.le_of_ble_eq_true rfl) dL_stoke_5 ⟨by dsimp only [fR]; omega, by dsimp only [fR]; omega⟩) hw (fun r ad1 M1 H locs hp hw => ?_)
  obtain ⟨⟨A2, sf2, hC2, hL2⟩, hr, h0, er⟩ := hp
  rw [er]
  have hO1 : M1 3032 = some (oCell g f) := (hr 3032 (by omega) (by omega)).2.trans hO
  refine lv_i2l hx hb dL_stoke_8 rfl ?_
  refine f_adr3 (ad := ad1) (lb := 3032) (hr 3032 (by omega) (by omega)).1 ?_
  refine f_last X hw hO1 (by unfold vp_in; decide) dL_stoke_9 (fun H locs hw => ?_)
  rw [show (0 : Int32).toNatClampNeg = 0 from rfl] at hw
  have hw : fw g ad1 (fU M1 3032 (.inl (gJ g, 1, .inr (.inl (vp_updL f 0 v.toInt64))))) s H locs := hw
  have hO1 : (fU M1 3032 (.inl (gJ g, 1, .inr (.inl (vp_updL f 0 v.toInt64))))) 3032 = some (.inl (gJ g, 1, .inr (.inl (vp_updL f 0 v.toInt64)))) := fU_s
  refine lv_goto (tgt := 25) hx hb dL_stoke_10 (by decide) ?_
  refine lv_iconst (v := 0) hx hb dL_stoke_25 (by decide) ?_
  exact vx_ret (f_iret X hw ⟨⟨A2, sf2, isC_eq hC2 (fun l hl => ⟨rfl, fU_n (by omega)⟩), hL2⟩, fun l a b => ⟨(hr l (by omega) (by omega)).1, (fU_n (by omega)).trans (hr l (by omega) (by omega)).2⟩, ⟨h0, (hr 3032 (by omega) (by omega)).1⟩, fU_s, rfl⟩ (by omega) (by omega) dL_stoke_26)
set_option maxHeartbeats 4000000 in
set_option maxRecDepth 100000 in
theorem wr_stoke_x1 (l : Launch) (g : fG) (ad : Nat → Nat) (M : fM) {T A : fTn} {kf nf sf : Nat → Int32} (hC : isC g ad M T A kf nf sf) (hLe : leT A T) {f : Nat → Int64} (hO : M 3032 = some (oCell g f)) {a0 a1 : Int32} {fr lo : Nat} (hX : fXt l g yX5_stoke cX5_stoke 4 (some .int) fr lo ad M [.ref (ad 0), .int a0, .int a1] IOO ad M) (b1 : fr ≤ 9) (b2 : lo ≤ 225) : vx_Met l yL_stoke (fWsH yL_stoke cL_stoke 5 (some .int) [(0, 10, 13, 13), (0, 10, 17, 15), (0, 10, 21, 17)]) (fR 10 260 90 2200) (va_Pc [.ref (ad 0), .int a0, .int a1, .ref (ad 3032)] (fSL g ad M)) (fQi g (fWr g ad M T kf nf 1 f)) fNX 90 2200 (fA g) := by
  refine f_bodyH (own := RL) (by decide +kernel) rfl (Nat.le_of_ble_eq_true rfl) ?_
  intro p e s m args below meth c ls X hnc ht hw hl
  have hx := X.1
  have hb := X.2.1
  have hM0 : M 0 = some (.inr (6, [.ref (ad 1), .ref (ad 1000), .ref (ad 2000)])) := hC.1
  have hl : lv_has ls 5 [(0, .ref (ad 0)), (1, .int a0), (2, .int a1), (3, .ref (ad 3032))] := hl
  refine lv_aload_n hx hb dL_stoke_0 rfl (lv_at hl 3 rfl) ?_
  refine lv_iconst (v := 0) hx hb dL_stoke_1 (by decide) ?_
  refine lv_aload_n hx hb dL_stoke_2 rfl (lv_at hl 0 rfl) ?_
  refine lv_iload_n hx hb dL_stoke_3 rfl (lv_at hl 1 rfl) ?_
  refine lv_iload_n hx hb dL_stoke_4 rfl (lv_at hl 2 rfl) ?_
  refine fk_c X (fxV X hw hX hM0 rfl wq665 kVX5_stoke ⟨by dsimp only [fR]; omega, by dsimp only [fR]; omega⟩ rfl hl.1 rfl (Nat.le_of_ble_eq_true rfl) dL_stoke_5 ⟨by dsimp only [fR]; omega, by dsimp only [fR]; omega⟩) hw [] ⟨0, 10, 13, 13⟩ [⟨0, 10, 17, 15⟩, ⟨0, 10, 21, 17⟩] (by rw [ht]; rfl) (fun z hz => absurd hz List.not_mem_nil) (by decide) (by decide) wq457 wn472 (fun q H locs hw => ?_)
  refine lv_astore (lv' := [(4, .ref q), (0, .ref (ad 0)), (1, .int a0), (2, .int a1), (3, .ref (ad 3032))]) hx hb dL_stoke_13 hl (by decide) rfl (fun ls hl => ?_)
  refine lv_iconst (v := 1) hx hb dL_stoke_15 (by decide) ?_
  exact vx_ret (f_iret X hw ⟨⟨A, sf, hC, hLe⟩, fun l a b => ⟨rfl, rfl⟩, ⟨rfl, rfl⟩, hO, rfl⟩ (by omega) (by omega) dL_stoke_16)
set_option maxHeartbeats 4000000 in
set_option maxRecDepth 100000 in
theorem wr_stoke_x2 (l : Launch) (g : fG) (ad : Nat → Nat) (M : fM) {T A : fTn} {kf nf sf : Nat → Int32} (hC : isC g ad M T A kf nf sf) (hLe : leT A T) {f : Nat → Int64} (hO : M 3032 = some (oCell g f)) {a0 a1 : Int32} {fr lo : Nat} (hX : fXt l g yX5_stoke cX5_stoke 4 (some .int) fr lo ad M [.ref (ad 0), .int a0, .int a1] IAE ad M) (b1 : fr ≤ 9) (b2 : lo ≤ 225) : vx_Met l yL_stoke (fWsH yL_stoke cL_stoke 5 (some .int) [(0, 10, 13, 13), (0, 10, 17, 15), (0, 10, 21, 17)]) (fR 10 260 90 2200) (va_Pc [.ref (ad 0), .int a0, .int a1, .ref (ad 3032)] (fSL g ad M)) (fQi g (fWr g ad M T kf nf 2 f)) fNX 90 2200 (fA g) := by
  refine f_bodyH (own := RL) (by decide +kernel) rfl (Nat.le_of_ble_eq_true rfl) ?_
  intro p e s m args below meth c ls X hnc ht hw hl
  have hx := X.1
  have hb := X.2.1
  have hM0 : M 0 = some (.inr (6, [.ref (ad 1), .ref (ad 1000), .ref (ad 2000)])) := hC.1
  have hl : lv_has ls 5 [(0, .ref (ad 0)), (1, .int a0), (2, .int a1), (3, .ref (ad 3032))] := hl
  refine lv_aload_n hx hb dL_stoke_0 rfl (lv_at hl 3 rfl) ?_
  refine lv_iconst (v := 0) hx hb dL_stoke_1 (by decide) ?_
  refine lv_aload_n hx hb dL_stoke_2 rfl (lv_at hl 0 rfl) ?_
  refine lv_iload_n hx hb dL_stoke_3 rfl (lv_at hl 1 rfl) ?_
  refine lv_iload_n hx hb dL_stoke_4 rfl (lv_at hl 2 rfl) ?_
  refine fk_c X (fxV X hw hX hM0 rfl wq665 kVX5_stoke ⟨by dsimp only [fR]; omega, by dsimp only [fR]; omega⟩ rfl hl.1 rfl (Nat.le_of_ble_eq_true rfl) dL_stoke_5 ⟨by dsimp only [fR]; omega, by dsimp only [fR]; omega⟩) hw [⟨0, 10, 13, 13⟩] ⟨0, 10, 17, 15⟩ [⟨0, 10, 21, 17⟩] (by rw [ht]; rfl) (fun z hz => by
        simp only [List.mem_cons, List.not_mem_nil, or_false] at hz
        rcases hz with rfl
        · exact Or.inr ⟨by decide, IOO, X.2.2.2.2.1 _ wq457, hnc.1⟩) (by decide) (by decide) wq458 wn543 (fun q H locs hw => ?_)
  refine lv_astore (lv' := [(4, .ref q), (0, .ref (ad 0)), (1, .int a0), (2, .int a1), (3, .ref (ad 3032))]) hx hb dL_stoke_17 hl (by decide) rfl (fun ls hl => ?_)
  refine lv_iconst (v := 2) hx hb dL_stoke_19 (by decide) ?_
  exact vx_ret (f_iret X hw ⟨⟨A, sf, hC, hLe⟩, fun l a b => ⟨rfl, rfl⟩, ⟨rfl, rfl⟩, hO, rfl⟩ (by omega) (by omega) dL_stoke_20)
set_option maxHeartbeats 4000000 in
set_option maxRecDepth 100000 in
theorem wr_stoke_x3 (l : Launch) (g : fG) (ad : Nat → Nat) (M : fM) {T A : fTn} {kf nf sf : Nat → Int32} (hC : isC g ad M T A kf nf sf) (hLe : leT A T) {f : Nat → Int64} (hO : M 3032 = some (oCell g f)) {a0 a1 : Int32} {fr lo : Nat} (hX : fXt l g yX5_stoke cX5_stoke 4 (some .int) fr lo ad M [.ref (ad 0), .int a0, .int a1] ISE ad M) (b1 : fr ≤ 9) (b2 : lo ≤ 225) : vx_Met l yL_stoke (fWsH yL_stoke cL_stoke 5 (some .int) [(0, 10, 13, 13), (0, 10, 17, 15), (0, 10, 21, 17)]) (fR 10 260 90 2200) (va_Pc [.ref (ad 0), .int a0, .int a1, .ref (ad 3032)] (fSL g ad M)) (fQi g (fWr g ad M T kf nf 3 f)) fNX 90 2200 (fA g) := by
  refine f_bodyH (own := RL) (by decide +kernel) rfl (Nat.le_of_ble_eq_true rfl) ?_
  intro p e s m args below meth c ls X hnc ht hw hl
  have hx := X.1
  have hb := X.2.1
  have hM0 : M 0 = some (.inr (6, [.ref (ad 1), .ref (ad 1000), .ref (ad 2000)])) := hC.1
  have hl : lv_has ls 5 [(0, .ref (ad 0)), (1, .int a0), (2, .int a1), (3, .ref (ad 3032))] := hl
  refine lv_aload_n hx hb dL_stoke_0 rfl (lv_at hl 3 rfl) ?_
  refine lv_iconst (v := 0) hx hb dL_stoke_1 (by decide) ?_
  refine lv_aload_n hx hb dL_stoke_2 rfl (lv_at hl 0 rfl) ?_
  refine lv_iload_n hx hb dL_stoke_3 rfl (lv_at hl 1 rfl) ?_
  refine lv_iload_n hx hb dL_stoke_4 rfl (lv_at hl 2 rfl) ?_
  refine fk_c X (fxV X hw hX hM0 rfl wq665 kVX5_stoke ⟨by dsimp only [fR]; omega, by dsimp only [fR]; omega⟩ rfl hl.1 rfl (Nat.le_of_ble_eq_true rfl) dL_stoke_5 ⟨by dsimp only [fR]; omega, by dsimp only [fR]; omega⟩) hw [⟨0, 10, 13, 13⟩, ⟨0, 10, 17, 15⟩] ⟨0, 10, 21, 17⟩ [] (by rw [ht]; rfl) (fun z hz => by
        simp only [List.mem_cons, List.not_mem_nil, or_false] at hz
        rcases hz with rfl | rfl
        · exact Or.inr ⟨by decide, IOO, X.2.2.2.2.1 _ wq457, hnc.2.1⟩
        · exact Or.inr ⟨by decide, IAE, X.2.2.2.2.1 _ wq458, hnc.2.2.1⟩) (by decide) (by decide) wq459 wn585 (fun q H locs hw => ?_)
  refine lv_astore (lv' := [(4, .ref q), (0, .ref (ad 0)), (1, .int a0), (2, .int a1), (3, .ref (ad 3032))]) hx hb dL_stoke_21 hl (by decide) rfl (fun ls hl => ?_)
  refine lv_iconst (v := 3) hx hb dL_stoke_23 (by decide) ?_
  exact vx_ret (f_iret X hw ⟨⟨A, sf, hC, hLe⟩, fun l a b => ⟨rfl, rfl⟩, ⟨rfl, rfl⟩, hO, rfl⟩ (by omega) (by omega) dL_stoke_24)
set_option maxHeartbeats 4000000 in
set_option maxRecDepth 100000 in
theorem wr_drive_ok (l : Launch) (g : fG) (ad : Nat → Nat) (M : fM) {T A : fTn} {kf nf sf : Nat → Int32} (hC : isC g ad M T A kf nf sf) {f : Nat → Int64} (hO : M 3032 = some (oCell g f)) {a0 a1 a2 : Int32} {fr lo mcX msX : Nat} {T2 : fTn} {kf2 nf2 : Nat → Int32} {v : Int32} (hX : fCi l g yX5_drive cX5_drive 7 (some .int) fr lo mcX msX ad M [.ref (ad 0), .int a0, .int a1, .int a2] (fCu g ad M T2 kf2 nf2 v)) (b1 : fr ≤ 9) (b2 : lo ≤ 225) (b3 : mcX ≤ 89) (b4 : msX ≤ 2190) : vx_Met l yL_drive (fWsH yL_drive cL_drive 6 (some .int) [(0, 12, 15, 13), (0, 12, 19, 17)]) (fR 10 260 90 2200) (va_Pc [.ref (ad 0), .int a0, .int a1, .int a2, .ref (ad 3032)] (fSL g ad M)) (fQi g (fWr g ad M T2 kf2 nf2 0 (vp_updL f 0 v.toInt64))) fNX 90 2200 (fA g) := by
  refine f_bodyH (own := RL) (by decide +kernel) rfl (Nat.le_of_ble_eq_true rfl) ?_
  intro p e s m args below meth c ls X hnc ht hw hl
  have hx := X.1
  have hb := X.2.1
  have hM0 : M 0 = some (.inr (6, [.ref (ad 1), .ref (ad 1000), .ref (ad 2000)])) := hC.1
  have hl : lv_has ls 6 [(0, .ref (ad 0)), (1, .int a0), (2, .int a1), (3, .int a2), (4, .ref (ad 3032))] := hl
  refine lv_aload hx hb dL_drive_0 (lv_at hl 4 rfl) ?_
  refine lv_iconst (v := 0) hx hb dL_drive_2 (by decide) ?_
  refine lv_aload_n hx hb dL_drive_3 rfl (lv_at hl 0 rfl) ?_
  refine lv_iload_n hx hb dL_drive_4 rfl (lv_at hl 1 rfl) ?_
  refine lv_iload_n hx hb dL_drive_5 rfl (lv_at hl 2 rfl) ?_
  refine lv_iload_n hx hb dL_drive_6 rfl (lv_at hl 3 rfl) ?_
  refine fk_i (fcV X hw hX hM0 rfl wq677 kVX5_drive ⟨by dsimp only [fR]; omega, by dsimp only [fR]; omega⟩ rfl hl.1 rfl (Nat.le_of_ble_eq_true rfl) dL_drive_7 ⟨by dsimp only [fR]; omega, by dsimp only [fR]; omega⟩) hw (fun r ad1 M1 H locs hp hw => ?_)
  obtain ⟨⟨A2, sf2, hC2, hL2⟩, hr, h0, er⟩ := hp
  rw [er]
  have hO1 : M1 3032 = some (oCell g f) := (hr 3032 (by omega) (by omega)).2.trans hO
  refine lv_i2l hx hb dL_drive_10 rfl ?_
  refine f_adr3 (ad := ad1) (lb := 3032) (hr 3032 (by omega) (by omega)).1 ?_
  refine f_last X hw hO1 (by unfold vp_in; decide) dL_drive_11 (fun H locs hw => ?_)
  rw [show (0 : Int32).toNatClampNeg = 0 from rfl] at hw
  have hw : fw g ad1 (fU M1 3032 (.inl (gJ g, 1, .inr (.inl (vp_updL f 0 v.toInt64))))) s H locs := hw
  have hO1 : (fU M1 3032 (.inl (gJ g, 1, .inr (.inl (vp_updL f 0 v.toInt64))))) 3032 = some (.inl (gJ g, 1, .inr (.inl (vp_updL f 0 v.toInt64)))) := fU_s
  refine lv_goto (tgt := 23) hx hb dL_drive_12 (by decide) ?_
  refine lv_iconst (v := 0) hx hb dL_drive_23 (by decide) ?_
  exact vx_ret (f_iret X hw ⟨⟨A2, sf2, isC_eq hC2 (fun l hl => ⟨rfl, fU_n (by omega)⟩), hL2⟩, fun l a b => ⟨(hr l (by omega) (by omega)).1, (fU_n (by omega)).trans (hr l (by omega) (by omega)).2⟩, ⟨h0, (hr 3032 (by omega) (by omega)).1⟩, fU_s, rfl⟩ (by omega) (by omega) dL_drive_24)
set_option maxHeartbeats 4000000 in
set_option maxRecDepth 100000 in
theorem wr_drive_x1 (l : Launch) (g : fG) (ad : Nat → Nat) (M : fM) {T A : fTn} {kf nf sf : Nat → Int32} (hC : isC g ad M T A kf nf sf) (hLe : leT A T) {f : Nat → Int64} (hO : M 3032 = some (oCell g f)) {a0 a1 a2 : Int32} {fr lo : Nat} (hX : fXt l g yX5_drive cX5_drive 7 (some .int) fr lo ad M [.ref (ad 0), .int a0, .int a1, .int a2] IOO ad M) (b1 : fr ≤ 9) (b2 : lo ≤ 225) : vx_Met l yL_drive (fWsH yL_drive cL_drive 6 (some .int) [(0, 12, 15, 13), (0, 12, 19, 17)]) (fR 10 260 90 2200) (va_Pc [.ref (ad 0), .int a0, .int a1, .int a2, .ref (ad 3032)] (fSL g ad M)) (fQi g (fWr g ad M T kf nf 1 f)) fNX 90 2200 (fA g) := by
  refine f_bodyH (own := RL) (by decide +kernel) rfl (Nat.le_of_ble_eq_true rfl) ?_
  intro p e s m args below meth c ls X hnc ht hw hl
  have hx := X.1
  have hb := X.2.1
  have hM0 : M 0 = some (.inr (6, [.ref (ad 1), .ref (ad 1000), .ref (ad 2000)])) := hC.1
  have hl : lv_has ls 6 [(0, .ref (ad 0)), (1, .int a0), (2, .int a1), (3, .int a2), (4, .ref (ad 3032))] := hl
  refine lv_aload hx hb dL_drive_0 (lv_at hl 4 rfl) ?_
  refine lv_iconst (v := 0) hx hb dL_drive_2 (by decide) ?_
  refine lv_aload_n hx hb dL_drive_3 rfl (lv_at hl 0 rfl) ?_
  refine lv_iload_n hx hb dL_drive_4 rfl (lv_at hl 1 rfl) ?_
  refine lv_iload_n hx hb dL_drive_5 rfl (lv_at hl 2 rfl) ?_
  refine lv_iload_n hx hb dL_drive_6 rfl (lv_at hl 3 rfl) ?_
  refine fk_c X (fxV X hw hX hM0 rfl wq677 kVX5_drive ⟨by dsimp only [fR]; omega, by dsimp only [fR]; omega⟩ rfl hl.1 rfl (Nat.le_of_ble_eq_true rfl) dL_drive_7 ⟨by dsimp only [fR]; omega, by dsimp only [fR]; omega⟩) hw [] ⟨0, 12, 15, 13⟩ [⟨0, 12, 19, 17⟩] (by rw [ht]; rfl) (fun z hz => absurd hz List.not_mem_nil) (by decide) (by decide) wq457 wn472 (fun q H locs hw => ?_)
  refine lv_astore (lv' := [(5, .ref q), (0, .ref (ad 0)), (1, .int a0), (2, .int a1), (3, .int a2), (4, .ref (ad 3032))]) hx hb dL_drive_15 hl (by decide) rfl (fun ls hl => ?_)
  refine lv_iconst (v := 1) hx hb dL_drive_17 (by decide) ?_
  exact vx_ret (f_iret X hw ⟨⟨A, sf, hC, hLe⟩, fun l a b => ⟨rfl, rfl⟩, ⟨rfl, rfl⟩, hO, rfl⟩ (by omega) (by omega) dL_drive_18)
set_option maxHeartbeats 4000000 in
set_option maxRecDepth 100000 in
theorem wr_drive_x2 (l : Launch) (g : fG) (ad : Nat → Nat) (M : fM) {T A : fTn} {kf nf sf : Nat → Int32} (hC : isC g ad M T A kf nf sf) (hLe : leT A T) {f : Nat → Int64} (hO : M 3032 = some (oCell g f)) {a0 a1 a2 : Int32} {fr lo : Nat} (hX : fXt l g yX5_drive cX5_drive 7 (some .int) fr lo ad M [.ref (ad 0), .int a0, .int a1, .int a2] ISE ad M) (b1 : fr ≤ 9) (b2 : lo ≤ 225) : vx_Met l yL_drive (fWsH yL_drive cL_drive 6 (some .int) [(0, 12, 15, 13), (0, 12, 19, 17)]) (fR 10 260 90 2200) (va_Pc [.ref (ad 0), .int a0, .int a1, .int a2, .ref (ad 3032)] (fSL g ad M)) (fQi g (fWr g ad M T kf nf 2 f)) fNX 90 2200 (fA g) := by
  refine f_bodyH (own := RL) (by decide +kernel) rfl (Nat.le_of_ble_eq_true rfl) ?_
  intro p e s m args below meth c ls X hnc ht hw hl
  have hx := X.1
  have hb := X.2.1
  have hM0 : M 0 = some (.inr (6, [.ref (ad 1), .ref (ad 1000), .ref (ad 2000)])) := hC.1
  have hl : lv_has ls 6 [(0, .ref (ad 0)), (1, .int a0), (2, .int a1), (3, .int a2), (4, .ref (ad 3032))] := hl
  refine lv_aload hx hb dL_drive_0 (lv_at hl 4 rfl) ?_
  refine lv_iconst (v := 0) hx hb dL_drive_2 (by decide) ?_
  refine lv_aload_n hx hb dL_drive_3 rfl (lv_at hl 0 rfl) ?_
  refine lv_iload_n hx hb dL_drive_4 rfl (lv_at hl 1 rfl) ?_
  refine lv_iload_n hx hb dL_drive_5 rfl (lv_at hl 2 rfl) ?_
  refine lv_iload_n hx hb dL_drive_6 rfl (lv_at hl 3 rfl) ?_
  refine fk_c X (fxV X hw hX hM0 rfl wq677 kVX5_drive ⟨by dsimp only [fR]; omega, by dsimp only [fR]; omega⟩ rfl hl.1 rfl (Nat.le_of_ble_eq_true rfl) dL_drive_7 ⟨by dsimp only [fR]; omega, by dsimp only [fR]; omega⟩) hw [⟨0, 12, 15, 13⟩] ⟨0, 12, 19, 17⟩ [] (by rw [ht]; rfl) (fun z hz => by
        simp only [List.mem_cons, List.not_mem_nil, or_false] at hz
        rcases hz with rfl
        · exact Or.inr ⟨by decide, IOO, X.2.2.2.2.1 _ wq457, hnc.2.1⟩) (by decide) (by decide) wq459 wn585 (fun q H locs hw => ?_)
  refine lv_astore (lv' := [(5, .ref q), (0, .ref (ad 0)), (1, .int a0), (2, .int a1), (3, .int a2), (4, .ref (ad 3032))]) hx hb dL_drive_19 hl (by decide) rfl (fun ls hl => ?_)
  refine lv_iconst (v := 2) hx hb dL_drive_21 (by decide) ?_
  exact vx_ret (f_iret X hw ⟨⟨A, sf, hC, hLe⟩, fun l a b => ⟨rfl, rfl⟩, ⟨rfl, rfl⟩, hO, rfl⟩ (by omega) (by omega) dL_drive_22)
set_option maxHeartbeats 4000000 in
set_option maxRecDepth 100000 in
theorem wr_relay_ok (l : Launch) (g : fG) (ad : Nat → Nat) (M : fM) {T A : fTn} {kf nf sf : Nat → Int32} (hC : isC g ad M T A kf nf sf) {f : Nat → Int64} (hO : M 3032 = some (oCell g f)) {a0 a1 : Int32} {fr lo mcX msX : Nat} {T2 : fTn} {kf2 nf2 : Nat → Int32} {v : Int32} (hX : fCi l g yX5_relay cX5_relay 6 (some .int) fr lo mcX msX ad M [.ref (ad 0), .int a0, .int a1] (fCu g ad M T2 kf2 nf2 v)) (b1 : fr ≤ 9) (b2 : lo ≤ 225) (b3 : mcX ≤ 89) (b4 : msX ≤ 2190) : vx_Met l yL_relay (fWsH yL_relay cL_relay 5 (some .int) [(0, 10, 13, 13), (0, 10, 17, 17)]) (fR 10 260 90 2200) (va_Pc [.ref (ad 0), .int a0, .int a1, .ref (ad 3032)] (fSL g ad M)) (fQi g (fWr g ad M T2 kf2 nf2 0 (vp_updL f 0 v.toInt64))) fNX 90 2200 (fA g) := by
  refine f_bodyH (own := RL) (by decide +kernel) rfl (Nat.le_of_ble_eq_true rfl) ?_
  intro p e s m args below meth c ls X hnc ht hw hl
  have hx := X.1
  have hb := X.2.1
  have hM0 : M 0 = some (.inr (6, [.ref (ad 1), .ref (ad 1000), .ref (ad 2000)])) := hC.1
  have hl : lv_has ls 5 [(0, .ref (ad 0)), (1, .int a0), (2, .int a1), (3, .ref (ad 3032))] := hl
  refine lv_aload_n hx hb dL_relay_0 rfl (lv_at hl 3 rfl) ?_
  refine lv_iconst (v := 0) hx hb dL_relay_1 (by decide) ?_
  refine lv_aload_n hx hb dL_relay_2 rfl (lv_at hl 0 rfl) ?_
  refine lv_iload_n hx hb dL_relay_3 rfl (lv_at hl 1 rfl) ?_
  refine lv_iload_n hx hb dL_relay_4 rfl (lv_at hl 2 rfl) ?_
  refine fk_i (fcV X hw hX hM0 rfl wq710 kVX5_relay ⟨by dsimp only [fR]; omega, by dsimp only [fR]; omega⟩ rfl hl.1 rfl (Nat.le_of_ble_eq_true rfl) dL_relay_5 ⟨by dsimp only [fR]; omega, by dsimp only [fR]; omega⟩) hw (fun r ad1 M1 H locs hp hw => ?_)
  obtain ⟨⟨A2, sf2, hC2, hL2⟩, hr, h0, er⟩ := hp
  rw [er]
  have hO1 : M1 3032 = some (oCell g f) := (hr 3032 (by omega) (by omega)).2.trans hO
  refine lv_i2l hx hb dL_relay_8 rfl ?_
  refine f_adr3 (ad := ad1) (lb := 3032) (hr 3032 (by omega) (by omega)).1 ?_
  refine f_last X hw hO1 (by unfold vp_in; decide) dL_relay_9 (fun H locs hw => ?_)
  rw [show (0 : Int32).toNatClampNeg = 0 from rfl] at hw
  have hw : fw g ad1 (fU M1 3032 (.inl (gJ g, 1, .inr (.inl (vp_updL f 0 v.toInt64))))) s H locs := hw
  have hO1 : (fU M1 3032 (.inl (gJ g, 1, .inr (.inl (vp_updL f 0 v.toInt64))))) 3032 = some (.inl (gJ g, 1, .inr (.inl (vp_updL f 0 v.toInt64)))) := fU_s
  refine lv_goto (tgt := 21) hx hb dL_relay_10 (by decide) ?_
  refine lv_iconst (v := 0) hx hb dL_relay_21 (by decide) ?_
  exact vx_ret (f_iret X hw ⟨⟨A2, sf2, isC_eq hC2 (fun l hl => ⟨rfl, fU_n (by omega)⟩), hL2⟩, fun l a b => ⟨(hr l (by omega) (by omega)).1, (fU_n (by omega)).trans (hr l (by omega) (by omega)).2⟩, ⟨h0, (hr 3032 (by omega) (by omega)).1⟩, fU_s, rfl⟩ (by omega) (by omega) dL_relay_22)
set_option maxHeartbeats 4000000 in
set_option maxRecDepth 100000 in
theorem wr_relay_x1 (l : Launch) (g : fG) (ad : Nat → Nat) (M : fM) {T A : fTn} {kf nf sf : Nat → Int32} (hC : isC g ad M T A kf nf sf) (hLe : leT A T) {f : Nat → Int64} (hO : M 3032 = some (oCell g f)) {a0 a1 : Int32} {fr lo : Nat} (hX : fXt l g yX5_relay cX5_relay 6 (some .int) fr lo ad M [.ref (ad 0), .int a0, .int a1] IOO ad M) (b1 : fr ≤ 9) (b2 : lo ≤ 225) : vx_Met l yL_relay (fWsH yL_relay cL_relay 5 (some .int) [(0, 10, 13, 13), (0, 10, 17, 17)]) (fR 10 260 90 2200) (va_Pc [.ref (ad 0), .int a0, .int a1, .ref (ad 3032)] (fSL g ad M)) (fQi g (fWr g ad M T kf nf 1 f)) fNX 90 2200 (fA g) := by
  refine f_bodyH (own := RL) (by decide +kernel) rfl (Nat.le_of_ble_eq_true rfl) ?_
  intro p e s m args below meth c ls X hnc ht hw hl
  have hx := X.1
  have hb := X.2.1
  have hM0 : M 0 = some (.inr (6, [.ref (ad 1), .ref (ad 1000), .ref (ad 2000)])) := hC.1
  have hl : lv_has ls 5 [(0, .ref (ad 0)), (1, .int a0), (2, .int a1), (3, .ref (ad 3032))] := hl
  refine lv_aload_n hx hb dL_relay_0 rfl (lv_at hl 3 rfl) ?_
  refine lv_iconst (v := 0) hx hb dL_relay_1 (by decide) ?_
  refine lv_aload_n hx hb dL_relay_2 rfl (lv_at hl 0 rfl) ?_
  refine lv_iload_n hx hb dL_relay_3 rfl (lv_at hl 1 rfl) ?_
  refine lv_iload_n hx hb dL_relay_4 rfl (lv_at hl 2 rfl) ?_
  refine fk_c X (fxV X hw hX hM0 rfl wq710 kVX5_relay ⟨by dsimp only [fR]; omega, by dsimp only [fR]; omega⟩ rfl hl.1 rfl (Nat.le_of_ble_eq_true rfl) dL_relay_5 ⟨by dsimp only [fR]; omega, by dsimp only [fR]; omega⟩) hw [] ⟨0, 10, 13, 13⟩ [⟨0, 10, 17, 17⟩] (by rw [ht]; rfl) (fun z hz => absurd hz List.not_mem_nil) (by decide) (by decide) wq457 wn472 (fun q H locs hw => ?_)
  refine lv_astore (lv' := [(4, .ref q), (0, .ref (ad 0)), (1, .int a0), (2, .int a1), (3, .ref (ad 3032))]) hx hb dL_relay_13 hl (by decide) rfl (fun ls hl => ?_)
  refine lv_iconst (v := 1) hx hb dL_relay_15 (by decide) ?_
  exact vx_ret (f_iret X hw ⟨⟨A, sf, hC, hLe⟩, fun l a b => ⟨rfl, rfl⟩, ⟨rfl, rfl⟩, hO, rfl⟩ (by omega) (by omega) dL_relay_16)
set_option maxHeartbeats 4000000 in
set_option maxRecDepth 100000 in
theorem wr_relay_x2 (l : Launch) (g : fG) (ad : Nat → Nat) (M : fM) {T A : fTn} {kf nf sf : Nat → Int32} (hC : isC g ad M T A kf nf sf) (hLe : leT A T) {f : Nat → Int64} (hO : M 3032 = some (oCell g f)) {a0 a1 : Int32} {fr lo : Nat} (hX : fXt l g yX5_relay cX5_relay 6 (some .int) fr lo ad M [.ref (ad 0), .int a0, .int a1] ISE ad M) (b1 : fr ≤ 9) (b2 : lo ≤ 225) : vx_Met l yL_relay (fWsH yL_relay cL_relay 5 (some .int) [(0, 10, 13, 13), (0, 10, 17, 17)]) (fR 10 260 90 2200) (va_Pc [.ref (ad 0), .int a0, .int a1, .ref (ad 3032)] (fSL g ad M)) (fQi g (fWr g ad M T kf nf 2 f)) fNX 90 2200 (fA g) := by
  refine f_bodyH (own := RL) (by decide +kernel) rfl (Nat.le_of_ble_eq_true rfl) ?_
  intro p e s m args below meth c ls X hnc ht hw hl
  have hx := X.1
  have hb := X.2.1
  have hM0 : M 0 = some (.inr (6, [.ref (ad 1), .ref (ad 1000), .ref (ad 2000)])) := hC.1
  have hl : lv_has ls 5 [(0, .ref (ad 0)), (1, .int a0), (2, .int a1), (3, .ref (ad 3032))] := hl
  refine lv_aload_n hx hb dL_relay_0 rfl (lv_at hl 3 rfl) ?_
  refine lv_iconst (v := 0) hx hb dL_relay_1 (by decide) ?_
  refine lv_aload_n hx hb dL_relay_2 rfl (lv_at hl 0 rfl) ?_
  refine lv_iload_n hx hb dL_relay_3 rfl (lv_at hl 1 rfl) ?_
  refine lv_iload_n hx hb dL_relay_4 rfl (lv_at hl 2 rfl) ?_
  refine fk_c X (fxV X hw hX hM0 rfl wq710 kVX5_relay ⟨by dsimp only [fR]; omega, by dsimp only [fR]; omega⟩ rfl hl.1 rfl (Nat.le_of_ble_eq_true rfl) dL_relay_5 ⟨by dsimp only [fR]; omega, by dsimp only [fR]; omega⟩) hw [⟨0, 10, 13, 13⟩] ⟨0, 10, 17, 17⟩ [] (by rw [ht]; rfl) (fun z hz => by
        simp only [List.mem_cons, List.not_mem_nil, or_false] at hz
        rcases hz with rfl
        · exact Or.inr ⟨by decide, IOO, X.2.2.2.2.1 _ wq457, hnc.2.1⟩) (by decide) (by decide) wq459 wn585 (fun q H locs hw => ?_)
  refine lv_astore (lv' := [(4, .ref q), (0, .ref (ad 0)), (1, .int a0), (2, .int a1), (3, .ref (ad 3032))]) hx hb dL_relay_17 hl (by decide) rfl (fun ls hl => ?_)
  refine lv_iconst (v := 2) hx hb dL_relay_19 (by decide) ?_
  exact vx_ret (f_iret X hw ⟨⟨A, sf, hC, hLe⟩, fun l a b => ⟨rfl, rfl⟩, ⟨rfl, rfl⟩, hO, rfl⟩ (by omega) (by omega) dL_relay_20)
set_option maxHeartbeats 4000000 in
set_option maxRecDepth 100000 in
theorem wr_aim_ok (l : Launch) (g : fG) (ad : Nat → Nat) (M : fM) {T A : fTn} {kf nf sf : Nat → Int32} (hC : isC g ad M T A kf nf sf) {f : Nat → Int64} (hO : M 3032 = some (oCell g f)) {a0 a1 : Int32} {fr lo mcX msX : Nat} {T2 : fTn} {kf2 nf2 : Nat → Int32} {v : Int32} (hX : fCi l g yX5_aim cX5_aim 5 (some .int) fr lo mcX msX ad M [.ref (ad 0), .int a0, .int a1] (fCu g ad M T2 kf2 nf2 v)) (b1 : fr ≤ 9) (b2 : lo ≤ 225) (b3 : mcX ≤ 89) (b4 : msX ≤ 2190) : vx_Met l yL_aim (fWsH yL_aim cL_aim 5 (some .int) [(0, 10, 13, 13), (0, 10, 17, 17)]) (fR 10 260 90 2200) (va_Pc [.ref (ad 0), .int a0, .int a1, .ref (ad 3032)] (fSL g ad M)) (fQi g (fWr g ad M T2 kf2 nf2 0 (vp_updL f 0 v.toInt64))) fNX 90 2200 (fA g) := by
  refine f_bodyH (own := RL) (by decide +kernel) rfl (Nat.le_of_ble_eq_true rfl) ?_
  intro p e s m args below meth c ls X hnc ht hw hl
  have hx := X.1
  have hb := X.2.1
  have hM0 : M 0 = some (.inr (6, [.ref (ad 1), .ref (ad 1000), .ref (ad 2000)])) := hC.1
  have hl : lv_has ls 5 [(0, .ref (ad 0)), (1, .int a0), (2, .int a1), (3, .ref (ad 3032))] := hl
  refine lv_aload_n hx hb dL_aim_0 rfl (lv_at hl 3 rfl) ?_
  refine lv_iconst (v := 0) hx hb dL_aim_1 (by decide) ?_
  refine lv_aload_n hx hb dL_aim_2 rfl (lv_at hl 0 rfl) ?_
  refine lv_iload_n hx hb dL_aim_3 rfl (lv_at hl 1 rfl) ?_
  refine lv_iload_n hx hb dL_aim_4 rfl (lv_at hl 2 rfl) ?_
  refine fk_i (fcV X hw hX hM0 rfl wq722 kVX5_aim ⟨by dsimp only [fR]; omega, by dsimp only [fR]; omega⟩ rfl hl.1 rfl (Nat.le_of_ble_eq_true rfl) dL_aim_5 ⟨by dsimp only [fR]; omega, by dsimp only [fR]; omega⟩) hw (fun r ad1 M1 H locs hp hw => ?_)
  obtain ⟨⟨A2, sf2, hC2, hL2⟩, hr, h0, er⟩ := hp
  rw [er]
  have hO1 : M1 3032 = some (oCell g f) := (hr 3032 (by omega) (by omega)).2.trans hO
  refine lv_i2l hx hb dL_aim_8 rfl ?_
  refine f_adr3 (ad := ad1) (lb := 3032) (hr 3032 (by omega) (by omega)).1 ?_
  refine f_last X hw hO1 (by unfold vp_in; decide) dL_aim_9 (fun H locs hw => ?_)
  rw [show (0 : Int32).toNatClampNeg = 0 from rfl] at hw
  have hw : fw g ad1 (fU M1 3032 (.inl (gJ g, 1, .inr (.inl (vp_updL f 0 v.toInt64))))) s H locs := hw
  have hO1 : (fU M1 3032 (.inl (gJ g, 1, .inr (.inl (vp_updL f 0 v.toInt64))))) 3032 = some (.inl (gJ g, 1, .inr (.inl (vp_updL f 0 v.toInt64)))) := fU_s
  refine lv_goto (tgt := 21) hx hb dL_aim_10 (by decide) ?_
  refine lv_iconst (v := 0) hx hb dL_aim_21 (by decide) ?_
  exact vx_ret (f_iret X hw ⟨⟨A2, sf2, isC_eq hC2 (fun l hl => ⟨rfl, fU_n (by omega)⟩), hL2⟩, fun l a b => ⟨(hr l (by omega) (by omega)).1, (fU_n (by omega)).trans (hr l (by omega) (by omega)).2⟩, ⟨h0, (hr 3032 (by omega) (by omega)).1⟩, fU_s, rfl⟩ (by omega) (by omega) dL_aim_22)
set_option maxHeartbeats 4000000 in
set_option maxRecDepth 100000 in
theorem wr_aim_x1 (l : Launch) (g : fG) (ad : Nat → Nat) (M : fM) {T A : fTn} {kf nf sf : Nat → Int32} (hC : isC g ad M T A kf nf sf) (hLe : leT A T) {f : Nat → Int64} (hO : M 3032 = some (oCell g f)) {a0 a1 : Int32} {fr lo : Nat} (hX : fXt l g yX5_aim cX5_aim 5 (some .int) fr lo ad M [.ref (ad 0), .int a0, .int a1] IOO ad M) (b1 : fr ≤ 9) (b2 : lo ≤ 225) : vx_Met l yL_aim (fWsH yL_aim cL_aim 5 (some .int) [(0, 10, 13, 13), (0, 10, 17, 17)]) (fR 10 260 90 2200) (va_Pc [.ref (ad 0), .int a0, .int a1, .ref (ad 3032)] (fSL g ad M)) (fQi g (fWr g ad M T kf nf 1 f)) fNX 90 2200 (fA g) := by
  refine f_bodyH (own := RL) (by decide +kernel) rfl (Nat.le_of_ble_eq_true rfl) ?_
  intro p e s m args below meth c ls X hnc ht hw hl
  have hx := X.1
  have hb := X.2.1
  have hM0 : M 0 = some (.inr (6, [.ref (ad 1), .ref (ad 1000), .ref (ad 2000)])) := hC.1
  have hl : lv_has ls 5 [(0, .ref (ad 0)), (1, .int a0), (2, .int a1), (3, .ref (ad 3032))] := hl
  refine lv_aload_n hx hb dL_aim_0 rfl (lv_at hl 3 rfl) ?_
  refine lv_iconst (v := 0) hx hb dL_aim_1 (by decide) ?_
  refine lv_aload_n hx hb dL_aim_2 rfl (lv_at hl 0 rfl) ?_
  refine lv_iload_n hx hb dL_aim_3 rfl (lv_at hl 1 rfl) ?_
  refine lv_iload_n hx hb dL_aim_4 rfl (lv_at hl 2 rfl) ?_
  refine fk_c X (fxV X hw hX hM0 rfl wq722 kVX5_aim ⟨by dsimp only [fR]; omega, by dsimp only [fR]; omega⟩ rfl hl.1 rfl (Nat.le_of_ble_eq_true rfl) dL_aim_5 ⟨by dsimp only [fR]; omega, by dsimp only [fR]; omega⟩) hw [] ⟨0, 10, 13, 13⟩ [⟨0, 10, 17, 17⟩] (by rw [ht]; rfl) (fun z hz => absurd hz List.not_mem_nil) (by decide) (by decide) wq457 wn472 (fun q H locs hw => ?_)
  refine lv_astore (lv' := [(4, .ref q), (0, .ref (ad 0)), (1, .int a0), (2, .int a1), (3, .ref (ad 3032))]) hx hb dL_aim_13 hl (by decide) rfl (fun ls hl => ?_)
  refine lv_iconst (v := 1) hx hb dL_aim_15 (by decide) ?_
  exact vx_ret (f_iret X hw ⟨⟨A, sf, hC, hLe⟩, fun l a b => ⟨rfl, rfl⟩, ⟨rfl, rfl⟩, hO, rfl⟩ (by omega) (by omega) dL_aim_16)
set_option maxHeartbeats 4000000 in
set_option maxRecDepth 100000 in
theorem wr_aim_x2 (l : Launch) (g : fG) (ad : Nat → Nat) (M : fM) {T A : fTn} {kf nf sf : Nat → Int32} (hC : isC g ad M T A kf nf sf) (hLe : leT A T) {f : Nat → Int64} (hO : M 3032 = some (oCell g f)) {a0 a1 : Int32} {fr lo : Nat} (hX : fXt l g yX5_aim cX5_aim 5 (some .int) fr lo ad M [.ref (ad 0), .int a0, .int a1] ISE ad M) (b1 : fr ≤ 9) (b2 : lo ≤ 225) : vx_Met l yL_aim (fWsH yL_aim cL_aim 5 (some .int) [(0, 10, 13, 13), (0, 10, 17, 17)]) (fR 10 260 90 2200) (va_Pc [.ref (ad 0), .int a0, .int a1, .ref (ad 3032)] (fSL g ad M)) (fQi g (fWr g ad M T kf nf 2 f)) fNX 90 2200 (fA g) := by
  refine f_bodyH (own := RL) (by decide +kernel) rfl (Nat.le_of_ble_eq_true rfl) ?_
  intro p e s m args below meth c ls X hnc ht hw hl
  have hx := X.1
  have hb := X.2.1
  have hM0 : M 0 = some (.inr (6, [.ref (ad 1), .ref (ad 1000), .ref (ad 2000)])) := hC.1
  have hl : lv_has ls 5 [(0, .ref (ad 0)), (1, .int a0), (2, .int a1), (3, .ref (ad 3032))] := hl
  refine lv_aload_n hx hb dL_aim_0 rfl (lv_at hl 3 rfl) ?_
  refine lv_iconst (v := 0) hx hb dL_aim_1 (by decide) ?_
  refine lv_aload_n hx hb dL_aim_2 rfl (lv_at hl 0 rfl) ?_
  refine lv_iload_n hx hb dL_aim_3 rfl (lv_at hl 1 rfl) ?_
  refine lv_iload_n hx hb dL_aim_4 rfl (lv_at hl 2 rfl) ?_
  refine fk_c X (fxV X hw hX hM0 rfl wq722 kVX5_aim ⟨by dsimp only [fR]; omega, by dsimp only [fR]; omega⟩ rfl hl.1 rfl (Nat.le_of_ble_eq_true rfl) dL_aim_5 ⟨by dsimp only [fR]; omega, by dsimp only [fR]; omega⟩) hw [⟨0, 10, 13, 13⟩] ⟨0, 10, 17, 17⟩ [] (by rw [ht]; rfl) (fun z hz => by
        simp only [List.mem_cons, List.not_mem_nil, or_false] at hz
        rcases hz with rfl
        · exact Or.inr ⟨by decide, IOO, X.2.2.2.2.1 _ wq457, hnc.2.1⟩) (by decide) (by decide) wq459 wn585 (fun q H locs hw => ?_)
  refine lv_astore (lv' := [(4, .ref q), (0, .ref (ad 0)), (1, .int a0), (2, .int a1), (3, .ref (ad 3032))]) hx hb dL_aim_17 hl (by decide) rfl (fun ls hl => ?_)
  refine lv_iconst (v := 2) hx hb dL_aim_19 (by decide) ?_
  exact vx_ret (f_iret X hw ⟨⟨A, sf, hC, hLe⟩, fun l a b => ⟨rfl, rfl⟩, ⟨rfl, rfl⟩, hO, rfl⟩ (by omega) (by omega) dL_aim_20)
set_option maxHeartbeats 4000000 in
set_option maxRecDepth 100000 in
theorem wr_takeUp_ok (l : Launch) (g : fG) (ad : Nat → Nat) (M : fM) {T A : fTn} {kf nf sf : Nat → Int32} (hC : isC g ad M T A kf nf sf) {f : Nat → Int64} (hO : M 3032 = some (oCell g f)) {a0 : Int32} {fr lo mcX msX : Nat} {T2 : fTn} {kf2 nf2 : Nat → Int32} {v : Int32} {bb : Bool} (hX : fCi l g yX5_takeUp cX5_takeUp 4 (some .boolean) fr lo mcX msX ad M [.ref (ad 0), .int a0] (fCu g ad M T2 kf2 nf2 (bI bb))) (b1 : fr ≤ 9) (b2 : lo ≤ 225) (b3 : mcX ≤ 89) (b4 : msX ≤ 2190) : vx_Met l yL_takeUp (fWsH yL_takeUp cL_takeUp 4 (some .int) [(0, 16, 19, 13)]) (fR 10 260 90 2200) (va_Pc [.ref (ad 0), .int a0, .ref (ad 3032)] (fSL g ad M)) (fQi g (fWr g ad M T2 kf2 nf2 0 (vp_updL f 0 (bI bb).toInt64))) fNX 90 2200 (fA g) := by
  refine f_bodyH (own := RL) (by decide +kernel) rfl (Nat.le_of_ble_eq_true rfl) ?_
  intro p e s m args below meth c ls X hnc ht hw hl
  have hx := X.1
  have hb := X.2.1
  have hM0 : M 0 = some (.inr (6, [.ref (ad 1), .ref (ad 1000), .ref (ad 2000)])) := hC.1
  have hl : lv_has ls 4 [(0, .ref (ad 0)), (1, .int a0), (2, .ref (ad 3032))] := hl
  refine lv_aload_n hx hb dL_takeUp_0 rfl (lv_at hl 2 rfl) ?_
  refine lv_iconst (v := 0) hx hb dL_takeUp_1 (by decide) ?_
  refine lv_aload_n hx hb dL_takeUp_2 rfl (lv_at hl 0 rfl) ?_
  refine lv_iload_n hx hb dL_takeUp_3 rfl (lv_at hl 1 rfl) ?_
  refine fk_i (fcV X hw hX hM0 rfl wq729 kVX5_takeUp ⟨by dsimp only [fR]; omega, by dsimp only [fR]; omega⟩ rfl hl.1 rfl (Nat.le_of_ble_eq_true rfl) dL_takeUp_4 ⟨by dsimp only [fR]; omega, by dsimp only [fR]; omega⟩) hw (fun r ad1 M1 H locs hp hw => ?_)
  obtain ⟨⟨A2, sf2, hC2, hL2⟩, hr, h0, er⟩ := hp
  rw [er]
  have hO1 : M1 3032 = some (oCell g f) := (hr 3032 (by omega) (by omega)).2.trans hO
  cases bb
  · refine f_top (y := 0) rfl ?_
    refine lv_if_eq (tgt := 14) hx hb dL_takeUp_7 (by decide) (fun c_1 => ?_) (fun c_1 => absurd rfl c_1)
    refine lv_lconst (v := 0) hx hb dL_takeUp_14 (by decide) ?_
    refine f_adr3 (ad := ad1) (lb := 3032) (hr 3032 (by omega) (by omega)).1 ?_
    refine f_last X hw hO1 (by unfold vp_in; decide) dL_takeUp_15 (fun H locs hw => ?_)
    rw [show (0 : Int32).toNatClampNeg = 0 from rfl] at hw
    have hw : fw g ad1 (fU M1 3032 (.inl (gJ g, 1, .inr (.inl (vp_updL f 0 0))))) s H locs := hw
    have hO1 : (fU M1 3032 (.inl (gJ g, 1, .inr (.inl (vp_updL f 0 0))))) 3032 = some (.inl (gJ g, 1, .inr (.inl (vp_updL f 0 0)))) := fU_s
    refine lv_goto (tgt := 22) hx hb dL_takeUp_16 (by decide) ?_
    refine lv_iconst (v := 0) hx hb dL_takeUp_22 (by decide) ?_
    exact vx_ret (f_iret X hw ⟨⟨A2, sf2, isC_eq hC2 (fun l hl => ⟨rfl, fU_n (by omega)⟩), hL2⟩, fun l a b => ⟨(hr l (by omega) (by omega)).1, (fU_n (by omega)).trans (hr l (by omega) (by omega)).2⟩, ⟨h0, (hr 3032 (by omega) (by omega)).1⟩, fU_s, rfl⟩ (by omega) (by omega) dL_takeUp_23)
  · refine f_top (y := 1) rfl ?_
    refine lv_if_eq (tgt := 14) hx hb dL_takeUp_7 (by decide) (fun c_2 => absurd c_2 (by decide)) (fun c_2 => ?_)
    refine lv_lconst (v := 1) hx hb dL_takeUp_10 (by decide) ?_
    refine lv_goto (tgt := 15) hx hb dL_takeUp_11 (by decide) ?_
    refine f_adr3 (ad := ad1) (lb := 3032) (hr 3032 (by omega) (by omega)).1 ?_
    refine f_last X hw hO1 (by unfold vp_in; decide) dL_takeUp_15 (fun H locs hw => ?_)
    rw [show (0 : Int32).toNatClampNeg = 0 from rfl] at hw
    have hw : fw g ad1 (fU M1 3032 (.inl (gJ g, 1, .inr (.inl (vp_updL f 0 1))))) s H locs := hw
    have hO1 : (fU M1 3032 (.inl (gJ g, 1, .inr (.inl (vp_updL f 0 1))))) 3032 = some (.inl (gJ g, 1, .inr (.inl (vp_updL f 0 1)))) := fU_s
    refine lv_goto (tgt := 22) hx hb dL_takeUp_16 (by decide) ?_
    refine lv_iconst (v := 0) hx hb dL_takeUp_22 (by decide) ?_
    exact vx_ret (f_iret X hw ⟨⟨A2, sf2, isC_eq hC2 (fun l hl => ⟨rfl, fU_n (by omega)⟩), hL2⟩, fun l a b => ⟨(hr l (by omega) (by omega)).1, (fU_n (by omega)).trans (hr l (by omega) (by omega)).2⟩, ⟨h0, (hr 3032 (by omega) (by omega)).1⟩, fU_s, rfl⟩ (by omega) (by omega) dL_takeUp_23)
set_option maxHeartbeats 4000000 in
set_option maxRecDepth 100000 in
theorem wr_takeUp_x1 (l : Launch) (g : fG) (ad : Nat → Nat) (M : fM) {T A : fTn} {kf nf sf : Nat → Int32} (hC : isC g ad M T A kf nf sf) (hLe : leT A T) {f : Nat → Int64} (hO : M 3032 = some (oCell g f)) {a0 : Int32} {fr lo : Nat} (hX : fXt l g yX5_takeUp cX5_takeUp 4 (some .boolean) fr lo ad M [.ref (ad 0), .int a0] IOO ad M) (b1 : fr ≤ 9) (b2 : lo ≤ 225) : vx_Met l yL_takeUp (fWsH yL_takeUp cL_takeUp 4 (some .int) [(0, 16, 19, 13)]) (fR 10 260 90 2200) (va_Pc [.ref (ad 0), .int a0, .ref (ad 3032)] (fSL g ad M)) (fQi g (fWr g ad M T kf nf 1 f)) fNX 90 2200 (fA g) := by
  refine f_bodyH (own := RL) (by decide +kernel) rfl (Nat.le_of_ble_eq_true rfl) ?_
  intro p e s m args below meth c ls X hnc ht hw hl
  have hx := X.1
  have hb := X.2.1
  have hM0 : M 0 = some (.inr (6, [.ref (ad 1), .ref (ad 1000), .ref (ad 2000)])) := hC.1
  have hl : lv_has ls 4 [(0, .ref (ad 0)), (1, .int a0), (2, .ref (ad 3032))] := hl
  refine lv_aload_n hx hb dL_takeUp_0 rfl (lv_at hl 2 rfl) ?_
  refine lv_iconst (v := 0) hx hb dL_takeUp_1 (by decide) ?_
  refine lv_aload_n hx hb dL_takeUp_2 rfl (lv_at hl 0 rfl) ?_
  refine lv_iload_n hx hb dL_takeUp_3 rfl (lv_at hl 1 rfl) ?_
  refine fk_c X (fxV X hw hX hM0 rfl wq729 kVX5_takeUp ⟨by dsimp only [fR]; omega, by dsimp only [fR]; omega⟩ rfl hl.1 rfl (Nat.le_of_ble_eq_true rfl) dL_takeUp_4 ⟨by dsimp only [fR]; omega, by dsimp only [fR]; omega⟩) hw [] ⟨0, 16, 19, 13⟩ [] (by rw [ht]; rfl) (fun z hz => absurd hz List.not_mem_nil) (by decide) (by decide) wq457 wn472 (fun q H locs hw => ?_)
  refine lv_astore_n (lv' := [(3, .ref q), (0, .ref (ad 0)), (1, .int a0), (2, .ref (ad 3032))]) hx hb dL_takeUp_19 rfl hl (by decide) rfl (fun ls hl => ?_)
  refine lv_iconst (v := 1) hx hb dL_takeUp_20 (by decide) ?_
  exact vx_ret (f_iret X hw ⟨⟨A, sf, hC, hLe⟩, fun l a b => ⟨rfl, rfl⟩, ⟨rfl, rfl⟩, hO, rfl⟩ (by omega) (by omega) dL_takeUp_21)
set_option maxHeartbeats 4000000 in
set_option maxRecDepth 100000 in
theorem wr_engine_ok (l : Launch) (g : fG) (ad : Nat → Nat) (M : fM) {T A : fTn} {kf nf sf : Nat → Int32} (hC : isC g ad M T A kf nf sf) {f : Nat → Int64} (hO : M 3032 = some (oCell g f)) {a0 a1 : Int32} {fr lo mcX msX : Nat} {T2 : fTn} {kf2 nf2 : Nat → Int32} {v : Int32} (hX : fCi l g yX5_engine cX5_engine 3 (some .int) fr lo mcX msX ad M [.ref (ad 0), .int a0, .int a1] (fCu g ad M T2 kf2 nf2 v)) (b1 : fr ≤ 9) (b2 : lo ≤ 225) (b3 : mcX ≤ 89) (b4 : msX ≤ 2190) : vx_Met l yL_engine (fWsH yL_engine cL_engine 5 (some .int) [(0, 10, 13, 13)]) (fR 10 260 90 2200) (va_Pc [.ref (ad 0), .int a0, .int a1, .ref (ad 3032)] (fSL g ad M)) (fQi g (fWr g ad M T2 kf2 nf2 0 (vp_updL f 0 v.toInt64))) fNX 90 2200 (fA g) := by
  refine f_bodyH (own := RL) (by decide +kernel) rfl (Nat.le_of_ble_eq_true rfl) ?_
  intro p e s m args below meth c ls X hnc ht hw hl
  have hx := X.1
  have hb := X.2.1
  have hM0 : M 0 = some (.inr (6, [.ref (ad 1), .ref (ad 1000), .ref (ad 2000)])) := hC.1
  have hl : lv_has ls 5 [(0, .ref (ad 0)), (1, .int a0), (2, .int a1), (3, .ref (ad 3032))] := hl
  refine lv_aload_n hx hb dL_engine_0 rfl (lv_at hl 3 rfl) ?_
  refine lv_iconst (v := 0) hx hb dL_engine_1 (by decide) ?_
  refine lv_aload_n hx hb dL_engine_2 rfl (lv_at hl 0 rfl) ?_
  refine lv_iload_n hx hb dL_engine_3 rfl (lv_at hl 1 rfl) ?_
  refine lv_iload_n hx hb dL_engine_4 rfl (lv_at hl 2 rfl) ?_
  refine fk_i (fcV X hw hX hM0 rfl wq736 kVX5_engine ⟨by dsimp only [fR]; omega, by dsimp only [fR]; omega⟩ rfl hl.1 rfl (Nat.le_of_ble_eq_true rfl) dL_engine_5 ⟨by dsimp only [fR]; omega, by dsimp only [fR]; omega⟩) hw (fun r ad1 M1 H locs hp hw => ?_)
  obtain ⟨⟨A2, sf2, hC2, hL2⟩, hr, h0, er⟩ := hp
  rw [er]
  have hO1 : M1 3032 = some (oCell g f) := (hr 3032 (by omega) (by omega)).2.trans hO
  refine lv_i2l hx hb dL_engine_8 rfl ?_
  refine f_adr3 (ad := ad1) (lb := 3032) (hr 3032 (by omega) (by omega)).1 ?_
  refine f_last X hw hO1 (by unfold vp_in; decide) dL_engine_9 (fun H locs hw => ?_)
  rw [show (0 : Int32).toNatClampNeg = 0 from rfl] at hw
  have hw : fw g ad1 (fU M1 3032 (.inl (gJ g, 1, .inr (.inl (vp_updL f 0 v.toInt64))))) s H locs := hw
  have hO1 : (fU M1 3032 (.inl (gJ g, 1, .inr (.inl (vp_updL f 0 v.toInt64))))) 3032 = some (.inl (gJ g, 1, .inr (.inl (vp_updL f 0 v.toInt64)))) := fU_s
  refine lv_goto (tgt := 17) hx hb dL_engine_10 (by decide) ?_
  refine lv_iconst (v := 0) hx hb dL_engine_17 (by decide) ?_
  exact vx_ret (f_iret X hw ⟨⟨A2, sf2, isC_eq hC2 (fun l hl => ⟨rfl, fU_n (by omega)⟩), hL2⟩, fun l a b => ⟨(hr l (by omega) (by omega)).1, (fU_n (by omega)).trans (hr l (by omega) (by omega)).2⟩, ⟨h0, (hr 3032 (by omega) (by omega)).1⟩, fU_s, rfl⟩ (by omega) (by omega) dL_engine_18)
set_option maxHeartbeats 4000000 in
set_option maxRecDepth 100000 in
theorem wr_engine_x1 (l : Launch) (g : fG) (ad : Nat → Nat) (M : fM) {T A : fTn} {kf nf sf : Nat → Int32} (hC : isC g ad M T A kf nf sf) (hLe : leT A T) {f : Nat → Int64} (hO : M 3032 = some (oCell g f)) {a0 a1 : Int32} {fr lo : Nat} (hX : fXt l g yX5_engine cX5_engine 3 (some .int) fr lo ad M [.ref (ad 0), .int a0, .int a1] IOO ad M) (b1 : fr ≤ 9) (b2 : lo ≤ 225) : vx_Met l yL_engine (fWsH yL_engine cL_engine 5 (some .int) [(0, 10, 13, 13)]) (fR 10 260 90 2200) (va_Pc [.ref (ad 0), .int a0, .int a1, .ref (ad 3032)] (fSL g ad M)) (fQi g (fWr g ad M T kf nf 1 f)) fNX 90 2200 (fA g) := by
  refine f_bodyH (own := RL) (by decide +kernel) rfl (Nat.le_of_ble_eq_true rfl) ?_
  intro p e s m args below meth c ls X hnc ht hw hl
  have hx := X.1
  have hb := X.2.1
  have hM0 : M 0 = some (.inr (6, [.ref (ad 1), .ref (ad 1000), .ref (ad 2000)])) := hC.1
  have hl : lv_has ls 5 [(0, .ref (ad 0)), (1, .int a0), (2, .int a1), (3, .ref (ad 3032))] := hl
  refine lv_aload_n hx hb dL_engine_0 rfl (lv_at hl 3 rfl) ?_
  refine lv_iconst (v := 0) hx hb dL_engine_1 (by decide) ?_
  refine lv_aload_n hx hb dL_engine_2 rfl (lv_at hl 0 rfl) ?_
  refine lv_iload_n hx hb dL_engine_3 rfl (lv_at hl 1 rfl) ?_
  refine lv_iload_n hx hb dL_engine_4 rfl (lv_at hl 2 rfl) ?_
  refine fk_c X (fxV X hw hX hM0 rfl wq736 kVX5_engine ⟨by dsimp only [fR]; omega, by dsimp only [fR]; omega⟩ rfl hl.1 rfl (Nat.le_of_ble_eq_true rfl) dL_engine_5 ⟨by dsimp only [fR]; omega, by dsimp only [fR]; omega⟩) hw [] ⟨0, 10, 13, 13⟩ [] (by rw [ht]; rfl) (fun z hz => absurd hz List.not_mem_nil) (by decide) (by decide) wq457 wn472 (fun q H locs hw => ?_)
  refine lv_astore (lv' := [(4, .ref q), (0, .ref (ad 0)), (1, .int a0), (2, .int a1), (3, .ref (ad 3032))]) hx hb dL_engine_13 hl (by decide) rfl (fun ls hl => ?_)
  refine lv_iconst (v := 1) hx hb dL_engine_15 (by decide) ?_
  exact vx_ret (f_iret X hw ⟨⟨A, sf, hC, hLe⟩, fun l a b => ⟨rfl, rfl⟩, ⟨rfl, rfl⟩, hO, rfl⟩ (by omega) (by omega) dL_engine_16)
set_option maxHeartbeats 4000000 in
set_option maxRecDepth 100000 in
theorem wr_pond_ok (l : Launch) (g : fG) (ad : Nat → Nat) (M : fM) {T A : fTn} {kf nf sf : Nat → Int32} (hC : isC g ad M T A kf nf sf) {f : Nat → Int64} (hO : M 3032 = some (oCell g f)) {a0 : Int32} {fr lo mcX msX : Nat} {T2 : fTn} {kf2 nf2 : Nat → Int32} {v : Int32} (hX : fCi l g yX5_pond cX5_pond 2 (some .int) fr lo mcX msX ad M [.ref (ad 0), .int a0] (fCu g ad M T2 kf2 nf2 v)) (b1 : fr ≤ 9) (b2 : lo ≤ 225) (b3 : mcX ≤ 89) (b4 : msX ≤ 2190) : vx_Met l yL_pond (fWsH yL_pond cL_pond 4 (some .int) [(0, 9, 12, 13)]) (fR 10 260 90 2200) (va_Pc [.ref (ad 0), .int a0, .ref (ad 3032)] (fSL g ad M)) (fQi g (fWr g ad M T2 kf2 nf2 0 (vp_updL f 0 v.toInt64))) fNX 90 2200 (fA g) := by
  refine f_bodyH (own := RL) (by decide +kernel) rfl (Nat.le_of_ble_eq_true rfl) ?_
  intro p e s m args below meth c ls X hnc ht hw hl
  have hx := X.1
  have hb := X.2.1
  have hM0 : M 0 = some (.inr (6, [.ref (ad 1), .ref (ad 1000), .ref (ad 2000)])) := hC.1
  have hl : lv_has ls 4 [(0, .ref (ad 0)), (1, .int a0), (2, .ref (ad 3032))] := hl
  refine lv_aload_n hx hb dL_pond_0 rfl (lv_at hl 2 rfl) ?_
  refine lv_iconst (v := 0) hx hb dL_pond_1 (by decide) ?_
  refine lv_aload_n hx hb dL_pond_2 rfl (lv_at hl 0 rfl) ?_
  refine lv_iload_n hx hb dL_pond_3 rfl (lv_at hl 1 rfl) ?_
  refine fk_i (fcV X hw hX hM0 rfl wq743 kVX5_pond ⟨by dsimp only [fR]; omega, by dsimp only [fR]; omega⟩ rfl hl.1 rfl (Nat.le_of_ble_eq_true rfl) dL_pond_4 ⟨by dsimp only [fR]; omega, by dsimp only [fR]; omega⟩) hw (fun r ad1 M1 H locs hp hw => ?_)
  obtain ⟨⟨A2, sf2, hC2, hL2⟩, hr, h0, er⟩ := hp
  rw [er]
  have hO1 : M1 3032 = some (oCell g f) := (hr 3032 (by omega) (by omega)).2.trans hO
  refine lv_i2l hx hb dL_pond_7 rfl ?_
  refine f_adr3 (ad := ad1) (lb := 3032) (hr 3032 (by omega) (by omega)).1 ?_
  refine f_last X hw hO1 (by unfold vp_in; decide) dL_pond_8 (fun H locs hw => ?_)
  rw [show (0 : Int32).toNatClampNeg = 0 from rfl] at hw
  have hw : fw g ad1 (fU M1 3032 (.inl (gJ g, 1, .inr (.inl (vp_updL f 0 v.toInt64))))) s H locs := hw
  have hO1 : (fU M1 3032 (.inl (gJ g, 1, .inr (.inl (vp_updL f 0 v.toInt64))))) 3032 = some (.inl (gJ g, 1, .inr (.inl (vp_updL f 0 v.toInt64)))) := fU_s
  refine lv_goto (tgt := 15) hx hb dL_pond_9 (by decide) ?_
  refine lv_iconst (v := 0) hx hb dL_pond_15 (by decide) ?_
  exact vx_ret (f_iret X hw ⟨⟨A2, sf2, isC_eq hC2 (fun l hl => ⟨rfl, fU_n (by omega)⟩), hL2⟩, fun l a b => ⟨(hr l (by omega) (by omega)).1, (fU_n (by omega)).trans (hr l (by omega) (by omega)).2⟩, ⟨h0, (hr 3032 (by omega) (by omega)).1⟩, fU_s, rfl⟩ (by omega) (by omega) dL_pond_16)
set_option maxHeartbeats 4000000 in
set_option maxRecDepth 100000 in
theorem wr_pond_x1 (l : Launch) (g : fG) (ad : Nat → Nat) (M : fM) {T A : fTn} {kf nf sf : Nat → Int32} (hC : isC g ad M T A kf nf sf) (hLe : leT A T) {f : Nat → Int64} (hO : M 3032 = some (oCell g f)) {a0 : Int32} {fr lo : Nat} (hX : fXt l g yX5_pond cX5_pond 2 (some .int) fr lo ad M [.ref (ad 0), .int a0] IOO ad M) (b1 : fr ≤ 9) (b2 : lo ≤ 225) : vx_Met l yL_pond (fWsH yL_pond cL_pond 4 (some .int) [(0, 9, 12, 13)]) (fR 10 260 90 2200) (va_Pc [.ref (ad 0), .int a0, .ref (ad 3032)] (fSL g ad M)) (fQi g (fWr g ad M T kf nf 1 f)) fNX 90 2200 (fA g) := by
  refine f_bodyH (own := RL) (by decide +kernel) rfl (Nat.le_of_ble_eq_true rfl) ?_
  intro p e s m args below meth c ls X hnc ht hw hl
  have hx := X.1
  have hb := X.2.1
  have hM0 : M 0 = some (.inr (6, [.ref (ad 1), .ref (ad 1000), .ref (ad 2000)])) := hC.1
  have hl : lv_has ls 4 [(0, .ref (ad 0)), (1, .int a0), (2, .ref (ad 3032))] := hl
  refine lv_aload_n hx hb dL_pond_0 rfl (lv_at hl 2 rfl) ?_
  refine lv_iconst (v := 0) hx hb dL_pond_1 (by decide) ?_
  refine lv_aload_n hx hb dL_pond_2 rfl (lv_at hl 0 rfl) ?_
  refine lv_iload_n hx hb dL_pond_3 rfl (lv_at hl 1 rfl) ?_
  refine fk_c X (fxV X hw hX hM0 rfl wq743 kVX5_pond ⟨by dsimp only [fR]; omega, by dsimp only [fR]; omega⟩ rfl hl.1 rfl (Nat.le_of_ble_eq_true rfl) dL_pond_4 ⟨by dsimp only [fR]; omega, by dsimp only [fR]; omega⟩) hw [] ⟨0, 9, 12, 13⟩ [] (by rw [ht]; rfl) (fun z hz => absurd hz List.not_mem_nil) (by decide) (by decide) wq457 wn472 (fun q H locs hw => ?_)
  refine lv_astore_n (lv' := [(3, .ref q), (0, .ref (ad 0)), (1, .int a0), (2, .ref (ad 3032))]) hx hb dL_pond_12 rfl hl (by decide) rfl (fun ls hl => ?_)
  refine lv_iconst (v := 1) hx hb dL_pond_13 (by decide) ?_
  exact vx_ret (f_iret X hw ⟨⟨A, sf, hC, hLe⟩, fun l a b => ⟨rfl, rfl⟩, ⟨rfl, rfl⟩, hO, rfl⟩ (by omega) (by omega) dL_pond_14)
set_option maxHeartbeats 4000000 in
set_option maxRecDepth 100000 in
theorem wr_pass_ok (l : Launch) (g : fG) (ad : Nat → Nat) (M : fM) {T A : fTn} {kf nf sf : Nat → Int32} (hC : isC g ad M T A kf nf sf) {f : Nat → Int64} (hO : M 3032 = some (oCell g f)) {a0 : Int32} {fr lo mcX msX : Nat} {T2 : fTn} {kf2 nf2 : Nat → Int32} {v : Int32} (hX : fCi l g yX5_pass cX5_pass 2 (some .int) fr lo mcX msX ad M [.ref (ad 0), .int a0] (fCu g ad M T2 kf2 nf2 v)) (b1 : fr ≤ 9) (b2 : lo ≤ 225) (b3 : mcX ≤ 89) (b4 : msX ≤ 2190) : vx_Met l yL_pass (fWsH yL_pass cL_pass 4 (some .int) [(0, 9, 12, 15)]) (fR 10 260 90 2200) (va_Pc [.ref (ad 0), .int a0, .ref (ad 3032)] (fSL g ad M)) (fQi g (fWr g ad M T2 kf2 nf2 0 (vp_updL f 0 v.toInt64))) fNX 90 2200 (fA g) := by
  refine f_bodyH (own := RL) (by decide +kernel) rfl (Nat.le_of_ble_eq_true rfl) ?_
  intro p e s m args below meth c ls X hnc ht hw hl
  have hx := X.1
  have hb := X.2.1
  have hM0 : M 0 = some (.inr (6, [.ref (ad 1), .ref (ad 1000), .ref (ad 2000)])) := hC.1
  have hl : lv_has ls 4 [(0, .ref (ad 0)), (1, .int a0), (2, .ref (ad 3032))] := hl
  refine lv_aload_n hx hb dL_pass_0 rfl (lv_at hl 2 rfl) ?_
  refine lv_iconst (v := 0) hx hb dL_pass_1 (by decide) ?_
  refine lv_aload_n hx hb dL_pass_2 rfl (lv_at hl 0 rfl) ?_
  refine lv_iload_n hx hb dL_pass_3 rfl (lv_at hl 1 rfl) ?_
  refine fk_i (fcV X hw hX hM0 rfl wq751 kVX5_pass ⟨by dsimp only [fR]; omega, by dsimp only [fR]; omega⟩ rfl hl.1 rfl (Nat.le_of_ble_eq_true rfl) dL_pass_4 ⟨by dsimp only [fR]; omega, by dsimp only [fR]; omega⟩) hw (fun r ad1 M1 H locs hp hw => ?_)
  obtain ⟨⟨A2, sf2, hC2, hL2⟩, hr, h0, er⟩ := hp
  rw [er]
  have hO1 : M1 3032 = some (oCell g f) := (hr 3032 (by omega) (by omega)).2.trans hO
  refine lv_i2l hx hb dL_pass_7 rfl ?_
  refine f_adr3 (ad := ad1) (lb := 3032) (hr 3032 (by omega) (by omega)).1 ?_
  refine f_last X hw hO1 (by unfold vp_in; decide) dL_pass_8 (fun H locs hw => ?_)
  rw [show (0 : Int32).toNatClampNeg = 0 from rfl] at hw
  have hw : fw g ad1 (fU M1 3032 (.inl (gJ g, 1, .inr (.inl (vp_updL f 0 v.toInt64))))) s H locs := hw
  have hO1 : (fU M1 3032 (.inl (gJ g, 1, .inr (.inl (vp_updL f 0 v.toInt64))))) 3032 = some (.inl (gJ g, 1, .inr (.inl (vp_updL f 0 v.toInt64)))) := fU_s
  refine lv_goto (tgt := 15) hx hb dL_pass_9 (by decide) ?_
  refine lv_iconst (v := 0) hx hb dL_pass_15 (by decide) ?_
  exact vx_ret (f_iret X hw ⟨⟨A2, sf2, isC_eq hC2 (fun l hl => ⟨rfl, fU_n (by omega)⟩), hL2⟩, fun l a b => ⟨(hr l (by omega) (by omega)).1, (fU_n (by omega)).trans (hr l (by omega) (by omega)).2⟩, ⟨h0, (hr 3032 (by omega) (by omega)).1⟩, fU_s, rfl⟩ (by omega) (by omega) dL_pass_16)
set_option maxHeartbeats 4000000 in
set_option maxRecDepth 100000 in
theorem wr_pass_x1 (l : Launch) (g : fG) (ad : Nat → Nat) (M : fM) {T A : fTn} {kf nf sf : Nat → Int32} (hC : isC g ad M T A kf nf sf) (hLe : leT A T) {f : Nat → Int64} (hO : M 3032 = some (oCell g f)) {a0 : Int32} {fr lo : Nat} (hX : fXt l g yX5_pass cX5_pass 2 (some .int) fr lo ad M [.ref (ad 0), .int a0] IAE ad M) (b1 : fr ≤ 9) (b2 : lo ≤ 225) : vx_Met l yL_pass (fWsH yL_pass cL_pass 4 (some .int) [(0, 9, 12, 15)]) (fR 10 260 90 2200) (va_Pc [.ref (ad 0), .int a0, .ref (ad 3032)] (fSL g ad M)) (fQi g (fWr g ad M T kf nf 1 f)) fNX 90 2200 (fA g) := by
  refine f_bodyH (own := RL) (by decide +kernel) rfl (Nat.le_of_ble_eq_true rfl) ?_
  intro p e s m args below meth c ls X hnc ht hw hl
  have hx := X.1
  have hb := X.2.1
  have hM0 : M 0 = some (.inr (6, [.ref (ad 1), .ref (ad 1000), .ref (ad 2000)])) := hC.1
  have hl : lv_has ls 4 [(0, .ref (ad 0)), (1, .int a0), (2, .ref (ad 3032))] := hl
  refine lv_aload_n hx hb dL_pass_0 rfl (lv_at hl 2 rfl) ?_
  refine lv_iconst (v := 0) hx hb dL_pass_1 (by decide) ?_
  refine lv_aload_n hx hb dL_pass_2 rfl (lv_at hl 0 rfl) ?_
  refine lv_iload_n hx hb dL_pass_3 rfl (lv_at hl 1 rfl) ?_
  refine fk_c X (fxV X hw hX hM0 rfl wq751 kVX5_pass ⟨by dsimp only [fR]; omega, by dsimp only [fR]; omega⟩ rfl hl.1 rfl (Nat.le_of_ble_eq_true rfl) dL_pass_4 ⟨by dsimp only [fR]; omega, by dsimp only [fR]; omega⟩) hw [] ⟨0, 9, 12, 15⟩ [] (by rw [ht]; rfl) (fun z hz => absurd hz List.not_mem_nil) (by decide) (by decide) wq458 wn543 (fun q H locs hw => ?_)
  refine lv_astore_n (lv' := [(3, .ref q), (0, .ref (ad 0)), (1, .int a0), (2, .ref (ad 3032))]) hx hb dL_pass_12 rfl hl (by decide) rfl (fun ls hl => ?_)
  refine lv_iconst (v := 1) hx hb dL_pass_13 (by decide) ?_
  exact vx_ret (f_iret X hw ⟨⟨A, sf, hC, hLe⟩, fun l a b => ⟨rfl, rfl⟩, ⟨rfl, rfl⟩, hO, rfl⟩ (by omega) (by omega) dL_pass_14)
set_option maxHeartbeats 4000000 in
set_option maxRecDepth 100000 in
theorem wr_count_ok (l : Launch) (g : fG) (ad : Nat → Nat) (M : fM) {T A : fTn} {kf nf sf : Nat → Int32} (hC : isC g ad M T A kf nf sf) {f : Nat → Int64} (hO : M 3032 = some (oCell g f)) {a0 : Int32} {fr lo mcX msX : Nat} {T2 : fTn} {kf2 nf2 : Nat → Int32} {v : Int32} (hX : fCi l g yX5_count cX5_count 2 (some .int) fr lo mcX msX ad M [.ref (ad 0), .int a0] (fCu g ad M T2 kf2 nf2 v)) (b1 : fr ≤ 9) (b2 : lo ≤ 225) (b3 : mcX ≤ 89) (b4 : msX ≤ 2190) : vx_Met l yL_count (fWsH yL_count cL_count 4 (some .int) [(0, 9, 12, 13)]) (fR 10 260 90 2200) (va_Pc [.ref (ad 0), .int a0, .ref (ad 3032)] (fSL g ad M)) (fQi g (fWr g ad M T2 kf2 nf2 0 (vp_updL f 0 v.toInt64))) fNX 90 2200 (fA g) := by
  refine f_bodyH (own := RL) (by decide +kernel) rfl (Nat.le_of_ble_eq_true rfl) ?_
  intro p e s m args below meth c ls X hnc ht hw hl
  have hx := X.1
  have hb := X.2.1
  have hM0 : M 0 = some (.inr (6, [.ref (ad 1), .ref (ad 1000), .ref (ad 2000)])) := hC.1
  have hl : lv_has ls 4 [(0, .ref (ad 0)), (1, .int a0), (2, .ref (ad 3032))] := hl
  refine lv_aload_n hx hb dL_count_0 rfl (lv_at hl 2 rfl) ?_
  refine lv_iconst (v := 0) hx hb dL_count_1 (by decide) ?_
  refine lv_aload_n hx hb dL_count_2 rfl (lv_at hl 0 rfl) ?_
  refine lv_iload_n hx hb dL_count_3 rfl (lv_at hl 1 rfl) ?_
  refine fk_i (fcV X hw hX hM0 rfl wq758 kVX5_count ⟨by dsimp only [fR]; omega, by dsimp only [fR]; omega⟩ rfl hl.1 rfl (Nat.le_of_ble_eq_true rfl) dL_count_4 ⟨by dsimp only [fR]; omega, by dsimp only [fR]; omega⟩) hw (fun r ad1 M1 H locs hp hw => ?_)
  obtain ⟨⟨A2, sf2, hC2, hL2⟩, hr, h0, er⟩ := hp
  rw [er]
  have hO1 : M1 3032 = some (oCell g f) := (hr 3032 (by omega) (by omega)).2.trans hO
  refine lv_i2l hx hb dL_count_7 rfl ?_
  refine f_adr3 (ad := ad1) (lb := 3032) (hr 3032 (by omega) (by omega)).1 ?_
  refine f_last X hw hO1 (by unfold vp_in; decide) dL_count_8 (fun H locs hw => ?_)
  rw [show (0 : Int32).toNatClampNeg = 0 from rfl] at hw
  have hw : fw g ad1 (fU M1 3032 (.inl (gJ g, 1, .inr (.inl (vp_updL f 0 v.toInt64))))) s H locs := hw
  have hO1 : (fU M1 3032 (.inl (gJ g, 1, .inr (.inl (vp_updL f 0 v.toInt64))))) 3032 = some (.inl (gJ g, 1, .inr (.inl (vp_updL f 0 v.toInt64)))) := fU_s
  refine lv_goto (tgt := 15) hx hb dL_count_9 (by decide) ?_
  refine lv_iconst (v := 0) hx hb dL_count_15 (by decide) ?_
  exact vx_ret (f_iret X hw ⟨⟨A2, sf2, isC_eq hC2 (fun l hl => ⟨rfl, fU_n (by omega)⟩), hL2⟩, fun l a b => ⟨(hr l (by omega) (by omega)).1, (fU_n (by omega)).trans (hr l (by omega) (by omega)).2⟩, ⟨h0, (hr 3032 (by omega) (by omega)).1⟩, fU_s, rfl⟩ (by omega) (by omega) dL_count_16)
set_option maxHeartbeats 4000000 in
set_option maxRecDepth 100000 in
theorem wr_count_x1 (l : Launch) (g : fG) (ad : Nat → Nat) (M : fM) {T A : fTn} {kf nf sf : Nat → Int32} (hC : isC g ad M T A kf nf sf) (hLe : leT A T) {f : Nat → Int64} (hO : M 3032 = some (oCell g f)) {a0 : Int32} {fr lo : Nat} (hX : fXt l g yX5_count cX5_count 2 (some .int) fr lo ad M [.ref (ad 0), .int a0] IOO ad M) (b1 : fr ≤ 9) (b2 : lo ≤ 225) : vx_Met l yL_count (fWsH yL_count cL_count 4 (some .int) [(0, 9, 12, 13)]) (fR 10 260 90 2200) (va_Pc [.ref (ad 0), .int a0, .ref (ad 3032)] (fSL g ad M)) (fQi g (fWr g ad M T kf nf 1 f)) fNX 90 2200 (fA g) := by
  refine f_bodyH (own := RL) (by decide +kernel) rfl (Nat.le_of_ble_eq_true rfl) ?_
  intro p e s m args below meth c ls X hnc ht hw hl
  have hx := X.1
  have hb := X.2.1
  have hM0 : M 0 = some (.inr (6, [.ref (ad 1), .ref (ad 1000), .ref (ad 2000)])) := hC.1
  have hl : lv_has ls 4 [(0, .ref (ad 0)), (1, .int a0), (2, .ref (ad 3032))] := hl
  refine lv_aload_n hx hb dL_count_0 rfl (lv_at hl 2 rfl) ?_
  refine lv_iconst (v := 0) hx hb dL_count_1 (by decide) ?_
  refine lv_aload_n hx hb dL_count_2 rfl (lv_at hl 0 rfl) ?_
  refine lv_iload_n hx hb dL_count_3 rfl (lv_at hl 1 rfl) ?_
  refine fk_c X (fxV X hw hX hM0 rfl wq758 kVX5_count ⟨by dsimp only [fR]; omega, by dsimp only [fR]; omega⟩ rfl hl.1 rfl (Nat.le_of_ble_eq_true rfl) dL_count_4 ⟨by dsimp only [fR]; omega, by dsimp only [fR]; omega⟩) hw [] ⟨0, 9, 12, 13⟩ [] (by rw [ht]; rfl) (fun z hz => absurd hz List.not_mem_nil) (by decide) (by decide) wq457 wn472 (fun q H locs hw => ?_)
  refine lv_astore_n (lv' := [(3, .ref q), (0, .ref (ad 0)), (1, .int a0), (2, .ref (ad 3032))]) hx hb dL_count_12 rfl hl (by decide) rfl (fun ls hl => ?_)
  refine lv_iconst (v := 1) hx hb dL_count_13 (by decide) ?_
  exact vx_ret (f_iret X hw ⟨⟨A, sf, hC, hLe⟩, fun l a b => ⟨rfl, rfl⟩, ⟨rfl, rfl⟩, hO, rfl⟩ (by omega) (by omega) dL_count_14)
set_option maxHeartbeats 4000000 in
set_option maxRecDepth 100000 in
theorem wr_foresee_ok (l : Launch) (g : fG) (ad : Nat → Nat) (M : fM) {T A : fTn} {kf nf sf : Nat → Int32} (hC : isC g ad M T A kf nf sf) {f : Nat → Int64} (hO : M 3032 = some (oCell g f)) {a0 a1 : Int32} {fr lo mcX msX : Nat} {T2 : fTn} {kf2 nf2 : Nat → Int32} {v : Int32} (hX : fCi l g yX5_foresee cX5_foresee 3 (some .int) fr lo mcX msX ad M [.ref (ad 0), .int a0, .int a1] (fCu g ad M T2 kf2 nf2 v)) (b1 : fr ≤ 9) (b2 : lo ≤ 225) (b3 : mcX ≤ 89) (b4 : msX ≤ 2190) : vx_Met l yL_foresee (fWsH yL_foresee cL_foresee 5 (some .int) [(0, 10, 13, 15), (0, 10, 17, 13)]) (fR 10 260 90 2200) (va_Pc [.ref (ad 0), .int a0, .int a1, .ref (ad 3032)] (fSL g ad M)) (fQi g (fWr g ad M T2 kf2 nf2 0 (vp_updL f 0 v.toInt64))) fNX 90 2200 (fA g) := by
  refine f_bodyH (own := RL) (by decide +kernel) rfl (Nat.le_of_ble_eq_true rfl) ?_
  intro p e s m args below meth c ls X hnc ht hw hl
  have hx := X.1
  have hb := X.2.1
  have hM0 : M 0 = some (.inr (6, [.ref (ad 1), .ref (ad 1000), .ref (ad 2000)])) := hC.1
  have hl : lv_has ls 5 [(0, .ref (ad 0)), (1, .int a0), (2, .int a1), (3, .ref (ad 3032))] := hl
  refine lv_aload_n hx hb dL_foresee_0 rfl (lv_at hl 3 rfl) ?_
  refine lv_iconst (v := 0) hx hb dL_foresee_1 (by decide) ?_
  refine lv_aload_n hx hb dL_foresee_2 rfl (lv_at hl 0 rfl) ?_
  refine lv_iload_n hx hb dL_foresee_3 rfl (lv_at hl 1 rfl) ?_
  refine lv_iload_n hx hb dL_foresee_4 rfl (lv_at hl 2 rfl) ?_
  refine fk_i (fcV X hw hX hM0 rfl wq765 kVX5_foresee ⟨by dsimp only [fR]; omega, by dsimp only [fR]; omega⟩ rfl hl.1 rfl (Nat.le_of_ble_eq_true rfl) dL_foresee_5 ⟨by dsimp only [fR]; omega, by dsimp only [fR]; omega⟩) hw (fun r ad1 M1 H locs hp hw => ?_)
  obtain ⟨⟨A2, sf2, hC2, hL2⟩, hr, h0, er⟩ := hp
  rw [er]
  have hO1 : M1 3032 = some (oCell g f) := (hr 3032 (by omega) (by omega)).2.trans hO
  refine lv_i2l hx hb dL_foresee_8 rfl ?_
  refine f_adr3 (ad := ad1) (lb := 3032) (hr 3032 (by omega) (by omega)).1 ?_
  refine f_last X hw hO1 (by unfold vp_in; decide) dL_foresee_9 (fun H locs hw => ?_)
  rw [show (0 : Int32).toNatClampNeg = 0 from rfl] at hw
  have hw : fw g ad1 (fU M1 3032 (.inl (gJ g, 1, .inr (.inl (vp_updL f 0 v.toInt64))))) s H locs := hw
  have hO1 : (fU M1 3032 (.inl (gJ g, 1, .inr (.inl (vp_updL f 0 v.toInt64))))) 3032 = some (.inl (gJ g, 1, .inr (.inl (vp_updL f 0 v.toInt64)))) := fU_s
  refine lv_goto (tgt := 21) hx hb dL_foresee_10 (by decide) ?_
  refine lv_iconst (v := 0) hx hb dL_foresee_21 (by decide) ?_
  exact vx_ret (f_iret X hw ⟨⟨A2, sf2, isC_eq hC2 (fun l hl => ⟨rfl, fU_n (by omega)⟩), hL2⟩, fun l a b => ⟨(hr l (by omega) (by omega)).1, (fU_n (by omega)).trans (hr l (by omega) (by omega)).2⟩, ⟨h0, (hr 3032 (by omega) (by omega)).1⟩, fU_s, rfl⟩ (by omega) (by omega) dL_foresee_22)
set_option maxHeartbeats 4000000 in
set_option maxRecDepth 100000 in
theorem wr_foresee_x1 (l : Launch) (g : fG) (ad : Nat → Nat) (M : fM) {T A : fTn} {kf nf sf : Nat → Int32} (hC : isC g ad M T A kf nf sf) (hLe : leT A T) {f : Nat → Int64} (hO : M 3032 = some (oCell g f)) {a0 a1 : Int32} {fr lo : Nat} (hX : fXt l g yX5_foresee cX5_foresee 3 (some .int) fr lo ad M [.ref (ad 0), .int a0, .int a1] IAE ad M) (b1 : fr ≤ 9) (b2 : lo ≤ 225) : vx_Met l yL_foresee (fWsH yL_foresee cL_foresee 5 (some .int) [(0, 10, 13, 15), (0, 10, 17, 13)]) (fR 10 260 90 2200) (va_Pc [.ref (ad 0), .int a0, .int a1, .ref (ad 3032)] (fSL g ad M)) (fQi g (fWr g ad M T kf nf 1 f)) fNX 90 2200 (fA g) := by
  refine f_bodyH (own := RL) (by decide +kernel) rfl (Nat.le_of_ble_eq_true rfl) ?_
  intro p e s m args below meth c ls X hnc ht hw hl
  have hx := X.1
  have hb := X.2.1
  have hM0 : M 0 = some (.inr (6, [.ref (ad 1), .ref (ad 1000), .ref (ad 2000)])) := hC.1
  have hl : lv_has ls 5 [(0, .ref (ad 0)), (1, .int a0), (2, .int a1), (3, .ref (ad 3032))] := hl
  refine lv_aload_n hx hb dL_foresee_0 rfl (lv_at hl 3 rfl) ?_
  refine lv_iconst (v := 0) hx hb dL_foresee_1 (by decide) ?_
  refine lv_aload_n hx hb dL_foresee_2 rfl (lv_at hl 0 rfl) ?_
  refine lv_iload_n hx hb dL_foresee_3 rfl (lv_at hl 1 rfl) ?_
  refine lv_iload_n hx hb dL_foresee_4 rfl (lv_at hl 2 rfl) ?_
  refine fk_c X (fxV X hw hX hM0 rfl wq765 kVX5_foresee ⟨by dsimp only [fR]; omega, by dsimp only [fR]; omega⟩ rfl hl.1 rfl (Nat.le_of_ble_eq_true rfl) dL_foresee_5 ⟨by dsimp only [fR]; omega, by dsimp only [fR]; omega⟩) hw [] ⟨0, 10, 13, 15⟩ [⟨0, 10, 17, 13⟩] (by rw [ht]; rfl) (fun z hz => absurd hz List.not_mem_nil) (by decide) (by decide) wq458 wn543 (fun q H locs hw => ?_)
  refine lv_astore (lv' := [(4, .ref q), (0, .ref (ad 0)), (1, .int a0), (2, .int a1), (3, .ref (ad 3032))]) hx hb dL_foresee_13 hl (by decide) rfl (fun ls hl => ?_)
  refine lv_iconst (v := 1) hx hb dL_foresee_15 (by decide) ?_
  exact vx_ret (f_iret X hw ⟨⟨A, sf, hC, hLe⟩, fun l a b => ⟨rfl, rfl⟩, ⟨rfl, rfl⟩, hO, rfl⟩ (by omega) (by omega) dL_foresee_16)
set_option maxHeartbeats 4000000 in
set_option maxRecDepth 100000 in
theorem wr_foresee_x2 (l : Launch) (g : fG) (ad : Nat → Nat) (M : fM) {T A : fTn} {kf nf sf : Nat → Int32} (hC : isC g ad M T A kf nf sf) (hLe : leT A T) {f : Nat → Int64} (hO : M 3032 = some (oCell g f)) {a0 a1 : Int32} {fr lo : Nat} (hX : fXt l g yX5_foresee cX5_foresee 3 (some .int) fr lo ad M [.ref (ad 0), .int a0, .int a1] IOO ad M) (b1 : fr ≤ 9) (b2 : lo ≤ 225) : vx_Met l yL_foresee (fWsH yL_foresee cL_foresee 5 (some .int) [(0, 10, 13, 15), (0, 10, 17, 13)]) (fR 10 260 90 2200) (va_Pc [.ref (ad 0), .int a0, .int a1, .ref (ad 3032)] (fSL g ad M)) (fQi g (fWr g ad M T kf nf 2 f)) fNX 90 2200 (fA g) := by
  refine f_bodyH (own := RL) (by decide +kernel) rfl (Nat.le_of_ble_eq_true rfl) ?_
  intro p e s m args below meth c ls X hnc ht hw hl
  have hx := X.1
  have hb := X.2.1
  have hM0 : M 0 = some (.inr (6, [.ref (ad 1), .ref (ad 1000), .ref (ad 2000)])) := hC.1
  have hl : lv_has ls 5 [(0, .ref (ad 0)), (1, .int a0), (2, .int a1), (3, .ref (ad 3032))] := hl
  refine lv_aload_n hx hb dL_foresee_0 rfl (lv_at hl 3 rfl) ?_
  refine lv_iconst (v := 0) hx hb dL_foresee_1 (by decide) ?_
  refine lv_aload_n hx hb dL_foresee_2 rfl (lv_at hl 0 rfl) ?_
  refine lv_iload_n hx hb dL_foresee_3 rfl (lv_at hl 1 rfl) ?_
  refine lv_iload_n hx hb dL_foresee_4 rfl (lv_at hl 2 rfl) ?_
  refine fk_c X (fxV X hw hX hM0 rfl wq765 kVX5_foresee ⟨by dsimp only [fR]; omega, by dsimp only [fR]; omega⟩ rfl hl.1 rfl (Nat.le_of_ble_eq_true rfl) dL_foresee_5 ⟨by dsimp only [fR]; omega, by dsimp only [fR]; omega⟩) hw [⟨0, 10, 13, 15⟩] ⟨0, 10, 17, 13⟩ [] (by rw [ht]; rfl) (fun z hz => by
        simp only [List.mem_cons, List.not_mem_nil, or_false] at hz
        rcases hz with rfl
        · exact Or.inr ⟨by decide, IAE, X.2.2.2.2.1 _ wq458, hnc.2.2.2⟩) (by decide) (by decide) wq457 wn472 (fun q H locs hw => ?_)
  refine lv_astore (lv' := [(4, .ref q), (0, .ref (ad 0)), (1, .int a0), (2, .int a1), (3, .ref (ad 3032))]) hx hb dL_foresee_17 hl (by decide) rfl (fun ls hl => ?_)
  refine lv_iconst (v := 2) hx hb dL_foresee_19 (by decide) ?_
  exact vx_ret (f_iret X hw ⟨⟨A, sf, hC, hLe⟩, fun l a b => ⟨rfl, rfl⟩, ⟨rfl, rfl⟩, hO, rfl⟩ (by omega) (by omega) dL_foresee_20)
set_option maxHeartbeats 4000000 in
set_option maxRecDepth 100000 in
theorem wr_weakest_ok (l : Launch) (g : fG) (ad : Nat → Nat) (M : fM) {T A : fTn} {kf nf sf : Nat → Int32} (hC : isC g ad M T A kf nf sf) {f : Nat → Int64} (hO : M 3032 = some (oCell g f)) {a0 : Int32} {fr lo mcX msX : Nat} {T2 : fTn} {kf2 nf2 : Nat → Int32} {v : Int32} (hX : fCi l g yX5_weakest cX5_weakest 7 (some .int) fr lo mcX msX ad M [.ref (ad 0), .int a0] (fCu g ad M T2 kf2 nf2 v)) (b1 : fr ≤ 9) (b2 : lo ≤ 225) (b3 : mcX ≤ 89) (b4 : msX ≤ 2190) : vx_Met l yL_weakest (fWsH yL_weakest cL_weakest 4 (some .int) [(0, 9, 12, 13)]) (fR 10 260 90 2200) (va_Pc [.ref (ad 0), .int a0, .ref (ad 3032)] (fSL g ad M)) (fQi g (fWr g ad M T2 kf2 nf2 0 (vp_updL f 0 v.toInt64))) fNX 90 2200 (fA g) := by
  refine f_bodyH (own := RL) (by decide +kernel) rfl (Nat.le_of_ble_eq_true rfl) ?_
  intro p e s m args below meth c ls X hnc ht hw hl
  have hx := X.1
  have hb := X.2.1
  have hM0 : M 0 = some (.inr (6, [.ref (ad 1), .ref (ad 1000), .ref (ad 2000)])) := hC.1
  have hl : lv_has ls 4 [(0, .ref (ad 0)), (1, .int a0), (2, .ref (ad 3032))] := hl
  refine lv_aload_n hx hb dL_weakest_0 rfl (lv_at hl 2 rfl) ?_
  refine lv_iconst (v := 0) hx hb dL_weakest_1 (by decide) ?_
  refine lv_aload_n hx hb dL_weakest_2 rfl (lv_at hl 0 rfl) ?_
  refine lv_iload_n hx hb dL_weakest_3 rfl (lv_at hl 1 rfl) ?_
  refine fk_i (fcV X hw hX hM0 rfl wq772 kVX5_weakest ⟨by dsimp only [fR]; omega, by dsimp only [fR]; omega⟩ rfl hl.1 rfl (Nat.le_of_ble_eq_true rfl) dL_weakest_4 ⟨by dsimp only [fR]; omega, by dsimp only [fR]; omega⟩) hw (fun r ad1 M1 H locs hp hw => ?_)
  obtain ⟨⟨A2, sf2, hC2, hL2⟩, hr, h0, er⟩ := hp
  rw [er]
  have hO1 : M1 3032 = some (oCell g f) := (hr 3032 (by omega) (by omega)).2.trans hO
  refine lv_i2l hx hb dL_weakest_7 rfl ?_
  refine f_adr3 (ad := ad1) (lb := 3032) (hr 3032 (by omega) (by omega)).1 ?_
  refine f_last X hw hO1 (by unfold vp_in; decide) dL_weakest_8 (fun H locs hw => ?_)
  rw [show (0 : Int32).toNatClampNeg = 0 from rfl] at hw
  have hw : fw g ad1 (fU M1 3032 (.inl (gJ g, 1, .inr (.inl (vp_updL f 0 v.toInt64))))) s H locs := hw
  have hO1 : (fU M1 3032 (.inl (gJ g, 1, .inr (.inl (vp_updL f 0 v.toInt64))))) 3032 = some (.inl (gJ g, 1, .inr (.inl (vp_updL f 0 v.toInt64)))) := fU_s
  refine lv_goto (tgt := 15) hx hb dL_weakest_9 (by decide) ?_
  refine lv_iconst (v := 0) hx hb dL_weakest_15 (by decide) ?_
  exact vx_ret (f_iret X hw ⟨⟨A2, sf2, isC_eq hC2 (fun l hl => ⟨rfl, fU_n (by omega)⟩), hL2⟩, fun l a b => ⟨(hr l (by omega) (by omega)).1, (fU_n (by omega)).trans (hr l (by omega) (by omega)).2⟩, ⟨h0, (hr 3032 (by omega) (by omega)).1⟩, fU_s, rfl⟩ (by omega) (by omega) dL_weakest_16)
set_option maxHeartbeats 4000000 in
set_option maxRecDepth 100000 in
theorem wr_weakest_x1 (l : Launch) (g : fG) (ad : Nat → Nat) (M : fM) {T A : fTn} {kf nf sf : Nat → Int32} (hC : isC g ad M T A kf nf sf) (hLe : leT A T) {f : Nat → Int64} (hO : M 3032 = some (oCell g f)) {a0 : Int32} {fr lo : Nat} (hX : fXt l g yX5_weakest cX5_weakest 7 (some .int) fr lo ad M [.ref (ad 0), .int a0] IOO ad M) (b1 : fr ≤ 9) (b2 : lo ≤ 225) : vx_Met l yL_weakest (fWsH yL_weakest cL_weakest 4 (some .int) [(0, 9, 12, 13)]) (fR 10 260 90 2200) (va_Pc [.ref (ad 0), .int a0, .ref (ad 3032)] (fSL g ad M)) (fQi g (fWr g ad M T kf nf 1 f)) fNX 90 2200 (fA g) := by
  refine f_bodyH (own := RL) (by decide +kernel) rfl (Nat.le_of_ble_eq_true rfl) ?_
  intro p e s m args below meth c ls X hnc ht hw hl
  have hx := X.1
  have hb := X.2.1
  have hM0 : M 0 = some (.inr (6, [.ref (ad 1), .ref (ad 1000), .ref (ad 2000)])) := hC.1
  have hl : lv_has ls 4 [(0, .ref (ad 0)), (1, .int a0), (2, .ref (ad 3032))] := hl
  refine lv_aload_n hx hb dL_weakest_0 rfl (lv_at hl 2 rfl) ?_
  refine lv_iconst (v := 0) hx hb dL_weakest_1 (by decide) ?_
  refine lv_aload_n hx hb dL_weakest_2 rfl (lv_at hl 0 rfl) ?_
  refine lv_iload_n hx hb dL_weakest_3 rfl (lv_at hl 1 rfl) ?_
  refine fk_c X (fxV X hw hX hM0 rfl wq772 kVX5_weakest ⟨by dsimp only [fR]; omega, by dsimp only [fR]; omega⟩ rfl hl.1 rfl (Nat.le_of_ble_eq_true rfl) dL_weakest_4 ⟨by dsimp only [fR]; omega, by dsimp only [fR]; omega⟩) hw [] ⟨0, 9, 12, 13⟩ [] (by rw [ht]; rfl) (fun z hz => absurd hz List.not_mem_nil) (by decide) (by decide) wq457 wn472 (fun q H locs hw => ?_)
  refine lv_astore_n (lv' := [(3, .ref q), (0, .ref (ad 0)), (1, .int a0), (2, .ref (ad 3032))]) hx hb dL_weakest_12 rfl hl (by decide) rfl (fun ls hl => ?_)
  refine lv_iconst (v := 1) hx hb dL_weakest_13 (by decide) ?_
  exact vx_ret (f_iret X hw ⟨⟨A, sf, hC, hLe⟩, fun l a b => ⟨rfl, rfl⟩, ⟨rfl, rfl⟩, hO, rfl⟩ (by omega) (by omega) dL_weakest_14)
set_option maxHeartbeats 4000000 in
set_option maxRecDepth 100000 in
theorem wr_advise_ok (l : Launch) (g : fG) (ad : Nat → Nat) (M : fM) {T A : fTn} {kf nf sf : Nat → Int32} (hC : isC g ad M T A kf nf sf) {f : Nat → Int64} (hO : M 3032 = some (oCell g f)) {a0 a1 : Int32} {fr lo mcX msX : Nat} {T2 : fTn} {kf2 nf2 : Nat → Int32} {v : Int32} (hX : fCi l g yX5_advise cX5_advise 10 (some .int) fr lo mcX msX ad M [.ref (ad 0), .int a0, .int a1] (fCu g ad M T2 kf2 nf2 v)) (b1 : fr ≤ 9) (b2 : lo ≤ 225) (b3 : mcX ≤ 89) (b4 : msX ≤ 2190) : vx_Met l yL_advise (fWsH yL_advise cL_advise 5 (some .int) [(0, 10, 13, 13), (0, 10, 17, 15)]) (fR 10 260 90 2200) (va_Pc [.ref (ad 0), .int a0, .int a1, .ref (ad 3032)] (fSL g ad M)) (fQi g (fWr g ad M T2 kf2 nf2 0 (vp_updL f 0 v.toInt64))) fNX 90 2200 (fA g) := by
  refine f_bodyH (own := RL) (by decide +kernel) rfl (Nat.le_of_ble_eq_true rfl) ?_
  intro p e s m args below meth c ls X hnc ht hw hl
  have hx := X.1
  have hb := X.2.1
  have hM0 : M 0 = some (.inr (6, [.ref (ad 1), .ref (ad 1000), .ref (ad 2000)])) := hC.1
  have hl : lv_has ls 5 [(0, .ref (ad 0)), (1, .int a0), (2, .int a1), (3, .ref (ad 3032))] := hl
  refine lv_aload_n hx hb dL_advise_0 rfl (lv_at hl 3 rfl) ?_
  refine lv_iconst (v := 0) hx hb dL_advise_1 (by decide) ?_
  refine lv_aload_n hx hb dL_advise_2 rfl (lv_at hl 0 rfl) ?_
  refine lv_iload_n hx hb dL_advise_3 rfl (lv_at hl 1 rfl) ?_
  refine lv_iload_n hx hb dL_advise_4 rfl (lv_at hl 2 rfl) ?_
  refine fk_i (fcV X hw hX hM0 rfl wq780 kVX5_advise ⟨by dsimp only [fR]; omega, by dsimp only [fR]; omega⟩ rfl hl.1 rfl (Nat.le_of_ble_eq_true rfl) dL_advise_5 ⟨by dsimp only [fR]; omega, by dsimp only [fR]; omega⟩) hw (fun r ad1 M1 H locs hp hw => ?_)
  obtain ⟨⟨A2, sf2, hC2, hL2⟩, hr, h0, er⟩ := hp
  rw [er]
  have hO1 : M1 3032 = some (oCell g f) := (hr 3032 (by omega) (by omega)).2.trans hO
  refine lv_i2l hx hb dL_advise_8 rfl ?_
  refine f_adr3 (ad := ad1) (lb := 3032) (hr 3032 (by omega) (by omega)).1 ?_
  refine f_last X hw hO1 (by unfold vp_in; decide) dL_advise_9 (fun H locs hw => ?_)
  rw [show (0 : Int32).toNatClampNeg = 0 from rfl] at hw
  have hw : fw g ad1 (fU M1 3032 (.inl (gJ g, 1, .inr (.inl (vp_updL f 0 v.toInt64))))) s H locs := hw
  have hO1 : (fU M1 3032 (.inl (gJ g, 1, .inr (.inl (vp_updL f 0 v.toInt64))))) 3032 = some (.inl (gJ g, 1, .inr (.inl (vp_updL f 0 v.toInt64)))) := fU_s
  refine lv_goto (tgt := 21) hx hb dL_advise_10 (by decide) ?_
  refine lv_iconst (v := 0) hx hb dL_advise_21 (by decide) ?_
  exact vx_ret (f_iret X hw ⟨⟨A2, sf2, isC_eq hC2 (fun l hl => ⟨rfl, fU_n (by omega)⟩), hL2⟩, fun l a b => ⟨(hr l (by omega) (by omega)).1, (fU_n (by omega)).trans (hr l (by omega) (by omega)).2⟩, ⟨h0, (hr 3032 (by omega) (by omega)).1⟩, fU_s, rfl⟩ (by omega) (by omega) dL_advise_22)
set_option maxHeartbeats 4000000 in
set_option maxRecDepth 100000 in
theorem wr_advise_x1 (l : Launch) (g : fG) (ad : Nat → Nat) (M : fM) {T A : fTn} {kf nf sf : Nat → Int32} (hC : isC g ad M T A kf nf sf) (hLe : leT A T) {f : Nat → Int64} (hO : M 3032 = some (oCell g f)) {a0 a1 : Int32} {fr lo : Nat} (hX : fXt l g yX5_advise cX5_advise 10 (some .int) fr lo ad M [.ref (ad 0), .int a0, .int a1] IOO ad M) (b1 : fr ≤ 9) (b2 : lo ≤ 225) : vx_Met l yL_advise (fWsH yL_advise cL_advise 5 (some .int) [(0, 10, 13, 13), (0, 10, 17, 15)]) (fR 10 260 90 2200) (va_Pc [.ref (ad 0), .int a0, .int a1, .ref (ad 3032)] (fSL g ad M)) (fQi g (fWr g ad M T kf nf 1 f)) fNX 90 2200 (fA g) := by
  refine f_bodyH (own := RL) (by decide +kernel) rfl (Nat.le_of_ble_eq_true rfl) ?_
  intro p e s m args below meth c ls X hnc ht hw hl
  have hx := X.1
  have hb := X.2.1
  have hM0 : M 0 = some (.inr (6, [.ref (ad 1), .ref (ad 1000), .ref (ad 2000)])) := hC.1
  have hl : lv_has ls 5 [(0, .ref (ad 0)), (1, .int a0), (2, .int a1), (3, .ref (ad 3032))] := hl
  refine lv_aload_n hx hb dL_advise_0 rfl (lv_at hl 3 rfl) ?_
  refine lv_iconst (v := 0) hx hb dL_advise_1 (by decide) ?_
  refine lv_aload_n hx hb dL_advise_2 rfl (lv_at hl 0 rfl) ?_
  refine lv_iload_n hx hb dL_advise_3 rfl (lv_at hl 1 rfl) ?_
  refine lv_iload_n hx hb dL_advise_4 rfl (lv_at hl 2 rfl) ?_
  refine fk_c X (fxV X hw hX hM0 rfl wq780 kVX5_advise ⟨by dsimp only [fR]; omega, by dsimp only [fR]; omega⟩ rfl hl.1 rfl (Nat.le_of_ble_eq_true rfl) dL_advise_5 ⟨by dsimp only [fR]; omega, by dsimp only [fR]; omega⟩) hw [] ⟨0, 10, 13, 13⟩ [⟨0, 10, 17, 15⟩] (by rw [ht]; rfl) (fun z hz => absurd hz List.not_mem_nil) (by decide) (by decide) wq457 wn472 (fun q H locs hw => ?_)
  refine lv_astore (lv' := [(4, .ref q), (0, .ref (ad 0)), (1, .int a0), (2, .int a1), (3, .ref (ad 3032))]) hx hb dL_advise_13 hl (by decide) rfl (fun ls hl => ?_)
  refine lv_iconst (v := 1) hx hb dL_advise_15 (by decide) ?_
  exact vx_ret (f_iret X hw ⟨⟨A, sf, hC, hLe⟩, fun l a b => ⟨rfl, rfl⟩, ⟨rfl, rfl⟩, hO, rfl⟩ (by omega) (by omega) dL_advise_16)
set_option maxHeartbeats 4000000 in
set_option maxRecDepth 100000 in
theorem wr_advise_x2 (l : Launch) (g : fG) (ad : Nat → Nat) (M : fM) {T A : fTn} {kf nf sf : Nat → Int32} (hC : isC g ad M T A kf nf sf) (hLe : leT A T) {f : Nat → Int64} (hO : M 3032 = some (oCell g f)) {a0 a1 : Int32} {fr lo : Nat} (hX : fXt l g yX5_advise cX5_advise 10 (some .int) fr lo ad M [.ref (ad 0), .int a0, .int a1] IAE ad M) (b1 : fr ≤ 9) (b2 : lo ≤ 225) : vx_Met l yL_advise (fWsH yL_advise cL_advise 5 (some .int) [(0, 10, 13, 13), (0, 10, 17, 15)]) (fR 10 260 90 2200) (va_Pc [.ref (ad 0), .int a0, .int a1, .ref (ad 3032)] (fSL g ad M)) (fQi g (fWr g ad M T kf nf 2 f)) fNX 90 2200 (fA g) := by
  refine f_bodyH (own := RL) (by decide +kernel) rfl (Nat.le_of_ble_eq_true rfl) ?_
  intro p e s m args below meth c ls X hnc ht hw hl
  have hx := X.1
  have hb := X.2.1
  have hM0 : M 0 = some (.inr (6, [.ref (ad 1), .ref (ad 1000), .ref (ad 2000)])) := hC.1
  have hl : lv_has ls 5 [(0, .ref (ad 0)), (1, .int a0), (2, .int a1), (3, .ref (ad 3032))] := hl
  refine lv_aload_n hx hb dL_advise_0 rfl (lv_at hl 3 rfl) ?_
  refine lv_iconst (v := 0) hx hb dL_advise_1 (by decide) ?_
  refine lv_aload_n hx hb dL_advise_2 rfl (lv_at hl 0 rfl) ?_
  refine lv_iload_n hx hb dL_advise_3 rfl (lv_at hl 1 rfl) ?_
  refine lv_iload_n hx hb dL_advise_4 rfl (lv_at hl 2 rfl) ?_
  refine fk_c X (fxV X hw hX hM0 rfl wq780 kVX5_advise ⟨by dsimp only [fR]; omega, by dsimp only [fR]; omega⟩ rfl hl.1 rfl (Nat.le_of_ble_eq_true rfl) dL_advise_5 ⟨by dsimp only [fR]; omega, by dsimp only [fR]; omega⟩) hw [⟨0, 10, 13, 13⟩] ⟨0, 10, 17, 15⟩ [] (by rw [ht]; rfl) (fun z hz => by
        simp only [List.mem_cons, List.not_mem_nil, or_false] at hz
        rcases hz with rfl
        · exact Or.inr ⟨by decide, IOO, X.2.2.2.2.1 _ wq457, hnc.1⟩) (by decide) (by decide) wq458 wn543 (fun q H locs hw => ?_)
  refine lv_astore (lv' := [(4, .ref q), (0, .ref (ad 0)), (1, .int a0), (2, .int a1), (3, .ref (ad 3032))]) hx hb dL_advise_17 hl (by decide) rfl (fun ls hl => ?_)
  refine lv_iconst (v := 2) hx hb dL_advise_19 (by decide) ?_
  exact vx_ret (f_iret X hw ⟨⟨A, sf, hC, hLe⟩, fun l a b => ⟨rfl, rfl⟩, ⟨rfl, rfl⟩, hO, rfl⟩ (by omega) (by omega) dL_advise_20)
