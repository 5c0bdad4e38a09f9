/-! the law's cases, each with the answers given -/
def lLoc (ad : Nat → Nat) (b i : Nat) : List (Nat × Value) := [(4, .int (nI i)), (0, .ref b), (1, .ref (ad 0)), (2, .ref (ad 5)), (3, .ref (ad 32))]
/-- what is owed behind a case: the law at 1459, in any world of the town T2 -/
def LN (p : Program) (l : Launch) (e : Env) (s : State) (m : MethodId) (args : Array Value) (below : List Frame) (meth : Method) (c : Code) (Q : State → Prop) (g : fG) (b i cells slots : Nat) (T2 : fTn) (kf2 nf2 : Nat → Int32) : Prop :=
  ∀ (ad1 : Nat → Nat) (M1 : fM) (H1 : Heap) (locs1 : List Loc) (ls1 : Array Slot) (A2 : fTn) (sf2 : Nat → Int32) (th2 : Int32) (U2 : fTn) (sp2 ca2 : Nat → Int32) (f2 : Nat → Int64), isC g ad1 M1 T2 A2 kf2 nf2 sf2 → leT A2 T2 → isMo g ad1 M1 th2 U2 sp2 ca2 → simT U2 T2 → M1 32 = some (oCell g f2) → fw g ad1 M1 s H1 locs1 → lv_has ls1 9 (lLoc ad1 b i) → W p l e room_1 s m args below meth c H1 locs1 (cells + 130) (slots + 2600) Q (F0 m 1459 ls1 [])
set_option maxHeartbeats 4000000 in
set_option maxRecDepth 100000 in
theorem sg_build {p : Program} {l : Launch} {e : Env} {s : State} {m : MethodId} {args : Array Value} {below : List Frame} {meth : Method} {c : Code} {H : Heap} {locs : List Loc} {cells slots : Nat} {Q : State → Prop} {g : fG} {ad : Nat → Nat} {M : fM} {ls : Array Slot} {b L i : Nat} {xs : Nat → Int32} (X : fX p s m args meth c code 9 ret RL g) (hnc : xNc s) (hXs : va_X b L xs s s.heap) (hbl : b < s.heap.size) (hbA : ¬ fA g b) (hL : L ≤ 2560) (hi : i + 5 ≤ L) (hw : fw g ad M s H locs) (hl : lv_has ls 9 (lLoc ad b i)) (hcl : cells + 130 ≤ 601024 ∧ slots + 2600 ≤ 7293034) {th : Int32} {U : fTn} {sp ca : Nat → Int32} (hM : isMo g ad M th U sp ca) {k b2 : Int32} {f2 : Nat → Int64} {T2 : fTn} {kf2 nf2 : Nat → Int32} {fr2 lo2 mc2 ms2 : Nat}
    (hWr : vx_Met l yL_build (fWsH yL_build cL_build 7 (some .int) [(0, 14, 17, 13), (0, 14, 21, 15), (0, 14, 25, 17)]) (fR 10 260 90 2200) (va_Pc [.ref (cAd ad 0), .int (xs (i + 1)), .int (xs (i + 2)), .int (xs (i + 3)), .int (xs (i + 4)), .ref (cAd ad 3032)] (fSL g (cAd ad) (cMp M))) (fQi g (fWr g (cAd ad) (cMp M) T2 kf2 nf2 k f2)) fNX 90 2200 (fA g))
    (hRf : ∀ (ad1 : Nat → Nat) (M1 : fM), isMo g ad1 M1 th U sp ca → fCi l g yX6_build cX6_build 6 (some .int) fr2 lo2 mc2 ms2 ad1 M1 [.ref (ad1 5), .int (xs (i + 1)), .int (xs (i + 2)), .int (xs (i + 3)), .int (xs (i + 4))] (fRp g ad1 M1 T2 k b2)) (q1 : fr2 ≤ 8) (q2 : lo2 ≤ 190) (q3 : mc2 ≤ 35) (q4 : ms2 ≤ 395) (hkb : k = 0 → f2 0 = b2.toInt64)
    (K : LN p l e s m args below meth c Q g b i cells slots T2 kf2 nf2) : W p l e room_1 s m args below meth c H locs cells slots Q (F0 m 136 ls []) := by
  have hx := X.1
  have hb := X.2.1
  have hl : lv_has ls 9 [(4, .int (nI i)), (0, .ref b), (1, .ref (ad 0)), (2, .ref (ad 5)), (3, .ref (ad 32))] := hl
  refine lv_aload_n hx hb dL_law_136 rfl (lv_at hl 2 rfl) ?_
  refine lv_aload_n hx hb dL_law_137 rfl (lv_at hl 1 rfl) ?_
  refine lv_iload hx hb dL_law_138 (lv_at hl 0 rfl) ?_
  refine lv_iconst (v := 1) hx hb dL_law_140 (by decide) ?_
  refine lv_iadd hx hb dL_law_141 ?_
  refine f_top (y := nI (i + 1)) (show nI i + nI 1 = nI (i + 1) from nI_add i 1) ?_
  refine va_sld hx hb hXs hbl hbA hw.2 (vp_in_nI (n := i + 1) (by omega) (by omega)) dL_law_142 ?_
  rw [nI_clamp (n := i + 1) (by omega)]
  refine lv_aload_n hx hb dL_law_143 rfl (lv_at hl 1 rfl) ?_
  refine lv_iload hx hb dL_law_144 (lv_at hl 0 rfl) ?_
  refine lv_iconst (v := 2) hx hb dL_law_146 (by decide) ?_
  refine lv_iadd hx hb dL_law_147 ?_
  refine f_top (y := nI (i + 2)) (show nI i + nI 2 = nI (i + 2) from nI_add i 2) ?_
  refine va_sld hx hb hXs hbl hbA hw.2 (vp_in_nI (n := i + 2) (by omega) (by omega)) dL_law_148 ?_
  rw [nI_clamp (n := i + 2) (by omega)]
  refine lv_aload_n hx hb dL_law_149 rfl (lv_at hl 1 rfl) ?_
  refine lv_iload hx hb dL_law_150 (lv_at hl 0 rfl) ?_
  refine lv_iconst (v := 3) hx hb dL_law_152 (by decide) ?_
  refine lv_iadd hx hb dL_law_153 ?_
  refine f_top (y := nI (i + 3)) (show nI i + nI 3 = nI (i + 3) from nI_add i 3) ?_
  refine va_sld hx hb hXs hbl hbA hw.2 (vp_in_nI (n := i + 3) (by omega) (by omega)) dL_law_154 ?_
  rw [nI_clamp (n := i + 3) (by omega)]
  refine lv_aload_n hx hb dL_law_155 rfl (lv_at hl 1 rfl) ?_
  refine lv_iload hx hb dL_law_156 (lv_at hl 0 rfl) ?_
  refine lv_iconst (v := 4) hx hb dL_law_158 (by decide) ?_
  refine lv_iadd hx hb dL_law_159 ?_
  refine f_top (y := nI (i + 4)) (show nI i + nI 4 = nI (i + 4) from nI_add i 4) ?_
  refine va_sld hx hb hXs hbl hbA hw.2 (vp_in_nI (n := i + 4) (by omega) (by omega)) dL_law_160 ?_
  rw [nI_clamp (n := i + 4) (by omega)]
  refine lv_aload_n hx hb dL_law_161 rfl (lv_at hl 4 rfl) ?_
  refine k_wr (n := 6) X hnc hw hWr wq454 wq455 wq456 wq0 (by decide +kernel) ⟨(Nat.le_of_ble_eq_true rfl), (Nat.le_of_ble_eq_true rfl)⟩ rfl hl.1 rfl (Nat.le_of_ble_eq_true rfl) dL_law_162 ⟨by show cells + 90 ≤ 601024; omega, by show slots + 2200 ≤ 7293034; omega⟩ (fun ad1 M1 H locs A2 sf2 hC2 hL2 h1 h0 h3 hO hw => ?_)
  refine lv_istore (lv' := [(5, .int k), (4, .int (nI i)), (0, .ref b), (1, .ref (ad 0)), (2, .ref (ad 5)), (3, .ref (ad 32))]) hx hb dL_law_165 hl (by decide) rfl (fun ls hl => ?_)
  have hM1 : isMo g ad1 M1 th U sp ca := isMo_eq hM (fun q a b9 => h1 q a (by omega))
  have e5 : ad1 5 = ad 5 := (h1 5 (by omega) (by omega)).1
  obtain ⟨_, _, _, _, _, _, _, hMo, -⟩ := id hM1
  unfold mObj at hMo
  refine lv_aload_n hx hb dL_law_167 rfl (lv_at hl 4 rfl) ?_
  refine lv_aload_n hx hb dL_law_168 rfl (lv_at hl 2 rfl) ?_
  refine lv_iload hx hb dL_law_169 (lv_at hl 1 rfl) ?_
  refine lv_iconst (v := 1) hx hb dL_law_171 (by decide) ?_
  refine lv_iadd hx hb dL_law_172 ?_
  refine f_top (y := nI (i + 1)) (show nI i + nI 1 = nI (i + 1) from nI_add i 1) ?_
  refine va_sld hx hb hXs hbl hbA hw.2 (vp_in_nI (n := i + 1) (by omega) (by omega)) dL_law_173 ?_
  rw [nI_clamp (n := i + 1) (by omega)]
  refine lv_aload_n hx hb dL_law_174 rfl (lv_at hl 2 rfl) ?_
  refine lv_iload hx hb dL_law_175 (lv_at hl 1 rfl) ?_
  refine lv_iconst (v := 2) hx hb dL_law_177 (by decide) ?_
  refine lv_iadd hx hb dL_law_178 ?_
  refine f_top (y := nI (i + 2)) (show nI i + nI 2 = nI (i + 2) from nI_add i 2) ?_
  refine va_sld hx hb hXs hbl hbA hw.2 (vp_in_nI (n := i + 2) (by omega) (by omega)) dL_law_179 ?_
  rw [nI_clamp (n := i + 2) (by omega)]
  refine lv_aload_n hx hb dL_law_180 rfl (lv_at hl 2 rfl) ?_
  refine lv_iload hx hb dL_law_181 (lv_at hl 1 rfl) ?_
  refine lv_iconst (v := 3) hx hb dL_law_183 (by decide) ?_
  refine lv_iadd hx hb dL_law_184 ?_
  refine f_top (y := nI (i + 3)) (show nI i + nI 3 = nI (i + 3) from nI_add i 3) ?_
  refine va_sld hx hb hXs hbl hbA hw.2 (vp_in_nI (n := i + 3) (by omega) (by omega)) dL_law_185 ?_
  rw [nI_clamp (n := i + 3) (by omega)]
  refine lv_aload_n hx hb dL_law_186 rfl (lv_at hl 2 rfl) ?_
  refine lv_iload hx hb dL_law_187 (lv_at hl 1 rfl) ?_
  refine lv_iconst (v := 4) hx hb dL_law_189 (by decide) ?_
  refine lv_iadd hx hb dL_law_190 ?_
  refine f_top (y := nI (i + 4)) (show nI i + nI 4 = nI (i + 4) from nI_add i 4) ?_
  refine va_sld hx hb hXs hbl hbA hw.2 (vp_in_nI (n := i + 4) (by omega) (by omega)) dL_law_191 ?_
  rw [nI_clamp (n := i + 4) (by omega)]
  refine fk_i (fcV X hw (hRf ad1 M1 hM1) hMo rfl wq839 kVX6_build ⟨by show fr2 + 1 ≤ 13; omega, by show 8 + (6 + 11) + lo2 ≤ 506; omega⟩ rfl hl.1 (by rw [e5]; rfl) (Nat.le_of_ble_eq_true rfl) dL_law_192 ⟨by show cells + 90 + mc2 ≤ 601024; omega, by show slots + 2200 + ms2 ≤ 7293034; omega⟩) hw (fun r ad2 M2 H locs hp hw => ?_)
  obtain ⟨⟨U2, sp2, ca2, hs2, hM2⟩, hr2, h52, er⟩ := hp
  rw [er]
  obtain ⟨hC3, hO3, h03, h33⟩ := rest_w hC2 hO hr2
  refine lv_istore (lv' := [(6, .int b2), (5, .int k), (4, .int (nI i)), (0, .ref b), (1, .ref (ad 0)), (2, .ref (ad 5)), (3, .ref (ad 32))]) hx hb dL_law_195 hl (by decide) rfl (fun ls hl => ?_)
  obtain ⟨_, _, _, _, _, _, _, hMo2, -⟩ := id hM2
  unfold mObj at hMo2
  refine lv_aload_n hx hb dL_law_197 rfl (lv_at hl 5 rfl) ?_
  refine fk_di (fcV X hw (c_thrown l g ad2 M2 hM2) hMo2 rfl wq835 kVX6_thrown ⟨(Nat.le_of_ble_eq_true rfl), (Nat.le_of_ble_eq_true rfl)⟩ rfl hl.1 (by rw [h52, e5]; rfl) (Nat.le_of_ble_eq_true rfl) dL_law_198 ⟨by show cells + 90 + mc2 + 0 ≤ 601024; omega, by show slots + 2200 + ms2 + 0 ≤ 7293034; omega⟩) hw (fun H locs hw => ?_)
  refine lv_iload hx hb dL_law_201 (lv_at hl 1 rfl) ?_
  refine lv_icmp_eq (tgt := 208) hx hb dL_law_203 (by decide) (fun c1 => ?_) (fun c1 => absurd rfl c1)
  refine lv_iload hx hb dL_law_208 (lv_at hl 1 rfl) ?_
  refine lv_if_ne (tgt := 225) hx hb dL_law_210 (by decide) (fun c2 => ?_) (fun c2 => ?_)
  · refine lv_goto (tgt := 1459) hx hb dL_law_225 (by decide) ?_
    exact W.widen (k := cells + 130) (n := slots + 2600) (by omega) (by omega) (K ad2 M2 H locs ls A2 sf2 _ U2 sp2 ca2 _ hC3 hL2 hM2 hs2 hO3 hw (by unfold lLoc; rw [h03, h0, h52, e5, h33, h3]; exact lv_sub hl [2, 3, 4, 5, 6] rfl))
  · refine lv_aload_n hx hb dL_law_213 rfl (lv_at hl 6 rfl) ?_
    refine lv_iconst (v := 0) hx hb dL_law_214 (by decide) ?_
    refine f_adr2 (ad := ad2) (lb := 32) (h33.trans h3) ?_
    refine f_lald X hw hO3 (by unfold vp_in; decide) dL_law_215 ?_
    rw [show (0 : Int32).toNatClampNeg = 0 from rfl]
    refine lv_iload hx hb dL_law_216 (lv_at hl 0 rfl) ?_
    refine lv_i2l hx hb dL_law_218 rfl ?_
    refine W.lcmp hx hb dL_law_219 ?_
    refine lv_if_eq (tgt := 225) hx hb dL_law_220 (by decide) (fun c3 => ?_) (fun c3 => absurd ((lg_cmp_eq _ _).mpr (hkb c2)) c3)
    refine lv_goto (tgt := 1459) hx hb dL_law_225 (by decide) ?_
    exact W.widen (k := cells + 130) (n := slots + 2600) (by omega) (by omega) (K ad2 M2 H locs ls A2 sf2 _ U2 sp2 ca2 _ hC3 hL2 hM2 hs2 hO3 hw (by unfold lLoc; rw [h03, h0, h52, e5, h33, h3]; exact lv_sub hl [2, 3, 4, 5, 6] rfl))
set_option maxHeartbeats 4000000 in
set_option maxRecDepth 100000 in
theorem sg_dig {p : Program} {l : Launch} {e : Env} {s : State} {m : MethodId} {args : Array Value} {below : List Frame} {meth : Method} {c : Code} {H : Heap} {locs : List Loc} {cells slots : Nat} {Q : State → Prop} {g : fG} {ad : Nat → Nat} {M : fM} {ls : Array Slot} {b L i : Nat} {xs : Nat → Int32} (X : fX p s m args meth c code 9 ret RL g) (hnc : xNc s) (hXs : va_X b L xs s s.heap) (hbl : b < s.heap.size) (hbA : ¬ fA g b) (hL : L ≤ 2560) (hi : i + 5 ≤ L) (hw : fw g ad M s H locs) (hl : lv_has ls 9 (lLoc ad b i)) (hcl : cells + 130 ≤ 601024 ∧ slots + 2600 ≤ 7293034) {th : Int32} {U : fTn} {sp ca : Nat → Int32} (hM : isMo g ad M th U sp ca) {k b2 : Int32} {f2 : Nat → Int64} {T2 : fTn} {kf2 nf2 : Nat → Int32} {fr2 lo2 mc2 ms2 : Nat}
    (hWr : vx_Met l yL_dig (fWsH yL_dig cL_dig 6 (some .int) [(0, 12, 15, 13), (0, 12, 19, 15), (0, 12, 23, 17)]) (fR 10 260 90 2200) (va_Pc [.ref (cAd ad 0), .int (xs (i + 1)), .int (xs (i + 2)), .int (xs (i + 3)), .ref (cAd ad 3032)] (fSL g (cAd ad) (cMp M))) (fQi g (fWr g (cAd ad) (cMp M) T2 kf2 nf2 k f2)) fNX 90 2200 (fA g))
    (hRf : ∀ (ad1 : Nat → Nat) (M1 : fM), isMo g ad1 M1 th U sp ca → fCi l g yX6_dig cX6_dig 4 (some .int) fr2 lo2 mc2 ms2 ad1 M1 [.ref (ad1 5), .int (xs (i + 1)), .int (xs (i + 2)), .int (xs (i + 3))] (fRp g ad1 M1 T2 k b2)) (q1 : fr2 ≤ 8) (q2 : lo2 ≤ 190) (q3 : mc2 ≤ 35) (q4 : ms2 ≤ 395) (hkb : k = 0 → f2 0 = b2.toInt64)
    (K : LN p l e s m args below meth c Q g b i cells slots T2 kf2 nf2) : W p l e room_1 s m args below meth c H locs cells slots Q (F0 m 228 ls []) := by
  have hx := X.1
  have hb := X.2.1
  have hl : lv_has ls 9 [(4, .int (nI i)), (0, .ref b), (1, .ref (ad 0)), (2, .ref (ad 5)), (3, .ref (ad 32))] := hl
  refine lv_aload_n hx hb dL_law_228 rfl (lv_at hl 2 rfl) ?_
  refine lv_aload_n hx hb dL_law_229 rfl (lv_at hl 1 rfl) ?_
  refine lv_iload hx hb dL_law_230 (lv_at hl 0 rfl) ?_
  refine lv_iconst (v := 1) hx hb dL_law_232 (by decide) ?_
  refine lv_iadd hx hb dL_law_233 ?_
  refine f_top (y := nI (i + 1)) (show nI i + nI 1 = nI (i + 1) from nI_add i 1) ?_
  refine va_sld hx hb hXs hbl hbA hw.2 (vp_in_nI (n := i + 1) (by omega) (by omega)) dL_law_234 ?_
  rw [nI_clamp (n := i + 1) (by omega)]
  refine lv_aload_n hx hb dL_law_235 rfl (lv_at hl 1 rfl) ?_
  refine lv_iload hx hb dL_law_236 (lv_at hl 0 rfl) ?_
  refine lv_iconst (v := 2) hx hb dL_law_238 (by decide) ?_
  refine lv_iadd hx hb dL_law_239 ?_
  refine f_top (y := nI (i + 2)) (show nI i + nI 2 = nI (i + 2) from nI_add i 2) ?_
  refine va_sld hx hb hXs hbl hbA hw.2 (vp_in_nI (n := i + 2) (by omega) (by omega)) dL_law_240 ?_
  rw [nI_clamp (n := i + 2) (by omega)]
  refine lv_aload_n hx hb dL_law_241 rfl (lv_at hl 1 rfl) ?_
  refine lv_iload hx hb dL_law_242 (lv_at hl 0 rfl) ?_
  refine lv_iconst (v := 3) hx hb dL_law_244 (by decide) ?_
  refine lv_iadd hx hb dL_law_245 ?_
  refine f_top (y := nI (i + 3)) (show nI i + nI 3 = nI (i + 3) from nI_add i 3) ?_
  refine va_sld hx hb hXs hbl hbA hw.2 (vp_in_nI (n := i + 3) (by omega) (by omega)) dL_law_246 ?_
  rw [nI_clamp (n := i + 3) (by omega)]
  refine lv_aload_n hx hb dL_law_247 rfl (lv_at hl 4 rfl) ?_
  refine k_wr (n := 5) X hnc hw hWr wq606 wq607 wq608 wq0 (by decide +kernel) ⟨(Nat.le_of_ble_eq_true rfl), (Nat.le_of_ble_eq_true rfl)⟩ rfl hl.1 rfl (Nat.le_of_ble_eq_true rfl) dL_law_248 ⟨by show cells + 90 ≤ 601024; omega, by show slots + 2200 ≤ 7293034; omega⟩ (fun ad1 M1 H locs A2 sf2 hC2 hL2 h1 h0 h3 hO hw => ?_)
  refine lv_istore (lv' := [(5, .int k), (4, .int (nI i)), (0, .ref b), (1, .ref (ad 0)), (2, .ref (ad 5)), (3, .ref (ad 32))]) hx hb dL_law_251 hl (by decide) rfl (fun ls hl => ?_)
  have hM1 : isMo g ad1 M1 th U sp ca := isMo_eq hM (fun q a b9 => h1 q a (by omega))
  have e5 : ad1 5 = ad 5 := (h1 5 (by omega) (by omega)).1
  obtain ⟨_, _, _, _, _, _, _, hMo, -⟩ := id hM1
  unfold mObj at hMo
  refine lv_aload_n hx hb dL_law_253 rfl (lv_at hl 4 rfl) ?_
  refine lv_aload_n hx hb dL_law_254 rfl (lv_at hl 2 rfl) ?_
  refine lv_iload hx hb dL_law_255 (lv_at hl 1 rfl) ?_
  refine lv_iconst (v := 1) hx hb dL_law_257 (by decide) ?_
  refine lv_iadd hx hb dL_law_258 ?_
  refine f_top (y := nI (i + 1)) (show nI i + nI 1 = nI (i + 1) from nI_add i 1) ?_
  refine va_sld hx hb hXs hbl hbA hw.2 (vp_in_nI (n := i + 1) (by omega) (by omega)) dL_law_259 ?_
  rw [nI_clamp (n := i + 1) (by omega)]
  refine lv_aload_n hx hb dL_law_260 rfl (lv_at hl 2 rfl) ?_
  refine lv_iload hx hb dL_law_261 (lv_at hl 1 rfl) ?_
  refine lv_iconst (v := 2) hx hb dL_law_263 (by decide) ?_
  refine lv_iadd hx hb dL_law_264 ?_
  refine f_top (y := nI (i + 2)) (show nI i + nI 2 = nI (i + 2) from nI_add i 2) ?_
  refine va_sld hx hb hXs hbl hbA hw.2 (vp_in_nI (n := i + 2) (by omega) (by omega)) dL_law_265 ?_
  rw [nI_clamp (n := i + 2) (by omega)]
  refine lv_aload_n hx hb dL_law_266 rfl (lv_at hl 2 rfl) ?_
  refine lv_iload hx hb dL_law_267 (lv_at hl 1 rfl) ?_
  refine lv_iconst (v := 3) hx hb dL_law_269 (by decide) ?_
  refine lv_iadd hx hb dL_law_270 ?_
  refine f_top (y := nI (i + 3)) (show nI i + nI 3 = nI (i + 3) from nI_add i 3) ?_
  refine va_sld hx hb hXs hbl hbA hw.2 (vp_in_nI (n := i + 3) (by omega) (by omega)) dL_law_271 ?_
  rw [nI_clamp (n := i + 3) (by omega)]
  refine fk_i (fcV X hw (hRf ad1 M1 hM1) hMo rfl wq878 kVX6_dig ⟨by show fr2 + 1 ≤ 13; omega, by show 8 + (4 + 11) + lo2 ≤ 506; omega⟩ rfl hl.1 (by rw [e5]; rfl) (Nat.le_of_ble_eq_true rfl) dL_law_272 ⟨by show cells + 90 + mc2 ≤ 601024; omega, by show slots + 2200 + ms2 ≤ 7293034; omega⟩) hw (fun r ad2 M2 H locs hp hw => ?_)
  obtain ⟨⟨U2, sp2, ca2, hs2, hM2⟩, hr2, h52, er⟩ := hp
  rw [er]
  obtain ⟨hC3, hO3, h03, h33⟩ := rest_w hC2 hO hr2
  refine lv_istore (lv' := [(6, .int b2), (5, .int k), (4, .int (nI i)), (0, .ref b), (1, .ref (ad 0)), (2, .ref (ad 5)), (3, .ref (ad 32))]) hx hb dL_law_275 hl (by decide) rfl (fun ls hl => ?_)
  obtain ⟨_, _, _, _, _, _, _, hMo2, -⟩ := id hM2
  unfold mObj at hMo2
  refine lv_aload_n hx hb dL_law_277 rfl (lv_at hl 5 rfl) ?_
  refine fk_di (fcV X hw (c_thrown l g ad2 M2 hM2) hMo2 rfl wq835 kVX6_thrown ⟨(Nat.le_of_ble_eq_true rfl), (Nat.le_of_ble_eq_true rfl)⟩ rfl hl.1 (by rw [h52, e5]; rfl) (Nat.le_of_ble_eq_true rfl) dL_law_278 ⟨by show cells + 90 + mc2 + 0 ≤ 601024; omega, by show slots + 2200 + ms2 + 0 ≤ 7293034; omega⟩) hw (fun H locs hw => ?_)
  refine lv_iload hx hb dL_law_281 (lv_at hl 1 rfl) ?_
  refine lv_icmp_eq (tgt := 288) hx hb dL_law_283 (by decide) (fun c1 => ?_) (fun c1 => absurd rfl c1)
  refine lv_iload hx hb dL_law_288 (lv_at hl 1 rfl) ?_
  refine lv_if_ne (tgt := 305) hx hb dL_law_290 (by decide) (fun c2 => ?_) (fun c2 => ?_)
  · refine lv_goto (tgt := 1459) hx hb dL_law_305 (by decide) ?_
    exact W.widen (k := cells + 130) (n := slots + 2600) (by omega) (by omega) (K ad2 M2 H locs ls A2 sf2 _ U2 sp2 ca2 _ hC3 hL2 hM2 hs2 hO3 hw (by unfold lLoc; rw [h03, h0, h52, e5, h33, h3]; exact lv_sub hl [2, 3, 4, 5, 6] rfl))
  · refine lv_aload_n hx hb dL_law_293 rfl (lv_at hl 6 rfl) ?_
    refine lv_iconst (v := 0) hx hb dL_law_294 (by decide) ?_
    refine f_adr2 (ad := ad2) (lb := 32) (h33.trans h3) ?_
    refine f_lald X hw hO3 (by unfold vp_in; decide) dL_law_295 ?_
    rw [show (0 : Int32).toNatClampNeg = 0 from rfl]
    refine lv_iload hx hb dL_law_296 (lv_at hl 0 rfl) ?_
    refine lv_i2l hx hb dL_law_298 rfl ?_
    refine W.lcmp hx hb dL_law_299 ?_
    refine lv_if_eq (tgt := 305) hx hb dL_law_300 (by decide) (fun c3 => ?_) (fun c3 => absurd ((lg_cmp_eq _ _).mpr (hkb c2)) c3)
    refine lv_goto (tgt := 1459) hx hb dL_law_305 (by decide) ?_
    exact W.widen (k := cells + 130) (n := slots + 2600) (by omega) (by omega) (K ad2 M2 H locs ls A2 sf2 _ U2 sp2 ca2 _ hC3 hL2 hM2 hs2 hO3 hw (by unfold lLoc; rw [h03, h0, h52, e5, h33, h3]; exact lv_sub hl [2, 3, 4, 5, 6] rfl))
set_option maxHeartbeats 4000000 in
set_option maxRecDepth 100000 in
theorem sg_light {p : Program} {l : Launch} {e : Env} {s : State} {m : MethodId} {args : Array Value} {below : List Frame} {meth : Method} {c : Code} {H : Heap} {locs : List Loc} {cells slots : Nat} {Q : State → Prop} {g : fG} {ad : Nat → Nat} {M : fM} {ls : Array Slot} {b L i : Nat} {xs : Nat → Int32} (X : fX p s m args meth c code 9 ret RL g) (hnc : xNc s) (hXs : va_X b L xs s s.heap) (hbl : b < s.heap.size) (hbA : ¬ fA g b) (hL : L ≤ 2560) (hi : i + 5 ≤ L) (hw : fw g ad M s H locs) (hl : lv_has ls 9 (lLoc ad b i)) (hcl : cells + 130 ≤ 601024 ∧ slots + 2600 ≤ 7293034) {th : Int32} {U : fTn} {sp ca : Nat → Int32} (hM : isMo g ad M th U sp ca) {k b2 : Int32} {f2 : Nat → Int64} {T2 : fTn} {kf2 nf2 : Nat → Int32} {fr2 lo2 mc2 ms2 : Nat}
    (hWr : vx_Met l yL_light (fWsH yL_light cL_light 5 (some .int) [(0, 10, 13, 13), (0, 10, 17, 15), (0, 10, 21, 17)]) (fR 10 260 90 2200) (va_Pc [.ref (cAd ad 0), .int (xs (i + 1)), .int (xs (i + 2)), .ref (cAd ad 3032)] (fSL g (cAd ad) (cMp M))) (fQi g (fWr g (cAd ad) (cMp M) T2 kf2 nf2 k f2)) fNX 90 2200 (fA g))
    (hRf : ∀ (ad1 : Nat → Nat) (M1 : fM), isMo g ad1 M1 th U sp ca → fCi l g yX6_light cX6_light 3 (some .int) fr2 lo2 mc2 ms2 ad1 M1 [.ref (ad1 5), .int (xs (i + 1)), .int (xs (i + 2))] (fRp g ad1 M1 T2 k b2)) (q1 : fr2 ≤ 8) (q2 : lo2 ≤ 190) (q3 : mc2 ≤ 35) (q4 : ms2 ≤ 395) (hkb : k = 0 → f2 0 = b2.toInt64)
    (K : LN p l e s m args below meth c Q g b i cells slots T2 kf2 nf2) : W p l e room_1 s m args below meth c H locs cells slots Q (F0 m 308 ls []) := by
  have hx := X.1
  have hb := X.2.1
  have hl : lv_has ls 9 [(4, .int (nI i)), (0, .ref b), (1, .ref (ad 0)), (2, .ref (ad 5)), (3, .ref (ad 32))] := hl
  refine lv_aload_n hx hb dL_law_308 rfl (lv_at hl 2 rfl) ?_
  refine lv_aload_n hx hb dL_law_309 rfl (lv_at hl 1 rfl) ?_
  refine lv_iload hx hb dL_law_310 (lv_at hl 0 rfl) ?_
  refine lv_iconst (v := 1) hx hb dL_law_312 (by decide) ?_
  refine lv_iadd hx hb dL_law_313 ?_
  refine f_top (y := nI (i + 1)) (show nI i + nI 1 = nI (i + 1) from nI_add i 1) ?_
  refine va_sld hx hb hXs hbl hbA hw.2 (vp_in_nI (n := i + 1) (by omega) (by omega)) dL_law_314 ?_
  rw [nI_clamp (n := i + 1) (by omega)]
  refine lv_aload_n hx hb dL_law_315 rfl (lv_at hl 1 rfl) ?_
  refine lv_iload hx hb dL_law_316 (lv_at hl 0 rfl) ?_
  refine lv_iconst (v := 2) hx hb dL_law_318 (by decide) ?_
  refine lv_iadd hx hb dL_law_319 ?_
  refine f_top (y := nI (i + 2)) (show nI i + nI 2 = nI (i + 2) from nI_add i 2) ?_
  refine va_sld hx hb hXs hbl hbA hw.2 (vp_in_nI (n := i + 2) (by omega) (by omega)) dL_law_320 ?_
  rw [nI_clamp (n := i + 2) (by omega)]
  refine lv_aload_n hx hb dL_law_321 rfl (lv_at hl 4 rfl) ?_
  refine k_wr (n := 4) X hnc hw hWr wq614 wq615 wq616 wq0 (by decide +kernel) ⟨(Nat.le_of_ble_eq_true rfl), (Nat.le_of_ble_eq_true rfl)⟩ rfl hl.1 rfl (Nat.le_of_ble_eq_true rfl) dL_law_322 ⟨by show cells + 90 ≤ 601024; omega, by show slots + 2200 ≤ 7293034; omega⟩ (fun ad1 M1 H locs A2 sf2 hC2 hL2 h1 h0 h3 hO hw => ?_)
  refine lv_istore (lv' := [(5, .int k), (4, .int (nI i)), (0, .ref b), (1, .ref (ad 0)), (2, .ref (ad 5)), (3, .ref (ad 32))]) hx hb dL_law_325 hl (by decide) rfl (fun ls hl => ?_)
  have hM1 : isMo g ad1 M1 th U sp ca := isMo_eq hM (fun q a b9 => h1 q a (by omega))
  have e5 : ad1 5 = ad 5 := (h1 5 (by omega) (by omega)).1
  obtain ⟨_, _, _, _, _, _, _, hMo, -⟩ := id hM1
  unfold mObj at hMo
  refine lv_aload_n hx hb dL_law_327 rfl (lv_at hl 4 rfl) ?_
  refine lv_aload_n hx hb dL_law_328 rfl (lv_at hl 2 rfl) ?_
  refine lv_iload hx hb dL_law_329 (lv_at hl 1 rfl) ?_
  refine lv_iconst (v := 1) hx hb dL_law_331 (by decide) ?_
  refine lv_iadd hx hb dL_law_332 ?_
  refine f_top (y := nI (i + 1)) (show nI i + nI 1 = nI (i + 1) from nI_add i 1) ?_
  refine va_sld hx hb hXs hbl hbA hw.2 (vp_in_nI (n := i + 1) (by omega) (by omega)) dL_law_333 ?_
  rw [nI_clamp (n := i + 1) (by omega)]
  refine lv_aload_n hx hb dL_law_334 rfl (lv_at hl 2 rfl) ?_
  refine lv_iload hx hb dL_law_335 (lv_at hl 1 rfl) ?_
  refine lv_iconst (v := 2) hx hb dL_law_337 (by decide) ?_
  refine lv_iadd hx hb dL_law_338 ?_
  refine f_top (y := nI (i + 2)) (show nI i + nI 2 = nI (i + 2) from nI_add i 2) ?_
  refine va_sld hx hb hXs hbl hbA hw.2 (vp_in_nI (n := i + 2) (by omega) (by omega)) dL_law_339 ?_
  rw [nI_clamp (n := i + 2) (by omega)]
  refine fk_i (fcV X hw (hRf ad1 M1 hM1) hMo rfl wq882 kVX6_light ⟨by show fr2 + 1 ≤ 13; omega, by show 8 + (3 + 11) + lo2 ≤ 506; omega⟩ rfl hl.1 (by rw [e5]; rfl) (Nat.le_of_ble_eq_true rfl) dL_law_340 ⟨by show cells + 90 + mc2 ≤ 601024; omega, by show slots + 2200 + ms2 ≤ 7293034; omega⟩) hw (fun r ad2 M2 H locs hp hw => ?_)
  obtain ⟨⟨U2, sp2, ca2, hs2, hM2⟩, hr2, h52, er⟩ := hp
  rw [er]
  obtain ⟨hC3, hO3, h03, h33⟩ := rest_w hC2 hO hr2
  refine lv_istore (lv' := [(6, .int b2), (5, .int k), (4, .int (nI i)), (0, .ref b), (1, .ref (ad 0)), (2, .ref (ad 5)), (3, .ref (ad 32))]) hx hb dL_law_343 hl (by decide) rfl (fun ls hl => ?_)
  obtain ⟨_, _, _, _, _, _, _, hMo2, -⟩ := id hM2
  unfold mObj at hMo2
  refine lv_aload_n hx hb dL_law_345 rfl (lv_at hl 5 rfl) ?_
  refine fk_di (fcV X hw (c_thrown l g ad2 M2 hM2) hMo2 rfl wq835 kVX6_thrown ⟨(Nat.le_of_ble_eq_true rfl), (Nat.le_of_ble_eq_true rfl)⟩ rfl hl.1 (by rw [h52, e5]; rfl) (Nat.le_of_ble_eq_true rfl) dL_law_346 ⟨by show cells + 90 + mc2 + 0 ≤ 601024; omega, by show slots + 2200 + ms2 + 0 ≤ 7293034; omega⟩) hw (fun H locs hw => ?_)
  refine lv_iload hx hb dL_law_349 (lv_at hl 1 rfl) ?_
  refine lv_icmp_eq (tgt := 356) hx hb dL_law_351 (by decide) (fun c1 => ?_) (fun c1 => absurd rfl c1)
  refine lv_iload hx hb dL_law_356 (lv_at hl 1 rfl) ?_
  refine lv_if_ne (tgt := 373) hx hb dL_law_358 (by decide) (fun c2 => ?_) (fun c2 => ?_)
  · refine lv_goto (tgt := 1459) hx hb dL_law_373 (by decide) ?_
    exact W.widen (k := cells + 130) (n := slots + 2600) (by omega) (by omega) (K ad2 M2 H locs ls A2 sf2 _ U2 sp2 ca2 _ hC3 hL2 hM2 hs2 hO3 hw (by unfold lLoc; rw [h03, h0, h52, e5, h33, h3]; exact lv_sub hl [2, 3, 4, 5, 6] rfl))
  · refine lv_aload_n hx hb dL_law_361 rfl (lv_at hl 6 rfl) ?_
    refine lv_iconst (v := 0) hx hb dL_law_362 (by decide) ?_
    refine f_adr2 (ad := ad2) (lb := 32) (h33.trans h3) ?_
    refine f_lald X hw hO3 (by unfold vp_in; decide) dL_law_363 ?_
    rw [show (0 : Int32).toNatClampNeg = 0 from rfl]
    refine lv_iload hx hb dL_law_364 (lv_at hl 0 rfl) ?_
    refine lv_i2l hx hb dL_law_366 rfl ?_
    refine W.lcmp hx hb dL_law_367 ?_
    refine lv_if_eq (tgt := 373) hx hb dL_law_368 (by decide) (fun c3 => ?_) (fun c3 => absurd ((lg_cmp_eq _ _).mpr (hkb c2)) c3)
    refine lv_goto (tgt := 1459) hx hb dL_law_373 (by decide) ?_
    exact W.widen (k := cells + 130) (n := slots + 2600) (by omega) (by omega) (K ad2 M2 H locs ls A2 sf2 _ U2 sp2 ca2 _ hC3 hL2 hM2 hs2 hO3 hw (by unfold lLoc; rw [h03, h0, h52, e5, h33, h3]; exact lv_sub hl [2, 3, 4, 5, 6] rfl))
set_option maxHeartbeats 4000000 in
set_option maxRecDepth 100000 in
theorem sg_cell {p : Program} {l : Launch} {e : Env} {s : State} {m : MethodId} {args : Array Value} {below : List Frame} {meth : Method} {c : Code} {H : Heap} {locs : List Loc} {cells slots : Nat} {Q : State → Prop} {g : fG} {ad : Nat → Nat} {M : fM} {ls : Array Slot} {b L i : Nat} {xs : Nat → Int32} (X : fX p s m args meth c code 9 ret RL g) (hnc : xNc s) (hXs : va_X b L xs s s.heap) (hbl : b < s.heap.size) (hbA : ¬ fA g b) (hL : L ≤ 2560) (hi : i + 5 ≤ L) (hw : fw g ad M s H locs) (hl : lv_has ls 9 (lLoc ad b i)) (hcl : cells + 130 ≤ 601024 ∧ slots + 2600 ≤ 7293034) {th : Int32} {U : fTn} {sp ca : Nat → Int32} (hM : isMo g ad M th U sp ca) {k b2 : Int32} {f2 : Nat → Int64} {T2 : fTn} {kf2 nf2 : Nat → Int32} {fr2 lo2 mc2 ms2 : Nat}
    (hWr : vx_Met l yL_cell (fWsH yL_cell cL_cell 6 (some .int) [(0, 12, 15, 13)]) (fR 10 260 90 2200) (va_Pc [.ref (cAd ad 0), .int (xs (i + 1)), .int (xs (i + 2)), .int (xs (i + 3)), .ref (cAd ad 3032)] (fSL g (cAd ad) (cMp M))) (fQi g (fWr g (cAd ad) (cMp M) T2 kf2 nf2 k f2)) fNX 90 2200 (fA g))
    (hRf : ∀ (ad1 : Nat → Nat) (M1 : fM), isMo g ad1 M1 th U sp ca → fCi l g yX6_cell cX6_cell 7 (some .int) fr2 lo2 mc2 ms2 ad1 M1 [.ref (ad1 5), .int (xs (i + 1)), .int (xs (i + 2)), .int (xs (i + 3))] (fRp g ad1 M1 T2 k b2)) (q1 : fr2 ≤ 8) (q2 : lo2 ≤ 190) (q3 : mc2 ≤ 35) (q4 : ms2 ≤ 395) (hkb : k = 0 → f2 0 = b2.toInt64)
    (K : LN p l e s m args below meth c Q g b i cells slots T2 kf2 nf2) : W p l e room_1 s m args below meth c H locs cells slots Q (F0 m 376 ls []) := by
  have hx := X.1
  have hb := X.2.1
  have hl : lv_has ls 9 [(4, .int (nI i)), (0, .ref b), (1, .ref (ad 0)), (2, .ref (ad 5)), (3, .ref (ad 32))] := hl
  refine lv_aload_n hx hb dL_law_376 rfl (lv_at hl 2 rfl) ?_
  refine lv_aload_n hx hb dL_law_377 rfl (lv_at hl 1 rfl) ?_
  refine lv_iload hx hb dL_law_378 (lv_at hl 0 rfl) ?_
  refine lv_iconst (v := 1) hx hb dL_law_380 (by decide) ?_
  refine lv_iadd hx hb dL_law_381 ?_
  refine f_top (y := nI (i + 1)) (show nI i + nI 1 = nI (i + 1) from nI_add i 1) ?_
  refine va_sld hx hb hXs hbl hbA hw.2 (vp_in_nI (n := i + 1) (by omega) (by omega)) dL_law_382 ?_
  rw [nI_clamp (n := i + 1) (by omega)]
  refine lv_aload_n hx hb dL_law_383 rfl (lv_at hl 1 rfl) ?_
  refine lv_iload hx hb dL_law_384 (lv_at hl 0 rfl) ?_
  refine lv_iconst (v := 2) hx hb dL_law_386 (by decide) ?_
  refine lv_iadd hx hb dL_law_387 ?_
  refine f_top (y := nI (i + 2)) (show nI i + nI 2 = nI (i + 2) from nI_add i 2) ?_
  refine va_sld hx hb hXs hbl hbA hw.2 (vp_in_nI (n := i + 2) (by omega) (by omega)) dL_law_388 ?_
  rw [nI_clamp (n := i + 2) (by omega)]
  refine lv_aload_n hx hb dL_law_389 rfl (lv_at hl 1 rfl) ?_
  refine lv_iload hx hb dL_law_390 (lv_at hl 0 rfl) ?_
  refine lv_iconst (v := 3) hx hb dL_law_392 (by decide) ?_
  refine lv_iadd hx hb dL_law_393 ?_
  refine f_top (y := nI (i + 3)) (show nI i + nI 3 = nI (i + 3) from nI_add i 3) ?_
  refine va_sld hx hb hXs hbl hbA hw.2 (vp_in_nI (n := i + 3) (by omega) (by omega)) dL_law_394 ?_
  rw [nI_clamp (n := i + 3) (by omega)]
  refine lv_aload_n hx hb dL_law_395 rfl (lv_at hl 4 rfl) ?_
  refine k_wr (n := 5) X hnc hw hWr wq630 wq631 wq632 wq0 (by decide +kernel) ⟨(Nat.le_of_ble_eq_true rfl), (Nat.le_of_ble_eq_true rfl)⟩ rfl hl.1 rfl (Nat.le_of_ble_eq_true rfl) dL_law_396 ⟨by show cells + 90 ≤ 601024; omega, by show slots + 2200 ≤ 7293034; omega⟩ (fun ad1 M1 H locs A2 sf2 hC2 hL2 h1 h0 h3 hO hw => ?_)
  refine lv_istore (lv' := [(5, .int k), (4, .int (nI i)), (0, .ref b), (1, .ref (ad 0)), (2, .ref (ad 5)), (3, .ref (ad 32))]) hx hb dL_law_399 hl (by decide) rfl (fun ls hl => ?_)
  have hM1 : isMo g ad1 M1 th U sp ca := isMo_eq hM (fun q a b9 => h1 q a (by omega))
  have e5 : ad1 5 = ad 5 := (h1 5 (by omega) (by omega)).1
  obtain ⟨_, _, _, _, _, _, _, hMo, -⟩ := id hM1
  unfold mObj at hMo
  refine lv_aload_n hx hb dL_law_401 rfl (lv_at hl 4 rfl) ?_
  refine lv_aload_n hx hb dL_law_402 rfl (lv_at hl 2 rfl) ?_
  refine lv_iload hx hb dL_law_403 (lv_at hl 1 rfl) ?_
  refine lv_iconst (v := 1) hx hb dL_law_405 (by decide) ?_
  refine lv_iadd hx hb dL_law_406 ?_
  refine f_top (y := nI (i + 1)) (show nI i + nI 1 = nI (i + 1) from nI_add i 1) ?_
  refine va_sld hx hb hXs hbl hbA hw.2 (vp_in_nI (n := i + 1) (by omega) (by omega)) dL_law_407 ?_
  rw [nI_clamp (n := i + 1) (by omega)]
  refine lv_aload_n hx hb dL_law_408 rfl (lv_at hl 2 rfl) ?_
  refine lv_iload hx hb dL_law_409 (lv_at hl 1 rfl) ?_
  refine lv_iconst (v := 2) hx hb dL_law_411 (by decide) ?_
  refine lv_iadd hx hb dL_law_412 ?_
  refine f_top (y := nI (i + 2)) (show nI i + nI 2 = nI (i + 2) from nI_add i 2) ?_
  refine va_sld hx hb hXs hbl hbA hw.2 (vp_in_nI (n := i + 2) (by omega) (by omega)) dL_law_413 ?_
  rw [nI_clamp (n := i + 2) (by omega)]
  refine lv_aload_n hx hb dL_law_414 rfl (lv_at hl 2 rfl) ?_
  refine lv_iload hx hb dL_law_415 (lv_at hl 1 rfl) ?_
  refine lv_iconst (v := 3) hx hb dL_law_417 (by decide) ?_
  refine lv_iadd hx hb dL_law_418 ?_
  refine f_top (y := nI (i + 3)) (show nI i + nI 3 = nI (i + 3) from nI_add i 3) ?_
  refine va_sld hx hb hXs hbl hbA hw.2 (vp_in_nI (n := i + 3) (by omega) (by omega)) dL_law_419 ?_
  rw [nI_clamp (n := i + 3) (by omega)]
  refine fk_i (fcV X hw (hRf ad1 M1 hM1) hMo rfl wq898 kVX6_cell ⟨by show fr2 + 1 ≤ 13; omega, by show 8 + (7 + 11) + lo2 ≤ 506; omega⟩ rfl hl.1 (by rw [e5]; rfl) (Nat.le_of_ble_eq_true rfl) dL_law_420 ⟨by show cells + 90 + mc2 ≤ 601024; omega, by show slots + 2200 + ms2 ≤ 7293034; omega⟩) hw (fun r ad2 M2 H locs hp hw => ?_)
  obtain ⟨⟨U2, sp2, ca2, hs2, hM2⟩, hr2, h52, er⟩ := hp
  rw [er]
  obtain ⟨hC3, hO3, h03, h33⟩ := rest_w hC2 hO hr2
  refine lv_istore (lv' := [(6, .int b2), (5, .int k), (4, .int (nI i)), (0, .ref b), (1, .ref (ad 0)), (2, .ref (ad 5)), (3, .ref (ad 32))]) hx hb dL_law_423 hl (by decide) rfl (fun ls hl => ?_)
  obtain ⟨_, _, _, _, _, _, _, hMo2, -⟩ := id hM2
  unfold mObj at hMo2
  refine lv_aload_n hx hb dL_law_425 rfl (lv_at hl 5 rfl) ?_
  refine fk_di (fcV X hw (c_thrown l g ad2 M2 hM2) hMo2 rfl wq835 kVX6_thrown ⟨(Nat.le_of_ble_eq_true rfl), (Nat.le_of_ble_eq_true rfl)⟩ rfl hl.1 (by rw [h52, e5]; rfl) (Nat.le_of_ble_eq_true rfl) dL_law_426 ⟨by show cells + 90 + mc2 + 0 ≤ 601024; omega, by show slots + 2200 + ms2 + 0 ≤ 7293034; omega⟩) hw (fun H locs hw => ?_)
  refine lv_iload hx hb dL_law_429 (lv_at hl 1 rfl) ?_
  refine lv_icmp_eq (tgt := 436) hx hb dL_law_431 (by decide) (fun c1 => ?_) (fun c1 => absurd rfl c1)
  refine lv_iload hx hb dL_law_436 (lv_at hl 1 rfl) ?_
  refine lv_if_ne (tgt := 453) hx hb dL_law_438 (by decide) (fun c2 => ?_) (fun c2 => ?_)
  · refine lv_goto (tgt := 1459) hx hb dL_law_453 (by decide) ?_
    exact W.widen (k := cells + 130) (n := slots + 2600) (by omega) (by omega) (K ad2 M2 H locs ls A2 sf2 _ U2 sp2 ca2 _ hC3 hL2 hM2 hs2 hO3 hw (by unfold lLoc; rw [h03, h0, h52, e5, h33, h3]; exact lv_sub hl [2, 3, 4, 5, 6] rfl))
  · refine lv_aload_n hx hb dL_law_441 rfl (lv_at hl 6 rfl) ?_
    refine lv_iconst (v := 0) hx hb dL_law_442 (by decide) ?_
    refine f_adr2 (ad := ad2) (lb := 32) (h33.trans h3) ?_
    refine f_lald X hw hO3 (by unfold vp_in; decide) dL_law_443 ?_
    rw [show (0 : Int32).toNatClampNeg = 0 from rfl]
    refine lv_iload hx hb dL_law_444 (lv_at hl 0 rfl) ?_
    refine lv_i2l hx hb dL_law_446 rfl ?_
    refine W.lcmp hx hb dL_law_447 ?_
    refine lv_if_eq (tgt := 453) hx hb dL_law_448 (by decide) (fun c3 => ?_) (fun c3 => absurd ((lg_cmp_eq _ _).mpr (hkb c2)) c3)
    refine lv_goto (tgt := 1459) hx hb dL_law_453 (by decide) ?_
    exact W.widen (k := cells + 130) (n := slots + 2600) (by omega) (by omega) (K ad2 M2 H locs ls A2 sf2 _ U2 sp2 ca2 _ hC3 hL2 hM2 hs2 hO3 hw (by unfold lLoc; rw [h03, h0, h52, e5, h33, h3]; exact lv_sub hl [2, 3, 4, 5, 6] rfl))
set_option maxHeartbeats 4000000 in
set_option maxRecDepth 100000 in
theorem sg_house {p : Program} {l : Launch} {e : Env} {s : State} {m : MethodId} {args : Array Value} {below : List Frame} {meth : Method} {c : Code} {H : Heap} {locs : List Loc} {cells slots : Nat} {Q : State → Prop} {g : fG} {ad : Nat → Nat} {M : fM} {ls : Array Slot} {b L i : Nat} {xs : Nat → Int32} (X : fX p s m args meth c code 9 ret RL g) (hnc : xNc s) (hXs : va_X b L xs s s.heap) (hbl : b < s.heap.size) (hbA : ¬ fA g b) (hL : L ≤ 2560) (hi : i + 5 ≤ L) (hw : fw g ad M s H locs) (hl : lv_has ls 9 (lLoc ad b i)) (hcl : cells + 130 ≤ 601024 ∧ slots + 2600 ≤ 7293034) {th : Int32} {U : fTn} {sp ca : Nat → Int32} (hM : isMo g ad M th U sp ca) {k b2 : Int32} {f2 : Nat → Int64} {T2 : fTn} {kf2 nf2 : Nat → Int32} {fr2 lo2 mc2 ms2 : Nat}
    (hWr : vx_Met l yL_house (fWsH yL_house cL_house 5 (some .int) [(0, 10, 13, 13)]) (fR 10 260 90 2200) (va_Pc [.ref (cAd ad 0), .int (xs (i + 1)), .int (xs (i + 2)), .ref (cAd ad 3032)] (fSL g (cAd ad) (cMp M))) (fQi g (fWr g (cAd ad) (cMp M) T2 kf2 nf2 k f2)) fNX 90 2200 (fA g))
    (hRf : ∀ (ad1 : Nat → Nat) (M1 : fM), isMo g ad1 M1 th U sp ca → fCi l g yX6_house cX6_house 3 (some .int) fr2 lo2 mc2 ms2 ad1 M1 [.ref (ad1 5), .int (xs (i + 1)), .int (xs (i + 2))] (fRp g ad1 M1 T2 k b2)) (q1 : fr2 ≤ 8) (q2 : lo2 ≤ 190) (q3 : mc2 ≤ 35) (q4 : ms2 ≤ 395) (hkb : k = 0 → f2 0 = b2.toInt64)
    (K : LN p l e s m args below meth c Q g b i cells slots T2 kf2 nf2) : W p l e room_1 s m args below meth c H locs cells slots Q (F0 m 456 ls []) := by
  have hx := X.1
  have hb := X.2.1
  have hl : lv_has ls 9 [(4, .int (nI i)), (0, .ref b), (1, .ref (ad 0)), (2, .ref (ad 5)), (3, .ref (ad 32))] := hl
  refine lv_aload_n hx hb dL_law_456 rfl (lv_at hl 2 rfl) ?_
  refine lv_aload_n hx hb dL_law_457 rfl (lv_at hl 1 rfl) ?_
  refine lv_iload hx hb dL_law_458 (lv_at hl 0 rfl) ?_
  refine lv_iconst (v := 1) hx hb dL_law_460 (by decide) ?_
  refine lv_iadd hx hb dL_law_461 ?_
  refine f_top (y := nI (i + 1)) (show nI i + nI 1 = nI (i + 1) from nI_add i 1) ?_
  refine va_sld hx hb hXs hbl hbA hw.2 (vp_in_nI (n := i + 1) (by omega) (by omega)) dL_law_462 ?_
  rw [nI_clamp (n := i + 1) (by omega)]
  refine lv_aload_n hx hb dL_law_463 rfl (lv_at hl 1 rfl) ?_
  refine lv_iload hx hb dL_law_464 (lv_at hl 0 rfl) ?_
  refine lv_iconst (v := 2) hx hb dL_law_466 (by decide) ?_
  refine lv_iadd hx hb dL_law_467 ?_
  refine f_top (y := nI (i + 2)) (show nI i + nI 2 = nI (i + 2) from nI_add i 2) ?_
  refine va_sld hx hb hXs hbl hbA hw.2 (vp_in_nI (n := i + 2) (by omega) (by omega)) dL_law_468 ?_
  rw [nI_clamp (n := i + 2) (by omega)]
  refine lv_aload_n hx hb dL_law_469 rfl (lv_at hl 4 rfl) ?_
  refine k_wr (n := 4) X hnc hw hWr wq647 wq648 wq649 wq0 (by decide +kernel) ⟨(Nat.le_of_ble_eq_true rfl), (Nat.le_of_ble_eq_true rfl)⟩ rfl hl.1 rfl (Nat.le_of_ble_eq_true rfl) dL_law_470 ⟨by show cells + 90 ≤ 601024; omega, by show slots + 2200 ≤ 7293034; omega⟩ (fun ad1 M1 H locs A2 sf2 hC2 hL2 h1 h0 h3 hO hw => ?_)
  refine lv_istore (lv' := [(5, .int k), (4, .int (nI i)), (0, .ref b), (1, .ref (ad 0)), (2, .ref (ad 5)), (3, .ref (ad 32))]) hx hb dL_law_473 hl (by decide) rfl (fun ls hl => ?_)
  have hM1 : isMo g ad1 M1 th U sp ca := isMo_eq hM (fun q a b9 => h1 q a (by omega))
  have e5 : ad1 5 = ad 5 := (h1 5 (by omega) (by omega)).1
  obtain ⟨_, _, _, _, _, _, _, hMo, -⟩ := id hM1
  unfold mObj at hMo
  refine lv_aload_n hx hb dL_law_475 rfl (lv_at hl 4 rfl) ?_
  refine lv_aload_n hx hb dL_law_476 rfl (lv_at hl 2 rfl) ?_
  refine lv_iload hx hb dL_law_477 (lv_at hl 1 rfl) ?_
  refine lv_iconst (v := 1) hx hb dL_law_479 (by decide) ?_
  refine lv_iadd hx hb dL_law_480 ?_
  refine f_top (y := nI (i + 1)) (show nI i + nI 1 = nI (i + 1) from nI_add i 1) ?_
  refine va_sld hx hb hXs hbl hbA hw.2 (vp_in_nI (n := i + 1) (by omega) (by omega)) dL_law_481 ?_
  rw [nI_clamp (n := i + 1) (by omega)]
  refine lv_aload_n hx hb dL_law_482 rfl (lv_at hl 2 rfl) ?_
  refine lv_iload hx hb dL_law_483 (lv_at hl 1 rfl) ?_
  refine lv_iconst (v := 2) hx hb dL_law_485 (by decide) ?_
  refine lv_iadd hx hb dL_law_486 ?_
  refine f_top (y := nI (i + 2)) (show nI i + nI 2 = nI (i + 2) from nI_add i 2) ?_
  refine va_sld hx hb hXs hbl hbA hw.2 (vp_in_nI (n := i + 2) (by omega) (by omega)) dL_law_487 ?_
  rw [nI_clamp (n := i + 2) (by omega)]
  refine fk_i (fcV X hw (hRf ad1 M1 hM1) hMo rfl wq916 kVX6_house ⟨by show fr2 + 1 ≤ 13; omega, by show 8 + (3 + 11) + lo2 ≤ 506; omega⟩ rfl hl.1 (by rw [e5]; rfl) (Nat.le_of_ble_eq_true rfl) dL_law_488 ⟨by show cells + 90 + mc2 ≤ 601024; omega, by show slots + 2200 + ms2 ≤ 7293034; omega⟩) hw (fun r ad2 M2 H locs hp hw => ?_)
  obtain ⟨⟨U2, sp2, ca2, hs2, hM2⟩, hr2, h52, er⟩ := hp
  rw [er]
  obtain ⟨hC3, hO3, h03, h33⟩ := rest_w hC2 hO hr2
  refine lv_istore (lv' := [(6, .int b2), (5, .int k), (4, .int (nI i)), (0, .ref b), (1, .ref (ad 0)), (2, .ref (ad 5)), (3, .ref (ad 32))]) hx hb dL_law_491 hl (by decide) rfl (fun ls hl => ?_)
  obtain ⟨_, _, _, _, _, _, _, hMo2, -⟩ := id hM2
  unfold mObj at hMo2
  refine lv_aload_n hx hb dL_law_493 rfl (lv_at hl 5 rfl) ?_
  refine fk_di (fcV X hw (c_thrown l g ad2 M2 hM2) hMo2 rfl wq835 kVX6_thrown ⟨(Nat.le_of_ble_eq_true rfl), (Nat.le_of_ble_eq_true rfl)⟩ rfl hl.1 (by rw [h52, e5]; rfl) (Nat.le_of_ble_eq_true rfl) dL_law_494 ⟨by show cells + 90 + mc2 + 0 ≤ 601024; omega, by show slots + 2200 + ms2 + 0 ≤ 7293034; omega⟩) hw (fun H locs hw => ?_)
  refine lv_iload hx hb dL_law_497 (lv_at hl 1 rfl) ?_
  refine lv_icmp_eq (tgt := 504) hx hb dL_law_499 (by decide) (fun c1 => ?_) (fun c1 => absurd rfl c1)
  refine lv_iload hx hb dL_law_504 (lv_at hl 1 rfl) ?_
  refine lv_if_ne (tgt := 521) hx hb dL_law_506 (by decide) (fun c2 => ?_) (fun c2 => ?_)
  · refine lv_goto (tgt := 1459) hx hb dL_law_521 (by decide) ?_
    exact W.widen (k := cells + 130) (n := slots + 2600) (by omega) (by omega) (K ad2 M2 H locs ls A2 sf2 _ U2 sp2 ca2 _ hC3 hL2 hM2 hs2 hO3 hw (by unfold lLoc; rw [h03, h0, h52, e5, h33, h3]; exact lv_sub hl [2, 3, 4, 5, 6] rfl))
  · refine lv_aload_n hx hb dL_law_509 rfl (lv_at hl 6 rfl) ?_
    refine lv_iconst (v := 0) hx hb dL_law_510 (by decide) ?_
    refine f_adr2 (ad := ad2) (lb := 32) (h33.trans h3) ?_
    refine f_lald X hw hO3 (by unfold vp_in; decide) dL_law_511 ?_
    rw [show (0 : Int32).toNatClampNeg = 0 from rfl]
    refine lv_iload hx hb dL_law_512 (lv_at hl 0 rfl) ?_
    refine lv_i2l hx hb dL_law_514 rfl ?_
    refine W.lcmp hx hb dL_law_515 ?_
    refine lv_if_eq (tgt := 521) hx hb dL_law_516 (by decide) (fun c3 => ?_) (fun c3 => absurd ((lg_cmp_eq _ _).mpr (hkb c2)) c3)
    refine lv_goto (tgt := 1459) hx hb dL_law_521 (by decide) ?_
    exact W.widen (k := cells + 130) (n := slots + 2600) (by omega) (by omega) (K ad2 M2 H locs ls A2 sf2 _ U2 sp2 ca2 _ hC3 hL2 hM2 hs2 hO3 hw (by unfold lLoc; rw [h03, h0, h52, e5, h33, h3]; exact lv_sub hl [2, 3, 4, 5, 6] rfl))
set_option maxHeartbeats 4000000 in
set_option maxRecDepth 100000 in
theorem sg_addEngine {p : Program} {l : Launch} {e : Env} {s : State} {m : MethodId} {args : Array Value} {below : List Frame} {meth : Method} {c : Code} {H : Heap} {locs : List Loc} {cells slots : Nat} {Q : State → Prop} {g : fG} {ad : Nat → Nat} {M : fM} {ls : Array Slot} {b L i : Nat} {xs : Nat → Int32} (X : fX p s m args meth c code 9 ret RL g) (hnc : xNc s) (hXs : va_X b L xs s s.heap) (hbl : b < s.heap.size) (hbA : ¬ fA g b) (hL : L ≤ 2560) (hi : i + 5 ≤ L) (hw : fw g ad M s H locs) (hl : lv_has ls 9 (lLoc ad b i)) (hcl : cells + 130 ≤ 601024 ∧ slots + 2600 ≤ 7293034) {th : Int32} {U : fTn} {sp ca : Nat → Int32} (hM : isMo g ad M th U sp ca) {k b2 : Int32} {f2 : Nat → Int64} {T2 : fTn} {kf2 nf2 : Nat → Int32} {fr2 lo2 mc2 ms2 : Nat}
    (hWr : vx_Met l yL_addEngine (fWsH yL_addEngine cL_addEngine 7 (some .int) [(0, 14, 17, 13), (0, 14, 21, 15), (0, 14, 25, 17)]) (fR 10 260 90 2200) (va_Pc [.ref (cAd ad 0), .int (xs (i + 1)), .int (xs (i + 2)), .int (xs (i + 3)), .int (xs (i + 4)), .ref (cAd ad 3032)] (fSL g (cAd ad) (cMp M))) (fQi g (fWr g (cAd ad) (cMp M) T2 kf2 nf2 k f2)) fNX 90 2200 (fA g))
    (hRf : ∀ (ad1 : Nat → Nat) (M1 : fM), isMo g ad1 M1 th U sp ca → fCi l g yX6_addEngine cX6_addEngine 6 (some .int) fr2 lo2 mc2 ms2 ad1 M1 [.ref (ad1 5), .int (xs (i + 1)), .int (xs (i + 2)), .int (xs (i + 3)), .int (xs (i + 4))] (fRp g ad1 M1 T2 k b2)) (q1 : fr2 ≤ 8) (q2 : lo2 ≤ 190) (q3 : mc2 ≤ 35) (q4 : ms2 ≤ 395) (hkb : k = 0 → f2 0 = b2.toInt64)
    (K : LN p l e s m args below meth c Q g b i cells slots T2 kf2 nf2) : W p l e room_1 s m args below meth c H locs cells slots Q (F0 m 524 ls []) := by
  have hx := X.1
  have hb := X.2.1
  have hl : lv_has ls 9 [(4, .int (nI i)), (0, .ref b), (1, .ref (ad 0)), (2, .ref (ad 5)), (3, .ref (ad 32))] := hl
  refine lv_aload_n hx hb dL_law_524 rfl (lv_at hl 2 rfl) ?_
  refine lv_aload_n hx hb dL_law_525 rfl (lv_at hl 1 rfl) ?_
  refine lv_iload hx hb dL_law_526 (lv_at hl 0 rfl) ?_
  refine lv_iconst (v := 1) hx hb dL_law_528 (by decide) ?_
  refine lv_iadd hx hb dL_law_529 ?_
  refine f_top (y := nI (i + 1)) (show nI i + nI 1 = nI (i + 1) from nI_add i 1) ?_
  refine va_sld hx hb hXs hbl hbA hw.2 (vp_in_nI (n := i + 1) (by omega) (by omega)) dL_law_530 ?_
  rw [nI_clamp (n := i + 1) (by omega)]
  refine lv_aload_n hx hb dL_law_531 rfl (lv_at hl 1 rfl) ?_
  refine lv_iload hx hb dL_law_532 (lv_at hl 0 rfl) ?_
  refine lv_iconst (v := 2) hx hb dL_law_534 (by decide) ?_
  refine lv_iadd hx hb dL_law_535 ?_
  refine f_top (y := nI (i + 2)) (show nI i + nI 2 = nI (i + 2) from nI_add i 2) ?_
  refine va_sld hx hb hXs hbl hbA hw.2 (vp_in_nI (n := i + 2) (by omega) (by omega)) dL_law_536 ?_
  rw [nI_clamp (n := i + 2) (by omega)]
  refine lv_aload_n hx hb dL_law_537 rfl (lv_at hl 1 rfl) ?_
  refine lv_iload hx hb dL_law_538 (lv_at hl 0 rfl) ?_
  refine lv_iconst (v := 3) hx hb dL_law_540 (by decide) ?_
  refine lv_iadd hx hb dL_law_541 ?_
  refine f_top (y := nI (i + 3)) (show nI i + nI 3 = nI (i + 3) from nI_add i 3) ?_
  refine va_sld hx hb hXs hbl hbA hw.2 (vp_in_nI (n := i + 3) (by omega) (by omega)) dL_law_542 ?_
  rw [nI_clamp (n := i + 3) (by omega)]
  refine lv_aload_n hx hb dL_law_543 rfl (lv_at hl 1 rfl) ?_
  refine lv_iload hx hb dL_law_544 (lv_at hl 0 rfl) ?_
  refine lv_iconst (v := 4) hx hb dL_law_546 (by decide) ?_
  refine lv_iadd hx hb dL_law_547 ?_
  refine f_top (y := nI (i + 4)) (show nI i + nI 4 = nI (i + 4) from nI_add i 4) ?_
  refine va_sld hx hb hXs hbl hbA hw.2 (vp_in_nI (n := i + 4) (by omega) (by omega)) dL_law_548 ?_
  rw [nI_clamp (n := i + 4) (by omega)]
  refine lv_aload_n hx hb dL_law_549 rfl (lv_at hl 4 rfl) ?_
  refine k_wr (n := 6) X hnc hw hWr wq654 wq655 wq656 wq0 (by decide +kernel) ⟨(Nat.le_of_ble_eq_true rfl), (Nat.le_of_ble_eq_true rfl)⟩ rfl hl.1 rfl (Nat.le_of_ble_eq_true rfl) dL_law_550 ⟨by show cells + 90 ≤ 601024; omega, by show slots + 2200 ≤ 7293034; omega⟩ (fun ad1 M1 H locs A2 sf2 hC2 hL2 h1 h0 h3 hO hw => ?_)
  refine lv_istore (lv' := [(5, .int k), (4, .int (nI i)), (0, .ref b), (1, .ref (ad 0)), (2, .ref (ad 5)), (3, .ref (ad 32))]) hx hb dL_law_553 hl (by decide) rfl (fun ls hl => ?_)
  have hM1 : isMo g ad1 M1 th U sp ca := isMo_eq hM (fun q a b9 => h1 q a (by omega))
  have e5 : ad1 5 = ad 5 := (h1 5 (by omega) (by omega)).1
  obtain ⟨_, _, _, _, _, _, _, hMo, -⟩ := id hM1
  unfold mObj at hMo
  refine lv_aload_n hx hb dL_law_555 rfl (lv_at hl 4 rfl) ?_
  refine lv_aload_n hx hb dL_law_556 rfl (lv_at hl 2 rfl) ?_
  refine lv_iload hx hb dL_law_557 (lv_at hl 1 rfl) ?_
  refine lv_iconst (v := 1) hx hb dL_law_559 (by decide) ?_
  refine lv_iadd hx hb dL_law_560 ?_
  refine f_top (y := nI (i + 1)) (show nI i + nI 1 = nI (i + 1) from nI_add i 1) ?_
  refine va_sld hx hb hXs hbl hbA hw.2 (vp_in_nI (n := i + 1) (by omega) (by omega)) dL_law_561 ?_
  rw [nI_clamp (n := i + 1) (by omega)]
  refine lv_aload_n hx hb dL_law_562 rfl (lv_at hl 2 rfl) ?_
  refine lv_iload hx hb dL_law_563 (lv_at hl 1 rfl) ?_
  refine lv_iconst (v := 2) hx hb dL_law_565 (by decide) ?_
  refine lv_iadd hx hb dL_law_566 ?_
  refine f_top (y := nI (i + 2)) (show nI i + nI 2 = nI (i + 2) from nI_add i 2) ?_
  refine va_sld hx hb hXs hbl hbA hw.2 (vp_in_nI (n := i + 2) (by omega) (by omega)) dL_law_567 ?_
  rw [nI_clamp (n := i + 2) (by omega)]
  refine lv_aload_n hx hb dL_law_568 rfl (lv_at hl 2 rfl) ?_
  refine lv_iload hx hb dL_law_569 (lv_at hl 1 rfl) ?_
  refine lv_iconst (v := 3) hx hb dL_law_571 (by decide) ?_
  refine lv_iadd hx hb dL_law_572 ?_
  refine f_top (y := nI (i + 3)) (show nI i + nI 3 = nI (i + 3) from nI_add i 3) ?_
  refine va_sld hx hb hXs hbl hbA hw.2 (vp_in_nI (n := i + 3) (by omega) (by omega)) dL_law_573 ?_
  rw [nI_clamp (n := i + 3) (by omega)]
  refine lv_aload_n hx hb dL_law_574 rfl (lv_at hl 2 rfl) ?_
  refine lv_iload hx hb dL_law_575 (lv_at hl 1 rfl) ?_
  refine lv_iconst (v := 4) hx hb dL_law_577 (by decide) ?_
  refine lv_iadd hx hb dL_law_578 ?_
  refine f_top (y := nI (i + 4)) (show nI i + nI 4 = nI (i + 4) from nI_add i 4) ?_
  refine va_sld hx hb hXs hbl hbA hw.2 (vp_in_nI (n := i + 4) (by omega) (by omega)) dL_law_579 ?_
  rw [nI_clamp (n := i + 4) (by omega)]
  refine fk_i (fcV X hw (hRf ad1 M1 hM1) hMo rfl wq920 kVX6_addEngine ⟨by show fr2 + 1 ≤ 13; omega, by show 8 + (6 + 11) + lo2 ≤ 506; omega⟩ rfl hl.1 (by rw [e5]; rfl) (Nat.le_of_ble_eq_true rfl) dL_law_580 ⟨by show cells + 90 + mc2 ≤ 601024; omega, by show slots + 2200 + ms2 ≤ 7293034; omega⟩) hw (fun r ad2 M2 H locs hp hw => ?_)
  obtain ⟨⟨U2, sp2, ca2, hs2, hM2⟩, hr2, h52, er⟩ := hp
  rw [er]
  obtain ⟨hC3, hO3, h03, h33⟩ := rest_w hC2 hO hr2
  refine lv_istore (lv' := [(6, .int b2), (5, .int k), (4, .int (nI i)), (0, .ref b), (1, .ref (ad 0)), (2, .ref (ad 5)), (3, .ref (ad 32))]) hx hb dL_law_583 hl (by decide) rfl (fun ls hl => ?_)
  obtain ⟨_, _, _, _, _, _, _, hMo2, -⟩ := id hM2
  unfold mObj at hMo2
  refine lv_aload_n hx hb dL_law_585 rfl (lv_at hl 5 rfl) ?_
  refine fk_di (fcV X hw (c_thrown l g ad2 M2 hM2) hMo2 rfl wq835 kVX6_thrown ⟨(Nat.le_of_ble_eq_true rfl), (Nat.le_of_ble_eq_true rfl)⟩ rfl hl.1 (by rw [h52, e5]; rfl) (Nat.le_of_ble_eq_true rfl) dL_law_586 ⟨by show cells + 90 + mc2 + 0 ≤ 601024; omega, by show slots + 2200 + ms2 + 0 ≤ 7293034; omega⟩) hw (fun H locs hw => ?_)
  refine lv_iload hx hb dL_law_589 (lv_at hl 1 rfl) ?_
  refine lv_icmp_eq (tgt := 596) hx hb dL_law_591 (by decide) (fun c1 => ?_) (fun c1 => absurd rfl c1)
  refine lv_iload hx hb dL_law_596 (lv_at hl 1 rfl) ?_
  refine lv_if_ne (tgt := 613) hx hb dL_law_598 (by decide) (fun c2 => ?_) (fun c2 => ?_)
  · refine lv_goto (tgt := 1459) hx hb dL_law_613 (by decide) ?_
    exact W.widen (k := cells + 130) (n := slots + 2600) (by omega) (by omega) (K ad2 M2 H locs ls A2 sf2 _ U2 sp2 ca2 _ hC3 hL2 hM2 hs2 hO3 hw (by unfold lLoc; rw [h03, h0, h52, e5, h33, h3]; exact lv_sub hl [2, 3, 4, 5, 6] rfl))
  · refine lv_aload_n hx hb dL_law_601 rfl (lv_at hl 6 rfl) ?_
    refine lv_iconst (v := 0) hx hb dL_law_602 (by decide) ?_
    refine f_adr2 (ad := ad2) (lb := 32) (h33.trans h3) ?_
    refine f_lald X hw hO3 (by unfold vp_in; decide) dL_law_603 ?_
    rw [show (0 : Int32).toNatClampNeg = 0 from rfl]
    refine lv_iload hx hb dL_law_604 (lv_at hl 0 rfl) ?_
    refine lv_i2l hx hb dL_law_606 rfl ?_
    refine W.lcmp hx hb dL_law_607 ?_
    refine lv_if_eq (tgt := 613) hx hb dL_law_608 (by decide) (fun c3 => ?_) (fun c3 => absurd ((lg_cmp_eq _ _).mpr (hkb c2)) c3)
    refine lv_goto (tgt := 1459) hx hb dL_law_613 (by decide) ?_
    exact W.widen (k := cells + 130) (n := slots + 2600) (by omega) (by omega) (K ad2 M2 H locs ls A2 sf2 _ U2 sp2 ca2 _ hC3 hL2 hM2 hs2 hO3 hw (by unfold lLoc; rw [h03, h0, h52, e5, h33, h3]; exact lv_sub hl [2, 3, 4, 5, 6] rfl))
set_option maxHeartbeats 4000000 in
set_option maxRecDepth 100000 in
theorem sg_stoke {p : Program} {l : Launch} {e : Env} {s : State} {m : MethodId} {args : Array Value} {below : List Frame} {meth : Method} {c : Code} {H : Heap} {locs : List Loc} {cells slots : Nat} {Q : State → Prop} {g : fG} {ad : Nat → Nat} {M : fM} {ls : Array Slot} {b L i : Nat} {xs : Nat → Int32} (X : fX p s m args meth c code 9 ret RL g) (hnc : xNc s) (hXs : va_X b L xs s s.heap) (hbl : b < s.heap.size) (hbA : ¬ fA g b) (hL : L ≤ 2560) (hi : i + 5 ≤ L) (hw : fw g ad M s H locs) (hl : lv_has ls 9 (lLoc ad b i)) (hcl : cells + 130 ≤ 601024 ∧ slots + 2600 ≤ 7293034) {th : Int32} {U : fTn} {sp ca : Nat → Int32} (hM : isMo g ad M th U sp ca) {k b2 : Int32} {f2 : Nat → Int64} {T2 : fTn} {kf2 nf2 : Nat → Int32} {fr2 lo2 mc2 ms2 : Nat}
    (hWr : vx_Met l yL_stoke (fWsH yL_stoke cL_stoke 5 (some .int) [(0, 10, 13, 13), (0, 10, 17, 15), (0, 10, 21, 17)]) (fR 10 260 90 2200) (va_Pc [.ref (cAd ad 0), .int (xs (i + 1)), .int (xs (i + 2)), .ref (cAd ad 3032)] (fSL g (cAd ad) (cMp M))) (fQi g (fWr g (cAd ad) (cMp M) T2 kf2 nf2 k f2)) fNX 90 2200 (fA g))
    (hRf : ∀ (ad1 : Nat → Nat) (M1 : fM), isMo g ad1 M1 th U sp ca → fCi l g yX6_stoke cX6_stoke 3 (some .int) fr2 lo2 mc2 ms2 ad1 M1 [.ref (ad1 5), .int (xs (i + 1)), .int (xs (i + 2))] (fRp g ad1 M1 T2 k b2)) (q1 : fr2 ≤ 8) (q2 : lo2 ≤ 190) (q3 : mc2 ≤ 35) (q4 : ms2 ≤ 395) (hkb : k = 0 → f2 0 = b2.toInt64)
    (K : LN p l e s m args below meth c Q g b i cells slots T2 kf2 nf2) : W p l e room_1 s m args below meth c H locs cells slots Q (F0 m 616 ls []) := by
  have hx := X.1
  have hb := X.2.1
  have hl : lv_has ls 9 [(4, .int (nI i)), (0, .ref b), (1, .ref (ad 0)), (2, .ref (ad 5)), (3, .ref (ad 32))] := hl
  refine lv_aload_n hx hb dL_law_616 rfl (lv_at hl 2 rfl) ?_
  refine lv_aload_n hx hb dL_law_617 rfl (lv_at hl 1 rfl) ?_
  refine lv_iload hx hb dL_law_618 (lv_at hl 0 rfl) ?_
  refine lv_iconst (v := 1) hx hb dL_law_620 (by decide) ?_
  refine lv_iadd hx hb dL_law_621 ?_
  refine f_top (y := nI (i + 1)) (show nI i + nI 1 = nI (i + 1) from nI_add i 1) ?_
  refine va_sld hx hb hXs hbl hbA hw.2 (vp_in_nI (n := i + 1) (by omega) (by omega)) dL_law_622 ?_
  rw [nI_clamp (n := i + 1) (by omega)]
  refine lv_aload_n hx hb dL_law_623 rfl (lv_at hl 1 rfl) ?_
  refine lv_iload hx hb dL_law_624 (lv_at hl 0 rfl) ?_
  refine lv_iconst (v := 2) hx hb dL_law_626 (by decide) ?_
  refine lv_iadd hx hb dL_law_627 ?_
  refine f_top (y := nI (i + 2)) (show nI i + nI 2 = nI (i + 2) from nI_add i 2) ?_
  refine va_sld hx hb hXs hbl hbA hw.2 (vp_in_nI (n := i + 2) (by omega) (by omega)) dL_law_628 ?_
  rw [nI_clamp (n := i + 2) (by omega)]
  refine lv_aload_n hx hb dL_law_629 rfl (lv_at hl 4 rfl) ?_
  refine k_wr (n := 4) X hnc hw hWr wq662 wq663 wq664 wq0 (by decide +kernel) ⟨(Nat.le_of_ble_eq_true rfl), (Nat.le_of_ble_eq_true rfl)⟩ rfl hl.1 rfl (Nat.le_of_ble_eq_true rfl) dL_law_630 ⟨by show cells + 90 ≤ 601024; omega, by show slots + 2200 ≤ 7293034; omega⟩ (fun ad1 M1 H locs A2 sf2 hC2 hL2 h1 h0 h3 hO hw => ?_)
  refine lv_istore (lv' := [(5, .int k), (4, .int (nI i)), (0, .ref b), (1, .ref (ad 0)), (2, .ref (ad 5)), (3, .ref (ad 32))]) hx hb dL_law_633 hl (by decide) rfl (fun ls hl => ?_)
  have hM1 : isMo g ad1 M1 th U sp ca := isMo_eq hM (fun q a b9 => h1 q a (by omega))
  have e5 : ad1 5 = ad 5 := (h1 5 (by omega) (by omega)).1
  obtain ⟨_, _, _, _, _, _, _, hMo, -⟩ := id hM1
  unfold mObj at hMo
  refine lv_aload_n hx hb dL_law_635 rfl (lv_at hl 4 rfl) ?_
  refine lv_aload_n hx hb dL_law_636 rfl (lv_at hl 2 rfl) ?_
  refine lv_iload hx hb dL_law_637 (lv_at hl 1 rfl) ?_
  refine lv_iconst (v := 1) hx hb dL_law_639 (by decide) ?_
  refine lv_iadd hx hb dL_law_640 ?_
  refine f_top (y := nI (i + 1)) (show nI i + nI 1 = nI (i + 1) from nI_add i 1) ?_
  refine va_sld hx hb hXs hbl hbA hw.2 (vp_in_nI (n := i + 1) (by omega) (by omega)) dL_law_641 ?_
  rw [nI_clamp (n := i + 1) (by omega)]
  refine lv_aload_n hx hb dL_law_642 rfl (lv_at hl 2 rfl) ?_
  refine lv_iload hx hb dL_law_643 (lv_at hl 1 rfl) ?_
  refine lv_iconst (v := 2) hx hb dL_law_645 (by decide) ?_
  refine lv_iadd hx hb dL_law_646 ?_
  refine f_top (y := nI (i + 2)) (show nI i + nI 2 = nI (i + 2) from nI_add i 2) ?_
  refine va_sld hx hb hXs hbl hbA hw.2 (vp_in_nI (n := i + 2) (by omega) (by omega)) dL_law_647 ?_
  rw [nI_clamp (n := i + 2) (by omega)]
  refine fk_i (fcV X hw (hRf ad1 M1 hM1) hMo rfl wq924 kVX6_stoke ⟨by show fr2 + 1 ≤ 13; omega, by show 8 + (3 + 11) + lo2 ≤ 506; omega⟩ rfl hl.1 (by rw [e5]; rfl) (Nat.le_of_ble_eq_true rfl) dL_law_648 ⟨by show cells + 90 + mc2 ≤ 601024; omega, by show slots + 2200 + ms2 ≤ 7293034; omega⟩) hw (fun r ad2 M2 H locs hp hw => ?_)
  obtain ⟨⟨U2, sp2, ca2, hs2, hM2⟩, hr2, h52, er⟩ := hp
  rw [er]
  obtain ⟨hC3, hO3, h03, h33⟩ := rest_w hC2 hO hr2
  refine lv_istore (lv' := [(6, .int b2), (5, .int k), (4, .int (nI i)), (0, .ref b), (1, .ref (ad 0)), (2, .ref (ad 5)), (3, .ref (ad 32))]) hx hb dL_law_651 hl (by decide) rfl (fun ls hl => ?_)
  obtain ⟨_, _, _, _, _, _, _, hMo2, -⟩ := id hM2
  unfold mObj at hMo2
  refine lv_aload_n hx hb dL_law_653 rfl (lv_at hl 5 rfl) ?_
  refine fk_di (fcV X hw (c_thrown l g ad2 M2 hM2) hMo2 rfl wq835 kVX6_thrown ⟨(Nat.le_of_ble_eq_true rfl), (Nat.le_of_ble_eq_true rfl)⟩ rfl hl.1 (by rw [h52, e5]; rfl) (Nat.le_of_ble_eq_true rfl) dL_law_654 ⟨by show cells + 90 + mc2 + 0 ≤ 601024; omega, by show slots + 2200 + ms2 + 0 ≤ 7293034; omega⟩) hw (fun H locs hw => ?_)
  refine lv_iload hx hb dL_law_657 (lv_at hl 1 rfl) ?_
  refine lv_icmp_eq (tgt := 664) hx hb dL_law_659 (by decide) (fun c1 => ?_) (fun c1 => absurd rfl c1)
  refine lv_iload hx hb dL_law_664 (lv_at hl 1 rfl) ?_
  refine lv_if_ne (tgt := 681) hx hb dL_law_666 (by decide) (fun c2 => ?_) (fun c2 => ?_)
  · refine lv_goto (tgt := 1459) hx hb dL_law_681 (by decide) ?_
    exact W.widen (k := cells + 130) (n := slots + 2600) (by omega) (by omega) (K ad2 M2 H locs ls A2 sf2 _ U2 sp2 ca2 _ hC3 hL2 hM2 hs2 hO3 hw (by unfold lLoc; rw [h03, h0, h52, e5, h33, h3]; exact lv_sub hl [2, 3, 4, 5, 6] rfl))
  · refine lv_aload_n hx hb dL_law_669 rfl (lv_at hl 6 rfl) ?_
    refine lv_iconst (v := 0) hx hb dL_law_670 (by decide) ?_
    refine f_adr2 (ad := ad2) (lb := 32) (h33.trans h3) ?_
    refine f_lald X hw hO3 (by unfold vp_in; decide) dL_law_671 ?_
    rw [show (0 : Int32).toNatClampNeg = 0 from rfl]
    refine lv_iload hx hb dL_law_672 (lv_at hl 0 rfl) ?_
    refine lv_i2l hx hb dL_law_674 rfl ?_
    refine W.lcmp hx hb dL_law_675 ?_
    refine lv_if_eq (tgt := 681) hx hb dL_law_676 (by decide) (fun c3 => ?_) (fun c3 => absurd ((lg_cmp_eq _ _).mpr (hkb c2)) c3)
    refine lv_goto (tgt := 1459) hx hb dL_law_681 (by decide) ?_
    exact W.widen (k := cells + 130) (n := slots + 2600) (by omega) (by omega) (K ad2 M2 H locs ls A2 sf2 _ U2 sp2 ca2 _ hC3 hL2 hM2 hs2 hO3 hw (by unfold lLoc; rw [h03, h0, h52, e5, h33, h3]; exact lv_sub hl [2, 3, 4, 5, 6] rfl))
set_option maxHeartbeats 4000000 in
set_option maxRecDepth 100000 in
theorem sg_drive {p : Program} {l : Launch} {e : Env} {s : State} {m : MethodId} {args : Array Value} {below : List Frame} {meth : Method} {c : Code} {H : Heap} {locs : List Loc} {cells slots : Nat} {Q : State → Prop} {g : fG} {ad : Nat → Nat} {M : fM} {ls : Array Slot} {b L i : Nat} {xs : Nat → Int32} (X : fX p s m args meth c code 9 ret RL g) (hnc : xNc s) (hXs : va_X b L xs s s.heap) (hbl : b < s.heap.size) (hbA : ¬ fA g b) (hL : L ≤ 2560) (hi : i + 5 ≤ L) (hw : fw g ad M s H locs) (hl : lv_has ls 9 (lLoc ad b i)) (hcl : cells + 130 ≤ 601024 ∧ slots + 2600 ≤ 7293034) {th : Int32} {U : fTn} {sp ca : Nat → Int32} (hM : isMo g ad M th U sp ca) {k b2 : Int32} {f2 : Nat → Int64} {T2 : fTn} {kf2 nf2 : Nat → Int32} {fr2 lo2 mc2 ms2 : Nat}
    (hWr : vx_Met l yL_drive (fWsH yL_drive cL_drive 6 (some .int) [(0, 12, 15, 13), (0, 12, 19, 17)]) (fR 10 260 90 2200) (va_Pc [.ref (cAd ad 0), .int (xs (i + 1)), .int (xs (i + 2)), .int (xs (i + 3)), .ref (cAd ad 3032)] (fSL g (cAd ad) (cMp M))) (fQi g (fWr g (cAd ad) (cMp M) T2 kf2 nf2 k f2)) fNX 90 2200 (fA g))
    (hRf : ∀ (ad1 : Nat → Nat) (M1 : fM), isMo g ad1 M1 th U sp ca → fCi l g yX6_drive cX6_drive 6 (some .int) fr2 lo2 mc2 ms2 ad1 M1 [.ref (ad1 5), .int (xs (i + 1)), .int (xs (i + 2)), .int (xs (i + 3))] (fRp g ad1 M1 T2 k b2)) (q1 : fr2 ≤ 8) (q2 : lo2 ≤ 190) (q3 : mc2 ≤ 35) (q4 : ms2 ≤ 395) (hkb : k = 0 → f2 0 = b2.toInt64)
    (K : LN p l e s m args below meth c Q g b i cells slots T2 kf2 nf2) : W p l e room_1 s m args below meth c H locs cells slots Q (F0 m 684 ls []) := by
  have hx := X.1
  have hb := X.2.1
  have hl : lv_has ls 9 [(4, .int (nI i)), (0, .ref b), (1, .ref (ad 0)), (2, .ref (ad 5)), (3, .ref (ad 32))] := hl
  refine lv_aload_n hx hb dL_law_684 rfl (lv_at hl 2 rfl) ?_
  refine lv_aload_n hx hb dL_law_685 rfl (lv_at hl 1 rfl) ?_
  refine lv_iload hx hb dL_law_686 (lv_at hl 0 rfl) ?_
  refine lv_iconst (v := 1) hx hb dL_law_688 (by decide) ?_
  refine lv_iadd hx hb dL_law_689 ?_
  refine f_top (y := nI (i + 1)) (show nI i + nI 1 = nI (i + 1) from nI_add i 1) ?_
  refine va_sld hx hb hXs hbl hbA hw.2 (vp_in_nI (n := i + 1) (by omega) (by omega)) dL_law_690 ?_
  rw [nI_clamp (n := i + 1) (by omega)]
  refine lv_aload_n hx hb dL_law_691 rfl (lv_at hl 1 rfl) ?_
  refine lv_iload hx hb dL_law_692 (lv_at hl 0 rfl) ?_
  refine lv_iconst (v := 2) hx hb dL_law_694 (by decide) ?_
  refine lv_iadd hx hb dL_law_695 ?_
  refine f_top (y := nI (i + 2)) (show nI i + nI 2 = nI (i + 2) from nI_add i 2) ?_
  refine va_sld hx hb hXs hbl hbA hw.2 (vp_in_nI (n := i + 2) (by omega) (by omega)) dL_law_696 ?_
  rw [nI_clamp (n := i + 2) (by omega)]
  refine lv_aload_n hx hb dL_law_697 rfl (lv_at hl 1 rfl) ?_
  refine lv_iload hx hb dL_law_698 (lv_at hl 0 rfl) ?_
  refine lv_iconst (v := 3) hx hb dL_law_700 (by decide) ?_
  refine lv_iadd hx hb dL_law_701 ?_
  refine f_top (y := nI (i + 3)) (show nI i + nI 3 = nI (i + 3) from nI_add i 3) ?_
  refine va_sld hx hb hXs hbl hbA hw.2 (vp_in_nI (n := i + 3) (by omega) (by omega)) dL_law_702 ?_
  rw [nI_clamp (n := i + 3) (by omega)]
  refine lv_aload_n hx hb dL_law_703 rfl (lv_at hl 4 rfl) ?_
  refine k_wr (n := 5) X hnc hw hWr wq674 wq675 wq676 wq0 (by decide +kernel) ⟨(Nat.le_of_ble_eq_true rfl), (Nat.le_of_ble_eq_true rfl)⟩ rfl hl.1 rfl (Nat.le_of_ble_eq_true rfl) dL_law_704 ⟨by show cells + 90 ≤ 601024; omega, by show slots + 2200 ≤ 7293034; omega⟩ (fun ad1 M1 H locs A2 sf2 hC2 hL2 h1 h0 h3 hO hw => ?_)
  refine lv_istore (lv' := [(5, .int k), (4, .int (nI i)), (0, .ref b), (1, .ref (ad 0)), (2, .ref (ad 5)), (3, .ref (ad 32))]) hx hb dL_law_707 hl (by decide) rfl (fun ls hl => ?_)
  have hM1 : isMo g ad1 M1 th U sp ca := isMo_eq hM (fun q a b9 => h1 q a (by omega))
  have e5 : ad1 5 = ad 5 := (h1 5 (by omega) (by omega)).1
  obtain ⟨_, _, _, _, _, _, _, hMo, -⟩ := id hM1
  unfold mObj at hMo
  refine lv_aload_n hx hb dL_law_709 rfl (lv_at hl 4 rfl) ?_
  refine lv_aload_n hx hb dL_law_710 rfl (lv_at hl 2 rfl) ?_
  refine lv_iload hx hb dL_law_711 (lv_at hl 1 rfl) ?_
  refine lv_iconst (v := 1) hx hb dL_law_713 (by decide) ?_
  refine lv_iadd hx hb dL_law_714 ?_
  refine f_top (y := nI (i + 1)) (show nI i + nI 1 = nI (i + 1) from nI_add i 1) ?_
  refine va_sld hx hb hXs hbl hbA hw.2 (vp_in_nI (n := i + 1) (by omega) (by omega)) dL_law_715 ?_
  rw [nI_clamp (n := i + 1) (by omega)]
  refine lv_aload_n hx hb dL_law_716 rfl (lv_at hl 2 rfl) ?_
  refine lv_iload hx hb dL_law_717 (lv_at hl 1 rfl) ?_
  refine lv_iconst (v := 2) hx hb dL_law_719 (by decide) ?_
  refine lv_iadd hx hb dL_law_720 ?_
  refine f_top (y := nI (i + 2)) (show nI i + nI 2 = nI (i + 2) from nI_add i 2) ?_
  refine va_sld hx hb hXs hbl hbA hw.2 (vp_in_nI (n := i + 2) (by omega) (by omega)) dL_law_721 ?_
  rw [nI_clamp (n := i + 2) (by omega)]
  refine lv_aload_n hx hb dL_law_722 rfl (lv_at hl 2 rfl) ?_
  refine lv_iload hx hb dL_law_723 (lv_at hl 1 rfl) ?_
  refine lv_iconst (v := 3) hx hb dL_law_725 (by decide) ?_
  refine lv_iadd hx hb dL_law_726 ?_
  refine f_top (y := nI (i + 3)) (show nI i + nI 3 = nI (i + 3) from nI_add i 3) ?_
  refine va_sld hx hb hXs hbl hbA hw.2 (vp_in_nI (n := i + 3) (by omega) (by omega)) dL_law_727 ?_
  rw [nI_clamp (n := i + 3) (by omega)]
  refine fk_i (fcV X hw (hRf ad1 M1 hM1) hMo rfl wq936 kVX6_drive ⟨by show fr2 + 1 ≤ 13; omega, by show 8 + (6 + 11) + lo2 ≤ 506; omega⟩ rfl hl.1 (by rw [e5]; rfl) (Nat.le_of_ble_eq_true rfl) dL_law_728 ⟨by show cells + 90 + mc2 ≤ 601024; omega, by show slots + 2200 + ms2 ≤ 7293034; omega⟩) hw (fun r ad2 M2 H locs hp hw => ?_)
  obtain ⟨⟨U2, sp2, ca2, hs2, hM2⟩, hr2, h52, er⟩ := hp
  rw [er]
  obtain ⟨hC3, hO3, h03, h33⟩ := rest_w hC2 hO hr2
  refine lv_istore (lv' := [(6, .int b2), (5, .int k), (4, .int (nI i)), (0, .ref b), (1, .ref (ad 0)), (2, .ref (ad 5)), (3, .ref (ad 32))]) hx hb dL_law_731 hl (by decide) rfl (fun ls hl => ?_)
  obtain ⟨_, _, _, _, _, _, _, hMo2, -⟩ := id hM2
  unfold mObj at hMo2
  refine lv_aload_n hx hb dL_law_733 rfl (lv_at hl 5 rfl) ?_
  refine fk_di (fcV X hw (c_thrown l g ad2 M2 hM2) hMo2 rfl wq835 kVX6_thrown ⟨(Nat.le_of_ble_eq_true rfl), (Nat.le_of_ble_eq_true rfl)⟩ rfl hl.1 (by rw [h52, e5]; rfl) (Nat.le_of_ble_eq_true rfl) dL_law_734 ⟨by show cells + 90 + mc2 + 0 ≤ 601024; omega, by show slots + 2200 + ms2 + 0 ≤ 7293034; omega⟩) hw (fun H locs hw => ?_)
  refine lv_iload hx hb dL_law_737 (lv_at hl 1 rfl) ?_
  refine lv_icmp_eq (tgt := 744) hx hb dL_law_739 (by decide) (fun c1 => ?_) (fun c1 => absurd rfl c1)
  refine lv_iload hx hb dL_law_744 (lv_at hl 1 rfl) ?_
  refine lv_if_ne (tgt := 761) hx hb dL_law_746 (by decide) (fun c2 => ?_) (fun c2 => ?_)
  · refine lv_goto (tgt := 1459) hx hb dL_law_761 (by decide) ?_
    exact W.widen (k := cells + 130) (n := slots + 2600) (by omega) (by omega) (K ad2 M2 H locs ls A2 sf2 _ U2 sp2 ca2 _ hC3 hL2 hM2 hs2 hO3 hw (by unfold lLoc; rw [h03, h0, h52, e5, h33, h3]; exact lv_sub hl [2, 3, 4, 5, 6] rfl))
  · refine lv_aload_n hx hb dL_law_749 rfl (lv_at hl 6 rfl) ?_
    refine lv_iconst (v := 0) hx hb dL_law_750 (by decide) ?_
    refine f_adr2 (ad := ad2) (lb := 32) (h33.trans h3) ?_
    refine f_lald X hw hO3 (by unfold vp_in; decide) dL_law_751 ?_
    rw [show (0 : Int32).toNatClampNeg = 0 from rfl]
    refine lv_iload hx hb dL_law_752 (lv_at hl 0 rfl) ?_
    refine lv_i2l hx hb dL_law_754 rfl ?_
    refine W.lcmp hx hb dL_law_755 ?_
    refine lv_if_eq (tgt := 761) hx hb dL_law_756 (by decide) (fun c3 => ?_) (fun c3 => absurd ((lg_cmp_eq _ _).mpr (hkb c2)) c3)
    refine lv_goto (tgt := 1459) hx hb dL_law_761 (by decide) ?_
    exact W.widen (k := cells + 130) (n := slots + 2600) (by omega) (by omega) (K ad2 M2 H locs ls A2 sf2 _ U2 sp2 ca2 _ hC3 hL2 hM2 hs2 hO3 hw (by unfold lLoc; rw [h03, h0, h52, e5, h33, h3]; exact lv_sub hl [2, 3, 4, 5, 6] rfl))
set_option maxHeartbeats 4000000 in
set_option maxRecDepth 100000 in
theorem sg_relay {p : Program} {l : Launch} {e : Env} {s : State} {m : MethodId} {args : Array Value} {below : List Frame} {meth : Method} {c : Code} {H : Heap} {locs : List Loc} {cells slots : Nat} {Q : State → Prop} {g : fG} {ad : Nat → Nat} {M : fM} {ls : Array Slot} {b L i : Nat} {xs : Nat → Int32} (X : fX p s m args meth c code 9 ret RL g) (hnc : xNc s) (hXs : va_X b L xs s s.heap) (hbl : b < s.heap.size) (hbA : ¬ fA g b) (hL : L ≤ 2560) (hi : i + 5 ≤ L) (hw : fw g ad M s H locs) (hl : lv_has ls 9 (lLoc ad b i)) (hcl : cells + 130 ≤ 601024 ∧ slots + 2600 ≤ 7293034) {th : Int32} {U : fTn} {sp ca : Nat → Int32} (hM : isMo g ad M th U sp ca) {k b2 : Int32} {f2 : Nat → Int64} {T2 : fTn} {kf2 nf2 : Nat → Int32} {fr2 lo2 mc2 ms2 : Nat}
    (hWr : vx_Met l yL_relay (fWsH yL_relay cL_relay 5 (some .int) [(0, 10, 13, 13), (0, 10, 17, 17)]) (fR 10 260 90 2200) (va_Pc [.ref (cAd ad 0), .int (xs (i + 1)), .int (xs (i + 2)), .ref (cAd ad 3032)] (fSL g (cAd ad) (cMp M))) (fQi g (fWr g (cAd ad) (cMp M) T2 kf2 nf2 k f2)) fNX 90 2200 (fA g))
    (hRf : ∀ (ad1 : Nat → Nat) (M1 : fM), isMo g ad1 M1 th U sp ca → fCi l g yX6_relay cX6_relay 4 (some .int) fr2 lo2 mc2 ms2 ad1 M1 [.ref (ad1 5), .int (xs (i + 1)), .int (xs (i + 2))] (fRp g ad1 M1 T2 k b2)) (q1 : fr2 ≤ 8) (q2 : lo2 ≤ 190) (q3 : mc2 ≤ 35) (q4 : ms2 ≤ 395) (hkb : k = 0 → f2 0 = b2.toInt64)
    (K : LN p l e s m args below meth c Q g b i cells slots T2 kf2 nf2) : W p l e room_1 s m args below meth c H locs cells slots Q (F0 m 764 ls []) := by
  have hx := X.1
  have hb := X.2.1
  have hl : lv_has ls 9 [(4, .int (nI i)), (0, .ref b), (1, .ref (ad 0)), (2, .ref (ad 5)), (3, .ref (ad 32))] := hl
  refine lv_aload_n hx hb dL_law_764 rfl (lv_at hl 2 rfl) ?_
  refine lv_aload_n hx hb dL_law_765 rfl (lv_at hl 1 rfl) ?_
  refine lv_iload hx hb dL_law_766 (lv_at hl 0 rfl) ?_
  refine lv_iconst (v := 1) hx hb dL_law_768 (by decide) ?_
  refine lv_iadd hx hb dL_law_769 ?_
  refine f_top (y := nI (i + 1)) (show nI i + nI 1 = nI (i + 1) from nI_add i 1) ?_
  refine va_sld hx hb hXs hbl hbA hw.2 (vp_in_nI (n := i + 1) (by omega) (by omega)) dL_law_770 ?_
  rw [nI_clamp (n := i + 1) (by omega)]
  refine lv_aload_n hx hb dL_law_771 rfl (lv_at hl 1 rfl) ?_
  refine lv_iload hx hb dL_law_772 (lv_at hl 0 rfl) ?_
  refine lv_iconst (v := 2) hx hb dL_law_774 (by decide) ?_
  refine lv_iadd hx hb dL_law_775 ?_
  refine f_top (y := nI (i + 2)) (show nI i + nI 2 = nI (i + 2) from nI_add i 2) ?_
  refine va_sld hx hb hXs hbl hbA hw.2 (vp_in_nI (n := i + 2) (by omega) (by omega)) dL_law_776 ?_
  rw [nI_clamp (n := i + 2) (by omega)]
  refine lv_aload_n hx hb dL_law_777 rfl (lv_at hl 4 rfl) ?_
  refine k_wr (n := 4) X hnc hw hWr wq707 wq708 wq709 wq0 (by decide +kernel) ⟨(Nat.le_of_ble_eq_true rfl), (Nat.le_of_ble_eq_true rfl)⟩ rfl hl.1 rfl (Nat.le_of_ble_eq_true rfl) dL_law_778 ⟨by show cells + 90 ≤ 601024; omega, by show slots + 2200 ≤ 7293034; omega⟩ (fun ad1 M1 H locs A2 sf2 hC2 hL2 h1 h0 h3 hO hw => ?_)
  refine lv_istore (lv' := [(5, .int k), (4, .int (nI i)), (0, .ref b), (1, .ref (ad 0)), (2, .ref (ad 5)), (3, .ref (ad 32))]) hx hb dL_law_781 hl (by decide) rfl (fun ls hl => ?_)
  have hM1 : isMo g ad1 M1 th U sp ca := isMo_eq hM (fun q a b9 => h1 q a (by omega))
  have e5 : ad1 5 = ad 5 := (h1 5 (by omega) (by omega)).1
  obtain ⟨_, _, _, _, _, _, _, hMo, -⟩ := id hM1
  unfold mObj at hMo
  refine lv_aload_n hx hb dL_law_783 rfl (lv_at hl 4 rfl) ?_
  refine lv_aload_n hx hb dL_law_784 rfl (lv_at hl 2 rfl) ?_
  refine lv_iload hx hb dL_law_785 (lv_at hl 1 rfl) ?_
  refine lv_iconst (v := 1) hx hb dL_law_787 (by decide) ?_
  refine lv_iadd hx hb dL_law_788 ?_
  refine f_top (y := nI (i + 1)) (show nI i + nI 1 = nI (i + 1) from nI_add i 1) ?_
  refine va_sld hx hb hXs hbl hbA hw.2 (vp_in_nI (n := i + 1) (by omega) (by omega)) dL_law_789 ?_
  rw [nI_clamp (n := i + 1) (by omega)]
  refine lv_aload_n hx hb dL_law_790 rfl (lv_at hl 2 rfl) ?_
  refine lv_iload hx hb dL_law_791 (lv_at hl 1 rfl) ?_
  refine lv_iconst (v := 2) hx hb dL_law_793 (by decide) ?_
  refine lv_iadd hx hb dL_law_794 ?_
  refine f_top (y := nI (i + 2)) (show nI i + nI 2 = nI (i + 2) from nI_add i 2) ?_
  refine va_sld hx hb hXs hbl hbA hw.2 (vp_in_nI (n := i + 2) (by omega) (by omega)) dL_law_795 ?_
  rw [nI_clamp (n := i + 2) (by omega)]
  refine fk_i (fcV X hw (hRf ad1 M1 hM1) hMo rfl wq944 kVX6_relay ⟨by show fr2 + 1 ≤ 13; omega, by show 8 + (4 + 11) + lo2 ≤ 506; omega⟩ rfl hl.1 (by rw [e5]; rfl) (Nat.le_of_ble_eq_true rfl) dL_law_796 ⟨by show cells + 90 + mc2 ≤ 601024; omega, by show slots + 2200 + ms2 ≤ 7293034; omega⟩) hw (fun r ad2 M2 H locs hp hw => ?_)
  obtain ⟨⟨U2, sp2, ca2, hs2, hM2⟩, hr2, h52, er⟩ := hp
  rw [er]
  obtain ⟨hC3, hO3, h03, h33⟩ := rest_w hC2 hO hr2
  refine lv_istore (lv' := [(6, .int b2), (5, .int k), (4, .int (nI i)), (0, .ref b), (1, .ref (ad 0)), (2, .ref (ad 5)), (3, .ref (ad 32))]) hx hb dL_law_799 hl (by decide) rfl (fun ls hl => ?_)
  obtain ⟨_, _, _, _, _, _, _, hMo2, -⟩ := id hM2
  unfold mObj at hMo2
  refine lv_aload_n hx hb dL_law_801 rfl (lv_at hl 5 rfl) ?_
  refine fk_di (fcV X hw (c_thrown l g ad2 M2 hM2) hMo2 rfl wq835 kVX6_thrown ⟨(Nat.le_of_ble_eq_true rfl), (Nat.le_of_ble_eq_true rfl)⟩ rfl hl.1 (by rw [h52, e5]; rfl) (Nat.le_of_ble_eq_true rfl) dL_law_802 ⟨by show cells + 90 + mc2 + 0 ≤ 601024; omega, by show slots + 2200 + ms2 + 0 ≤ 7293034; omega⟩) hw (fun H locs hw => ?_)
  refine lv_iload hx hb dL_law_805 (lv_at hl 1 rfl) ?_
  refine lv_icmp_eq (tgt := 812) hx hb dL_law_807 (by decide) (fun c1 => ?_) (fun c1 => absurd rfl c1)
  refine lv_iload hx hb dL_law_812 (lv_at hl 1 rfl) ?_
  refine lv_if_ne (tgt := 829) hx hb dL_law_814 (by decide) (fun c2 => ?_) (fun c2 => ?_)
  · refine lv_goto (tgt := 1459) hx hb dL_law_829 (by decide) ?_
    exact W.widen (k := cells + 130) (n := slots + 2600) (by omega) (by omega) (K ad2 M2 H locs ls A2 sf2 _ U2 sp2 ca2 _ hC3 hL2 hM2 hs2 hO3 hw (by unfold lLoc; rw [h03, h0, h52, e5, h33, h3]; exact lv_sub hl [2, 3, 4, 5, 6] rfl))
  · refine lv_aload_n hx hb dL_law_817 rfl (lv_at hl 6 rfl) ?_
    refine lv_iconst (v := 0) hx hb dL_law_818 (by decide) ?_
    refine f_adr2 (ad := ad2) (lb := 32) (h33.trans h3) ?_
    refine f_lald X hw hO3 (by unfold vp_in; decide) dL_law_819 ?_
    rw [show (0 : Int32).toNatClampNeg = 0 from rfl]
    refine lv_iload hx hb dL_law_820 (lv_at hl 0 rfl) ?_
    refine lv_i2l hx hb dL_law_822 rfl ?_
    refine W.lcmp hx hb dL_law_823 ?_
    refine lv_if_eq (tgt := 829) hx hb dL_law_824 (by decide) (fun c3 => ?_) (fun c3 => absurd ((lg_cmp_eq _ _).mpr (hkb c2)) c3)
    refine lv_goto (tgt := 1459) hx hb dL_law_829 (by decide) ?_
    exact W.widen (k := cells + 130) (n := slots + 2600) (by omega) (by omega) (K ad2 M2 H locs ls A2 sf2 _ U2 sp2 ca2 _ hC3 hL2 hM2 hs2 hO3 hw (by unfold lLoc; rw [h03, h0, h52, e5, h33, h3]; exact lv_sub hl [2, 3, 4, 5, 6] rfl))
set_option maxHeartbeats 4000000 in
set_option maxRecDepth 100000 in
theorem sg_aim {p : Program} {l : Launch} {e : Env} {s : State} {m : MethodId} {args : Array Value} {below : List Frame} {meth : Method} {c : Code} {H : Heap} {locs : List Loc} {cells slots : Nat} {Q : State → Prop} {g : fG} {ad : Nat → Nat} {M : fM} {ls : Array Slot} {b L i : Nat} {xs : Nat → Int32} (X : fX p s m args meth c code 9 ret RL g) (hnc : xNc s) (hXs : va_X b L xs s s.heap) (hbl : b < s.heap.size) (hbA : ¬ fA g b) (hL : L ≤ 2560) (hi : i + 5 ≤ L) (hw : fw g ad M s H locs) (hl : lv_has ls 9 (lLoc ad b i)) (hcl : cells + 130 ≤ 601024 ∧ slots + 2600 ≤ 7293034) {th : Int32} {U : fTn} {sp ca : Nat → Int32} (hM : isMo g ad M th U sp ca) {k b2 : Int32} {f2 : Nat → Int64} {T2 : fTn} {kf2 nf2 : Nat → Int32} {fr2 lo2 mc2 ms2 : Nat}
    (hWr : vx_Met l yL_aim (fWsH yL_aim cL_aim 5 (some .int) [(0, 10, 13, 13), (0, 10, 17, 17)]) (fR 10 260 90 2200) (va_Pc [.ref (cAd ad 0), .int (xs (i + 1)), .int (xs (i + 2)), .ref (cAd ad 3032)] (fSL g (cAd ad) (cMp M))) (fQi g (fWr g (cAd ad) (cMp M) T2 kf2 nf2 k f2)) fNX 90 2200 (fA g))
    (hRf : ∀ (ad1 : Nat → Nat) (M1 : fM), isMo g ad1 M1 th U sp ca → fCi l g yX6_aim cX6_aim 4 (some .int) fr2 lo2 mc2 ms2 ad1 M1 [.ref (ad1 5), .int (xs (i + 1)), .int (xs (i + 2))] (fRp g ad1 M1 T2 k b2)) (q1 : fr2 ≤ 8) (q2 : lo2 ≤ 190) (q3 : mc2 ≤ 35) (q4 : ms2 ≤ 395) (hkb : k = 0 → f2 0 = b2.toInt64)
    (K : LN p l e s m args below meth c Q g b i cells slots T2 kf2 nf2) : W p l e room_1 s m args below meth c H locs cells slots Q (F0 m 832 ls []) := by
  have hx := X.1
  have hb := X.2.1
  have hl : lv_has ls 9 [(4, .int (nI i)), (0, .ref b), (1, .ref (ad 0)), (2, .ref (ad 5)), (3, .ref (ad 32))] := hl
  refine lv_aload_n hx hb dL_law_832 rfl (lv_at hl 2 rfl) ?_
  refine lv_aload_n hx hb dL_law_833 rfl (lv_at hl 1 rfl) ?_
  refine lv_iload hx hb dL_law_834 (lv_at hl 0 rfl) ?_
  refine lv_iconst (v := 1) hx hb dL_law_836 (by decide) ?_
  refine lv_iadd hx hb dL_law_837 ?_
  refine f_top (y := nI (i + 1)) (show nI i + nI 1 = nI (i + 1) from nI_add i 1) ?_
  refine va_sld hx hb hXs hbl hbA hw.2 (vp_in_nI (n := i + 1) (by omega) (by omega)) dL_law_838 ?_
  rw [nI_clamp (n := i + 1) (by omega)]
  refine lv_aload_n hx hb dL_law_839 rfl (lv_at hl 1 rfl) ?_
  refine lv_iload hx hb dL_law_840 (lv_at hl 0 rfl) ?_
  refine lv_iconst (v := 2) hx hb dL_law_842 (by decide) ?_
  refine lv_iadd hx hb dL_law_843 ?_
  refine f_top (y := nI (i + 2)) (show nI i + nI 2 = nI (i + 2) from nI_add i 2) ?_
  refine va_sld hx hb hXs hbl hbA hw.2 (vp_in_nI (n := i + 2) (by omega) (by omega)) dL_law_844 ?_
  rw [nI_clamp (n := i + 2) (by omega)]
  refine lv_aload_n hx hb dL_law_845 rfl (lv_at hl 4 rfl) ?_
  refine k_wr (n := 4) X hnc hw hWr wq719 wq720 wq721 wq0 (by decide +kernel) ⟨(Nat.le_of_ble_eq_true rfl), (Nat.le_of_ble_eq_true rfl)⟩ rfl hl.1 rfl (Nat.le_of_ble_eq_true rfl) dL_law_846 ⟨by show cells + 90 ≤ 601024; omega, by show slots + 2200 ≤ 7293034; omega⟩ (fun ad1 M1 H locs A2 sf2 hC2 hL2 h1 h0 h3 hO hw => ?_)
  refine lv_istore (lv' := [(5, .int k), (4, .int (nI i)), (0, .ref b), (1, .ref (ad 0)), (2, .ref (ad 5)), (3, .ref (ad 32))]) hx hb dL_law_849 hl (by decide) rfl (fun ls hl => ?_)
  have hM1 : isMo g ad1 M1 th U sp ca := isMo_eq hM (fun q a b9 => h1 q a (by omega))
  have e5 : ad1 5 = ad 5 := (h1 5 (by omega) (by omega)).1
  obtain ⟨_, _, _, _, _, _, _, hMo, -⟩ := id hM1
  unfold mObj at hMo
  refine lv_aload_n hx hb dL_law_851 rfl (lv_at hl 4 rfl) ?_
  refine lv_aload_n hx hb dL_law_852 rfl (lv_at hl 2 rfl) ?_
  refine lv_iload hx hb dL_law_853 (lv_at hl 1 rfl) ?_
  refine lv_iconst (v := 1) hx hb dL_law_855 (by decide) ?_
  refine lv_iadd hx hb dL_law_856 ?_
  refine f_top (y := nI (i + 1)) (show nI i + nI 1 = nI (i + 1) from nI_add i 1) ?_
  refine va_sld hx hb hXs hbl hbA hw.2 (vp_in_nI (n := i + 1) (by omega) (by omega)) dL_law_857 ?_
  rw [nI_clamp (n := i + 1) (by omega)]
  refine lv_aload_n hx hb dL_law_858 rfl (lv_at hl 2 rfl) ?_
  refine lv_iload hx hb dL_law_859 (lv_at hl 1 rfl) ?_
  refine lv_iconst (v := 2) hx hb dL_law_861 (by decide) ?_
  refine lv_iadd hx hb dL_law_862 ?_
  refine f_top (y := nI (i + 2)) (show nI i + nI 2 = nI (i + 2) from nI_add i 2) ?_
  refine va_sld hx hb hXs hbl hbA hw.2 (vp_in_nI (n := i + 2) (by omega) (by omega)) dL_law_863 ?_
  rw [nI_clamp (n := i + 2) (by omega)]
  refine fk_i (fcV X hw (hRf ad1 M1 hM1) hMo rfl wq959 kVX6_aim ⟨by show fr2 + 1 ≤ 13; omega, by show 8 + (4 + 11) + lo2 ≤ 506; omega⟩ rfl hl.1 (by rw [e5]; rfl) (Nat.le_of_ble_eq_true rfl) dL_law_864 ⟨by show cells + 90 + mc2 ≤ 601024; omega, by show slots + 2200 + ms2 ≤ 7293034; omega⟩) hw (fun r ad2 M2 H locs hp hw => ?_)
  obtain ⟨⟨U2, sp2, ca2, hs2, hM2⟩, hr2, h52, er⟩ := hp
  rw [er]
  obtain ⟨hC3, hO3, h03, h33⟩ := rest_w hC2 hO hr2
  refine lv_istore (lv' := [(6, .int b2), (5, .int k), (4, .int (nI i)), (0, .ref b), (1, .ref (ad 0)), (2, .ref (ad 5)), (3, .ref (ad 32))]) hx hb dL_law_867 hl (by decide) rfl (fun ls hl => ?_)
  obtain ⟨_, _, _, _, _, _, _, hMo2, -⟩ := id hM2
  unfold mObj at hMo2
  refine lv_aload_n hx hb dL_law_869 rfl (lv_at hl 5 rfl) ?_
  refine fk_di (fcV X hw (c_thrown l g ad2 M2 hM2) hMo2 rfl wq835 kVX6_thrown ⟨(Nat.le_of_ble_eq_true rfl), (Nat.le_of_ble_eq_true rfl)⟩ rfl hl.1 (by rw [h52, e5]; rfl) (Nat.le_of_ble_eq_true rfl) dL_law_870 ⟨by show cells + 90 + mc2 + 0 ≤ 601024; omega, by show slots + 2200 + ms2 + 0 ≤ 7293034; omega⟩) hw (fun H locs hw => ?_)
  refine lv_iload hx hb dL_law_873 (lv_at hl 1 rfl) ?_
  refine lv_icmp_eq (tgt := 880) hx hb dL_law_875 (by decide) (fun c1 => ?_) (fun c1 => absurd rfl c1)
  refine lv_iload hx hb dL_law_880 (lv_at hl 1 rfl) ?_
  refine lv_if_ne (tgt := 897) hx hb dL_law_882 (by decide) (fun c2 => ?_) (fun c2 => ?_)
  · refine lv_goto (tgt := 1459) hx hb dL_law_897 (by decide) ?_
    exact W.widen (k := cells + 130) (n := slots + 2600) (by omega) (by omega) (K ad2 M2 H locs ls A2 sf2 _ U2 sp2 ca2 _ hC3 hL2 hM2 hs2 hO3 hw (by unfold lLoc; rw [h03, h0, h52, e5, h33, h3]; exact lv_sub hl [2, 3, 4, 5, 6] rfl))
  · refine lv_aload_n hx hb dL_law_885 rfl (lv_at hl 6 rfl) ?_
    refine lv_iconst (v := 0) hx hb dL_law_886 (by decide) ?_
    refine f_adr2 (ad := ad2) (lb := 32) (h33.trans h3) ?_
    refine f_lald X hw hO3 (by unfold vp_in; decide) dL_law_887 ?_
    rw [show (0 : Int32).toNatClampNeg = 0 from rfl]
    refine lv_iload hx hb dL_law_888 (lv_at hl 0 rfl) ?_
    refine lv_i2l hx hb dL_law_890 rfl ?_
    refine W.lcmp hx hb dL_law_891 ?_
    refine lv_if_eq (tgt := 897) hx hb dL_law_892 (by decide) (fun c3 => ?_) (fun c3 => absurd ((lg_cmp_eq _ _).mpr (hkb c2)) c3)
    refine lv_goto (tgt := 1459) hx hb dL_law_897 (by decide) ?_
    exact W.widen (k := cells + 130) (n := slots + 2600) (by omega) (by omega) (K ad2 M2 H locs ls A2 sf2 _ U2 sp2 ca2 _ hC3 hL2 hM2 hs2 hO3 hw (by unfold lLoc; rw [h03, h0, h52, e5, h33, h3]; exact lv_sub hl [2, 3, 4, 5, 6] rfl))
set_option maxHeartbeats 4000000 in
set_option maxRecDepth 100000 in
theorem sg_takeUp {p : Program} {l : Launch} {e : Env} {s : State} {m : MethodId} {args : Array Value} {below : List Frame} {meth : Method} {c : Code} {H : Heap} {locs : List Loc} {cells slots : Nat} {Q : State → Prop} {g : fG} {ad : Nat → Nat} {M : fM} {ls : Array Slot} {b L i : Nat} {xs : Nat → Int32} (X : fX p s m args meth c code 9 ret RL g) (hnc : xNc s) (hXs : va_X b L xs s s.heap) (hbl : b < s.heap.size) (hbA : ¬ fA g b) (hL : L ≤ 2560) (hi : i + 5 ≤ L) (hw : fw g ad M s H locs) (hl : lv_has ls 9 (lLoc ad b i)) (hcl : cells + 130 ≤ 601024 ∧ slots + 2600 ≤ 7293034) {th : Int32} {U : fTn} {sp ca : Nat → Int32} (hM : isMo g ad M th U sp ca) {k b2 : Int32} {f2 : Nat → Int64} {T2 : fTn} {kf2 nf2 : Nat → Int32} {fr2 lo2 mc2 ms2 : Nat}
    (hWr : vx_Met l yL_takeUp (fWsH yL_takeUp cL_takeUp 4 (some .int) [(0, 16, 19, 13)]) (fR 10 260 90 2200) (va_Pc [.ref (cAd ad 0), .int (xs (i + 1)), .ref (cAd ad 3032)] (fSL g (cAd ad) (cMp M))) (fQi g (fWr g (cAd ad) (cMp M) T2 kf2 nf2 k f2)) fNX 90 2200 (fA g))
    (hRf : ∀ (ad1 : Nat → Nat) (M1 : fM), isMo g ad1 M1 th U sp ca → fCi l g yX6_takeUp cX6_takeUp 3 (some .boolean) fr2 lo2 mc2 ms2 ad1 M1 [.ref (ad1 5), .int (xs (i + 1))] (fRp g ad1 M1 T2 k b2)) (q1 : fr2 ≤ 8) (q2 : lo2 ≤ 190) (q3 : mc2 ≤ 35) (q4 : ms2 ≤ 395) (hkb : k = 0 → f2 0 = b2.toInt64) (hb2 : b2 = 0 ∨ b2 = 1)
    (K : LN p l e s m args below meth c Q g b i cells slots T2 kf2 nf2) : W p l e room_1 s m args below meth c H locs cells slots Q (F0 m 900 ls []) := by
  have hx := X.1
  have hb := X.2.1
  have hl : lv_has ls 9 [(4, .int (nI i)), (0, .ref b), (1, .ref (ad 0)), (2, .ref (ad 5)), (3, .ref (ad 32))] := hl
  refine lv_aload_n hx hb dL_law_900 rfl (lv_at hl 2 rfl) ?_
  refine lv_aload_n hx hb dL_law_901 rfl (lv_at hl 1 rfl) ?_
  refine lv_iload hx hb dL_law_902 (lv_at hl 0 rfl) ?_
  refine lv_iconst (v := 1) hx hb dL_law_904 (by decide) ?_
  refine lv_iadd hx hb dL_law_905 ?_
  refine f_top (y := nI (i + 1)) (show nI i + nI 1 = nI (i + 1) from nI_add i 1) ?_
  refine va_sld hx hb hXs hbl hbA hw.2 (vp_in_nI (n := i + 1) (by omega) (by omega)) dL_law_906 ?_
  rw [nI_clamp (n := i + 1) (by omega)]
  refine lv_aload_n hx hb dL_law_907 rfl (lv_at hl 4 rfl) ?_
  refine k_wr (n := 3) X hnc hw hWr wq726 wq727 wq728 wq0 (by decide +kernel) ⟨(Nat.le_of_ble_eq_true rfl), (Nat.le_of_ble_eq_true rfl)⟩ rfl hl.1 rfl (Nat.le_of_ble_eq_true rfl) dL_law_908 ⟨by show cells + 90 ≤ 601024; omega, by show slots + 2200 ≤ 7293034; omega⟩ (fun ad1 M1 H locs A2 sf2 hC2 hL2 h1 h0 h3 hO hw => ?_)
  refine lv_istore (lv' := [(5, .int k), (4, .int (nI i)), (0, .ref b), (1, .ref (ad 0)), (2, .ref (ad 5)), (3, .ref (ad 32))]) hx hb dL_law_911 hl (by decide) rfl (fun ls hl => ?_)
  have hM1 : isMo g ad1 M1 th U sp ca := isMo_eq hM (fun q a b9 => h1 q a (by omega))
  have e5 : ad1 5 = ad 5 := (h1 5 (by omega) (by omega)).1
  obtain ⟨_, _, _, _, _, _, _, hMo, -⟩ := id hM1
  unfold mObj at hMo
  refine lv_aload_n hx hb dL_law_913 rfl (lv_at hl 4 rfl) ?_
  refine lv_aload_n hx hb dL_law_914 rfl (lv_at hl 2 rfl) ?_
  refine lv_iload hx hb dL_law_915 (lv_at hl 1 rfl) ?_
  refine lv_iconst (v := 1) hx hb dL_law_917 (by decide) ?_
  refine lv_iadd hx hb dL_law_918 ?_
  refine f_top (y := nI (i + 1)) (show nI i + nI 1 = nI (i + 1) from nI_add i 1) ?_
  refine va_sld hx hb hXs hbl hbA hw.2 (vp_in_nI (n := i + 1) (by omega) (by omega)) dL_law_919 ?_
  rw [nI_clamp (n := i + 1) (by omega)]
  refine fk_i (fcV X hw (hRf ad1 M1 hM1) hMo rfl wq963 kVX6_takeUp ⟨by show fr2 + 1 ≤ 13; omega, by show 8 + (3 + 11) + lo2 ≤ 506; omega⟩ rfl hl.1 (by rw [e5]; rfl) (Nat.le_of_ble_eq_true rfl) dL_law_920 ⟨by show cells + 90 + mc2 ≤ 601024; omega, by show slots + 2200 + ms2 ≤ 7293034; omega⟩) hw (fun r ad2 M2 H locs hp hw => ?_)
  obtain ⟨⟨U2, sp2, ca2, hs2, hM2⟩, hr2, h52, er⟩ := hp
  rw [er]
  obtain ⟨hC3, hO3, h03, h33⟩ := rest_w hC2 hO hr2
  refine lv_istore (lv' := [(6, .int b2), (5, .int k), (4, .int (nI i)), (0, .ref b), (1, .ref (ad 0)), (2, .ref (ad 5)), (3, .ref (ad 32))]) hx hb dL_law_923 hl (by decide) rfl (fun ls hl => ?_)
  obtain ⟨_, _, _, _, _, _, _, hMo2, -⟩ := id hM2
  unfold mObj at hMo2
  refine lv_aload_n hx hb dL_law_925 rfl (lv_at hl 5 rfl) ?_
  refine fk_di (fcV X hw (c_thrown l g ad2 M2 hM2) hMo2 rfl wq835 kVX6_thrown ⟨(Nat.le_of_ble_eq_true rfl), (Nat.le_of_ble_eq_true rfl)⟩ rfl hl.1 (by rw [h52, e5]; rfl) (Nat.le_of_ble_eq_true rfl) dL_law_926 ⟨by show cells + 90 + mc2 + 0 ≤ 601024; omega, by show slots + 2200 + ms2 + 0 ≤ 7293034; omega⟩) hw (fun H locs hw => ?_)
  refine lv_iload hx hb dL_law_929 (lv_at hl 1 rfl) ?_
  refine lv_icmp_eq (tgt := 936) hx hb dL_law_931 (by decide) (fun c1 => ?_) (fun c1 => absurd rfl c1)
  refine lv_iload hx hb dL_law_936 (lv_at hl 1 rfl) ?_
  refine lv_if_ne (tgt := 960) hx hb dL_law_938 (by decide) (fun c2 => ?_) (fun c2 => ?_)
  · refine lv_goto (tgt := 1459) hx hb dL_law_960 (by decide) ?_
    exact W.widen (k := cells + 130) (n := slots + 2600) (by omega) (by omega) (K ad2 M2 H locs ls A2 sf2 _ U2 sp2 ca2 _ hC3 hL2 hM2 hs2 hO3 hw (by unfold lLoc; rw [h03, h0, h52, e5, h33, h3]; exact lv_sub hl [2, 3, 4, 5, 6] rfl))
  · refine lv_aload_n hx hb dL_law_941 rfl (lv_at hl 6 rfl) ?_
    refine lv_iconst (v := 0) hx hb dL_law_942 (by decide) ?_
    refine f_adr2 (ad := ad2) (lb := 32) (h33.trans h3) ?_
    refine f_lald X hw hO3 (by unfold vp_in; decide) dL_law_943 ?_
    rw [show (0 : Int32).toNatClampNeg = 0 from rfl]
    refine lv_iload hx hb dL_law_944 (lv_at hl 0 rfl) ?_
    refine lv_if_eq (tgt := 953) hx hb dL_law_946 (by decide) (fun c4 => ?_) (fun c4 => ?_)
    · refine lv_lconst (v := 0) hx hb dL_law_953 (by decide) ?_
      refine W.lcmp hx hb dL_law_954 ?_
      refine lv_if_eq (tgt := 960) hx hb dL_law_955 (by decide) (fun c3 => ?_) (fun c3 => absurd ((lg_cmp_eq _ _).mpr (by rw [hkb c2, c4]; rfl)) c3)
      refine lv_goto (tgt := 1459) hx hb dL_law_960 (by decide) ?_
      exact W.widen (k := cells + 130) (n := slots + 2600) (by omega) (by omega) (K ad2 M2 H locs ls A2 sf2 _ U2 sp2 ca2 _ hC3 hL2 hM2 hs2 hO3 hw (by unfold lLoc; rw [h03, h0, h52, e5, h33, h3]; exact lv_sub hl [2, 3, 4, 5, 6] rfl))
    · refine lv_lconst (v := 1) hx hb dL_law_949 (by decide) ?_
      refine lv_goto (tgt := 954) hx hb dL_law_950 (by decide) ?_
      refine W.lcmp hx hb dL_law_954 ?_
      refine lv_if_eq (tgt := 960) hx hb dL_law_955 (by decide) (fun c3 => ?_) (fun c3 => absurd ((lg_cmp_eq _ _).mpr (by rw [hkb c2, hb2.resolve_left c4]; rfl)) c3)
      refine lv_goto (tgt := 1459) hx hb dL_law_960 (by decide) ?_
      exact W.widen (k := cells + 130) (n := slots + 2600) (by omega) (by omega) (K ad2 M2 H locs ls A2 sf2 _ U2 sp2 ca2 _ hC3 hL2 hM2 hs2 hO3 hw (by unfold lLoc; rw [h03, h0, h52, e5, h33, h3]; exact lv_sub hl [2, 3, 4, 5, 6] rfl))
set_option maxHeartbeats 4000000 in
set_option maxRecDepth 100000 in
theorem sg_engine {p : Program} {l : Launch} {e : Env} {s : State} {m : MethodId} {args : Array Value} {below : List Frame} {meth : Method} {c : Code} {H : Heap} {locs : List Loc} {cells slots : Nat} {Q : State → Prop} {g : fG} {ad : Nat → Nat} {M : fM} {ls : Array Slot} {b L i : Nat} {xs : Nat → Int32} (X : fX p s m args meth c code 9 ret RL g) (hnc : xNc s) (hXs : va_X b L xs s s.heap) (hbl : b < s.heap.size) (hbA : ¬ fA g b) (hL : L ≤ 2560) (hi : i + 5 ≤ L) (hw : fw g ad M s H locs) (hl : lv_has ls 9 (lLoc ad b i)) (hcl : cells + 130 ≤ 601024 ∧ slots + 2600 ≤ 7293034) {th : Int32} {U : fTn} {sp ca : Nat → Int32} (hM : isMo g ad M th U sp ca) {k b2 : Int32} {f2 : Nat → Int64} {T2 : fTn} {kf2 nf2 : Nat → Int32} {fr2 lo2 mc2 ms2 : Nat}
    (hWr : vx_Met l yL_engine (fWsH yL_engine cL_engine 5 (some .int) [(0, 10, 13, 13)]) (fR 10 260 90 2200) (va_Pc [.ref (cAd ad 0), .int (xs (i + 1)), .int (xs (i + 2)), .ref (cAd ad 3032)] (fSL g (cAd ad) (cMp M))) (fQi g (fWr g (cAd ad) (cMp M) T2 kf2 nf2 k f2)) fNX 90 2200 (fA g))
    (hRf : ∀ (ad1 : Nat → Nat) (M1 : fM), isMo g ad1 M1 th U sp ca → fCi l g yX6_engine cX6_engine 3 (some .int) fr2 lo2 mc2 ms2 ad1 M1 [.ref (ad1 5), .int (xs (i + 1)), .int (xs (i + 2))] (fRp g ad1 M1 T2 k b2)) (q1 : fr2 ≤ 8) (q2 : lo2 ≤ 190) (q3 : mc2 ≤ 35) (q4 : ms2 ≤ 395) (hkb : k = 0 → f2 0 = b2.toInt64)
    (K : LN p l e s m args below meth c Q g b i cells slots T2 kf2 nf2) : W p l e room_1 s m args below meth c H locs cells slots Q (F0 m 963 ls []) := by
  have hx := X.1
  have hb := X.2.1
  have hl : lv_has ls 9 [(4, .int (nI i)), (0, .ref b), (1, .ref (ad 0)), (2, .ref (ad 5)), (3, .ref (ad 32))] := hl
  refine lv_aload_n hx hb dL_law_963 rfl (lv_at hl 2 rfl) ?_
  refine lv_aload_n hx hb dL_law_964 rfl (lv_at hl 1 rfl) ?_
  refine lv_iload hx hb dL_law_965 (lv_at hl 0 rfl) ?_
  refine lv_iconst (v := 1) hx hb dL_law_967 (by decide) ?_
  refine lv_iadd hx hb dL_law_968 ?_
  refine f_top (y := nI (i + 1)) (show nI i + nI 1 = nI (i + 1) from nI_add i 1) ?_
  refine va_sld hx hb hXs hbl hbA hw.2 (vp_in_nI (n := i + 1) (by omega) (by omega)) dL_law_969 ?_
  rw [nI_clamp (n := i + 1) (by omega)]
  refine lv_aload_n hx hb dL_law_970 rfl (lv_at hl 1 rfl) ?_
  refine lv_iload hx hb dL_law_971 (lv_at hl 0 rfl) ?_
  refine lv_iconst (v := 2) hx hb dL_law_973 (by decide) ?_
  refine lv_iadd hx hb dL_law_974 ?_
  refine f_top (y := nI (i + 2)) (show nI i + nI 2 = nI (i + 2) from nI_add i 2) ?_
  refine va_sld hx hb hXs hbl hbA hw.2 (vp_in_nI (n := i + 2) (by omega) (by omega)) dL_law_975 ?_
  rw [nI_clamp (n := i + 2) (by omega)]
  refine lv_aload_n hx hb dL_law_976 rfl (lv_at hl 4 rfl) ?_
  refine k_wr (n := 4) X hnc hw hWr wq733 wq734 wq735 wq0 (by decide +kernel) ⟨(Nat.le_of_ble_eq_true rfl), (Nat.le_of_ble_eq_true rfl)⟩ rfl hl.1 rfl (Nat.le_of_ble_eq_true rfl) dL_law_977 ⟨by show cells + 90 ≤ 601024; omega, by show slots + 2200 ≤ 7293034; omega⟩ (fun ad1 M1 H locs A2 sf2 hC2 hL2 h1 h0 h3 hO hw => ?_)
  refine lv_istore (lv' := [(5, .int k), (4, .int (nI i)), (0, .ref b), (1, .ref (ad 0)), (2, .ref (ad 5)), (3, .ref (ad 32))]) hx hb dL_law_980 hl (by decide) rfl (fun ls hl => ?_)
  have hM1 : isMo g ad1 M1 th U sp ca := isMo_eq hM (fun q a b9 => h1 q a (by omega))
  have e5 : ad1 5 = ad 5 := (h1 5 (by omega) (by omega)).1
  obtain ⟨_, _, _, _, _, _, _, hMo, -⟩ := id hM1
  unfold mObj at hMo
  refine lv_aload_n hx hb dL_law_982 rfl (lv_at hl 4 rfl) ?_
  refine lv_aload_n hx hb dL_law_983 rfl (lv_at hl 2 rfl) ?_
  refine lv_iload hx hb dL_law_984 (lv_at hl 1 rfl) ?_
  refine lv_iconst (v := 1) hx hb dL_law_986 (by decide) ?_
  refine lv_iadd hx hb dL_law_987 ?_
  refine f_top (y := nI (i + 1)) (show nI i + nI 1 = nI (i + 1) from nI_add i 1) ?_
  refine va_sld hx hb hXs hbl hbA hw.2 (vp_in_nI (n := i + 1) (by omega) (by omega)) dL_law_988 ?_
  rw [nI_clamp (n := i + 1) (by omega)]
  refine lv_aload_n hx hb dL_law_989 rfl (lv_at hl 2 rfl) ?_
  refine lv_iload hx hb dL_law_990 (lv_at hl 1 rfl) ?_
  refine lv_iconst (v := 2) hx hb dL_law_992 (by decide) ?_
  refine lv_iadd hx hb dL_law_993 ?_
  refine f_top (y := nI (i + 2)) (show nI i + nI 2 = nI (i + 2) from nI_add i 2) ?_
  refine va_sld hx hb hXs hbl hbA hw.2 (vp_in_nI (n := i + 2) (by omega) (by omega)) dL_law_994 ?_
  rw [nI_clamp (n := i + 2) (by omega)]
  refine fk_i (fcV X hw (hRf ad1 M1 hM1) hMo rfl wq967 kVX6_engine ⟨by show fr2 + 1 ≤ 13; omega, by show 8 + (3 + 11) + lo2 ≤ 506; omega⟩ rfl hl.1 (by rw [e5]; rfl) (Nat.le_of_ble_eq_true rfl) dL_law_995 ⟨by show cells + 90 + mc2 ≤ 601024; omega, by show slots + 2200 + ms2 ≤ 7293034; omega⟩) hw (fun r ad2 M2 H locs hp hw => ?_)
  obtain ⟨⟨U2, sp2, ca2, hs2, hM2⟩, hr2, h52, er⟩ := hp
  rw [er]
  obtain ⟨hC3, hO3, h03, h33⟩ := rest_w hC2 hO hr2
  refine lv_istore (lv' := [(6, .int b2), (5, .int k), (4, .int (nI i)), (0, .ref b), (1, .ref (ad 0)), (2, .ref (ad 5)), (3, .ref (ad 32))]) hx hb dL_law_998 hl (by decide) rfl (fun ls hl => ?_)
  obtain ⟨_, _, _, _, _, _, _, hMo2, -⟩ := id hM2
  unfold mObj at hMo2
  refine lv_aload_n hx hb dL_law_1000 rfl (lv_at hl 5 rfl) ?_
  refine fk_di (fcV X hw (c_thrown l g ad2 M2 hM2) hMo2 rfl wq835 kVX6_thrown ⟨(Nat.le_of_ble_eq_true rfl), (Nat.le_of_ble_eq_true rfl)⟩ rfl hl.1 (by rw [h52, e5]; rfl) (Nat.le_of_ble_eq_true rfl) dL_law_1001 ⟨by show cells + 90 + mc2 + 0 ≤ 601024; omega, by show slots + 2200 + ms2 + 0 ≤ 7293034; omega⟩) hw (fun H locs hw => ?_)
  refine lv_iload hx hb dL_law_1004 (lv_at hl 1 rfl) ?_
  refine lv_icmp_eq (tgt := 1011) hx hb dL_law_1006 (by decide) (fun c1 => ?_) (fun c1 => absurd rfl c1)
  refine lv_iload hx hb dL_law_1011 (lv_at hl 1 rfl) ?_
  refine lv_if_ne (tgt := 1028) hx hb dL_law_1013 (by decide) (fun c2 => ?_) (fun c2 => ?_)
  · refine lv_goto (tgt := 1459) hx hb dL_law_1028 (by decide) ?_
    exact W.widen (k := cells + 130) (n := slots + 2600) (by omega) (by omega) (K ad2 M2 H locs ls A2 sf2 _ U2 sp2 ca2 _ hC3 hL2 hM2 hs2 hO3 hw (by unfold lLoc; rw [h03, h0, h52, e5, h33, h3]; exact lv_sub hl [2, 3, 4, 5, 6] rfl))
  · refine lv_aload_n hx hb dL_law_1016 rfl (lv_at hl 6 rfl) ?_
    refine lv_iconst (v := 0) hx hb dL_law_1017 (by decide) ?_
    refine f_adr2 (ad := ad2) (lb := 32) (h33.trans h3) ?_
    refine f_lald X hw hO3 (by unfold vp_in; decide) dL_law_1018 ?_
    rw [show (0 : Int32).toNatClampNeg = 0 from rfl]
    refine lv_iload hx hb dL_law_1019 (lv_at hl 0 rfl) ?_
    refine lv_i2l hx hb dL_law_1021 rfl ?_
    refine W.lcmp hx hb dL_law_1022 ?_
    refine lv_if_eq (tgt := 1028) hx hb dL_law_1023 (by decide) (fun c3 => ?_) (fun c3 => absurd ((lg_cmp_eq _ _).mpr (hkb c2)) c3)
    refine lv_goto (tgt := 1459) hx hb dL_law_1028 (by decide) ?_
    exact W.widen (k := cells + 130) (n := slots + 2600) (by omega) (by omega) (K ad2 M2 H locs ls A2 sf2 _ U2 sp2 ca2 _ hC3 hL2 hM2 hs2 hO3 hw (by unfold lLoc; rw [h03, h0, h52, e5, h33, h3]; exact lv_sub hl [2, 3, 4, 5, 6] rfl))
set_option maxHeartbeats 4000000 in
set_option maxRecDepth 100000 in
theorem sg_pond {p : Program} {l : Launch} {e : Env} {s : State} {m : MethodId} {args : Array Value} {below : List Frame} {meth : Method} {c : Code} {H : Heap} {locs : List Loc} {cells slots : Nat} {Q : State → Prop} {g : fG} {ad : Nat → Nat} {M : fM} {ls : Array Slot} {b L i : Nat} {xs : Nat → Int32} (X : fX p s m args meth c code 9 ret RL g) (hnc : xNc s) (hXs : va_X b L xs s s.heap) (hbl : b < s.heap.size) (hbA : ¬ fA g b) (hL : L ≤ 2560) (hi : i + 5 ≤ L) (hw : fw g ad M s H locs) (hl : lv_has ls 9 (lLoc ad b i)) (hcl : cells + 130 ≤ 601024 ∧ slots + 2600 ≤ 7293034) {th : Int32} {U : fTn} {sp ca : Nat → Int32} (hM : isMo g ad M th U sp ca) {k b2 : Int32} {f2 : Nat → Int64} {T2 : fTn} {kf2 nf2 : Nat → Int32} {fr2 lo2 mc2 ms2 : Nat}
    (hWr : vx_Met l yL_pond (fWsH yL_pond cL_pond 4 (some .int) [(0, 9, 12, 13)]) (fR 10 260 90 2200) (va_Pc [.ref (cAd ad 0), .int (xs (i + 1)), .ref (cAd ad 3032)] (fSL g (cAd ad) (cMp M))) (fQi g (fWr g (cAd ad) (cMp M) T2 kf2 nf2 k f2)) fNX 90 2200 (fA g))
    (hRf : ∀ (ad1 : Nat → Nat) (M1 : fM), isMo g ad1 M1 th U sp ca → fCi l g yX6_pond cX6_pond 2 (some .int) fr2 lo2 mc2 ms2 ad1 M1 [.ref (ad1 5), .int (xs (i + 1))] (fRp g ad1 M1 T2 k b2)) (q1 : fr2 ≤ 8) (q2 : lo2 ≤ 190) (q3 : mc2 ≤ 35) (q4 : ms2 ≤ 395) (hkb : k = 0 → f2 0 = b2.toInt64)
    (K : LN p l e s m args below meth c Q g b i cells slots T2 kf2 nf2) : W p l e room_1 s m args below meth c H locs cells slots Q (F0 m 1031 ls []) := by
  have hx := X.1
  have hb := X.2.1
  have hl : lv_has ls 9 [(4, .int (nI i)), (0, .ref b), (1, .ref (ad 0)), (2, .ref (ad 5)), (3, .ref (ad 32))] := hl
  refine lv_aload_n hx hb dL_law_1031 rfl (lv_at hl 2 rfl) ?_
  refine lv_aload_n hx hb dL_law_1032 rfl (lv_at hl 1 rfl) ?_
  refine lv_iload hx hb dL_law_1033 (lv_at hl 0 rfl) ?_
  refine lv_iconst (v := 1) hx hb dL_law_1035 (by decide) ?_
  refine lv_iadd hx hb dL_law_1036 ?_
  refine f_top (y := nI (i + 1)) (show nI i + nI 1 = nI (i + 1) from nI_add i 1) ?_
  refine va_sld hx hb hXs hbl hbA hw.2 (vp_in_nI (n := i + 1) (by omega) (by omega)) dL_law_1037 ?_
  rw [nI_clamp (n := i + 1) (by omega)]
  refine lv_aload_n hx hb dL_law_1038 rfl (lv_at hl 4 rfl) ?_
  refine k_wr (n := 3) X hnc hw hWr wq740 wq741 wq742 wq0 (by decide +kernel) ⟨(Nat.le_of_ble_eq_true rfl), (Nat.le_of_ble_eq_true rfl)⟩ rfl hl.1 rfl (Nat.le_of_ble_eq_true rfl) dL_law_1039 ⟨by show cells + 90 ≤ 601024; omega, by show slots + 2200 ≤ 7293034; omega⟩ (fun ad1 M1 H locs A2 sf2 hC2 hL2 h1 h0 h3 hO hw => ?_)
  refine lv_istore (lv' := [(5, .int k), (4, .int (nI i)), (0, .ref b), (1, .ref (ad 0)), (2, .ref (ad 5)), (3, .ref (ad 32))]) hx hb dL_law_1042 hl (by decide) rfl (fun ls hl => ?_)
  have hM1 : isMo g ad1 M1 th U sp ca := isMo_eq hM (fun q a b9 => h1 q a (by omega))
  have e5 : ad1 5 = ad 5 := (h1 5 (by omega) (by omega)).1
  obtain ⟨_, _, _, _, _, _, _, hMo, -⟩ := id hM1
  unfold mObj at hMo
  refine lv_aload_n hx hb dL_law_1044 rfl (lv_at hl 4 rfl) ?_
  refine lv_aload_n hx hb dL_law_1045 rfl (lv_at hl 2 rfl) ?_
  refine lv_iload hx hb dL_law_1046 (lv_at hl 1 rfl) ?_
  refine lv_iconst (v := 1) hx hb dL_law_1048 (by decide) ?_
  refine lv_iadd hx hb dL_law_1049 ?_
  refine f_top (y := nI (i + 1)) (show nI i + nI 1 = nI (i + 1) from nI_add i 1) ?_
  refine va_sld hx hb hXs hbl hbA hw.2 (vp_in_nI (n := i + 1) (by omega) (by omega)) dL_law_1050 ?_
  rw [nI_clamp (n := i + 1) (by omega)]
  refine fk_i (fcV X hw (hRf ad1 M1 hM1) hMo rfl wq983 kVX6_pond ⟨by show fr2 + 1 ≤ 13; omega, by show 8 + (2 + 11) + lo2 ≤ 506; omega⟩ rfl hl.1 (by rw [e5]; rfl) (Nat.le_of_ble_eq_true rfl) dL_law_1051 ⟨by show cells + 90 + mc2 ≤ 601024; omega, by show slots + 2200 + ms2 ≤ 7293034; omega⟩) hw (fun r ad2 M2 H locs hp hw => ?_)
  obtain ⟨⟨U2, sp2, ca2, hs2, hM2⟩, hr2, h52, er⟩ := hp
  rw [er]
  obtain ⟨hC3, hO3, h03, h33⟩ := rest_w hC2 hO hr2
  refine lv_istore (lv' := [(6, .int b2), (5, .int k), (4, .int (nI i)), (0, .ref b), (1, .ref (ad 0)), (2, .ref (ad 5)), (3, .ref (ad 32))]) hx hb dL_law_1054 hl (by decide) rfl (fun ls hl => ?_)
  obtain ⟨_, _, _, _, _, _, _, hMo2, -⟩ := id hM2
  unfold mObj at hMo2
  refine lv_aload_n hx hb dL_law_1056 rfl (lv_at hl 5 rfl) ?_
  refine fk_di (fcV X hw (c_thrown l g ad2 M2 hM2) hMo2 rfl wq835 kVX6_thrown ⟨(Nat.le_of_ble_eq_true rfl), (Nat.le_of_ble_eq_true rfl)⟩ rfl hl.1 (by rw [h52, e5]; rfl) (Nat.le_of_ble_eq_true rfl) dL_law_1057 ⟨by show cells + 90 + mc2 + 0 ≤ 601024; omega, by show slots + 2200 + ms2 + 0 ≤ 7293034; omega⟩) hw (fun H locs hw => ?_)
  refine lv_iload hx hb dL_law_1060 (lv_at hl 1 rfl) ?_
  refine lv_icmp_eq (tgt := 1067) hx hb dL_law_1062 (by decide) (fun c1 => ?_) (fun c1 => absurd rfl c1)
  refine lv_iload hx hb dL_law_1067 (lv_at hl 1 rfl) ?_
  refine lv_if_ne (tgt := 1084) hx hb dL_law_1069 (by decide) (fun c2 => ?_) (fun c2 => ?_)
  · refine lv_goto (tgt := 1459) hx hb dL_law_1084 (by decide) ?_
    exact W.widen (k := cells + 130) (n := slots + 2600) (by omega) (by omega) (K ad2 M2 H locs ls A2 sf2 _ U2 sp2 ca2 _ hC3 hL2 hM2 hs2 hO3 hw (by unfold lLoc; rw [h03, h0, h52, e5, h33, h3]; exact lv_sub hl [2, 3, 4, 5, 6] rfl))
  · refine lv_aload_n hx hb dL_law_1072 rfl (lv_at hl 6 rfl) ?_
    refine lv_iconst (v := 0) hx hb dL_law_1073 (by decide) ?_
    refine f_adr2 (ad := ad2) (lb := 32) (h33.trans h3) ?_
    refine f_lald X hw hO3 (by unfold vp_in; decide) dL_law_1074 ?_
    rw [show (0 : Int32).toNatClampNeg = 0 from rfl]
    refine lv_iload hx hb dL_law_1075 (lv_at hl 0 rfl) ?_
    refine lv_i2l hx hb dL_law_1077 rfl ?_
    refine W.lcmp hx hb dL_law_1078 ?_
    refine lv_if_eq (tgt := 1084) hx hb dL_law_1079 (by decide) (fun c3 => ?_) (fun c3 => absurd ((lg_cmp_eq _ _).mpr (hkb c2)) c3)
    refine lv_goto (tgt := 1459) hx hb dL_law_1084 (by decide) ?_
    exact W.widen (k := cells + 130) (n := slots + 2600) (by omega) (by omega) (K ad2 M2 H locs ls A2 sf2 _ U2 sp2 ca2 _ hC3 hL2 hM2 hs2 hO3 hw (by unfold lLoc; rw [h03, h0, h52, e5, h33, h3]; exact lv_sub hl [2, 3, 4, 5, 6] rfl))
set_option maxHeartbeats 4000000 in
set_option maxRecDepth 100000 in
theorem sg_pass {p : Program} {l : Launch} {e : Env} {s : State} {m : MethodId} {args : Array Value} {below : List Frame} {meth : Method} {c : Code} {H : Heap} {locs : List Loc} {cells slots : Nat} {Q : State → Prop} {g : fG} {ad : Nat → Nat} {M : fM} {ls : Array Slot} {b L i : Nat} {xs : Nat → Int32} (X : fX p s m args meth c code 9 ret RL g) (hnc : xNc s) (hXs : va_X b L xs s s.heap) (hbl : b < s.heap.size) (hbA : ¬ fA g b) (hL : L ≤ 2560) (hi : i + 5 ≤ L) (hw : fw g ad M s H locs) (hl : lv_has ls 9 (lLoc ad b i)) (hcl : cells + 130 ≤ 601024 ∧ slots + 2600 ≤ 7293034) {th : Int32} {U : fTn} {sp ca : Nat → Int32} (hM : isMo g ad M th U sp ca) {k b2 : Int32} {f2 : Nat → Int64} {T2 : fTn} {kf2 nf2 : Nat → Int32} {fr2 lo2 mc2 ms2 : Nat}
    (hWr : vx_Met l yL_pass (fWsH yL_pass cL_pass 4 (some .int) [(0, 9, 12, 15)]) (fR 10 260 90 2200) (va_Pc [.ref (cAd ad 0), .int (xs (i + 1)), .ref (cAd ad 3032)] (fSL g (cAd ad) (cMp M))) (fQi g (fWr g (cAd ad) (cMp M) T2 kf2 nf2 k f2)) fNX 90 2200 (fA g))
    (hRf : ∀ (ad1 : Nat → Nat) (M1 : fM), isMo g ad1 M1 th U sp ca → fCi l g yX6_pass cX6_pass 4 (some .int) fr2 lo2 mc2 ms2 ad1 M1 [.ref (ad1 5), .int (xs (i + 1))] (fRp g ad1 M1 T2 k b2)) (q1 : fr2 ≤ 8) (q2 : lo2 ≤ 190) (q3 : mc2 ≤ 35) (q4 : ms2 ≤ 395) (hkb : k = 0 → f2 0 = b2.toInt64)
    (K : LN p l e s m args below meth c Q g b i cells slots T2 kf2 nf2) : W p l e room_1 s m args below meth c H locs cells slots Q (F0 m 1087 ls []) := by
  have hx := X.1
  have hb := X.2.1
  have hl : lv_has ls 9 [(4, .int (nI i)), (0, .ref b), (1, .ref (ad 0)), (2, .ref (ad 5)), (3, .ref (ad 32))] := hl
  refine lv_aload_n hx hb dL_law_1087 rfl (lv_at hl 2 rfl) ?_
  refine lv_aload_n hx hb dL_law_1088 rfl (lv_at hl 1 rfl) ?_
  refine lv_iload hx hb dL_law_1089 (lv_at hl 0 rfl) ?_
  refine lv_iconst (v := 1) hx hb dL_law_1091 (by decide) ?_
  refine lv_iadd hx hb dL_law_1092 ?_
  refine f_top (y := nI (i + 1)) (show nI i + nI 1 = nI (i + 1) from nI_add i 1) ?_
  refine va_sld hx hb hXs hbl hbA hw.2 (vp_in_nI (n := i + 1) (by omega) (by omega)) dL_law_1093 ?_
  rw [nI_clamp (n := i + 1) (by omega)]
  refine lv_aload_n hx hb dL_law_1094 rfl (lv_at hl 4 rfl) ?_
  refine k_wr (n := 3) X hnc hw hWr wq748 wq749 wq750 wq0 (by decide +kernel) ⟨(Nat.le_of_ble_eq_true rfl), (Nat.le_of_ble_eq_true rfl)⟩ rfl hl.1 rfl (Nat.le_of_ble_eq_true rfl) dL_law_1095 ⟨by show cells + 90 ≤ 601024; omega, by show slots + 2200 ≤ 7293034; omega⟩ (fun ad1 M1 H locs A2 sf2 hC2 hL2 h1 h0 h3 hO hw => ?_)
  refine lv_istore (lv' := [(5, .int k), (4, .int (nI i)), (0, .ref b), (1, .ref (ad 0)), (2, .ref (ad 5)), (3, .ref (ad 32))]) hx hb dL_law_1098 hl (by decide) rfl (fun ls hl => ?_)
  have hM1 : isMo g ad1 M1 th U sp ca := isMo_eq hM (fun q a b9 => h1 q a (by omega))
  have e5 : ad1 5 = ad 5 := (h1 5 (by omega) (by omega)).1
  obtain ⟨_, _, _, _, _, _, _, hMo, -⟩ := id hM1
  unfold mObj at hMo
  refine lv_aload_n hx hb dL_law_1100 rfl (lv_at hl 4 rfl) ?_
  refine lv_aload_n hx hb dL_law_1101 rfl (lv_at hl 2 rfl) ?_
  refine lv_iload hx hb dL_law_1102 (lv_at hl 1 rfl) ?_
  refine lv_iconst (v := 1) hx hb dL_law_1104 (by decide) ?_
  refine lv_iadd hx hb dL_law_1105 ?_
  refine f_top (y := nI (i + 1)) (show nI i + nI 1 = nI (i + 1) from nI_add i 1) ?_
  refine va_sld hx hb hXs hbl hbA hw.2 (vp_in_nI (n := i + 1) (by omega) (by omega)) dL_law_1106 ?_
  rw [nI_clamp (n := i + 1) (by omega)]
  refine fk_i (fcV X hw (hRf ad1 M1 hM1) hMo rfl wq987 kVX6_pass ⟨by show fr2 + 1 ≤ 13; omega, by show 8 + (4 + 11) + lo2 ≤ 506; omega⟩ rfl hl.1 (by rw [e5]; rfl) (Nat.le_of_ble_eq_true rfl) dL_law_1107 ⟨by show cells + 90 + mc2 ≤ 601024; omega, by show slots + 2200 + ms2 ≤ 7293034; omega⟩) hw (fun r ad2 M2 H locs hp hw => ?_)
  obtain ⟨⟨U2, sp2, ca2, hs2, hM2⟩, hr2, h52, er⟩ := hp
  rw [er]
  obtain ⟨hC3, hO3, h03, h33⟩ := rest_w hC2 hO hr2
  refine lv_istore (lv' := [(6, .int b2), (5, .int k), (4, .int (nI i)), (0, .ref b), (1, .ref (ad 0)), (2, .ref (ad 5)), (3, .ref (ad 32))]) hx hb dL_law_1110 hl (by decide) rfl (fun ls hl => ?_)
  obtain ⟨_, _, _, _, _, _, _, hMo2, -⟩ := id hM2
  unfold mObj at hMo2
  refine lv_aload_n hx hb dL_law_1112 rfl (lv_at hl 5 rfl) ?_
  refine fk_di (fcV X hw (c_thrown l g ad2 M2 hM2) hMo2 rfl wq835 kVX6_thrown ⟨(Nat.le_of_ble_eq_true rfl), (Nat.le_of_ble_eq_true rfl)⟩ rfl hl.1 (by rw [h52, e5]; rfl) (Nat.le_of_ble_eq_true rfl) dL_law_1113 ⟨by show cells + 90 + mc2 + 0 ≤ 601024; omega, by show slots + 2200 + ms2 + 0 ≤ 7293034; omega⟩) hw (fun H locs hw => ?_)
  refine lv_iload hx hb dL_law_1116 (lv_at hl 1 rfl) ?_
  refine lv_icmp_eq (tgt := 1123) hx hb dL_law_1118 (by decide) (fun c1 => ?_) (fun c1 => absurd rfl c1)
  refine lv_iload hx hb dL_law_1123 (lv_at hl 1 rfl) ?_
  refine lv_if_ne (tgt := 1140) hx hb dL_law_1125 (by decide) (fun c2 => ?_) (fun c2 => ?_)
  · refine lv_goto (tgt := 1459) hx hb dL_law_1140 (by decide) ?_
    exact W.widen (k := cells + 130) (n := slots + 2600) (by omega) (by omega) (K ad2 M2 H locs ls A2 sf2 _ U2 sp2 ca2 _ hC3 hL2 hM2 hs2 hO3 hw (by unfold lLoc; rw [h03, h0, h52, e5, h33, h3]; exact lv_sub hl [2, 3, 4, 5, 6] rfl))
  · refine lv_aload_n hx hb dL_law_1128 rfl (lv_at hl 6 rfl) ?_
    refine lv_iconst (v := 0) hx hb dL_law_1129 (by decide) ?_
    refine f_adr2 (ad := ad2) (lb := 32) (h33.trans h3) ?_
    refine f_lald X hw hO3 (by unfold vp_in; decide) dL_law_1130 ?_
    rw [show (0 : Int32).toNatClampNeg = 0 from rfl]
    refine lv_iload hx hb dL_law_1131 (lv_at hl 0 rfl) ?_
    refine lv_i2l hx hb dL_law_1133 rfl ?_
    refine W.lcmp hx hb dL_law_1134 ?_
    refine lv_if_eq (tgt := 1140) hx hb dL_law_1135 (by decide) (fun c3 => ?_) (fun c3 => absurd ((lg_cmp_eq _ _).mpr (hkb c2)) c3)
    refine lv_goto (tgt := 1459) hx hb dL_law_1140 (by decide) ?_
    exact W.widen (k := cells + 130) (n := slots + 2600) (by omega) (by omega) (K ad2 M2 H locs ls A2 sf2 _ U2 sp2 ca2 _ hC3 hL2 hM2 hs2 hO3 hw (by unfold lLoc; rw [h03, h0, h52, e5, h33, h3]; exact lv_sub hl [2, 3, 4, 5, 6] rfl))
set_option maxHeartbeats 4000000 in
set_option maxRecDepth 100000 in
theorem sg_count {p : Program} {l : Launch} {e : Env} {s : State} {m : MethodId} {args : Array Value} {below : List Frame} {meth : Method} {c : Code} {H : Heap} {locs : List Loc} {cells slots : Nat} {Q : State → Prop} {g : fG} {ad : Nat → Nat} {M : fM} {ls : Array Slot} {b L i : Nat} {xs : Nat → Int32} (X : fX p s m args meth c code 9 ret RL g) (hnc : xNc s) (hXs : va_X b L xs s s.heap) (hbl : b < s.heap.size) (hbA : ¬ fA g b) (hL : L ≤ 2560) (hi : i + 5 ≤ L) (hw : fw g ad M s H locs) (hl : lv_has ls 9 (lLoc ad b i)) (hcl : cells + 130 ≤ 601024 ∧ slots + 2600 ≤ 7293034) {th : Int32} {U : fTn} {sp ca : Nat → Int32} (hM : isMo g ad M th U sp ca) {k b2 : Int32} {f2 : Nat → Int64} {T2 : fTn} {kf2 nf2 : Nat → Int32} {fr2 lo2 mc2 ms2 : Nat}
    (hWr : vx_Met l yL_count (fWsH yL_count cL_count 4 (some .int) [(0, 9, 12, 13)]) (fR 10 260 90 2200) (va_Pc [.ref (cAd ad 0), .int (xs (i + 1)), .ref (cAd ad 3032)] (fSL g (cAd ad) (cMp M))) (fQi g (fWr g (cAd ad) (cMp M) T2 kf2 nf2 k f2)) fNX 90 2200 (fA g))
    (hRf : ∀ (ad1 : Nat → Nat) (M1 : fM), isMo g ad1 M1 th U sp ca → fCi l g yX6_count cX6_count 2 (some .int) fr2 lo2 mc2 ms2 ad1 M1 [.ref (ad1 5), .int (xs (i + 1))] (fRp g ad1 M1 T2 k b2)) (q1 : fr2 ≤ 8) (q2 : lo2 ≤ 190) (q3 : mc2 ≤ 35) (q4 : ms2 ≤ 395) (hkb : k = 0 → f2 0 = b2.toInt64)
    (K : LN p l e s m args below meth c Q g b i cells slots T2 kf2 nf2) : W p l e room_1 s m args below meth c H locs cells slots Q (F0 m 1143 ls []) := by
  have hx := X.1
  have hb := X.2.1
  have hl : lv_has ls 9 [(4, .int (nI i)), (0, .ref b), (1, .ref (ad 0)), (2, .ref (ad 5)), (3, .ref (ad 32))] := hl
  refine lv_aload_n hx hb dL_law_1143 rfl (lv_at hl 2 rfl) ?_
  refine lv_aload_n hx hb dL_law_1144 rfl (lv_at hl 1 rfl) ?_
  refine lv_iload hx hb dL_law_1145 (lv_at hl 0 rfl) ?_
  refine lv_iconst (v := 1) hx hb dL_law_1147 (by decide) ?_
  refine lv_iadd hx hb dL_law_1148 ?_
  refine f_top (y := nI (i + 1)) (show nI i + nI 1 = nI (i + 1) from nI_add i 1) ?_
  refine va_sld hx hb hXs hbl hbA hw.2 (vp_in_nI (n := i + 1) (by omega) (by omega)) dL_law_1149 ?_
  rw [nI_clamp (n := i + 1) (by omega)]
  refine lv_aload_n hx hb dL_law_1150 rfl (lv_at hl 4 rfl) ?_
  refine k_wr (n := 3) X hnc hw hWr wq755 wq756 wq757 wq0 (by decide +kernel) ⟨(Nat.le_of_ble_eq_true rfl), (Nat.le_of_ble_eq_true rfl)⟩ rfl hl.1 rfl (Nat.le_of_ble_eq_true rfl) dL_law_1151 ⟨by show cells + 90 ≤ 601024; omega, by show slots + 2200 ≤ 7293034; omega⟩ (fun ad1 M1 H locs A2 sf2 hC2 hL2 h1 h0 h3 hO hw => ?_)
  refine lv_istore (lv' := [(5, .int k), (4, .int (nI i)), (0, .ref b), (1, .ref (ad 0)), (2, .ref (ad 5)), (3, .ref (ad 32))]) hx hb dL_law_1154 hl (by decide) rfl (fun ls hl => ?_)
  have hM1 : isMo g ad1 M1 th U sp ca := isMo_eq hM (fun q a b9 => h1 q a (by omega))
  have e5 : ad1 5 = ad 5 := (h1 5 (by omega) (by omega)).1
  obtain ⟨_, _, _, _, _, _, _, hMo, -⟩ := id hM1
  unfold mObj at hMo
  refine lv_aload_n hx hb dL_law_1156 rfl (lv_at hl 4 rfl) ?_
  refine lv_aload_n hx hb dL_law_1157 rfl (lv_at hl 2 rfl) ?_
  refine lv_iload hx hb dL_law_1158 (lv_at hl 1 rfl) ?_
  refine lv_iconst (v := 1) hx hb dL_law_1160 (by decide) ?_
  refine lv_iadd hx hb dL_law_1161 ?_
  refine f_top (y := nI (i + 1)) (show nI i + nI 1 = nI (i + 1) from nI_add i 1) ?_
  refine va_sld hx hb hXs hbl hbA hw.2 (vp_in_nI (n := i + 1) (by omega) (by omega)) dL_law_1162 ?_
  rw [nI_clamp (n := i + 1) (by omega)]
  refine fk_i (fcV X hw (hRf ad1 M1 hM1) hMo rfl wq1013 kVX6_count ⟨by show fr2 + 1 ≤ 13; omega, by show 8 + (2 + 11) + lo2 ≤ 506; omega⟩ rfl hl.1 (by rw [e5]; rfl) (Nat.le_of_ble_eq_true rfl) dL_law_1163 ⟨by show cells + 90 + mc2 ≤ 601024; omega, by show slots + 2200 + ms2 ≤ 7293034; omega⟩) hw (fun r ad2 M2 H locs hp hw => ?_)
  obtain ⟨⟨U2, sp2, ca2, hs2, hM2⟩, hr2, h52, er⟩ := hp
  rw [er]
  obtain ⟨hC3, hO3, h03, h33⟩ := rest_w hC2 hO hr2
  refine lv_istore (lv' := [(6, .int b2), (5, .int k), (4, .int (nI i)), (0, .ref b), (1, .ref (ad 0)), (2, .ref (ad 5)), (3, .ref (ad 32))]) hx hb dL_law_1166 hl (by decide) rfl (fun ls hl => ?_)
  obtain ⟨_, _, _, _, _, _, _, hMo2, -⟩ := id hM2
  unfold mObj at hMo2
  refine lv_aload_n hx hb dL_law_1168 rfl (lv_at hl 5 rfl) ?_
  refine fk_di (fcV X hw (c_thrown l g ad2 M2 hM2) hMo2 rfl wq835 kVX6_thrown ⟨(Nat.le_of_ble_eq_true rfl), (Nat.le_of_ble_eq_true rfl)⟩ rfl hl.1 (by rw [h52, e5]; rfl) (Nat.le_of_ble_eq_true rfl) dL_law_1169 ⟨by show cells + 90 + mc2 + 0 ≤ 601024; omega, by show slots + 2200 + ms2 + 0 ≤ 7293034; omega⟩) hw (fun H locs hw => ?_)
  refine lv_iload hx hb dL_law_1172 (lv_at hl 1 rfl) ?_
  refine lv_icmp_eq (tgt := 1179) hx hb dL_law_1174 (by decide) (fun c1 => ?_) (fun c1 => absurd rfl c1)
  refine lv_iload hx hb dL_law_1179 (lv_at hl 1 rfl) ?_
  refine lv_if_ne (tgt := 1196) hx hb dL_law_1181 (by decide) (fun c2 => ?_) (fun c2 => ?_)
  · refine lv_goto (tgt := 1459) hx hb dL_law_1196 (by decide) ?_
    exact W.widen (k := cells + 130) (n := slots + 2600) (by omega) (by omega) (K ad2 M2 H locs ls A2 sf2 _ U2 sp2 ca2 _ hC3 hL2 hM2 hs2 hO3 hw (by unfold lLoc; rw [h03, h0, h52, e5, h33, h3]; exact lv_sub hl [2, 3, 4, 5, 6] rfl))
  · refine lv_aload_n hx hb dL_law_1184 rfl (lv_at hl 6 rfl) ?_
    refine lv_iconst (v := 0) hx hb dL_law_1185 (by decide) ?_
    refine f_adr2 (ad := ad2) (lb := 32) (h33.trans h3) ?_
    refine f_lald X hw hO3 (by unfold vp_in; decide) dL_law_1186 ?_
    rw [show (0 : Int32).toNatClampNeg = 0 from rfl]
    refine lv_iload hx hb dL_law_1187 (lv_at hl 0 rfl) ?_
    refine lv_i2l hx hb dL_law_1189 rfl ?_
    refine W.lcmp hx hb dL_law_1190 ?_
    refine lv_if_eq (tgt := 1196) hx hb dL_law_1191 (by decide) (fun c3 => ?_) (fun c3 => absurd ((lg_cmp_eq _ _).mpr (hkb c2)) c3)
    refine lv_goto (tgt := 1459) hx hb dL_law_1196 (by decide) ?_
    exact W.widen (k := cells + 130) (n := slots + 2600) (by omega) (by omega) (K ad2 M2 H locs ls A2 sf2 _ U2 sp2 ca2 _ hC3 hL2 hM2 hs2 hO3 hw (by unfold lLoc; rw [h03, h0, h52, e5, h33, h3]; exact lv_sub hl [2, 3, 4, 5, 6] rfl))
set_option maxHeartbeats 4000000 in
set_option maxRecDepth 100000 in
theorem sg_foresee {p : Program} {l : Launch} {e : Env} {s : State} {m : MethodId} {args : Array Value} {below : List Frame} {meth : Method} {c : Code} {H : Heap} {locs : List Loc} {cells slots : Nat} {Q : State → Prop} {g : fG} {ad : Nat → Nat} {M : fM} {ls : Array Slot} {b L i : Nat} {xs : Nat → Int32} (X : fX p s m args meth c code 9 ret RL g) (hnc : xNc s) (hXs : va_X b L xs s s.heap) (hbl : b < s.heap.size) (hbA : ¬ fA g b) (hL : L ≤ 2560) (hi : i + 5 ≤ L) (hw : fw g ad M s H locs) (hl : lv_has ls 9 (lLoc ad b i)) (hcl : cells + 130 ≤ 601024 ∧ slots + 2600 ≤ 7293034) {th : Int32} {U : fTn} {sp ca : Nat → Int32} (hM : isMo g ad M th U sp ca) {k b2 : Int32} {f2 : Nat → Int64} {T2 : fTn} {kf2 nf2 : Nat → Int32} {fr2 lo2 mc2 ms2 : Nat}
    (hWr : vx_Met l yL_foresee (fWsH yL_foresee cL_foresee 5 (some .int) [(0, 10, 13, 15), (0, 10, 17, 13)]) (fR 10 260 90 2200) (va_Pc [.ref (cAd ad 0), .int (xs (i + 1)), .int (xs (i + 2)), .ref (cAd ad 3032)] (fSL g (cAd ad) (cMp M))) (fQi g (fWr g (cAd ad) (cMp M) T2 kf2 nf2 k f2)) fNX 90 2200 (fA g))
    (hRf : ∀ (ad1 : Nat → Nat) (M1 : fM), isMo g ad1 M1 th U sp ca → fCi l g yX6_foresee cX6_foresee 5 (some .int) fr2 lo2 mc2 ms2 ad1 M1 [.ref (ad1 5), .int (xs (i + 1)), .int (xs (i + 2))] (fRp g ad1 M1 T2 k b2)) (q1 : fr2 ≤ 8) (q2 : lo2 ≤ 190) (q3 : mc2 ≤ 35) (q4 : ms2 ≤ 395) (hkb : k = 0 → f2 0 = b2.toInt64)
    (K : LN p l e s m args below meth c Q g b i cells slots T2 kf2 nf2) : W p l e room_1 s m args below meth c H locs cells slots Q (F0 m 1199 ls []) := by
  have hx := X.1
  have hb := X.2.1
  have hl : lv_has ls 9 [(4, .int (nI i)), (0, .ref b), (1, .ref (ad 0)), (2, .ref (ad 5)), (3, .ref (ad 32))] := hl
  refine lv_aload_n hx hb dL_law_1199 rfl (lv_at hl 2 rfl) ?_
  refine lv_aload_n hx hb dL_law_1200 rfl (lv_at hl 1 rfl) ?_
  refine lv_iload hx hb dL_law_1201 (lv_at hl 0 rfl) ?_
  refine lv_iconst (v := 1) hx hb dL_law_1203 (by decide) ?_
  refine lv_iadd hx hb dL_law_1204 ?_
  refine f_top (y := nI (i + 1)) (show nI i + nI 1 = nI (i + 1) from nI_add i 1) ?_
  refine va_sld hx hb hXs hbl hbA hw.2 (vp_in_nI (n := i + 1) (by omega) (by omega)) dL_law_1205 ?_
  rw [nI_clamp (n := i + 1) (by omega)]
  refine lv_aload_n hx hb dL_law_1206 rfl (lv_at hl 1 rfl) ?_
  refine lv_iload hx hb dL_law_1207 (lv_at hl 0 rfl) ?_
  refine lv_iconst (v := 2) hx hb dL_law_1209 (by decide) ?_
  refine lv_iadd hx hb dL_law_1210 ?_
  refine f_top (y := nI (i + 2)) (show nI i + nI 2 = nI (i + 2) from nI_add i 2) ?_
  refine va_sld hx hb hXs hbl hbA hw.2 (vp_in_nI (n := i + 2) (by omega) (by omega)) dL_law_1211 ?_
  rw [nI_clamp (n := i + 2) (by omega)]
  refine lv_aload_n hx hb dL_law_1212 rfl (lv_at hl 4 rfl) ?_
  refine k_wr (n := 4) X hnc hw hWr wq762 wq763 wq764 wq0 (by decide +kernel) ⟨(Nat.le_of_ble_eq_true rfl), (Nat.le_of_ble_eq_true rfl)⟩ rfl hl.1 rfl (Nat.le_of_ble_eq_true rfl) dL_law_1213 ⟨by show cells + 90 ≤ 601024; omega, by show slots + 2200 ≤ 7293034; omega⟩ (fun ad1 M1 H locs A2 sf2 hC2 hL2 h1 h0 h3 hO hw => ?_)
  refine lv_istore (lv' := [(5, .int k), (4, .int (nI i)), (0, .ref b), (1, .ref (ad 0)), (2, .ref (ad 5)), (3, .ref (ad 32))]) hx hb dL_law_1216 hl (by decide) rfl (fun ls hl => ?_)
  have hM1 : isMo g ad1 M1 th U sp ca := isMo_eq hM (fun q a b9 => h1 q a (by omega))
  have e5 : ad1 5 = ad 5 := (h1 5 (by omega) (by omega)).1
  obtain ⟨_, _, _, _, _, _, _, hMo, -⟩ := id hM1
  unfold mObj at hMo
  refine lv_aload_n hx hb dL_law_1218 rfl (lv_at hl 4 rfl) ?_
  refine lv_aload_n hx hb dL_law_1219 rfl (lv_at hl 2 rfl) ?_
  refine lv_iload hx hb dL_law_1220 (lv_at hl 1 rfl) ?_
  refine lv_iconst (v := 1) hx hb dL_law_1222 (by decide) ?_
  refine lv_iadd hx hb dL_law_1223 ?_
  refine f_top (y := nI (i + 1)) (show nI i + nI 1 = nI (i + 1) from nI_add i 1) ?_
  refine va_sld hx hb hXs hbl hbA hw.2 (vp_in_nI (n := i + 1) (by omega) (by omega)) dL_law_1224 ?_
  rw [nI_clamp (n := i + 1) (by omega)]
  refine lv_aload_n hx hb dL_law_1225 rfl (lv_at hl 2 rfl) ?_
  refine lv_iload hx hb dL_law_1226 (lv_at hl 1 rfl) ?_
  refine lv_iconst (v := 2) hx hb dL_law_1228 (by decide) ?_
  refine lv_iadd hx hb dL_law_1229 ?_
  refine f_top (y := nI (i + 2)) (show nI i + nI 2 = nI (i + 2) from nI_add i 2) ?_
  refine va_sld hx hb hXs hbl hbA hw.2 (vp_in_nI (n := i + 2) (by omega) (by omega)) dL_law_1230 ?_
  rw [nI_clamp (n := i + 2) (by omega)]
  refine fk_i (fcV X hw (hRf ad1 M1 hM1) hMo rfl wq1021 kVX6_foresee ⟨by show fr2 + 1 ≤ 13; omega, by show 8 + (5 + 11) + lo2 ≤ 506; omega⟩ rfl hl.1 (by rw [e5]; rfl) (Nat.le_of_ble_eq_true rfl) dL_law_1231 ⟨by show cells + 90 + mc2 ≤ 601024; omega, by show slots + 2200 + ms2 ≤ 7293034; omega⟩) hw (fun r ad2 M2 H locs hp hw => ?_)
  obtain ⟨⟨U2, sp2, ca2, hs2, hM2⟩, hr2, h52, er⟩ := hp
  rw [er]
  obtain ⟨hC3, hO3, h03, h33⟩ := rest_w hC2 hO hr2
  refine lv_istore (lv' := [(6, .int b2), (5, .int k), (4, .int (nI i)), (0, .ref b), (1, .ref (ad 0)), (2, .ref (ad 5)), (3, .ref (ad 32))]) hx hb dL_law_1234 hl (by decide) rfl (fun ls hl => ?_)
  obtain ⟨_, _, _, _, _, _, _, hMo2, -⟩ := id hM2
  unfold mObj at hMo2
  refine lv_aload_n hx hb dL_law_1236 rfl (lv_at hl 5 rfl) ?_
  refine fk_di (fcV X hw (c_thrown l g ad2 M2 hM2) hMo2 rfl wq835 kVX6_thrown ⟨(Nat.le_of_ble_eq_true rfl), (Nat.le_of_ble_eq_true rfl)⟩ rfl hl.1 (by rw [h52, e5]; rfl) (Nat.le_of_ble_eq_true rfl) dL_law_1237 ⟨by show cells + 90 + mc2 + 0 ≤ 601024; omega, by show slots + 2200 + ms2 + 0 ≤ 7293034; omega⟩) hw (fun H locs hw => ?_)
  refine lv_iload hx hb dL_law_1240 (lv_at hl 1 rfl) ?_
  refine lv_icmp_eq (tgt := 1247) hx hb dL_law_1242 (by decide) (fun c1 => ?_) (fun c1 => absurd rfl c1)
  refine lv_iload hx hb dL_law_1247 (lv_at hl 1 rfl) ?_
  refine lv_if_ne (tgt := 1264) hx hb dL_law_1249 (by decide) (fun c2 => ?_) (fun c2 => ?_)
  · refine lv_goto (tgt := 1459) hx hb dL_law_1264 (by decide) ?_
    exact W.widen (k := cells + 130) (n := slots + 2600) (by omega) (by omega) (K ad2 M2 H locs ls A2 sf2 _ U2 sp2 ca2 _ hC3 hL2 hM2 hs2 hO3 hw (by unfold lLoc; rw [h03, h0, h52, e5, h33, h3]; exact lv_sub hl [2, 3, 4, 5, 6] rfl))
  · refine lv_aload_n hx hb dL_law_1252 rfl (lv_at hl 6 rfl) ?_
    refine lv_iconst (v := 0) hx hb dL_law_1253 (by decide) ?_
    refine f_adr2 (ad := ad2) (lb := 32) (h33.trans h3) ?_
    refine f_lald X hw hO3 (by unfold vp_in; decide) dL_law_1254 ?_
    rw [show (0 : Int32).toNatClampNeg = 0 from rfl]
    refine lv_iload hx hb dL_law_1255 (lv_at hl 0 rfl) ?_
    refine lv_i2l hx hb dL_law_1257 rfl ?_
    refine W.lcmp hx hb dL_law_1258 ?_
    refine lv_if_eq (tgt := 1264) hx hb dL_law_1259 (by decide) (fun c3 => ?_) (fun c3 => absurd ((lg_cmp_eq _ _).mpr (hkb c2)) c3)
    refine lv_goto (tgt := 1459) hx hb dL_law_1264 (by decide) ?_
    exact W.widen (k := cells + 130) (n := slots + 2600) (by omega) (by omega) (K ad2 M2 H locs ls A2 sf2 _ U2 sp2 ca2 _ hC3 hL2 hM2 hs2 hO3 hw (by unfold lLoc; rw [h03, h0, h52, e5, h33, h3]; exact lv_sub hl [2, 3, 4, 5, 6] rfl))
set_option maxHeartbeats 4000000 in
set_option maxRecDepth 100000 in
theorem sg_weakest {p : Program} {l : Launch} {e : Env} {s : State} {m : MethodId} {args : Array Value} {below : List Frame} {meth : Method} {c : Code} {H : Heap} {locs : List Loc} {cells slots : Nat} {Q : State → Prop} {g : fG} {ad : Nat → Nat} {M : fM} {ls : Array Slot} {b L i : Nat} {xs : Nat → Int32} (X : fX p s m args meth c code 9 ret RL g) (hnc : xNc s) (hXs : va_X b L xs s s.heap) (hbl : b < s.heap.size) (hbA : ¬ fA g b) (hL : L ≤ 2560) (hi : i + 5 ≤ L) (hw : fw g ad M s H locs) (hl : lv_has ls 9 (lLoc ad b i)) (hcl : cells + 130 ≤ 601024 ∧ slots + 2600 ≤ 7293034) {th : Int32} {U : fTn} {sp ca : Nat → Int32} (hM : isMo g ad M th U sp ca) {k b2 : Int32} {f2 : Nat → Int64} {T2 : fTn} {kf2 nf2 : Nat → Int32} {fr2 lo2 mc2 ms2 : Nat}
    (hWr : vx_Met l yL_weakest (fWsH yL_weakest cL_weakest 4 (some .int) [(0, 9, 12, 13)]) (fR 10 260 90 2200) (va_Pc [.ref (cAd ad 0), .int (xs (i + 1)), .ref (cAd ad 3032)] (fSL g (cAd ad) (cMp M))) (fQi g (fWr g (cAd ad) (cMp M) T2 kf2 nf2 k f2)) fNX 90 2200 (fA g))
    (hRf : ∀ (ad1 : Nat → Nat) (M1 : fM), isMo g ad1 M1 th U sp ca → fCi l g yX6_weakest cX6_weakest 4 (some .int) fr2 lo2 mc2 ms2 ad1 M1 [.ref (ad1 5), .int (xs (i + 1))] (fRp g ad1 M1 T2 k b2)) (q1 : fr2 ≤ 8) (q2 : lo2 ≤ 190) (q3 : mc2 ≤ 35) (q4 : ms2 ≤ 395) (hkb : k = 0 → f2 0 = b2.toInt64)
    (K : LN p l e s m args below meth c Q g b i cells slots T2 kf2 nf2) : W p l e room_1 s m args below meth c H locs cells slots Q (F0 m 1280 ls []) := by
  have hx := X.1
  have hb := X.2.1
  have hl : lv_has ls 9 [(4, .int (nI i)), (0, .ref b), (1, .ref (ad 0)), (2, .ref (ad 5)), (3, .ref (ad 32))] := hl
  refine lv_aload_n hx hb dL_law_1280 rfl (lv_at hl 2 rfl) ?_
  refine lv_aload_n hx hb dL_law_1281 rfl (lv_at hl 1 rfl) ?_
  refine lv_iload hx hb dL_law_1282 (lv_at hl 0 rfl) ?_
  refine lv_iconst (v := 1) hx hb dL_law_1284 (by decide) ?_
  refine lv_iadd hx hb dL_law_1285 ?_
  refine f_top (y := nI (i + 1)) (show nI i + nI 1 = nI (i + 1) from nI_add i 1) ?_
  refine va_sld hx hb hXs hbl hbA hw.2 (vp_in_nI (n := i + 1) (by omega) (by omega)) dL_law_1286 ?_
  rw [nI_clamp (n := i + 1) (by omega)]
  refine lv_aload_n hx hb dL_law_1287 rfl (lv_at hl 4 rfl) ?_
  refine k_wr (n := 3) X hnc hw hWr wq769 wq770 wq771 wq0 (by decide +kernel) ⟨(Nat.le_of_ble_eq_true rfl), (Nat.le_of_ble_eq_true rfl)⟩ rfl hl.1 rfl (Nat.le_of_ble_eq_true rfl) dL_law_1288 ⟨by show cells + 90 ≤ 601024; omega, by show slots + 2200 ≤ 7293034; omega⟩ (fun ad1 M1 H locs A2 sf2 hC2 hL2 h1 h0 h3 hO hw => ?_)
  refine lv_istore (lv' := [(5, .int k), (4, .int (nI i)), (0, .ref b), (1, .ref (ad 0)), (2, .ref (ad 5)), (3, .ref (ad 32))]) hx hb dL_law_1291 hl (by decide) rfl (fun ls hl => ?_)
  have hM1 : isMo g ad1 M1 th U sp ca := isMo_eq hM (fun q a b9 => h1 q a (by omega))
  have e5 : ad1 5 = ad 5 := (h1 5 (by omega) (by omega)).1
  obtain ⟨_, _, _, _, _, _, _, hMo, -⟩ := id hM1
  unfold mObj at hMo
  refine lv_aload_n hx hb dL_law_1293 rfl (lv_at hl 4 rfl) ?_
  refine lv_aload_n hx hb dL_law_1294 rfl (lv_at hl 2 rfl) ?_
  refine lv_iload hx hb dL_law_1295 (lv_at hl 1 rfl) ?_
  refine lv_iconst (v := 1) hx hb dL_law_1297 (by decide) ?_
  refine lv_iadd hx hb dL_law_1298 ?_
  refine f_top (y := nI (i + 1)) (show nI i + nI 1 = nI (i + 1) from nI_add i 1) ?_
  refine va_sld hx hb hXs hbl hbA hw.2 (vp_in_nI (n := i + 1) (by omega) (by omega)) dL_law_1299 ?_
  rw [nI_clamp (n := i + 1) (by omega)]
  refine fk_i (fcV X hw (hRf ad1 M1 hM1) hMo rfl wq1045 kVX6_weakest ⟨by show fr2 + 1 ≤ 13; omega, by show 8 + (4 + 11) + lo2 ≤ 506; omega⟩ rfl hl.1 (by rw [e5]; rfl) (Nat.le_of_ble_eq_true rfl) dL_law_1300 ⟨by show cells + 90 + mc2 ≤ 601024; omega, by show slots + 2200 + ms2 ≤ 7293034; omega⟩) hw (fun r ad2 M2 H locs hp hw => ?_)
  obtain ⟨⟨U2, sp2, ca2, hs2, hM2⟩, hr2, h52, er⟩ := hp
  rw [er]
  obtain ⟨hC3, hO3, h03, h33⟩ := rest_w hC2 hO hr2
  refine lv_istore (lv' := [(6, .int b2), (5, .int k), (4, .int (nI i)), (0, .ref b), (1, .ref (ad 0)), (2, .ref (ad 5)), (3, .ref (ad 32))]) hx hb dL_law_1303 hl (by decide) rfl (fun ls hl => ?_)
  obtain ⟨_, _, _, _, _, _, _, hMo2, -⟩ := id hM2
  unfold mObj at hMo2
  refine lv_aload_n hx hb dL_law_1305 rfl (lv_at hl 5 rfl) ?_
  refine fk_di (fcV X hw (c_thrown l g ad2 M2 hM2) hMo2 rfl wq835 kVX6_thrown ⟨(Nat.le_of_ble_eq_true rfl), (Nat.le_of_ble_eq_true rfl)⟩ rfl hl.1 (by rw [h52, e5]; rfl) (Nat.le_of_ble_eq_true rfl) dL_law_1306 ⟨by show cells + 90 + mc2 + 0 ≤ 601024; omega, by show slots + 2200 + ms2 + 0 ≤ 7293034; omega⟩) hw (fun H locs hw => ?_)
  refine lv_iload hx hb dL_law_1309 (lv_at hl 1 rfl) ?_
  refine lv_icmp_eq (tgt := 1316) hx hb dL_law_1311 (by decide) (fun c1 => ?_) (fun c1 => absurd rfl c1)
  refine lv_iload hx hb dL_law_1316 (lv_at hl 1 rfl) ?_
  refine lv_if_ne (tgt := 1333) hx hb dL_law_1318 (by decide) (fun c2 => ?_) (fun c2 => ?_)
  · refine lv_goto (tgt := 1459) hx hb dL_law_1333 (by decide) ?_
    exact W.widen (k := cells + 130) (n := slots + 2600) (by omega) (by omega) (K ad2 M2 H locs ls A2 sf2 _ U2 sp2 ca2 _ hC3 hL2 hM2 hs2 hO3 hw (by unfold lLoc; rw [h03, h0, h52, e5, h33, h3]; exact lv_sub hl [2, 3, 4, 5, 6] rfl))
  · refine lv_aload_n hx hb dL_law_1321 rfl (lv_at hl 6 rfl) ?_
    refine lv_iconst (v := 0) hx hb dL_law_1322 (by decide) ?_
    refine f_adr2 (ad := ad2) (lb := 32) (h33.trans h3) ?_
    refine f_lald X hw hO3 (by unfold vp_in; decide) dL_law_1323 ?_
    rw [show (0 : Int32).toNatClampNeg = 0 from rfl]
    refine lv_iload hx hb dL_law_1324 (lv_at hl 0 rfl) ?_
    refine lv_i2l hx hb dL_law_1326 rfl ?_
    refine W.lcmp hx hb dL_law_1327 ?_
    refine lv_if_eq (tgt := 1333) hx hb dL_law_1328 (by decide) (fun c3 => ?_) (fun c3 => absurd ((lg_cmp_eq _ _).mpr (hkb c2)) c3)
    refine lv_goto (tgt := 1459) hx hb dL_law_1333 (by decide) ?_
    exact W.widen (k := cells + 130) (n := slots + 2600) (by omega) (by omega) (K ad2 M2 H locs ls A2 sf2 _ U2 sp2 ca2 _ hC3 hL2 hM2 hs2 hO3 hw (by unfold lLoc; rw [h03, h0, h52, e5, h33, h3]; exact lv_sub hl [2, 3, 4, 5, 6] rfl))
set_option maxHeartbeats 4000000 in
set_option maxRecDepth 100000 in
theorem sg_advise {p : Program} {l : Launch} {e : Env} {s : State} {m : MethodId} {args : Array Value} {below : List Frame} {meth : Method} {c : Code} {H : Heap} {locs : List Loc} {cells slots : Nat} {Q : State → Prop} {g : fG} {ad : Nat → Nat} {M : fM} {ls : Array Slot} {b L i : Nat} {xs : Nat → Int32} (X : fX p s m args meth c code 9 ret RL g) (hnc : xNc s) (hXs : va_X b L xs s s.heap) (hbl : b < s.heap.size) (hbA : ¬ fA g b) (hL : L ≤ 2560) (hi : i + 5 ≤ L) (hw : fw g ad M s H locs) (hl : lv_has ls 9 (lLoc ad b i)) (hcl : cells + 130 ≤ 601024 ∧ slots + 2600 ≤ 7293034) {th : Int32} {U : fTn} {sp ca : Nat → Int32} (hM : isMo g ad M th U sp ca) {k b2 : Int32} {f2 : Nat → Int64} {T2 : fTn} {kf2 nf2 : Nat → Int32} {fr2 lo2 mc2 ms2 : Nat}
    (hWr : vx_Met l yL_advise (fWsH yL_advise cL_advise 5 (some .int) [(0, 10, 13, 13), (0, 10, 17, 15)]) (fR 10 260 90 2200) (va_Pc [.ref (cAd ad 0), .int (xs (i + 1)), .int (xs (i + 2)), .ref (cAd ad 3032)] (fSL g (cAd ad) (cMp M))) (fQi g (fWr g (cAd ad) (cMp M) T2 kf2 nf2 k f2)) fNX 90 2200 (fA g))
    (hRf : ∀ (ad1 : Nat → Nat) (M1 : fM), isMo g ad1 M1 th U sp ca → fCi l g yX6_advise cX6_advise 8 (some .int) fr2 lo2 mc2 ms2 ad1 M1 [.ref (ad1 5), .int (xs (i + 1)), .int (xs (i + 2))] (fRp g ad1 M1 T2 k b2)) (q1 : fr2 ≤ 8) (q2 : lo2 ≤ 190) (q3 : mc2 ≤ 35) (q4 : ms2 ≤ 395) (hkb : k = 0 → f2 0 = b2.toInt64)
    (K : LN p l e s m args below meth c Q g b i cells slots T2 kf2 nf2) : W p l e room_1 s m args below meth c H locs cells slots Q (F0 m 1336 ls []) := by
  have hx := X.1
  have hb := X.2.1
  have hl : lv_has ls 9 [(4, .int (nI i)), (0, .ref b), (1, .ref (ad 0)), (2, .ref (ad 5)), (3, .ref (ad 32))] := hl
  refine lv_aload_n hx hb dL_law_1336 rfl (lv_at hl 2 rfl) ?_
  refine lv_aload_n hx hb dL_law_1337 rfl (lv_at hl 1 rfl) ?_
  refine lv_iload hx hb dL_law_1338 (lv_at hl 0 rfl) ?_
  refine lv_iconst (v := 1) hx hb dL_law_1340 (by decide) ?_
  refine lv_iadd hx hb dL_law_1341 ?_
  refine f_top (y := nI (i + 1)) (show nI i + nI 1 = nI (i + 1) from nI_add i 1) ?_
  refine va_sld hx hb hXs hbl hbA hw.2 (vp_in_nI (n := i + 1) (by omega) (by omega)) dL_law_1342 ?_
  rw [nI_clamp (n := i + 1) (by omega)]
  refine lv_aload_n hx hb dL_law_1343 rfl (lv_at hl 1 rfl) ?_
  refine lv_iload hx hb dL_law_1344 (lv_at hl 0 rfl) ?_
  refine lv_iconst (v := 2) hx hb dL_law_1346 (by decide) ?_
  refine lv_iadd hx hb dL_law_1347 ?_
  refine f_top (y := nI (i + 2)) (show nI i + nI 2 = nI (i + 2) from nI_add i 2) ?_
  refine va_sld hx hb hXs hbl hbA hw.2 (vp_in_nI (n := i + 2) (by omega) (by omega)) dL_law_1348 ?_
  rw [nI_clamp (n := i + 2) (by omega)]
  refine lv_aload_n hx hb dL_law_1349 rfl (lv_at hl 4 rfl) ?_
  refine k_wr (n := 4) X hnc hw hWr wq777 wq778 wq779 wq0 (by decide +kernel) ⟨(Nat.le_of_ble_eq_true rfl), (Nat.le_of_ble_eq_true rfl)⟩ rfl hl.1 rfl (Nat.le_of_ble_eq_true rfl) dL_law_1350 ⟨by show cells + 90 ≤ 601024; omega, by show slots + 2200 ≤ 7293034; omega⟩ (fun ad1 M1 H locs A2 sf2 hC2 hL2 h1 h0 h3 hO hw => ?_)
  refine lv_istore (lv' := [(5, .int k), (4, .int (nI i)), (0, .ref b), (1, .ref (ad 0)), (2, .ref (ad 5)), (3, .ref (ad 32))]) hx hb dL_law_1353 hl (by decide) rfl (fun ls hl => ?_)
  have hM1 : isMo g ad1 M1 th U sp ca := isMo_eq hM (fun q a b9 => h1 q a (by omega))
  have e5 : ad1 5 = ad 5 := (h1 5 (by omega) (by omega)).1
  obtain ⟨_, _, _, _, _, _, _, hMo, -⟩ := id hM1
  unfold mObj at hMo
  refine lv_aload_n hx hb dL_law_1355 rfl (lv_at hl 4 rfl) ?_
  refine lv_aload_n hx hb dL_law_1356 rfl (lv_at hl 2 rfl) ?_
  refine lv_iload hx hb dL_law_1357 (lv_at hl 1 rfl) ?_
  refine lv_iconst (v := 1) hx hb dL_law_1359 (by decide) ?_
  refine lv_iadd hx hb dL_law_1360 ?_
  refine f_top (y := nI (i + 1)) (show nI i + nI 1 = nI (i + 1) from nI_add i 1) ?_
  refine va_sld hx hb hXs hbl hbA hw.2 (vp_in_nI (n := i + 1) (by omega) (by omega)) dL_law_1361 ?_
  rw [nI_clamp (n := i + 1) (by omega)]
  refine lv_aload_n hx hb dL_law_1362 rfl (lv_at hl 2 rfl) ?_
  refine lv_iload hx hb dL_law_1363 (lv_at hl 1 rfl) ?_
  refine lv_iconst (v := 2) hx hb dL_law_1365 (by decide) ?_
  refine lv_iadd hx hb dL_law_1366 ?_
  refine f_top (y := nI (i + 2)) (show nI i + nI 2 = nI (i + 2) from nI_add i 2) ?_
  refine va_sld hx hb hXs hbl hbA hw.2 (vp_in_nI (n := i + 2) (by omega) (by omega)) dL_law_1367 ?_
  rw [nI_clamp (n := i + 2) (by omega)]
  refine fk_i (fcV X hw (hRf ad1 M1 hM1) hMo rfl wq1049 kVX6_advise ⟨by show fr2 + 1 ≤ 13; omega, by show 8 + (8 + 11) + lo2 ≤ 506; omega⟩ rfl hl.1 (by rw [e5]; rfl) (Nat.le_of_ble_eq_true rfl) dL_law_1368 ⟨by show cells + 90 + mc2 ≤ 601024; omega, by show slots + 2200 + ms2 ≤ 7293034; omega⟩) hw (fun r ad2 M2 H locs hp hw => ?_)
  obtain ⟨⟨U2, sp2, ca2, hs2, hM2⟩, hr2, h52, er⟩ := hp
  rw [er]
  obtain ⟨hC3, hO3, h03, h33⟩ := rest_w hC2 hO hr2
  refine lv_istore (lv' := [(6, .int b2), (5, .int k), (4, .int (nI i)), (0, .ref b), (1, .ref (ad 0)), (2, .ref (ad 5)), (3, .ref (ad 32))]) hx hb dL_law_1371 hl (by decide) rfl (fun ls hl => ?_)
  obtain ⟨_, _, _, _, _, _, _, hMo2, -⟩ := id hM2
  unfold mObj at hMo2
  refine lv_aload_n hx hb dL_law_1373 rfl (lv_at hl 5 rfl) ?_
  refine fk_di (fcV X hw (c_thrown l g ad2 M2 hM2) hMo2 rfl wq835 kVX6_thrown ⟨(Nat.le_of_ble_eq_true rfl), (Nat.le_of_ble_eq_true rfl)⟩ rfl hl.1 (by rw [h52, e5]; rfl) (Nat.le_of_ble_eq_true rfl) dL_law_1374 ⟨by show cells + 90 + mc2 + 0 ≤ 601024; omega, by show slots + 2200 + ms2 + 0 ≤ 7293034; omega⟩) hw (fun H locs hw => ?_)
  refine lv_iload hx hb dL_law_1377 (lv_at hl 1 rfl) ?_
  refine lv_icmp_eq (tgt := 1384) hx hb dL_law_1379 (by decide) (fun c1 => ?_) (fun c1 => absurd rfl c1)
  refine lv_iload hx hb dL_law_1384 (lv_at hl 1 rfl) ?_
  refine lv_if_ne (tgt := 1401) hx hb dL_law_1386 (by decide) (fun c2 => ?_) (fun c2 => ?_)
  · refine lv_goto (tgt := 1459) hx hb dL_law_1401 (by decide) ?_
    exact W.widen (k := cells + 130) (n := slots + 2600) (by omega) (by omega) (K ad2 M2 H locs ls A2 sf2 _ U2 sp2 ca2 _ hC3 hL2 hM2 hs2 hO3 hw (by unfold lLoc; rw [h03, h0, h52, e5, h33, h3]; exact lv_sub hl [2, 3, 4, 5, 6] rfl))
  · refine lv_aload_n hx hb dL_law_1389 rfl (lv_at hl 6 rfl) ?_
    refine lv_iconst (v := 0) hx hb dL_law_1390 (by decide) ?_
    refine f_adr2 (ad := ad2) (lb := 32) (h33.trans h3) ?_
    refine f_lald X hw hO3 (by unfold vp_in; decide) dL_law_1391 ?_
    rw [show (0 : Int32).toNatClampNeg = 0 from rfl]
    refine lv_iload hx hb dL_law_1392 (lv_at hl 0 rfl) ?_
    refine lv_i2l hx hb dL_law_1394 rfl ?_
    refine W.lcmp hx hb dL_law_1395 ?_
    refine lv_if_eq (tgt := 1401) hx hb dL_law_1396 (by decide) (fun c3 => ?_) (fun c3 => absurd ((lg_cmp_eq _ _).mpr (hkb c2)) c3)
    refine lv_goto (tgt := 1459) hx hb dL_law_1401 (by decide) ?_
    exact W.widen (k := cells + 130) (n := slots + 2600) (by omega) (by omega) (K ad2 M2 H locs ls A2 sf2 _ U2 sp2 ca2 _ hC3 hL2 hM2 hs2 hO3 hw (by unfold lLoc; rw [h03, h0, h52, e5, h33, h3]; exact lv_sub hl [2, 3, 4, 5, 6] rfl))
