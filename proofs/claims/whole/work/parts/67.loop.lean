/-! the three cases that call the class at once; the loop -/
def R_law : String := "FireEnginesLaw"
def lw_P (b : Addr) (xs : List Int32) (args : Array Value) (s : State) : Prop := args = #[.ref b] ∧ s.IntsAt b xs ∧ xs.length ≤ 2560 ∧ (Jvm.Cond.and given_1 narrow_1).before args s = true
/-- what a walk over the start with the record d0 says of its end, said of the start itself -/
theorem lw_closed {s t : State} {o : Outcome} {d0 : Drawn} {L : List Loc} {k n : Nat} (hd0 : s.drawn.sameBut d0 lw_cs) (hv : ∃ v, o = .returned v) (hW : (s.setDrawn d0).WarmedH t.vm) (hs : (s.setDrawn d0).sameButNew ({ t with vm := s.vm } : State) L k n) : State.butDraws s t lw_cs (fun t1 => Framed s o t1 L k n) := by
  have h2 : t.drawn = d0 := congrArg State.drawn hs.1
  refine ⟨⟨hv, hW, State.sameButNew.setDrawn hs s.drawn⟩, ?_, by decide⟩
  rw [h2]
  exact hd0
def lw_Q (_ : Array Value) (s : State) (o : Outcome) (t : State) : Prop := o = .returned (some (.int 1)) ∧ State.butDraws s t lw_cs (fun t1 => Framed s o t1 [] 601024 7293034)
def lw_Z (below : List Frame) (a : Array Value) (s : State) : State → Prop := fun t => ∃ o, t.status = .running ∧ Ended t below o ∧ lw_Q a s o t
/-- the law's own end, with 1 on the stack, nothing written that was there before, its room as the claim has it; d0: the record of draws at this point (at the entry s.drawn: begin with 'refine W.base ?_' and 'have hd0 := Drawn.sameBut.refl s.drawn lw_cs') -/
theorem lw_ret {p : Program} {l : Launch} {e : Env} {s : State} {m : MethodId} {below : List Frame} {meth : Method} {c : Code} {b : Nat} {d0 : Drawn} (hd0 : s.drawn.sameBut d0 lw_cs) (hx : p.tables.exec = Jvm.exec) (hb : c.code = code) (hr : meth.sig.returnType = ret) (hlocks : meth.locks = false) {pc : Nat} {H : Heap} {ls : Array Slot} (hdg : decode code pc = .ok (.ireturn, 1)) : W p l e room_1 (s.setDrawn d0) m #[Value.ref b] below meth c H [] 601024 7293034 (lw_Z below #[Value.ref b] s) (F0 m pc ls [.int 1]) := by
  intro T hT X
  obtain ⟨fs, hret, hrun, hended, hW, hframe⟩ := X.leave (v := some (.int 1)) (hlocks := hlocks) (fun h => by rw [hr] at h; cases h)
  have hmeth' : T.vm.method? m = some meth := X.method'
  refine ⟨T.setFrames fs, ?_, .returned (some (.int 1)), hrun, hended, rfl, lw_closed hd0 ⟨_, rfl⟩ hW hframe⟩
  jvm_step X.here [X.here.top, hx, hb, hdg, hmeth', hr, ret, narrow_b1]
  (try refine ⟨rfl, ?_⟩); (try refine ⟨rfl, ?_⟩)
  first | (intro acts; rw [hret _ acts rfl rfl rfl]) | rw [hret _ _ rfl rfl rfl]
  exact Steps.refl _
/-- what holds at the law's entry: the machine, the code, the tables' words (any of lw_tbl by 'hts w (by decide +kernel)'), the script of L ints xs at the cell b, what the Statement gives of the start (any of its parts by flat_of_before) -/
def lw_At (p : Program) (s : State) (m : MethodId) (meth : Method) (c : Code) (b L : Nat) (xs : Nat → Int32) : Prop :=
  p.tables.exec = Jvm.exec ∧ c.code = code ∧ meth.sig.returnType = ret ∧ c.maxLocals = 9 ∧ s.vm.findClass R_law = some m.cls ∧ (∀ w ∈ lw_tbl, w.before #[Value.ref b] s = true) ∧ va_X b L xs s s.heap ∧ b < s.heap.size ∧ meth.locks = false ∧ (Jvm.Cond.and given_1 narrow_1).before #[Value.ref b] s = true
set_option maxHeartbeats 4000000 in
set_option maxRecDepth 100000 in
theorem sg_lasts {p : Program} {l : Launch} {e : Env} {s : State} {m : MethodId} {args : Array Value} {below : List Frame} {meth : Method} {c : Code} {H : Heap} {locs : List Loc} {cells slots : Nat} {Q : State → Prop} {g : fG} {ad : Nat → Nat} {M : fM} {ls : Array Slot} {b L i : Nat} {xs : Nat → Int32} (X : fX p s m args meth c code 9 ret RL g) (hnc : xNc s) (hXs : va_X b L xs s s.heap) (hbl : b < s.heap.size) (hbA : ¬ fA g b) (hL : L ≤ 2560) (hi : i + 5 ≤ L) (hw : fw g ad M s H locs) (hl : lv_has ls 9 (lLoc ad b i)) (hcl : cells + 130 ≤ 601024 ∧ slots + 2600 ≤ 7293034) {T A : fTn} {kf nf sf : Nat → Int32} {th : Int32} {U : fTn} {sp ca : Nat → Int32} {f : Nat → Int64} (hC : isC g ad M T A kf nf sf) (hLe : leT A T) (hM : isMo g ad M th U sp ca) (hO : M 32 = some (oCell g f)) (hS : simT U T) (hT : okT kf T)
    (K : LN p l e s m args below meth c Q g b i cells slots T kf nf) : W p l e room_1 s m args below meth c H locs cells slots Q (F0 m 1267 ls []) := by
  have hx := X.1
  have hb := X.2.1
  have hl : lv_has ls 9 [(4, .int (nI i)), (0, .ref b), (1, .ref (ad 0)), (2, .ref (ad 5)), (3, .ref (ad 32))] := hl
  obtain ⟨oH, oP, oE, oZ, ⟨rk, oR⟩, o1, o2, o3⟩ := id hT
  refine lv_aload_n hx hb dL_law_1267 rfl (lv_at hl 2 rfl) ?_
  refine k_ci X hw hC (fCi_mono (c_X5_lasts l g (cAd ad) (cMp M) (isC_eq hC (fun l hl => c_lo hl)) hLe) (cu_Co (by obtain ⟨t1, t2, t3⟩ := goT_n T (firstN (restsP T) 201); unfold leT; rw [t1, t2, t3]; exact ⟨Nat.le_refl _, Nat.le_refl _, Nat.le_refl _⟩))) wq106 kVX5_lasts ⟨(Nat.le_of_ble_eq_true rfl), (Nat.le_of_ble_eq_true rfl)⟩ rfl hl.1 rfl (Nat.le_of_ble_eq_true rfl) dL_law_1268 ⟨by show cells + _ ≤ 601024; omega, by show slots + _ ≤ 7293034; omega⟩ (fun ad1 M1 H locs A2 sf2 hC2 hL2 h1 h0 h3 hO1 hw => ?_)
  have hM1 : isMo g ad1 M1 th U sp ca := isMo_eq hM (fun q a b9 => h1 q a (by omega))
  have e5 : ad1 5 = ad 5 := (h1 5 (by omega) (by omega)).1
  have hO2 := hO1.trans hO
  obtain ⟨_, _, _, _, _, _, _, hMo, -⟩ := id hM1
  unfold mObj at hMo
  refine lv_aload_n hx hb dL_law_1271 rfl (lv_at hl 3 rfl) ?_
  refine fk_i (fcV X hw (fCi_mono (c_m_lasts l g ad1 M1 hM1 (okHz_U hS oZ)) (rp_Ma (sim_goback hS hT (mLastK U)))) hMo rfl wq1041 kVX6_lasts ⟨(Nat.le_of_ble_eq_true rfl), (Nat.le_of_ble_eq_true rfl)⟩ rfl hl.1 (by rw [e5]; rfl) (Nat.le_of_ble_eq_true rfl) dL_law_1272 ⟨by show cells + (2 * (tHn T - tHn A) + 2 * (tPn T - tPn A) + 2 * (tEn T - tEn A)) + 6 ≤ 601024; omega, by show slots + (50 * (tHn T - tHn A) + 45 * (tPn T - tPn A) + 54 * (tEn T - tEn A)) + 279 ≤ 7293034; omega⟩) hw (fun r ad2 M2 H locs hp hw => ?_)
  obtain ⟨⟨U2, sp2, ca2, hs2, hM2⟩, hr2, h52, er⟩ := hp
  rw [er]
  obtain ⟨hC3, hO3, h03, h33⟩ := rest_w hC2 hO2 hr2
  refine lv_icmp_eq (tgt := 1459) hx hb dL_law_1275 (by decide) (fun c1 => ?_) (fun c1 => absurd (lasts_same hS hT).symm c1)
  exact W.widen (k := cells + 130) (n := slots + 2600) (by omega) (by omega) (K _ M2 H locs ls _ _ _ _ _ _ _ hC3 hL2 hM2 hs2 hO3 hw (by unfold lLoc; rw [h03, h0, h52, e5, h33, h3]; exact lv_sub hl [0, 1, 2, 3, 4] rfl))
set_option maxHeartbeats 4000000 in
set_option maxRecDepth 100000 in
theorem sg_walls {p : Program} {l : Launch} {e : Env} {s : State} {m : MethodId} {args : Array Value} {below : List Frame} {meth : Method} {c : Code} {H : Heap} {locs : List Loc} {cells slots : Nat} {Q : State → Prop} {g : fG} {ad : Nat → Nat} {M : fM} {ls : Array Slot} {b L i : Nat} {xs : Nat → Int32} (X : fX p s m args meth c code 9 ret RL g) (hnc : xNc s) (hXs : va_X b L xs s s.heap) (hbl : b < s.heap.size) (hbA : ¬ fA g b) (hL : L ≤ 2560) (hi : i + 5 ≤ L) (hw : fw g ad M s H locs) (hl : lv_has ls 9 (lLoc ad b i)) (hcl : cells + 130 ≤ 601024 ∧ slots + 2600 ≤ 7293034) {T A : fTn} {kf nf sf : Nat → Int32} {th : Int32} {U : fTn} {sp ca : Nat → Int32} {f : Nat → Int64} (hC : isC g ad M T A kf nf sf) (hLe : leT A T) (hM : isMo g ad M th U sp ca) (hO : M 32 = some (oCell g f)) (hS : simT U T) (hT : okT kf T)
    (K : LN p l e s m args below meth c Q g b i cells slots T kf nf) : W p l e room_1 s m args below meth c H locs cells slots Q (F0 m 1404 ls []) := by
  have hx := X.1
  have hb := X.2.1
  have hl : lv_has ls 9 [(4, .int (nI i)), (0, .ref b), (1, .ref (ad 0)), (2, .ref (ad 5)), (3, .ref (ad 32))] := hl
  obtain ⟨oH, oP, oE, oZ, ⟨rk, oR⟩, o1, o2, o3⟩ := id hT
  refine lv_aload_n hx hb dL_law_1404 rfl (lv_at hl 2 rfl) ?_
  refine k_cd X hw hC (c_X5_walls l g (cAd ad) (cMp M) (isC_eq hC (fun l hl => c_lo hl))) wq417 kVX5_walls ⟨(Nat.le_of_ble_eq_true rfl), (Nat.le_of_ble_eq_true rfl)⟩ rfl hl.1 rfl (Nat.le_of_ble_eq_true rfl) dL_law_1405 ⟨by show cells + 0 ≤ 601024; omega, by show slots + 0 ≤ 7293034; omega⟩ (fun ad1 M1 H locs hC2 h1 h0 h3 hO1 hw => ?_)
  refine lv_dstore (lv' := [(5, .double (wallsD T)), (4, .int (nI i)), (0, .ref b), (1, .ref (ad 0)), (2, .ref (ad 5)), (3, .ref (ad 32))]) hx hb dL_law_1408 hl (by decide) rfl (fun ls hl => ?_)
  have hM1 : isMo g ad1 M1 th U sp ca := isMo_eq hM (fun q a b9 => h1 q a (by omega))
  have e5 : ad1 5 = ad 5 := (h1 5 (by omega) (by omega)).1
  have hO2 := hO1.trans hO
  obtain ⟨_, _, _, _, _, _, _, hMo, -⟩ := id hM1
  unfold mObj at hMo
  refine lv_aload_n hx hb dL_law_1410 rfl (lv_at hl 4 rfl) ?_
  refine fk_d (fcV X hw (c_m_walls l g ad1 M1 hM1) hMo rfl wq1053 kVX6_walls ⟨(Nat.le_of_ble_eq_true rfl), (Nat.le_of_ble_eq_true rfl)⟩ rfl hl.1 (by rw [e5]; rfl) (Nat.le_of_ble_eq_true rfl) dL_law_1411 ⟨by show cells + 0 ≤ 601024; omega, by show slots + 0 ≤ 7293034; omega⟩) hw (fun r ad2 M2 H locs hp hw => ?_)
  obtain ⟨ea, hM2, hr9, er⟩ := hp
  rw [ea] at hw
  rw [er]
  have hr2 : fReg 5 31 ad1 M1 ad1 M2 := fReg_w hr9 (by omega) (by omega)
  obtain ⟨hC3, hO3, h03, h33⟩ := rest_w hC2 hO2 hr2
  rw [walls_same hS]
  refine lv_dstore (lv' := [(7, .double (wallsD T)), (5, .double (wallsD T)), (4, .int (nI i)), (0, .ref b), (1, .ref (ad 0)), (2, .ref (ad 5)), (3, .ref (ad 32))]) hx hb dL_law_1414 hl (by decide) rfl (fun ls hl => ?_)
  refine lv_dload hx hb dL_law_1416 (lv_at hl 1 rfl) ?_
  refine lv_dload hx hb dL_law_1418 (lv_at hl 0 rfl) ?_
  refine lv_dcmp hx hb dL_law_1420 ?_
  refine lv_if_eq (tgt := 1442) hx hb dL_law_1421 (by decide) (fun c1 => ?_) (fun c1 => absurd (dcmp_me (wallsD_no T o1)) c1)
  refine lv_goto (tgt := 1459) hx hb dL_law_1442 (by decide) ?_
  exact W.widen (k := cells + 130) (n := slots + 2600) (by omega) (by omega) (K _ M2 H locs ls _ _ _ _ _ _ _ hC3 hLe hM2 hS hO3 hw (by unfold lLoc; rw [h0, e5, h3]; exact lv_sub hl [2, 3, 4, 5, 6] rfl))
set_option maxHeartbeats 4000000 in
set_option maxRecDepth 100000 in
theorem sg_digest {p : Program} {l : Launch} {e : Env} {s : State} {m : MethodId} {args : Array Value} {below : List Frame} {meth : Method} {c : Code} {H : Heap} {locs : List Loc} {cells slots : Nat} {Q : State → Prop} {g : fG} {ad : Nat → Nat} {M : fM} {ls : Array Slot} {b L i : Nat} {xs : Nat → Int32} (X : fX p s m args meth c code 9 ret RL g) (hnc : xNc s) (hXs : va_X b L xs s s.heap) (hbl : b < s.heap.size) (hbA : ¬ fA g b) (hL : L ≤ 2560) (hi : i + 5 ≤ L) (hw : fw g ad M s H locs) (hl : lv_has ls 9 (lLoc ad b i)) (hcl : cells + 130 ≤ 601024 ∧ slots + 2600 ≤ 7293034) {T A : fTn} {kf nf sf : Nat → Int32} {th : Int32} {U : fTn} {sp ca : Nat → Int32} {f : Nat → Int64} (hC : isC g ad M T A kf nf sf) (hLe : leT A T) (hM : isMo g ad M th U sp ca) (hO : M 32 = some (oCell g f)) (hS : simT U T) (hT : okT kf T)
    (K : LN p l e s m args below meth c Q g b i cells slots T kf nf) : W p l e room_1 s m args below meth c H locs cells slots Q (F0 m 1445 ls []) := by
  have hx := X.1
  have hb := X.2.1
  have hl : lv_has ls 9 [(4, .int (nI i)), (0, .ref b), (1, .ref (ad 0)), (2, .ref (ad 5)), (3, .ref (ad 32))] := hl
  obtain ⟨oH, oP, oE, oZ, ⟨rk, oR⟩, o1, o2, o3⟩ := id hT
  refine lv_aload_n hx hb dL_law_1445 rfl (lv_at hl 2 rfl) ?_
  refine k_cl X hw hC (c_X5_digest l g (cAd ad) (cMp M) (isC_eq hC (fun l hl => c_lo hl))) wq424 kVX5_digest ⟨(Nat.le_of_ble_eq_true rfl), (Nat.le_of_ble_eq_true rfl)⟩ rfl hl.1 rfl (Nat.le_of_ble_eq_true rfl) dL_law_1446 ⟨by show cells + 0 ≤ 601024; omega, by show slots + 0 ≤ 7293034; omega⟩ (fun ad1 M1 H locs hC2 h1 h0 h3 hO1 hw => ?_)
  have hM1 : isMo g ad1 M1 th U sp ca := isMo_eq hM (fun q a b9 => h1 q a (by omega))
  have e5 : ad1 5 = ad 5 := (h1 5 (by omega) (by omega)).1
  have hO2 := hO1.trans hO
  obtain ⟨_, _, _, _, _, _, _, hMo, -⟩ := id hM1
  unfold mObj at hMo
  refine lv_aload_n hx hb dL_law_1449 rfl (lv_at hl 3 rfl) ?_
  refine fk_l (fcV X hw (c_m_digest l g ad1 M1 hM1) hMo rfl wq1057 kVX6_digest ⟨(Nat.le_of_ble_eq_true rfl), (Nat.le_of_ble_eq_true rfl)⟩ rfl hl.1 (by rw [e5]; rfl) (Nat.le_of_ble_eq_true rfl) dL_law_1450 ⟨by show cells + 0 ≤ 601024; omega, by show slots + 0 ≤ 7293034; omega⟩) hw (fun r ad2 M2 H locs hp hw => ?_)
  obtain ⟨ea, hM2, hr9, er⟩ := hp
  rw [ea] at hw
  rw [er]
  have hr2 : fReg 5 31 ad1 M1 ad1 M2 := fReg_w hr9 (by omega) (by omega)
  obtain ⟨hC3, hO3, h03, h33⟩ := rest_w hC2 hO2 hr2
  refine W.lcmp hx hb dL_law_1453 ?_
  refine lv_if_eq (tgt := 1459) hx hb dL_law_1454 (by decide) (fun c1 => ?_) (fun c1 => absurd ((lg_cmp_eq _ _).mpr (dig_same hS (fun q hq => (oP q hq).1) (fun q hq => by obtain ⟨cc9, h9, e9, -⟩ := (oE q hq).1; exact ⟨cc9, h9, e9⟩)).symm) c1)
  exact W.widen (k := cells + 130) (n := slots + 2600) (by omega) (by omega) (K _ M2 H locs ls _ _ _ _ _ _ _ hC3 hLe hM2 hS hO3 hw (by unfold lLoc; rw [h0, e5, h3]; exact lv_sub hl [0, 1, 2, 3, 4] rfl))
set_option maxHeartbeats 4000000 in
set_option maxRecDepth 100000 in
theorem lw_turn {p : Program} {l : Launch} {e : Env} {s : State} {m : MethodId} {args : Array Value} {below : List Frame} {meth : Method} {c : Code} {H : Heap} {locs : List Loc} {cells slots : Nat} {Q : State → Prop} {g : fG} {ad : Nat → Nat} {M : fM} {ls : Array Slot} {b L i : Nat} {xs : Nat → Int32} (hst : l.stackTraces = false) (X : fX p s m args meth c code 9 ret RL g) (hnc : xNc s) (hXs : va_X b L xs s s.heap) (hbl : b < s.heap.size) (hbA : ¬ fA g b) (hL : L ≤ 2560) (hi : i + 5 ≤ L) (hw : fw g ad M s H locs) (hl : lv_has ls 9 (lLoc ad b i)) (hcl : cells + 130 ≤ 601024 ∧ slots + 2600 ≤ 7293034) {T A : fTn} {kf nf sf : Nat → Int32} {th : Int32} {U : fTn} {sp ca : Nat → Int32} {f : Nat → Int64} (hC : isC g ad M T A kf nf sf) (hLe : leT A T) (hM : isMo g ad M th U sp ca) (hO : M 32 = some (oCell g f)) (hS : simT U T) (hT : okT kf T) (hG : gOk kf nf T)
    (K : ∀ (T2 : fTn) (kf2 nf2 : Nat → Int32), okT kf2 T2 → gOk kf2 nf2 T2 → LN p l e s m args below meth c Q g b i cells slots T2 kf2 nf2) : W p l e room_1 s m args below meth c H locs cells slots Q (F0 m 32 ls []) := by
  have hx := X.1
  have hb := X.2.1
  have hl0 := hl
  have hl : lv_has ls 9 [(4, .int (nI i)), (0, .ref b), (1, .ref (ad 0)), (2, .ref (ad 5)), (3, .ref (ad 32))] := hl
  have hOc : cMp M 3032 = some (oCell g f) := (c_hi (ad := ad) (l := 32) (by omega) (by omega)).2.trans hO
  have hCc := (isC_eq (ad1 := cAd ad) (M1 := cMp M) hC (fun l hl => c_lo hl))
  refine lv_aload_n hx hb dL_law_32 rfl (lv_at hl 1 rfl) ?_
  refine lv_iload hx hb dL_law_33 (lv_at hl 0 rfl) ?_
  refine va_sld hx hb hXs hbl hbA hw.2 (vp_in_nI (n := i) (by omega) (by omega)) dL_law_35 ?_
  rw [nI_clamp (n := i) (by omega)]
  refine lv_bipush (v := 31) hx hb dL_law_36 (by decide) ?_
  refine lv_iand hx hb dL_law_38 ?_
  by_cases k0 : xs i &&& 31 = 0
  · refine lv_tableIn (off := 97) (tgt := 136) hx hb dL_law_39 (by rw [k0]; decide) (by rw [k0]; decide) (by rw [k0]; rfl) (by decide) ?_
    obtain ⟨k9, b2, f2, T2, kf2, nf2, fr2, lo2, mc2, ms2, z1, z2, hWr, hRf, q1, q2, q3, q4, hkb⟩ := cs_build l hst g (th := th) (sp := sp) (ca := ca) (A := A) (sf := sf) hS hT hG hLe f (xs (i + 1)) (xs (i + 2)) (xs (i + 3)) (xs (i + 4))
    exact sg_build X hnc hXs hbl hbA hL hi hw hl0 hcl hM (hWr (cAd ad) (cMp M) hCc hOc) hRf q1 q2 q3 q4 hkb (K T2 kf2 nf2 z1 z2)
  by_cases k1 : xs i &&& 31 = 1
  · refine lv_tableIn (off := 189) (tgt := 228) hx hb dL_law_39 (by rw [k1]; decide) (by rw [k1]; decide) (by rw [k1]; rfl) (by decide) ?_
    obtain ⟨k9, b2, f2, T2, kf2, nf2, fr2, lo2, mc2, ms2, z1, z2, hWr, hRf, q1, q2, q3, q4, hkb⟩ := cs_dig l hst g (th := th) (sp := sp) (ca := ca) (A := A) (sf := sf) hS hT hG hLe f (xs (i + 1)) (xs (i + 2)) (xs (i + 3))
    exact sg_dig X hnc hXs hbl hbA hL hi hw hl0 hcl hM (hWr (cAd ad) (cMp M) hCc hOc) hRf q1 q2 q3 q4 hkb (K T2 kf2 nf2 z1 z2)
  by_cases k2 : xs i &&& 31 = 2
  · refine lv_tableIn (off := 269) (tgt := 308) hx hb dL_law_39 (by rw [k2]; decide) (by rw [k2]; decide) (by rw [k2]; rfl) (by decide) ?_
    obtain ⟨k9, b2, f2, T2, kf2, nf2, fr2, lo2, mc2, ms2, z1, z2, hWr, hRf, q1, q2, q3, q4, hkb⟩ := cs_light l hst g (th := th) (sp := sp) (ca := ca) (A := A) (sf := sf) hS hT hG hLe f (xs (i + 1)) (xs (i + 2))
    exact sg_light X hnc hXs hbl hbA hL hi hw hl0 hcl hM (hWr (cAd ad) (cMp M) hCc hOc) hRf q1 q2 q3 q4 hkb (K T2 kf2 nf2 z1 z2)
  by_cases k3 : xs i &&& 31 = 3
  · refine lv_tableIn (off := 337) (tgt := 376) hx hb dL_law_39 (by rw [k3]; decide) (by rw [k3]; decide) (by rw [k3]; rfl) (by decide) ?_
    obtain ⟨k9, b2, f2, T2, kf2, nf2, fr2, lo2, mc2, ms2, z1, z2, hWr, hRf, q1, q2, q3, q4, hkb⟩ := cs_cell l hst g (th := th) (sp := sp) (ca := ca) (A := A) (sf := sf) hS hT hG hLe f (xs (i + 1)) (xs (i + 2)) (xs (i + 3))
    exact sg_cell X hnc hXs hbl hbA hL hi hw hl0 hcl hM (hWr (cAd ad) (cMp M) hCc hOc) hRf q1 q2 q3 q4 hkb (K T2 kf2 nf2 z1 z2)
  by_cases k4 : xs i &&& 31 = 4
  · refine lv_tableIn (off := 417) (tgt := 456) hx hb dL_law_39 (by rw [k4]; decide) (by rw [k4]; decide) (by rw [k4]; rfl) (by decide) ?_
    obtain ⟨k9, b2, f2, T2, kf2, nf2, fr2, lo2, mc2, ms2, z1, z2, hWr, hRf, q1, q2, q3, q4, hkb⟩ := cs_house l hst g (th := th) (sp := sp) (ca := ca) (A := A) (sf := sf) hS hT hG hLe f (xs (i + 1)) (xs (i + 2))
    exact sg_house X hnc hXs hbl hbA hL hi hw hl0 hcl hM (hWr (cAd ad) (cMp M) hCc hOc) hRf q1 q2 q3 q4 hkb (K T2 kf2 nf2 z1 z2)
  by_cases k5 : xs i &&& 31 = 5
  · refine lv_tableIn (off := 485) (tgt := 524) hx hb dL_law_39 (by rw [k5]; decide) (by rw [k5]; decide) (by rw [k5]; rfl) (by decide) ?_
    obtain ⟨k9, b2, f2, T2, kf2, nf2, fr2, lo2, mc2, ms2, z1, z2, hWr, hRf, q1, q2, q3, q4, hkb⟩ := cs_addEngine l hst g (th := th) (sp := sp) (ca := ca) (A := A) (sf := sf) hS hT hG hLe f (xs (i + 1)) (xs (i + 2)) (xs (i + 3)) (xs (i + 4))
    exact sg_addEngine X hnc hXs hbl hbA hL hi hw hl0 hcl hM (hWr (cAd ad) (cMp M) hCc hOc) hRf q1 q2 q3 q4 hkb (K T2 kf2 nf2 z1 z2)
  by_cases k6 : xs i &&& 31 = 6
  · refine lv_tableIn (off := 577) (tgt := 616) hx hb dL_law_39 (by rw [k6]; decide) (by rw [k6]; decide) (by rw [k6]; rfl) (by decide) ?_
    obtain ⟨k9, b2, f2, T2, kf2, nf2, fr2, lo2, mc2, ms2, z1, z2, hWr, hRf, q1, q2, q3, q4, hkb⟩ := cs_stoke l hst g (th := th) (sp := sp) (ca := ca) (A := A) (sf := sf) hS hT hG hLe f (xs (i + 1)) (xs (i + 2))
    exact sg_stoke X hnc hXs hbl hbA hL hi hw hl0 hcl hM (hWr (cAd ad) (cMp M) hCc hOc) hRf q1 q2 q3 q4 hkb (K T2 kf2 nf2 z1 z2)
  by_cases k7 : xs i &&& 31 = 7
  · refine lv_tableIn (off := 645) (tgt := 684) hx hb dL_law_39 (by rw [k7]; decide) (by rw [k7]; decide) (by rw [k7]; rfl) (by decide) ?_
    obtain ⟨k9, b2, f2, T2, kf2, nf2, fr2, lo2, mc2, ms2, z1, z2, hWr, hRf, q1, q2, q3, q4, hkb⟩ := cs_drive l hst g (th := th) (sp := sp) (ca := ca) (A := A) (sf := sf) hS hT hG hLe f (xs (i + 1)) (xs (i + 2)) (xs (i + 3))
    exact sg_drive X hnc hXs hbl hbA hL hi hw hl0 hcl hM (hWr (cAd ad) (cMp M) hCc hOc) hRf q1 q2 q3 q4 hkb (K T2 kf2 nf2 z1 z2)
  by_cases k8 : xs i &&& 31 = 8
  · refine lv_tableIn (off := 725) (tgt := 764) hx hb dL_law_39 (by rw [k8]; decide) (by rw [k8]; decide) (by rw [k8]; rfl) (by decide) ?_
    obtain ⟨k9, b2, f2, T2, kf2, nf2, fr2, lo2, mc2, ms2, z1, z2, hWr, hRf, q1, q2, q3, q4, hkb⟩ := cs_relay l hst g (th := th) (sp := sp) (ca := ca) (A := A) (sf := sf) hS hT hG hLe f (xs (i + 1)) (xs (i + 2))
    exact sg_relay X hnc hXs hbl hbA hL hi hw hl0 hcl hM (hWr (cAd ad) (cMp M) hCc hOc) hRf q1 q2 q3 q4 hkb (K T2 kf2 nf2 z1 z2)
  by_cases k9 : xs i &&& 31 = 9
  · refine lv_tableIn (off := 793) (tgt := 832) hx hb dL_law_39 (by rw [k9]; decide) (by rw [k9]; decide) (by rw [k9]; rfl) (by decide) ?_
    obtain ⟨k9, b2, f2, T2, kf2, nf2, fr2, lo2, mc2, ms2, z1, z2, hWr, hRf, q1, q2, q3, q4, hkb⟩ := cs_aim l hst g (th := th) (sp := sp) (ca := ca) (A := A) (sf := sf) hS hT hG hLe f (xs (i + 1)) (xs (i + 2))
    exact sg_aim X hnc hXs hbl hbA hL hi hw hl0 hcl hM (hWr (cAd ad) (cMp M) hCc hOc) hRf q1 q2 q3 q4 hkb (K T2 kf2 nf2 z1 z2)
  by_cases k10 : xs i &&& 31 = 10
  · refine lv_tableIn (off := 861) (tgt := 900) hx hb dL_law_39 (by rw [k10]; decide) (by rw [k10]; decide) (by rw [k10]; rfl) (by decide) ?_
    obtain ⟨k9, b2, f2, T2, kf2, nf2, fr2, lo2, mc2, ms2, z1, z2, hWr, hRf, q1, q2, q3, q4, hkb, hb2⟩ := cs_takeUp l hst g (th := th) (sp := sp) (ca := ca) (A := A) (sf := sf) hS hT hG hLe f (xs (i + 1))
    exact sg_takeUp X hnc hXs hbl hbA hL hi hw hl0 hcl hM (hWr (cAd ad) (cMp M) hCc hOc) hRf q1 q2 q3 q4 hkb hb2 (K T2 kf2 nf2 z1 z2)
  by_cases k11 : xs i &&& 31 = 11
  · refine lv_tableIn (off := 924) (tgt := 963) hx hb dL_law_39 (by rw [k11]; decide) (by rw [k11]; decide) (by rw [k11]; rfl) (by decide) ?_
    obtain ⟨k9, b2, f2, T2, kf2, nf2, fr2, lo2, mc2, ms2, z1, z2, hWr, hRf, q1, q2, q3, q4, hkb⟩ := cs_engine l hst g (th := th) (sp := sp) (ca := ca) (A := A) (sf := sf) hS hT hG hLe f (xs (i + 1)) (xs (i + 2))
    exact sg_engine X hnc hXs hbl hbA hL hi hw hl0 hcl hM (hWr (cAd ad) (cMp M) hCc hOc) hRf q1 q2 q3 q4 hkb (K T2 kf2 nf2 z1 z2)
  by_cases k12 : xs i &&& 31 = 12
  · refine lv_tableIn (off := 992) (tgt := 1031) hx hb dL_law_39 (by rw [k12]; decide) (by rw [k12]; decide) (by rw [k12]; rfl) (by decide) ?_
    obtain ⟨k9, b2, f2, T2, kf2, nf2, fr2, lo2, mc2, ms2, z1, z2, hWr, hRf, q1, q2, q3, q4, hkb⟩ := cs_pond l hst g (th := th) (sp := sp) (ca := ca) (A := A) (sf := sf) hS hT hG hLe f (xs (i + 1))
    exact sg_pond X hnc hXs hbl hbA hL hi hw hl0 hcl hM (hWr (cAd ad) (cMp M) hCc hOc) hRf q1 q2 q3 q4 hkb (K T2 kf2 nf2 z1 z2)
  by_cases k13 : xs i &&& 31 = 13
  · refine lv_tableIn (off := 1048) (tgt := 1087) hx hb dL_law_39 (by rw [k13]; decide) (by rw [k13]; decide) (by rw [k13]; rfl) (by decide) ?_
    obtain ⟨k9, b2, f2, T2, kf2, nf2, fr2, lo2, mc2, ms2, z1, z2, hWr, hRf, q1, q2, q3, q4, hkb⟩ := cs_pass l hst g (th := th) (sp := sp) (ca := ca) (A := A) (sf := sf) hS hT hG hLe f (xs (i + 1))
    exact sg_pass X hnc hXs hbl hbA hL hi hw hl0 hcl hM (hWr (cAd ad) (cMp M) hCc hOc) hRf q1 q2 q3 q4 hkb (K T2 kf2 nf2 z1 z2)
  by_cases k14 : xs i &&& 31 = 14
  · refine lv_tableIn (off := 1104) (tgt := 1143) hx hb dL_law_39 (by rw [k14]; decide) (by rw [k14]; decide) (by rw [k14]; rfl) (by decide) ?_
    obtain ⟨k9, b2, f2, T2, kf2, nf2, fr2, lo2, mc2, ms2, z1, z2, hWr, hRf, q1, q2, q3, q4, hkb⟩ := cs_count l hst g (th := th) (sp := sp) (ca := ca) (A := A) (sf := sf) hS hT hG hLe f (xs (i + 1))
    exact sg_count X hnc hXs hbl hbA hL hi hw hl0 hcl hM (hWr (cAd ad) (cMp M) hCc hOc) hRf q1 q2 q3 q4 hkb (K T2 kf2 nf2 z1 z2)
  by_cases k15 : xs i &&& 31 = 15
  · refine lv_tableIn (off := 1160) (tgt := 1199) hx hb dL_law_39 (by rw [k15]; decide) (by rw [k15]; decide) (by rw [k15]; rfl) (by decide) ?_
    obtain ⟨k9, b2, f2, T2, kf2, nf2, fr2, lo2, mc2, ms2, z1, z2, hWr, hRf, q1, q2, q3, q4, hkb⟩ := cs_foresee l hst g (th := th) (sp := sp) (ca := ca) (A := A) (sf := sf) hS hT hG hLe f (xs (i + 1)) (xs (i + 2))
    exact sg_foresee X hnc hXs hbl hbA hL hi hw hl0 hcl hM (hWr (cAd ad) (cMp M) hCc hOc) hRf q1 q2 q3 q4 hkb (K T2 kf2 nf2 z1 z2)
  by_cases k16 : xs i &&& 31 = 16
  · refine lv_tableIn (off := 1228) (tgt := 1267) hx hb dL_law_39 (by rw [k16]; decide) (by rw [k16]; decide) (by rw [k16]; rfl) (by decide) ?_
    exact sg_lasts X hnc hXs hbl hbA hL hi hw hl0 hcl hC hLe hM hO hS hT (K T kf nf hT hG)
  by_cases k17 : xs i &&& 31 = 17
  · refine lv_tableIn (off := 1241) (tgt := 1280) hx hb dL_law_39 (by rw [k17]; decide) (by rw [k17]; decide) (by rw [k17]; rfl) (by decide) ?_
    obtain ⟨k9, b2, f2, T2, kf2, nf2, fr2, lo2, mc2, ms2, z1, z2, hWr, hRf, q1, q2, q3, q4, hkb⟩ := cs_weakest l hst g (th := th) (sp := sp) (ca := ca) (A := A) (sf := sf) hS hT hG hLe f (xs (i + 1))
    exact sg_weakest X hnc hXs hbl hbA hL hi hw hl0 hcl hM (hWr (cAd ad) (cMp M) hCc hOc) hRf q1 q2 q3 q4 hkb (K T2 kf2 nf2 z1 z2)
  by_cases k18 : xs i &&& 31 = 18
  · refine lv_tableIn (off := 1297) (tgt := 1336) hx hb dL_law_39 (by rw [k18]; decide) (by rw [k18]; decide) (by rw [k18]; rfl) (by decide) ?_
    obtain ⟨k9, b2, f2, T2, kf2, nf2, fr2, lo2, mc2, ms2, z1, z2, hWr, hRf, q1, q2, q3, q4, hkb⟩ := cs_advise l hst g (th := th) (sp := sp) (ca := ca) (A := A) (sf := sf) hS hT hG hLe f (xs (i + 1)) (xs (i + 2))
    exact sg_advise X hnc hXs hbl hbA hL hi hw hl0 hcl hM (hWr (cAd ad) (cMp M) hCc hOc) hRf q1 q2 q3 q4 hkb (K T2 kf2 nf2 z1 z2)
  by_cases k19 : xs i &&& 31 = 19
  · refine lv_tableIn (off := 1365) (tgt := 1404) hx hb dL_law_39 (by rw [k19]; decide) (by rw [k19]; decide) (by rw [k19]; rfl) (by decide) ?_
    exact sg_walls X hnc hXs hbl hbA hL hi hw hl0 hcl hC hLe hM hO hS hT (K T kf nf hT hG)
  by_cases k20 : xs i &&& 31 = 20
  · refine lv_tableIn (off := 1406) (tgt := 1445) hx hb dL_law_39 (by rw [k20]; decide) (by rw [k20]; decide) (by rw [k20]; rfl) (by decide) ?_
    exact sg_digest X hnc hXs hbl hbA hL hi hw hl0 hcl hC hLe hM hO hS hT (K T kf nf hT hG)
  refine lv_tableOut (tgt := 1459) hx hb dL_law_39 (f_tout (lo := 0) (hi := 20) (by intro k a b; rcases (show k = 0 ∨ k = 1 ∨ k = 2 ∨ k = 3 ∨ k = 4 ∨ k = 5 ∨ k = 6 ∨ k = 7 ∨ k = 8 ∨ k = 9 ∨ k = 10 ∨ k = 11 ∨ k = 12 ∨ k = 13 ∨ k = 14 ∨ k = 15 ∨ k = 16 ∨ k = 17 ∨ k = 18 ∨ k = 19 ∨ k = 20 by omega) with rfl | rfl | rfl | rfl | rfl | rfl | rfl | rfl | rfl | rfl | rfl | rfl | rfl | rfl | rfl | rfl | rfl | rfl | rfl | rfl | rfl <;> assumption)) (by decide) ?_
  exact W.widen (k := cells + 130) (n := slots + 2600) (by omega) (by omega) (K T kf nf hT hG ad M H locs ls A sf th U sp ca f hC hLe hM hS hO hw hl0)
set_option maxHeartbeats 4000000 in
set_option maxRecDepth 100000 in
theorem lw_loop {p : Program} {l : Launch} {e : Env} {s : State} {m : MethodId} {below : List Frame} {meth : Method} {c : Code} {g : fG} {b L : Nat} {xs : Nat → Int32} (hst : l.stackTraces = false) (X : fX p s m #[Value.ref b] meth c code 9 ret RL g) (hnc : xNc s) (hXs : va_X b L xs s s.heap) (hbl : b < s.heap.size) (hbA : ¬ fA g b) (hgB : gB g = s.heap.size) (hL : L ≤ 2560) :
    ∀ n k : Nat, 5 * k ≤ L + 5 → L + 5 < 5 * k + n → ∀ (ad : Nat → Nat) (M : fM) (H : Heap) (locs : List Loc) (ls : Array Slot) (T A : fTn) (kf nf sf : Nat → Int32) (th : Int32) (U : fTn) (sp ca : Nat → Int32) (f : Nat → Int64), isC g ad M T A kf nf sf → leT A T → isMo g ad M th U sp ca → M 32 = some (oCell g f) → simT U T → okT kf T → gOk kf nf T → fw g ad M s H locs → lv_has ls 9 (lLoc ad b (5 * k)) → W p l e room_1 s m #[Value.ref b] below meth c H locs (30 + 130 * k) (1000 + 2600 * k) (lw_Z below #[Value.ref b] s) (F0 m 23 ls []) := by
  have hx := X.1
  have hb := X.2.1
  intro n
  induction n with
  | zero => intro k h1 h2; omega
  | succ n ih =>
    intro k hk hn ad M H locs ls T A kf nf sf th U sp ca f hC hLe hM hO hS hT hG hw hl0
    have hl : lv_has ls 9 [(4, .int (nI (5 * k))), (0, .ref b), (1, .ref (ad 0)), (2, .ref (ad 5)), (3, .ref (ad 32))] := hl0
    refine lv_iload hx hb dL_law_23 (lv_at hl 0 rfl) ?_
    refine lv_aload_n hx hb dL_law_25 rfl (lv_at hl 1 rfl) ?_
    refine va_slen hx hb hXs hbl hbA hw.2 dL_law_26 ?_
    refine lv_iconst (v := 5) hx hb dL_law_27 (by decide) ?_
    refine lv_isub hx hb dL_law_28 ?_
    have eT : (nI L - 5).toInt = (L : Int) - 5 := pk_sub_toInt (a := L) (b := 5) (by omega) (by omega)
    refine lv_icmp_gt (tgt := 1465) hx hb dL_law_29 (by decide) (fun c1 => ?_) (fun c1 => ?_)
    · refine lv_iconst (v := 1) hx hb dL_law_1465 (by decide) ?_
      refine va_forget (fun q hq => by have := hw.2.2.2 q hq; unfold fA at this; rw [hgB] at this; exact this) ?_
      refine W.base ?_
      refine W.widen (k := 601024) (n := 7293034) (by omega) (by omega) ?_
      exact lw_ret (Drawn.sameBut.refl s.drawn lw_cs) hx hb X.2.2.2.2.2.2.2.1 X.2.2.2.2.2.2.2.2 dL_law_1466
    · have hi : 5 * k + 5 ≤ L := by
        have c1 : ¬ (nI L - 5 < nI (5 * k)) := c1
        rw [sw_lt, eT, nI_toInt (by omega)] at c1
        omega
      refine lw_turn hst X hnc hXs hbl hbA hL hi hw hl0 ⟨by omega, by omega⟩ hC hLe hM hO hS hT hG (fun T2 kf2 nf2 z1 z2 ad1 M1 H1 locs1 ls1 A2 sf2 th2 U2 sp2 ca2 f2 y1 y2 y3 y4 y5 y6 hl => ?_)
      have hl : lv_has ls1 9 [(4, .int (nI (5 * k))), (0, .ref b), (1, .ref (ad1 0)), (2, .ref (ad1 5)), (3, .ref (ad1 32))] := hl
      refine lv_iinc (v := nI (5 * (k + 1))) (lv' := [(4, .int (nI (5 * (k + 1)))), (0, .ref b), (1, .ref (ad1 0)), (2, .ref (ad1 5)), (3, .ref (ad1 32))]) hx hb dL_law_1459 hl (k := 0) rfl (show nI (5 * k) + nI 5 = nI (5 * (k + 1)) from nI_add (5 * k) 5) (by decide) rfl (fun ls hl => ?_)
      refine lv_goto (tgt := 23) hx hb dL_law_1462 (by decide) ?_
      refine W.widen (k := 30 + 130 * (k + 1)) (n := 1000 + 2600 * (k + 1)) (by omega) (by omega) ?_
      exact ih (k + 1) (by omega) (by omega) ad1 M1 H1 locs1 ls T2 A2 kf2 nf2 sf2 th2 U2 sp2 ca2 f2 y1 y2 y3 y5 y4 z1 z2 y6 hl
