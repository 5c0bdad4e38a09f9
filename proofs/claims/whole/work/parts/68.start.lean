/-! THE GROUND: what the launch gives -/
set_option maxHeartbeats 4000000 in
set_option maxRecDepth 100000 in
theorem lw_ground {s : State} {b : Nat} (hts : ∀ w ∈ lw_tbl, w.before #[Value.ref b] s = true) (hgv : (Jvm.Cond.and given_1 narrow_1).before #[Value.ref b] s = true) : ∃ g : fG, gB g = s.heap.size ∧ fK g s ∧ fz g s s.heap ∧ xNc s := by
  have hA : ∀ w ∈ AL, w.before #[Value.ref b] s = true := fun w hw => hts w (AL_sub w hw)
  have hs := flat_of_before _ hgv
  obtain ⟨c0, i0, k0⟩ := u_known (C := RJx4a65c) (T := TJx4a65c) (N := 3) (n := 3) hts (fun w hw => AL_sub w (fc0.2.1 w hw)) (hA _ wq55)
  obtain ⟨c1, i1, k1⟩ := u_known (C := RX0) (T := TX0) (N := 11) (n := 11) hts (fun w hw => AL_sub w (fc1.2.1 w hw)) (hA _ wq251)
  obtain ⟨c2, i2, k2⟩ := u_known (C := RX1) (T := TX1) (N := 3) (n := 3) hts (fun w hw => AL_sub w (fc2.2.1 w hw)) (hA _ wq32)
  obtain ⟨c3, i3, k3⟩ := u_known (C := RX2) (T := TX2) (N := 7) (n := 7) hts (fun w hw => AL_sub w (fc3.2.1 w hw)) (hA _ wq119)
  obtain ⟨c4, i4, k4⟩ := u_known (C := RX3) (T := TX3) (N := 2) (n := 2) hts (fun w hw => AL_sub w (fc4.2.1 w hw)) (hA _ wq230)
  obtain ⟨c5, i5, k5⟩ := u_known (C := RX4) (T := TX4) (N := 4) (n := 4) hts (fun w hw => AL_sub w (fc5.2.1 w hw)) (hA _ wq49)
  obtain ⟨c6, i6, k6⟩ := u_known (C := RX5) (T := TX5) (N := 3) (n := 3) hts (fun w hw => AL_sub w (fc6.2.1 w hw)) (hA _ wq24)
  obtain ⟨c7, i7, k7⟩ := u_known (C := RX6) (T := TX6) (N := 13) (n := 13) hts (fun w hw => AL_sub w (fc7.2.1 w hw)) (hA _ wq789)
  obtain ⟨aI, xI, yI, eI1, eI2, eI3⟩ := Cond.arrayClass_spec (hA _ wq47)
  obtain ⟨aZ, xZ, yZ, eZ1, eZ2, eZ3⟩ := Cond.arrayClass_spec (hA _ wq834)
  obtain ⟨aJ, xJ, yJ, eJ1, eJ2, eJ3⟩ := Cond.arrayClass_spec (hA _ wq1063)
  obtain ⟨yO, aO, xO, eO1, -, eO2, eO3, eO4⟩ := Cond.arrayOver_spec (hts _ wt201)
  obtain ⟨yQ, aQ, xQ, eQ1, -, eQ2, eQ3, eQ4⟩ := arrayOverA_spec (hts _ wt1030)
  obtain ⟨t203, _, _, _, u203, -⟩ := Cond.exactly_spec (hs (.exactly (.string "FireEngines" 203) "java/lang/String") (by decide +kernel))
  obtain ⟨t209, _, _, _, u209, -⟩ := Cond.exactly_spec (hs (.exactly (.string "FireEngines" 209) "java/lang/String") (by decide +kernel))
  obtain ⟨t214, _, _, _, u214, -⟩ := Cond.exactly_spec (hs (.exactly (.string "FireEngines" 214) "java/lang/String") (by decide +kernel))
  obtain ⟨t196, _, _, _, u196, -⟩ := Cond.exactly_spec (hs (.exactly (.string "FireEngines" 196) "java/lang/String") (by decide +kernel))
  obtain ⟨t205, _, _, _, u205, -⟩ := Cond.exactly_spec (hs (.exactly (.string "FireEngines" 205) "java/lang/String") (by decide +kernel))
  obtain ⟨t198, _, _, _, u198, -⟩ := Cond.exactly_spec (hs (.exactly (.string "FireEngines" 198) "java/lang/String") (by decide +kernel))
  obtain ⟨t162, _, _, _, u162, -⟩ := Cond.exactly_spec (hs (.exactly (.string "FireEngines" 162) "java/lang/String") (by decide +kernel))
  obtain ⟨mi, hmi⟩ := va_Mi.of (hs (.isRef (.mirror "[Ljava/lang/Object;")) (by decide +kernel))
  have hAd : ∀ a : Nat, a < s.heap.size → ¬ (fun q : Nat => s.heap.size ≤ q) a := fun a h z => absurd h (Nat.not_lt.mpr z)
  obtain ⟨yy, g1, g2⟩ := Cond.eq_one (hs (.eq (.length (.static "java/util/ArrayList" "DEFAULTCAPACITY_EMPTY_ELEMENTDATA" "[Ljava/lang/Object;")) (.int 0)) (by decide +kernel))
  have g3 : yy = .int 0 := (Option.some.inj (show some (Value.int 0) = some yy from g2)).symm
  rw [g3] at g1
  obtain ⟨tE0, hE1, hE2⟩ := va_Tof (N := 0) (f := fun _ => .null) (A := fun q : Nat => s.heap.size ≤ q) (by decide) (hs (.arrayOf (.static "java/util/ArrayList" "DEFAULTCAPACITY_EMPTY_ELEMENTDATA" "[Ljava/lang/Object;") (.object "java/lang/Object")) (by decide +kernel)) g1 (fun j h => absurd h (Nat.not_lt_zero _)) hAd
  refine ⟨((fun k => if k = 0 then c0 else if k = 1 then c1 else if k = 2 then c2 else if k = 3 then c3 else if k = 4 then c4 else if k = 5 then c5 else if k = 6 then c6 else c7, fun k => if k = 0 then i0 else if k = 1 then i1 else if k = 2 then i2 else if k = 3 then i3 else if k = 4 then i4 else if k = 5 then i5 else if k = 6 then i6 else i7), (aI, aZ, aO, aQ, aJ), (s.heap.size, tE0), fun k => if k = 203 then t203 else if k = 209 then t209 else if k = 214 then t214 else if k = 196 then t196 else if k = 205 then t205 else if k = 198 then t198 else if k = 162 then t162 else mi), rfl, ⟨⟨?_, ?_⟩, ?_, ?_, va_AO.of (hts _ wt201), hmi, hts _ wt1030⟩, ⟨Nat.le_refl _, ?_, hE2, ?_, ?_⟩, ?_⟩
  · intro k q hq
    match k, hq with
    | 0, hq => cases hq; exact k0
    | 1, hq => cases hq; exact k1
    | 2, hq => cases hq; exact k2
    | 3, hq => cases hq; exact k3
    | 4, hq => cases hq; exact k4
    | 5, hq => cases hq; exact k5
    | 6, hq => cases hq; exact k6
    | 7, hq => cases hq; exact k7
    | k + 8, hq => simp [vwCl] at hq
  · intro k q hq
    match k, hq with
    | 0, hq => cases hq; exact ⟨fun n z => ⟨(fun k h => by cases h), xI, eI2, yI, eI3⟩, eI1⟩
    | 1, hq => cases hq; exact ⟨fun n z => ⟨(fun k h => by cases h), xZ, eZ2, yZ, eZ3⟩, eZ1⟩
    | 2, hq => cases hq; exact ⟨fun n z => ⟨(fun k h => by cases h), xO, eO2, yO, eO3⟩, xO, yO, eO2, eO3, eO1, eO4⟩
    | 3, hq => cases hq; exact ⟨fun n z => ⟨(fun k h => by cases h), xQ, eQ2, yQ, eQ3⟩, eQ4⟩
    | 4, hq => cases hq; exact ⟨fun n z => ⟨(fun k h => by cases h), xJ, eJ2, yJ, eJ3⟩, eJ1⟩
    | k + 5, hq => simp [fT] at hq
  · exact fun w hw => va_Nw.of (nestW_tab (NW_ok w hw)) (hts w (NW_sub w hw))
  · intro q hq
    simp only [fStrs, List.mem_cons, List.not_mem_nil, or_false] at hq
    rcases hq with rfl | rfl | rfl | rfl | rfl | rfl | rfl
    · exact vk_R.of (hts _ wt511) u203
    · exact vk_R.of (hts _ wt550) u209
    · exact vk_R.of (hts _ wt592) u214
    · exact vk_R.of (hts _ wt625) u196
    · exact vk_R.of (hts _ wt640) u205
    · exact vk_R.of (hts _ wt673) u198
    · exact vk_R.of (hts _ wt747) u162
  · exact va_Zof (hts _ wt67) (hA _ wq6) hE1 hAd
  · exact vx_Zqof (hts _ wt497) (hA _ wq8) (hs (.isRef (.static "java/lang/Throwable" "UNASSIGNED_STACK" "[Ljava/lang/StackTraceElement;")) (by decide +kernel)) hAd
  · exact vx_Zqof (hts _ wt499) (hA _ wq8) (hs (.isRef (.static "java/lang/Throwable" "SUPPRESSED_SENTINEL" "Ljava/util/List;")) (by decide +kernel)) hAd
  · exact ⟨va_Nc.of (hs (.not (.castable IAE IOO)) (by decide +kernel)), va_Nc.of (hs (.not (.castable ISE IOO)) (by decide +kernel)), va_Nc.of (hs (.not (.castable ISE IAE)) (by decide +kernel)), va_Nc.of (hs (.not (.castable IOO IAE)) (by decide +kernel))⟩
theorem iT0 : okT f0 T0 := ⟨fun h hh => absurd hh (Nat.not_lt_zero _), fun h hh => absurd hh (Nat.not_lt_zero _), fun h hh => absurd hh (Nat.not_lt_zero _), fun h hh => absurd hh (Nat.not_lt_zero _), ⟨fun _ => 0, fun h hh => absurd hh (Nat.not_lt_zero _)⟩, Nat.zero_le _, Nat.zero_le _, Nat.zero_le _⟩
theorem iG0 : gOk f0 f0 T0 := ⟨fun h hh => absurd hh (Nat.not_lt_zero _), fun h hh => absurd hh (Nat.not_lt_zero _), fun c hc => Or.inl rfl⟩
theorem iS0 : simT T0 T0 := ⟨⟨rfl, rfl, rfl, rfl⟩, fun h hh => absurd hh (Nat.not_lt_zero _), fun h hh => absurd hh (Nat.not_lt_zero _), fun h hh => absurd hh (Nat.not_lt_zero _)⟩
set_option maxHeartbeats 4000000 in
set_option maxRecDepth 100000 in
/-- the law, from its entry -/
theorem whole_start {p : Program} {e : Env} {s : State} {m : MethodId} {below : List Frame} {meth : Method} {c : Code} (l : Launch) (hflags : l.flags = flags0) {b L : Nat} {xs : Nat → Int32} (hL : L ≤ 2560) (C0 : lw_At p s m meth c b L xs) : W p l e room_1 s m #[Value.ref b] below meth c s.heap [] 0 0 (lw_Z below #[Value.ref b] s) (entryFrame m ([Value.ref b] : List Value).toArray 9) := by
  obtain ⟨hx, hb, hr, hml, hown, hts, hXs, hbl, hlocks, hgv⟩ := C0
  obtain ⟨g, hgB, hK, hz, hnc⟩ := lw_ground hts hgv
  have hst : l.stackTraces = false := by unfold Launch.stackTraces; rw [hflags]; decide
  have X : fX p s m #[Value.ref b] meth c code 9 ret RL g := ⟨hx, hb, hml, hown, fun w hw => hts w (AL_sub w hw), hK, hz, hr, hlocks⟩
  have hbA : ¬ fA g b := by unfold fA; rw [hgB]; exact Nat.not_le.mpr hbl
  obtain ⟨ad, ha0⟩ : ∃ z : Nat → Nat, z = fun _ => 0 := ⟨_, rfl⟩
  obtain ⟨M, hM0⟩ : ∃ z : fM, z = fun _ => none := ⟨_, rfl⟩
  have hw : fw g ad M s s.heap [] := ⟨⟨by rw [hgB]; exact Nat.le_refl _, fun l h => absurd (by rw [hM0]) h, fun l e h => absurd h (by rw [hM0]; simp), fun l l2 h => absurd (by rw [hM0]) h⟩, va_S.rf⟩
  have hl := lv_entry ([.ref b]) (n := 9) (Nat.le_of_ble_eq_true rfl)
  rw [lg_entry_eq]
  generalize (lg_sl ([.ref b]) ++ List.replicate (9 - (lg_sl ([.ref b])).length) Slot.unset).toArray = ls at hl ⊢
  have hl : lv_has ls 9 [(0, .ref b)] := hl
  refine f_new X hw 0 (by omega) fc6 wq23 wq24 wq1 (fs := [.null, .null, .null]) (by intro j hj; rcases (show j = 0 ∨ j = 1 ∨ j = 2 by omega) with rfl | rfl | rfl <;> rfl) (Nat.le_of_ble_eq_true rfl) (Nat.le_of_ble_eq_true rfl) dL_law_0 (fun q1 H hw => ?_)
  obtain ⟨ad1, ea1⟩ : ∃ z, z = fV ad 0 q1 := ⟨_, rfl⟩
  have eq1 : ad1 0 = q1 := by rw [ea1]; exact fV_s
  rw [← ea1] at hw
  obtain ⟨M1, em1⟩ : ∃ z, z = fU M 0 (.inr (6, [.null, .null, .null])) := ⟨_, rfl⟩
  have eS1 : M1 0 = some (.inr (6, [.null, .null, .null])) := by rw [em1]; exact fU_s
  rw [← em1] at hw
  refine f_adr (ad := ad1) (lb := 0) eq1 ?_
  refine lv_dup hx hb dL_law_3 rfl ?_
  refine fk_v (fcI X hw (c_X5_init l g ad1 M1 eS1) wq25 kIX5_init ⟨(Nat.le_of_ble_eq_true rfl), (Nat.le_of_ble_eq_true rfl)⟩ rfl hl.1 rfl (Nat.le_of_ble_eq_true rfl) dL_law_4 ⟨(Nat.le_of_ble_eq_true rfl), (Nat.le_of_ble_eq_true rfl)⟩) hw (fun ad2 M2 H locs hp hw => ?_)
  obtain ⟨hFE, hGr, hT1, hT2, hr2, h20⟩ := hp
  have hC : isC g ad2 M2 T0 T0 f0 f0 f0 := ⟨hFE, hGr, hT1, hT2⟩
  rw [← h20]
  refine lv_astore_n (lv' := [(1, .ref (ad2 0)), (0, .ref b)]) hx hb dL_law_7 rfl hl (by decide) rfl (fun ls hl => ?_)
  refine f_new X hw 5 (by omega) fc7 wq788 wq789 wq7 (fs := [.int 0, .int 0, .int 0, .int 0, .null, .null, .null, .null, .null, .null, .null, .null, .null]) (by intro j hj; rcases (show j = 0 ∨ j = 1 ∨ j = 2 ∨ j = 3 ∨ j = 4 ∨ j = 5 ∨ j = 6 ∨ j = 7 ∨ j = 8 ∨ j = 9 ∨ j = 10 ∨ j = 11 ∨ j = 12 by omega) with rfl | rfl | rfl | rfl | rfl | rfl | rfl | rfl | rfl | rfl | rfl | rfl | rfl <;> rfl) (Nat.le_of_ble_eq_true rfl) (Nat.le_of_ble_eq_true rfl) dL_law_8 (fun q3 H hw => ?_)
  obtain ⟨ad3, ea3⟩ : ∃ z, z = fV ad2 5 q3 := ⟨_, rfl⟩
  have eq3 : ad3 5 = q3 := by rw [ea3]; exact fV_s
  rw [← ea3] at hw
  obtain ⟨M3, em3⟩ : ∃ z, z = fU M2 5 (.inr (7, [.int 0, .int 0, .int 0, .int 0, .null, .null, .null, .null, .null, .null, .null, .null, .null])) := ⟨_, rfl⟩
  have eS3 : M3 5 = some (.inr (7, [.int 0, .int 0, .int 0, .int 0, .null, .null, .null, .null, .null, .null, .null, .null, .null])) := by rw [em3]; exact fU_s
  rw [← em3] at hw
  have r3 : ∀ l, l ≠ 5 → ad3 l = ad2 l ∧ M3 l = M2 l := fun l h => by rw [ea3, em3]; exact ⟨fV_n h, fU_n h⟩
  have hC3 : isC g ad3 M3 T0 T0 f0 f0 f0 := isC_eq hC (fun l hl => r3 l (by omega))
  refine f_adr (ad := ad3) (lb := 5) eq3 ?_
  refine lv_dup hx hb dL_law_11 rfl ?_
  refine fk_v (fcI X hw (c_X6_init l g ad3 M3 eS3) wq790 kIX6_init ⟨(Nat.le_of_ble_eq_true rfl), (Nat.le_of_ble_eq_true rfl)⟩ rfl hl.1 rfl (Nat.le_of_ble_eq_true rfl) dL_law_12 ⟨(Nat.le_of_ble_eq_true rfl), (Nat.le_of_ble_eq_true rfl)⟩) hw (fun ad4 M4 H locs hp hw => ?_)
  obtain ⟨hMo, hr4, h45⟩ := hp
  have hC4 : isC g ad4 M4 T0 T0 f0 f0 f0 := isC_eq hC3 (fun l hl => hr4 l (by omega) (by omega))
  have e40 : ad4 0 = ad2 0 := (hr4 0 (by omega) (by omega)).1.trans (r3 0 (by omega)).1
  rw [← h45]
  refine lv_astore_n (lv' := [(2, .ref (ad4 5)), (1, .ref (ad2 0)), (0, .ref b)]) hx hb dL_law_15 rfl hl (by decide) rfl (fun ls hl => ?_)
  refine lv_iconst (v := 1) hx hb dL_law_16 (by decide) ?_
  refine f_newJ X hw 32 (by omega) wq1063 (N' := 1) (by decide) (by rfl) (by decide) (Nat.le_of_ble_eq_true rfl) (Nat.le_of_ble_eq_true rfl) dL_law_17 (fun q5 H hw => ?_)
  obtain ⟨ad5, ea5⟩ : ∃ z, z = fV ad4 32 q5 := ⟨_, rfl⟩
  have eq5 : ad5 32 = q5 := by rw [ea5]; exact fV_s
  rw [← ea5] at hw
  obtain ⟨M5, em5⟩ : ∃ z, z = fU M4 32 (oCell g (fun _ => 0)) := ⟨_, rfl⟩
  have eS5 : M5 32 = some (oCell g (fun _ => 0)) := by rw [em5]; exact fU_s
  rw [← em5] at hw
  have r5 : ∀ l, l ≠ 32 → ad5 l = ad4 l ∧ M5 l = M4 l := fun l h => by rw [ea5, em5]; exact ⟨fV_n h, fU_n h⟩
  refine f_adr (ad := ad5) (lb := 32) eq5 ?_
  refine lv_astore_n (lv' := [(3, .ref (ad5 32)), (2, .ref (ad4 5)), (1, .ref (ad2 0)), (0, .ref b)]) hx hb dL_law_19 rfl hl (by decide) rfl (fun ls hl => ?_)
  refine lv_iconst (v := 0) hx hb dL_law_20 (by decide) ?_
  refine lv_istore (lv' := [(4, .int 0), (3, .ref (ad5 32)), (2, .ref (ad4 5)), (1, .ref (ad2 0)), (0, .ref b)]) hx hb dL_law_21 hl (by decide) rfl (fun ls hl => ?_)
  refine W.widen (k := 30 + 130 * 0) (n := 1000 + 2600 * 0) (Nat.le_of_ble_eq_true rfl) (Nat.le_of_ble_eq_true rfl) ?_
  exact lw_loop hst X hnc hXs hbl hbA hgB hL (L + 6) 0 (by omega) (by omega) ad5 M5 H locs ls T0 T0 f0 f0 f0 0 T0 f0 f0 (fun _ => 0) (isC_eq hC4 (fun l hl => r5 l (by omega))) ⟨Nat.le_refl _, Nat.le_refl _, Nat.le_refl _⟩ (isMo_eq hMo (fun k a b9 => r5 k (by omega))) eS5 iS0 iT0 iG0 hw (by unfold lLoc; rw [(r5 0 (by omega)).1, (r5 5 (by omega)).1, e40]; exact lv_sub hl [0, 4, 3, 2, 1] rfl)
set_option maxHeartbeats 4000000 in
theorem lw_walk (l : Launch) (hflags : l.flags = flags0) (b : Addr) (xs : List Int32) : MetFree l x (headSpec (Jvm.Cond.code x code maxLocals ret :: tables_1) room_1) (lw_P b xs) (fun _ _ _ _ _ => True) lw_Q := by
  refine MetFree.of_bodyS (code := code) (maxLocals := maxLocals) (ret := ret) (by decide) ?_ ?_
  · intro args s m h hn
    obtain ⟨meth, c, h1, h2, h3, h4, h5, h6, -, -⟩ := Cond.code_spec hn (atoms_spec (ws := Jvm.Cond.code x code maxLocals ret :: tables_1) h _ List.mem_cons_self)
    exact ⟨meth, c, h1, h2, h3, h4, h5, h6⟩
  · intro p e s m args below meth c s₁ B hml0 hP _
    obtain ⟨rfl, hx, hbd, hgv⟩ := hP
    obtain ⟨scr, harrAt, hlist, hof, hsmall⟩ := hx
    obtain ⟨hcb, hkn, -, -⟩ := State.arrayAt?_spec harrAt
    have hown : s.vm.findClass R_law = some m.cls := findClass_of_methodNamed B.named
    have hts0 : ∀ c ∈ (Jvm.Cond.code x code maxLocals ret :: tables_1), c.before #[Value.ref b] s = true := atoms_spec (ws := Jvm.Cond.code x code maxLocals ret :: tables_1) B.pre
    have hts : ∀ w ∈ lw_tbl, w.before #[Value.ref b] s = true := k2_hts_sels lw_privs (fun w hw => hts0 w (List.mem_cons_of_mem _ hw)) lw_privs_ok
    have hml : c.maxLocals = 9 := B.maxLocals_eq (hts0 _ List.mem_cons_self)
    have X₀ : Stand p l e room_1 s m #[Value.ref b] below meth c s₁ [] 0 0 := Stand.of_body B
    have hh0 : s₁.heap = s.heap := by rw [B.state]; rfl
    have hsz : scr.slots.size = xs.length := by rw [← Array.length_toList, hlist, List.length_map]
    have hval : ∀ j : Nat, j < xs.length → scr.slots[j]? = some (.int (xs.getD j 0)) := fun j hj => by
      rw [← Array.getElem?_toList, hlist]
      simp [hj]
    have hbl : b < s.heap.size := (Array.getElem?_eq_some_iff.mp hcb).1
    have hX : va_X b xs.length (fun j => xs.getD j 0) s s.heap := ⟨scr, hcb, hof, hkn, hsz, hval⟩
    have K : W p l e room_1 s m #[Value.ref b] below meth c s₁.heap [] 0 0 (lw_Z below #[Value.ref b] s) (entryFrame m ([Value.ref b] : List Value).toArray 9) := by
      rw [hh0]
      exact whole_start l hflags hbd ⟨B.exec, B.bytes, B.returns, hml, hown, hts, hX, hbl, B.notSynchronized, hgv⟩
    obtain ⟨t, a1, o, b1, b2, b3⟩ := K s₁ rfl X₀
    exact ⟨t, o, a1, b1, b2, b3⟩
theorem lw_pre_spec {args : Array Value} {s : State} (h : (Jvm.Cond.and given_1 narrow_1).before args s = true) (hr : rest_1_c.before args s = true) : ∃ (b : Addr) (xs : List Int32), lw_P b xs args s := by
  have hs := flat_of_before _ h
  have hq := flat_of_before _ hr
  have hc : (Cond.count 1).before args s = true := hs _ (by decide +kernel)
  have harr : (Cond.arrayOf (.arg 0) .int).before args s = true := hs _ (by decide +kernel)
  have hle : (Cond.le (.length (.arg 0)) (.int 2560)).before args s = true := hs _ (by decide +kernel)
  have hlen : (Cond.isInt (.length (.arg 0))).before args s = true := hq _ (by decide +kernel)
  have hall : (Cond.all (.arg 0) (.isInt (.elem (.arg 0) (.index 0)))).before args s = true := hq _ (by decide +kernel)
  obtain ⟨b, xs, hb, hx⟩ := State.ints_of_pre rfl harr hlen hall
  have hsm : xs.length < 2 ^ 31 := hx.choose_spec.2.2.2
  have hev : (Term.length (.arg 0)).eval args s none [] s = some (.int xs.length.toInt32) := hx.length_eval hb
  have hv := Cond.le_ints hev (show (Term.int 2560).eval args s none [] s = some (.int 2560) from rfl)
  have hd : xs.length.toInt32 ≤ 2560 := by
    simpa [Cond.before, Cond.holds, hv] using hle
  have hN : xs.length ≤ 2560 := (Int32.ofNat_le_ofNat hsm (by decide)).mp (show Int32.ofNat xs.length ≤ Int32.ofNat 2560 from hd)
  exact ⟨b, xs, Cond.one_arg hc (show args[0]? = some (.ref b) from hb), hx, hN, h⟩
theorem lw_comes (l : Launch) (hflags : l.flags = flags0) : Comes l x (Jvm.Cond.code x code maxLocals ret :: tables_1) room_1 (fun tb e args s => Calls_1 tb e args s ∧ rest_1 tb e args s ∧ Pre_1 tb e args s)
    (fun _ _ args s o t => lw_Q args s o t) := by
  intro p e ha hc hk s m args below hf hfit hheap happ hpre
  obtain ⟨b, xs, hP⟩ := lw_pre_spec hpre.2.2 hpre.2.1
  obtain ⟨k, o, h1, h2, h3, hQ⟩ := lw_walk l hflags b xs p e ha hc hk s m args below hf ((Spec.applies_iff_loose hf).mp happ).1 hP trivial
  exact ⟨k, o, h1, h2, h3, hQ⟩
theorem lw_frame {s t : State} {o : Outcome} {args : Array Value} (h : State.butDraws s t lw_cs (fun t1 => Framed s o t1 [] 601024 7293034)) :
    State.butDraws s t [Jvm.Choice.named "NaN.bits"] (fun t1 => Framed s o t1 (fieldLocs frame_1_writes args s ++ arrayLocs frame_1_arrays args s ++ staticLocs frame_1_statics s) 601024 7293034) := h
theorem lw_limb (L : Cond) (hL : ∀ (args : Array Value) (s t : State), L.after args s (.returned (some (.int 1))) t = true) :
    ArmFor flags0 classFile x code maxLocals ret World_1 tables_1 room_1 Calls_1 rest_1 Pre_1
      (fun tb e a s o t => postC L tb e a s o t ∧ State.butDraws s t [Jvm.Choice.named "NaN.bits"] (fun t1 => Framed s o t1 (fieldLocs frame_1_writes a s ++ arrayLocs frame_1_arrays a s ++ staticLocs frame_1_statics s) 601024 7293034)) := by
  intro l hflags _ _ p e ha hc hk s m args below hf hfit hheap happ hpre
  obtain ⟨k, o, h1, h2, h3, rfl, hF⟩ := lw_comes l hflags p e ha hc hk s m args below hf hfit hheap happ hpre
  exact ⟨k, _, h1, h2, h3, hL args s _, lw_frame hF⟩
theorem i_vc : Claimed_1_1 ∧ Claimed_1_2 := ⟨lw_limb limb_1_1 (fun args s t => by simp [limb_1_1, Cond.after, Cond.holds, Cond.value]), lw_limb limb_1_2 (fun args s t => Cond.after_iff.mpr (by
  first | (rw [show limb_1_2 = Cond.eq .result (.int 1) from rfl, Cond.eq_ints (x := 1) (y := 1) rfl rfl]; simp; done) | (simp [limb_1_2, Cond.value, Term.eval]; done)))⟩
