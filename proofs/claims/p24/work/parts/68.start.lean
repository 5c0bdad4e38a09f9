/-! THE LAW FROM ITS ENTRY -/
def R_law : String := "FireEnginesLaw"
def lw_P (b : Addr) (xs : List Int32) (args : Array Value) (s : State) : Prop := args = #[.ref b] ∧ s.IntsAt b xs ∧ xs.length ≤ 260 ∧ (Jvm.Cond.and given_1 narrow_1).before args s = true
def lw_Q (_ : Array Value) (s : State) (o : Outcome) (t : State) : Prop := o = .returned (some (.int 1)) ∧ Framed s o t [] 792864 6723031
def lw_Z (below : List Frame) (a : Array Value) (s : State) : State → Prop := fun t => ∃ o, t.status = .running ∧ Ended t below o ∧ lw_Q a s o t
/-- the law's own end, with 1 on the stack, nothing written that was there before, its room as the claim has it -/
theorem lw_ret {p : Program} {l : Launch} {e : Env} {s : State} {m : MethodId} {below : List Frame} {meth : Method} {c : Code} {b : Nat} (hx : p.tables.exec = Jvm.exec) (hb : c.code = code) (hr : meth.sig.returnType = ret) (hlocks : meth.locks = false) {pc : Nat} {H : Heap} {ls : Array Slot} (hdg : decode code pc = .ok (.ireturn, 1)) : W p l e room_1 s m #[Value.ref b] below meth c H [] 792864 6723031 (lw_Z below #[Value.ref b] s) (F0 m pc ls [.int 1]) := by
  intro T hT X
  obtain ⟨fs, hret, hrun, hended, hW, hframe⟩ := X.leave (v := some (.int 1)) (hlocks := hlocks) (fun h => by rw [hr] at h; cases h)
  have hmeth' : T.vm.method? m = some meth := X.method'
  refine ⟨T.setFrames fs, ?_, .returned (some (.int 1)), hrun, hended, rfl, ⟨_, rfl⟩, hW, hframe⟩
  jvm_step X.here [X.here.top, hx, hb, hdg, hmeth', hr, ret, narrow_b1]
  (try refine ⟨rfl, ?_⟩); (try refine ⟨rfl, ?_⟩)
  first | (intro acts; rw [hret _ acts rfl rfl rfl]) | rw [hret _ _ rfl rfl rfl]
  exact Steps.refl _
/-- what holds at the law's entry: the machine, the code, the tables' words (any of lw_tbl by 'hts w (by decide +kernel)'), the script of L ints xs at the cell b, what the Statement gives of the start (any of its parts by flat_of_before) -/
def lw_At (p : Program) (s : State) (m : MethodId) (meth : Method) (c : Code) (b L : Nat) (xs : Nat → Int32) : Prop :=
  p.tables.exec = Jvm.exec ∧ c.code = code ∧ meth.sig.returnType = ret ∧ c.maxLocals = 25 ∧ s.vm.findClass R_law = some m.cls ∧ (∀ w ∈ lw_tbl, w.before #[Value.ref b] s = true) ∧ va_X b L xs s s.heap ∧ b < s.heap.size ∧ meth.locks = false ∧ (Jvm.Cond.and given_1 narrow_1).before #[Value.ref b] s = true
set_option maxHeartbeats 4000000 in
theorem lw_loop {p : Program} {l : Launch} {e : Env} {s : State} {m : MethodId} {below : List Frame} {meth : Method} {c : Code} {g : fG} {b : Nat} (X : fX p s m #[Value.ref b] meth c code 25 ret RL g) (hgB : gB g = s.heap.size) (hXn : gXn g ≤ 260) :
    ∀ n t : Nat, t ≤ 40 → 40 < t + n → ∀ (ad : Nat → Nat) (M : fM) (T : fTn) (kf nf : Nat → Int32) (H : Heap) (locs : List Loc) (ls : Array Slot), LW g ad M T kf nf → 0 < tHn T → tM T = nI t → fw g ad M s H locs → lv_has ls 25 [(6, .int (nI t)), (5, .int (nI (tPn T))), (4, .int (nI (tEn T))), (3, .int (nI (tHn T))), (2, .ref (ad 3000)), (1, .ref (ad 0)), (0, .ref (gXb g))] → W p l e room_1 s m #[Value.ref b] below meth c H locs (200 + 800 * t) (3000 + 13000 * t) (lw_Z below #[Value.ref b] s) (F0 m 43 ls []) := by
  have hx := X.1
  have hb := X.2.1
  intro n
  induction n with
  | zero => intro t h1 h2; omega
  | succ n ih =>
    intro t ht_ hn_ ad M T kf nf H locs ls hLW hH hM hw hl
    refine lv_iload hx hb dL_law_43 (lv_at hl 0 rfl) ?_
    refine lv_bipush (v := 40) hx hb dL_law_45 (by decide) ?_
    refine lv_icmp_ge (tgt := 1286) hx hb dL_law_47 (by decide) (fun c1 => ?_) (fun c1 => ?_)
    · refine lv_iconst (v := 1) hx hb dL_law_1286 (by decide) ?_
      refine va_forget (fun q hq => by have := hw.2.2.2 q hq; unfold fA at this; rw [hgB] at this; exact this) ?_
      refine W.widen (k := 792864) (n := 6723031) (by omega) (by omega) ?_
      exact lw_ret hx hb X.2.2.2.2.2.2.2.1 X.2.2.2.2.2.2.2.2 dL_law_1287
    · have c1 := nI_nle' (a := 40) (b := t) c1 (by omega) (by omega)
      refine lw_minute X hw hl ⟨by omega, by omega⟩ hLW hH hXn (by omega) hM (fun ad1 M1 T1 H1 locs1 ls1 a1 a2 a3 a4 a5 => ?_)
      refine W.widen (k := 200 + 800 * (t + 1)) (n := 3000 + 13000 * (t + 1)) (by omega) (by omega) ?_
      exact ih (t + 1) (by omega) (by omega) ad1 M1 T1 kf nf H1 locs1 ls1 a1 a2 a3 a4 a5
/-! THE GROUND: what the launch gives -/
set_option maxHeartbeats 4000000 in
set_option maxRecDepth 100000 in
theorem lw_ground {s : State} {b L : Nat} {xs : Nat → Int32} (hts : ∀ w ∈ lw_tbl, w.before #[Value.ref b] s = true) (hgv : (Jvm.Cond.and given_1 narrow_1).before #[Value.ref b] s = true) (hX : va_X b L xs s s.heap) (hbl : b < s.heap.size) : ∃ g : fG, gB g = s.heap.size ∧ fK g s ∧ fz g s s.heap ∧ gXb g = b ∧ gXn g = L := by
  have hA : ∀ w ∈ AL, w.before #[Value.ref b] s = true := fun w hw => hts w (AL_sub w hw)
  have hs := flat_of_before _ hgv
  obtain ⟨c0, i0, k0⟩ := u_known (C := RJx4a65c) (T := TJx4a65c) (N := 3) (n := 3) hts (fun w hw => AL_sub w (fc0.2.1 w hw)) (hA _ wq57)
  obtain ⟨c1, i1, k1⟩ := u_known (C := RX0) (T := TX0) (N := 11) (n := 11) hts (fun w hw => AL_sub w (fc1.2.1 w hw)) (hA _ wq508)
  obtain ⟨c2, i2, k2⟩ := u_known (C := RX1) (T := TX1) (N := 3) (n := 3) hts (fun w hw => AL_sub w (fc2.2.1 w hw)) (hA _ wq34)
  obtain ⟨c3, i3, k3⟩ := u_known (C := RX2) (T := TX2) (N := 7) (n := 7) hts (fun w hw => AL_sub w (fc3.2.1 w hw)) (hA _ wq357)
  obtain ⟨c4, i4, k4⟩ := u_known (C := RX3) (T := TX3) (N := 2) (n := 2) hts (fun w hw => AL_sub w (fc4.2.1 w hw)) (hA _ wq489)
  obtain ⟨c5, i5, k5⟩ := u_known (C := RX4) (T := TX4) (N := 4) (n := 4) hts (fun w hw => AL_sub w (fc5.2.1 w hw)) (hA _ wq51)
  obtain ⟨c6, i6, k6⟩ := u_known (C := RX5) (T := TX5) (N := 3) (n := 3) hts (fun w hw => AL_sub w (fc6.2.1 w hw)) (hA _ wq26)
  obtain ⟨c7, i7, k7⟩ := u_known (C := RX6) (T := TX6) (N := 9) (n := 9) hts (fun w hw => AL_sub w (fc7.2.1 w hw)) (hA _ wq762)
  obtain ⟨c8, i8, k8⟩ := u_known (C := RX7) (T := TX7) (N := 7) (n := 7) hts (fun w hw => AL_sub w (fc8.2.1 w hw)) (hA _ wq713)
  obtain ⟨c9, i9, k9⟩ := u_known (C := RX8) (T := TX8) (N := 4) (n := 4) hts (fun w hw => AL_sub w (fc9.2.1 w hw)) (hA _ wq610)
  obtain ⟨aI, xI, yI, eI1, eI2, eI3⟩ := Cond.arrayClass_spec (hA _ wq49)
  obtain ⟨aZ, xZ, yZ, eZ1, eZ2, eZ3⟩ := Cond.arrayClass_spec (hA _ wq601)
  obtain ⟨yO, aO, xO, eO1, -, eO2, eO3, eO4⟩ := Cond.arrayOver_spec (hts _ wt477)
  obtain ⟨yQ, aQ, xQ, eQ1, -, eQ2, eQ3, eQ4⟩ := arrayOverA_spec (hts _ wt620)
  obtain ⟨yY, aY, xY, eY1, -, eY2, eY3, eY4⟩ := Cond.arrayOver_spec (hts _ wt616)
  obtain ⟨yW, aW, xW, eW1, -, eW2, eW3, eW4⟩ := Cond.arrayOver_spec (hts _ wt618)
  obtain ⟨mi, hmi⟩ := va_Mi.of (hs (.isRef (.mirror "[Ljava/lang/Object;")) (by decide +kernel))
  have hAd : ∀ a : Nat, a < s.heap.size → ¬ (fun q : Nat => s.heap.size ≤ q) a := fun a h z => absurd h (Nat.not_lt.mpr z)
  obtain ⟨yy, g1, g2⟩ := Cond.eq_one (hs (.eq (.length (.static "java/util/ArrayList" "DEFAULTCAPACITY_EMPTY_ELEMENTDATA" "[Ljava/lang/Object;")) (.int 0)) (by decide +kernel))
  have g3 : yy = .int 0 := (Option.some.inj (show some (Value.int 0) = some yy from g2)).symm
  rw [g3] at g1
  obtain ⟨tE0, hE1, hE2⟩ := va_Tof (N := 0) (f := fun _ => .null) (A := fun q : Nat => s.heap.size ≤ q) (by decide) (hs (.arrayOf (.static "java/util/ArrayList" "DEFAULTCAPACITY_EMPTY_ELEMENTDATA" "[Ljava/lang/Object;") (.object "java/lang/Object")) (by decide +kernel)) g1 (fun j h => absurd h (Nat.not_lt_zero _)) hAd
  refine ⟨((fun k => if k = 0 then c0 else if k = 1 then c1 else if k = 2 then c2 else if k = 3 then c3 else if k = 4 then c4 else if k = 5 then c5 else if k = 6 then c6 else if k = 7 then c7 else if k = 8 then c8 else c9, fun k => if k = 0 then i0 else if k = 1 then i1 else if k = 2 then i2 else if k = 3 then i3 else if k = 4 then i4 else if k = 5 then i5 else if k = 6 then i6 else if k = 7 then i7 else if k = 8 then i8 else i9), (aI, aZ, aO, aQ, aY, aW), (s.heap.size, tE0, b, L, xs), fun _ => mi), rfl, ⟨⟨?_, ?_⟩, ?_, trivial, va_AO.of (hts _ wt477), hmi, hts _ wt620, va_AO.of (hts _ wt616), va_AO.of (hts _ wt618)⟩, ⟨Nat.le_refl _, ?_, hE2, hX, hAd b hbl⟩, rfl, rfl⟩
  · intro k q hq
    match k, hq with
    | 0, hq => cases hq; exact k0
    | 1, hq => cases hq; exact k1
    | 2, hq => cases hq; exact k2
    | 3, hq => cases hq; exact k3
    | 4, hq => cases hq; exact k4
    | 5, hq => cases hq; exact k5
    | 6, hq => cases hq; exact k6
    | 7, hq => cases hq; exact k7
    | 8, hq => cases hq; exact k8
    | 9, hq => cases hq; exact k9
    | k + 10, hq => simp [vwCl] at hq
  · intro k q hq
    match k, hq with
    | 0, hq => cases hq; exact ⟨fun n z => ⟨(fun k h => by cases h), xI, eI2, yI, eI3⟩, eI1⟩
    | 1, hq => cases hq; exact ⟨fun n z => ⟨(fun k h => by cases h), xZ, eZ2, yZ, eZ3⟩, eZ1⟩
    | 2, hq => cases hq; exact ⟨fun n z => ⟨(fun k h => by cases h), xO, eO2, yO, eO3⟩, xO, yO, eO2, eO3, eO1, eO4⟩
    | 3, hq => cases hq; exact ⟨fun n z => ⟨(fun k h => by cases h), xQ, eQ2, yQ, eQ3⟩, eQ4⟩
    | 4, hq => cases hq; exact ⟨fun n z => ⟨(fun k h => by cases h), xY, eY2, yY, eY3⟩, xY, yY, eY2, eY3, eY1, eY4⟩
    | 5, hq => cases hq; exact ⟨fun n z => ⟨(fun k h => by cases h), xW, eW2, yW, eW3⟩, xW, yW, eW2, eW3, eW1, eW4⟩
    | k + 6, hq => simp [fT] at hq
  · exact fun w hw => va_Nw.of (nestW_tab (NW_ok w hw)) (hts w (NW_sub w hw))
  · exact va_Zof (hts _ wt69) (hA _ wq6) hE1 hAd
set_option maxHeartbeats 4000000 in
set_option maxRecDepth 100000 in
/-- the law, from its entry -/
theorem whole_start {p : Program} {e : Env} {s : State} {m : MethodId} {below : List Frame} {meth : Method} {c : Code} (l : Launch) (hflags : l.flags = flags0) {b L : Nat} {xs : Nat → Int32} (hL : L ≤ 260) (C0 : lw_At p s m meth c b L xs) : W p l e room_1 s m #[Value.ref b] below meth c s.heap [] 0 0 (lw_Z below #[Value.ref b] s) (entryFrame m ([Value.ref b] : List Value).toArray 25) := by
  obtain ⟨hx, hb, hr, hml, hown, hts, hXs, hbl, hlocks, hgv⟩ := C0
  obtain ⟨g, hgB, hK, hz, hgX, hgN⟩ := lw_ground hts hgv hXs hbl
  have X : fX p s m #[Value.ref b] meth c code 25 ret RL g := ⟨hx, hb, hml, hown, fun w hw => hts w (AL_sub w hw), hK, hz, hr, hlocks⟩
  have hXn : gXn g ≤ 260 := by rw [hgN]; exact hL
  obtain ⟨ad, ha0⟩ : ∃ z : Nat → Nat, z = fun _ => 0 := ⟨_, rfl⟩
  obtain ⟨M, hM0⟩ : ∃ z : fM, z = fun _ => none := ⟨_, rfl⟩
  have hw : fw g ad M s s.heap [] := ⟨⟨by rw [hgB]; exact Nat.le_refl _, fun l h => absurd (by rw [hM0]) h, fun l e h => absurd h (by rw [hM0]; simp), fun l l2 h => absurd (by rw [hM0]) h⟩, va_S.rf⟩
  have hl := lv_entry ([.ref b]) (n := 25) (Nat.le_of_ble_eq_true rfl)
  rw [lg_entry_eq]
  generalize (lg_sl ([.ref b]) ++ List.replicate (25 - (lg_sl ([.ref b])).length) Slot.unset).toArray = ls at hl ⊢
  have hl : lv_has ls 25 [(0, .ref (gXb g))] := by rw [hgX]; exact hl
  refine f_new X hw 0 (by omega) fc6 wq25 wq26 wq1 (fs := [.null, .null, .null]) (by intro j hj; rcases (show j = 0 ∨ j = 1 ∨ j = 2 by omega) with rfl | rfl | rfl <;> rfl) (Nat.le_of_ble_eq_true rfl) (Nat.le_of_ble_eq_true rfl) dL_law_0 (fun q1 H hw => ?_)
  obtain ⟨ad1, ea1⟩ : ∃ z, z = fV ad 0 q1 := ⟨_, rfl⟩
  have eq1 : ad1 0 = q1 := by rw [ea1]; exact fV_s
  rw [← ea1] at hw
  obtain ⟨M1, em1⟩ : ∃ z, z = fU M 0 (.inr (6, [.null, .null, .null])) := ⟨_, rfl⟩
  have eS1 : M1 0 = some (.inr (6, [.null, .null, .null])) := by rw [em1]; exact fU_s
  rw [← em1] at hw
  refine f_adr (ad := ad1) (lb := 0) eq1 ?_
  refine lv_dup hx hb dL_law_3 rfl ?_
  refine fk_v (fcI X hw (c_X5_init l g ad1 M1 eS1) wq27 kIX5_init ⟨(Nat.le_of_ble_eq_true rfl), (Nat.le_of_ble_eq_true rfl)⟩ rfl hl.1 rfl (Nat.le_of_ble_eq_true rfl) dL_law_4 ⟨(Nat.le_of_ble_eq_true rfl), (Nat.le_of_ble_eq_true rfl)⟩) hw (fun ad2 M2 H locs hp hw => ?_)
  obtain ⟨hFE, hGr, hT1, hT2, hr2, h20⟩ := hp
  have hC : isC g ad2 M2 T0 T0 f0 f0 f0 := ⟨hFE, hGr, hT1, hT2⟩
  rw [← h20]
  refine lv_astore_n (lv' := [(1, .ref (ad2 0)), (0, .ref (gXb g))]) hx hb dL_law_7 rfl hl (by decide) rfl (fun ls hl => ?_)
  refine W.widen (k := 90) (n := 800) (Nat.le_of_ble_eq_true rfl) (Nat.le_of_ble_eq_true rfl) ?_
  refine lw_built X hw hl ⟨by omega, by omega⟩ hXn hC (fun ad3 M3 T kf nf H3 locs3 ls3 a1 a2 a3 a4 a5 => ?_)
  refine W.widen (k := 200 + 800 * 0) (n := 3000 + 13000 * 0) (by omega) (by omega) ?_
  exact lw_loop X hgB hXn 41 0 (by omega) (by omega) ad3 M3 T kf nf H3 locs3 ls3 a1 a2 a3 a4 a5
set_option maxHeartbeats 4000000 in
theorem lw_walk (l : Launch) (hflags : l.flags = flags0) (b : Addr) (xs : List Int32) : MetFree l x (headSpec (Jvm.Cond.code x code maxLocals ret :: tables_1) room_1) (lw_P b xs) (fun _ _ _ _ _ => True) lw_Q := by
  refine MetFree.of_bodyS (code := code) (maxLocals := maxLocals) (ret := ret) (by decide) ?_ ?_
  · intro args s m h hn
    obtain ⟨meth, c, h1, h2, h3, h4, h5, h6, -, -⟩ := Cond.code_spec hn (atoms_spec (ws := Jvm.Cond.code x code maxLocals ret :: tables_1) h _ List.mem_cons_self)
    exact ⟨meth, c, h1, h2, h3, h4, h5, h6⟩
  · intro p e s m args below meth c s₁ B hml0 hP _
    obtain ⟨rfl, hx, hbd, hgv⟩ := hP
    obtain ⟨scr, harrAt, hlist, hof, hsmall⟩ := hx
    obtain ⟨hcb, hkn, -, -⟩ := State.arrayAt?_spec harrAt
    have hown : s.vm.findClass R_law = some m.cls := findClass_of_methodNamed B.named
    have hts0 : ∀ c ∈ (Jvm.Cond.code x code maxLocals ret :: tables_1), c.before #[Value.ref b] s = true := atoms_spec (ws := Jvm.Cond.code x code maxLocals ret :: tables_1) B.pre
    have hts : ∀ w ∈ lw_tbl, w.before #[Value.ref b] s = true := k2_hts_sels lw_privs (fun w hw => hts0 w (List.mem_cons_of_mem _ hw)) lw_privs_ok
    have hml : c.maxLocals = 25 := B.maxLocals_eq (hts0 _ List.mem_cons_self)
    have X₀ : Stand p l e room_1 s m #[Value.ref b] below meth c s₁ [] 0 0 := Stand.of_body B
    have hh0 : s₁.heap = s.heap := by rw [B.state]; rfl
    have hsz : scr.slots.size = xs.length := by rw [← Array.length_toList, hlist, List.length_map]
    have hval : ∀ j : Nat, j < xs.length → scr.slots[j]? = some (.int (xs.getD j 0)) := fun j hj => by
      rw [← Array.getElem?_toList, hlist]
      simp [hj]
    have hbl : b < s.heap.size := (Array.getElem?_eq_some_iff.mp hcb).1
    have hX : va_X b xs.length (fun j => xs.getD j 0) s s.heap := ⟨scr, hcb, hof, hkn, hsz, hval⟩
    have K : W p l e room_1 s m #[Value.ref b] below meth c s₁.heap [] 0 0 (lw_Z below #[Value.ref b] s) (entryFrame m ([Value.ref b] : List Value).toArray 25) := by
      rw [hh0]
      exact whole_start l hflags hbd ⟨B.exec, B.bytes, B.returns, hml, hown, hts, hX, hbl, B.notSynchronized, hgv⟩
    obtain ⟨t, a1, o, b1, b2, b3⟩ := K s₁ rfl X₀
    exact ⟨t, o, a1, b1, b2, b3⟩
theorem lw_pre_spec {args : Array Value} {s : State} (h : (Jvm.Cond.and given_1 narrow_1).before args s = true) (hr : rest_1_c.before args s = true) : ∃ (b : Addr) (xs : List Int32), lw_P b xs args s := by
  have hs := flat_of_before _ h
  have hq := flat_of_before _ hr
  have hc : (Cond.count 1).before args s = true := hs _ (by decide +kernel)
  have harr : (Cond.arrayOf (.arg 0) .int).before args s = true := hs _ (by decide +kernel)
  have hle : (Cond.le (.length (.arg 0)) (.int 260)).before args s = true := hs _ (by decide +kernel)
  have hlen : (Cond.isInt (.length (.arg 0))).before args s = true := hq _ (by decide +kernel)
  have hall : (Cond.all (.arg 0) (.isInt (.elem (.arg 0) (.index 0)))).before args s = true := hq _ (by decide +kernel)
  obtain ⟨b, xs, hb, hx⟩ := State.ints_of_pre rfl harr hlen hall
  have hsm : xs.length < 2 ^ 31 := hx.choose_spec.2.2.2
  have hev : (Term.length (.arg 0)).eval args s none [] s = some (.int xs.length.toInt32) := hx.length_eval hb
  have hv := Cond.le_ints hev (show (Term.int 260).eval args s none [] s = some (.int 260) from rfl)
  have hd : xs.length.toInt32 ≤ 260 := by
    simpa [Cond.before, Cond.holds, hv] using hle
  have hN : xs.length ≤ 260 := (Int32.ofNat_le_ofNat hsm (by decide)).mp (show Int32.ofNat xs.length ≤ Int32.ofNat 260 from hd)
  exact ⟨b, xs, Cond.one_arg hc (show args[0]? = some (.ref b) from hb), hx, hN, h⟩
theorem lw_comes (l : Launch) (hflags : l.flags = flags0) : Comes l x (Jvm.Cond.code x code maxLocals ret :: tables_1) room_1 (fun tb e args s => Calls_1 tb e args s ∧ rest_1 tb e args s ∧ Pre_1 tb e args s)
    (fun _ _ args s o t => lw_Q args s o t) := by
  intro p e ha hc hk s m args below hf hfit hheap happ hpre
  obtain ⟨b, xs, hP⟩ := lw_pre_spec hpre.2.2 hpre.2.1
  obtain ⟨k, o, h1, h2, h3, hQ⟩ := lw_walk l hflags b xs p e ha hc hk s m args below hf ((Spec.applies_iff_loose hf).mp happ).1 hP trivial
  exact ⟨k, o, h1, h2, h3, hQ⟩
theorem lw_frame {s t : State} {o : Outcome} {args : Array Value} (h : Framed s o t [] 792864 6723031) :
    Framed s o t (fieldLocs frame_1_writes args s ++ arrayLocs frame_1_arrays args s ++ staticLocs frame_1_statics s) 792864 6723031 := h
theorem lw_limb (L : Cond) (hL : ∀ (args : Array Value) (s t : State), L.after args s (.returned (some (.int 1))) t = true) :
    ArmFor flags0 classFile x code maxLocals ret World_1 tables_1 room_1 Calls_1 rest_1 Pre_1
      (fun tb e a s o t => postC L tb e a s o t ∧ Framed s o t (fieldLocs frame_1_writes a s ++ arrayLocs frame_1_arrays a s ++ staticLocs frame_1_statics s) 792864 6723031) := by
  intro l hflags _ _ p e ha hc hk s m args below hf hfit hheap happ hpre
  obtain ⟨k, o, h1, h2, h3, rfl, hF⟩ := lw_comes l hflags p e ha hc hk s m args below hf hfit hheap happ hpre
  exact ⟨k, _, h1, h2, h3, hL args s _, lw_frame hF⟩
theorem i_vc : Claimed_1_1 ∧ Claimed_1_2 := ⟨lw_limb limb_1_1 (fun args s t => by simp [limb_1_1, Cond.after, Cond.holds, Cond.value]), lw_limb limb_1_2 (fun args s t => Cond.after_iff.mpr (by
  first | (rw [show limb_1_2 = Cond.eq .result (.int 1) from rfl, Cond.eq_ints (x := 1) (y := 1) rfl rfl]; simp; done) | (simp [limb_1_2, Cond.value, Term.eval]; done)))⟩
