/-! calls of the law: of its own methods (the class's world), of the class, of the reference -/
theorem dcmp_me {x : UInt64} (h : Jvm.FP.Core.dIsNaN x = false) : Op.cmpValue (FP.dcmp x x) .l = 0 := by
  have e : FP.dcmp x x = some .eq := Jvm.FP.Core.dcmp_self (fun z => of_decide_eq_false (show decide (Jvm.FP.Core.decode Jvm.FP.Core.b64 x.toNat = .nan) = false from h) z)
  rw [e]
  rfl
section LROWS
variable {p : Program} {l : Launch} {e : Env} {R : Room} {s : State} {m : MethodId} {args : Array Value} {below : List Frame} {meth : Method} {c : Code} {H : Heap} {locs : List Loc} {cells slots : Nat} {Q : State → Prop}
variable {cc : ByteArray} {nL : Nat} {ret : Option FieldType} {own : String} {g : fG} {ad : Nat → Nat} {M : fM} {pc : Nat} {ls : Array Slot} {rest : List Value}
variable {y : MethodName} {bytes : ByteArray} {maxL fr lo n index mc ms : Nat} {rt : Option FieldType} {As st0 : List Value} {hh : List (Nat × Nat × Nat × Nat)}
theorem back_w {ad1 : Nat → Nat} {M1 : fM} {T2 A2 : fTn} {kf2 nf2 sf2 : Nat → Int32} {H1 : Heap} {locs1 : List Loc} (hC2 : isC g ad1 M1 T2 A2 kf2 nf2 sf2) (h1 : ∀ l, 3000 ≤ l → l < 3032 → ad1 l = cAd ad l ∧ M1 l = cMp M l) (h2 : ad1 0 = cAd ad 0) (h3 : ad1 3032 = cAd ad 3032) (hw1 : fw g ad1 M1 s H1 locs1) :
    isC g (bAd ad1) (bMp M1) T2 A2 kf2 nf2 sf2 ∧ (∀ l, 5 ≤ l → l < 32 → bAd ad1 l = ad l ∧ bMp M1 l = M l) ∧ bAd ad1 0 = ad 0 ∧ bAd ad1 32 = ad 32 ∧ bMp M1 32 = M1 3032 ∧ fw g (bAd ad1) (bMp M1) s H1 locs1 := by
  refine ⟨isC_eq hC2 (fun l hl => b_lo hl), fun l a b => ?_, ?_, ?_, (b_hi (ad := ad1) (by omega) (by omega)).2, fh_bk hw1.1, hw1.2⟩
  · obtain ⟨x1, x2⟩ := b_hi (ad := ad1) (M := M1) a (by omega)
    obtain ⟨y1, y2⟩ := h1 (l + 3000) (by omega) (by omega)
    obtain ⟨z1, z2⟩ := c_hi (ad := ad) (M := M) a (by omega)
    exact ⟨x1.trans (y1.trans z1), x2.trans (y2.trans z2)⟩
  · exact (b_lo (M := M1) (Or.inl (by omega))).1.trans (h2.trans (c_lo (M := M) (Or.inl (by omega))).1)
  · exact (b_hi (M := M1) (by omega) (by omega)).1.trans (h3.trans (c_hi (M := M) (by omega) (by omega)).1)
theorem k_wr (X : fX p s m args meth c cc nL ret own g) (hnc : xNc s) (hw : fw g ad M s H locs) {T2 : fTn} {kf2 nf2 : Nat → Int32} {k : Int32} {f2 : Nat → Int64}
    (hC : vx_Met l y (fWsH y bytes maxL (some .int) hh) (fR 10 260 90 2200) (va_Pc As (fSL g (cAd ad) (cMp M))) (fQi g (fWr g (cAd ad) (cMp M) T2 kf2 nf2 k f2)) fNX 90 2200 (fA g))
    (kl : Cond.methodLink own index y ∈ AL) (kst : Cond.static y ∈ AL) (kcw : Cond.codeWith y bytes maxL (some .int) hh ∈ AL) (kin : Cond.initialized y.cls ∈ AL) (k5 : y.cls ≠ "java/lang/invoke/MethodHandle" ∧ y.cls ≠ "java/lang/invoke/VarHandle" ∧ (parseMethodDescriptor y.desc).map (fun d => d.parameters.length) = some n)
    (hR : 11 ≤ R.frames ∧ 8 + (maxL + 11) + 260 ≤ R.locals) (hn : As.length = n) (hls : ls.size = nL) (hst : st0 = As.reverse ++ rest) (hW : (rest.map fun v => v.category).sum ≤ 8) (hdg : decode cc pc = .ok (.invokestatic index, 3)) (hf : cells + 90 ≤ R.cells ∧ slots + 2200 ≤ R.slots)
    (kk : ∀ (ad1 : Nat → Nat) (M1 : fM) (H1 : Heap) (locs1 : List Loc) (A2 : fTn) (sf2 : Nat → Int32), isC g ad1 M1 T2 A2 kf2 nf2 sf2 → leT A2 T2 → (∀ l, 5 ≤ l → l < 32 → ad1 l = ad l ∧ M1 l = M l) → ad1 0 = ad 0 → ad1 32 = ad 32 → M1 32 = some (oCell g f2) → fw g ad1 M1 s H1 locs1 → W p l e R s m args below meth c H1 locs1 (cells + 90) (slots + 2200) Q (F0 m (pc + 3) ls (.int k :: rest))) :
    W p l e R s m args below meth c H locs cells slots Q (F0 m pc ls st0) := by
  have hwc : fw g (cAd ad) (cMp M) s H locs := ⟨fh_cl hw.1, hw.2⟩
  refine fk_i (vx_none (fcSH X hnc hwc hC kl kst kcw kin k5 hR hn hls hst hW hdg hf)) hwc (fun r ad1 M1 H1 locs1 hp hw1 => ?_)
  obtain ⟨⟨A2, sf2, hC2, hL2⟩, h1, ⟨h2, h3⟩, h4, er⟩ := hp
  rw [er]
  obtain ⟨z1, z2, z3, z4, z5, z6⟩ := back_w (ad := ad) (M := M) hC2 h1 h2 h3 hw1
  exact kk (bAd ad1) (bMp M1) H1 locs1 A2 sf2 z1 hL2 z2 z3 z4 (z5.trans h4) z6
/-- a method of the class that answers an int, called by the law itself -/
theorem k_ci (X : fX p s m args meth c cc nL ret own g) (hw : fw g ad M s H locs) {T A T2 : fTn} {kf nf sf kf2 nf2 : Nat → Int32} {v : Int32} (hC0 : isC g ad M T A kf nf sf)
    (hC : fCi l g y bytes maxL rt fr lo mc ms (cAd ad) (cMp M) (.ref (cAd ad 0) :: As) (fCu g (cAd ad) (cMp M) T2 kf2 nf2 v))
    (kl : Cond.methodLink own index y ∈ AL) (kv : fkV RX5 y bytes maxL rt n) (hR : fr + 1 ≤ R.frames ∧ 8 + (maxL + 11) + lo ≤ R.locals) (hn : As.length = n) (hls : ls.size = nL) (hst : st0 = As.reverse ++ .ref (ad 0) :: rest) (hW : (rest.map fun v => v.category).sum ≤ 8) (hdg : decode cc pc = .ok (.invokevirtual index, 3)) (hf : cells + mc ≤ R.cells ∧ slots + ms ≤ R.slots)
    (kk : ∀ (ad1 : Nat → Nat) (M1 : fM) (H1 : Heap) (locs1 : List Loc) (A2 : fTn) (sf2 : Nat → Int32), isC g ad1 M1 T2 A2 kf2 nf2 sf2 → leT A2 T2 → (∀ l, 5 ≤ l → l < 32 → ad1 l = ad l ∧ M1 l = M l) → ad1 0 = ad 0 → ad1 32 = ad 32 → M1 32 = M 32 → fw g ad1 M1 s H1 locs1 → W p l e R s m args below meth c H1 locs1 (cells + mc) (slots + ms) Q (F0 m (pc + 3) ls (.int v :: rest))) :
    W p l e R s m args below meth c H locs cells slots Q (F0 m pc ls st0) := by
  have hwc : fw g (cAd ad) (cMp M) s H locs := ⟨fh_cl hw.1, hw.2⟩
  have hM0 : cMp M 0 = some (.inr (6, [.ref (ad 1), .ref (ad 1000), .ref (ad 2000)])) := hC0.1
  refine fk_i (fcV X hwc hC hM0 rfl kl kv hR hn hls (hst.trans rfl) hW hdg hf) hwc (fun r ad1 M1 H1 locs1 hp hw1 => ?_)
  obtain ⟨⟨A2, sf2, hC2, hL2⟩, hr, h2, er⟩ := hp
  rw [er]
  obtain ⟨z1, z2, z3, z4, z5, z6⟩ := back_w (ad := ad) (M := M) hC2 (fun l a b => hr l (by omega) (by omega)) h2 (hr 3032 (by omega) (by omega)).1 hw1
  exact kk (bAd ad1) (bMp M1) H1 locs1 A2 sf2 z1 hL2 z2 z3 z4 (z5.trans ((hr 3032 (by omega) (by omega)).2.trans (c_hi (M := M) (ad := ad) (by omega) (by omega)).2)) z6
theorem k_cl (X : fX p s m args meth c cc nL ret own g) (hw : fw g ad M s H locs) {T A : fTn} {kf nf sf : Nat → Int32} {v : Int64} (hC0 : isC g ad M T A kf nf sf)
    (hC : fCl l g y bytes maxL rt fr lo 0 0 (cAd ad) (cMp M) (.ref (cAd ad 0) :: As) (fDl (cAd ad) (cMp M) v))
    (kl : Cond.methodLink own index y ∈ AL) (kv : fkV RX5 y bytes maxL rt n) (hR : fr + 1 ≤ R.frames ∧ 8 + (maxL + 11) + lo ≤ R.locals) (hn : As.length = n) (hls : ls.size = nL) (hst : st0 = As.reverse ++ .ref (ad 0) :: rest) (hW : (rest.map fun v => v.category).sum ≤ 8) (hdg : decode cc pc = .ok (.invokevirtual index, 3)) (hf : cells + 0 ≤ R.cells ∧ slots + 0 ≤ R.slots)
    (kk : ∀ (ad1 : Nat → Nat) (M1 : fM) (H1 : Heap) (locs1 : List Loc), isC g ad1 M1 T A kf nf sf → (∀ l, 5 ≤ l → l < 32 → ad1 l = ad l ∧ M1 l = M l) → ad1 0 = ad 0 → ad1 32 = ad 32 → M1 32 = M 32 → fw g ad1 M1 s H1 locs1 → W p l e R s m args below meth c H1 locs1 cells slots Q (F0 m (pc + 3) ls (.long v :: rest))) :
    W p l e R s m args below meth c H locs cells slots Q (F0 m pc ls st0) := by
  have hwc : fw g (cAd ad) (cMp M) s H locs := ⟨fh_cl hw.1, hw.2⟩
  have hM0 : cMp M 0 = some (.inr (6, [.ref (ad 1), .ref (ad 1000), .ref (ad 2000)])) := hC0.1
  refine fk_dl (fcV X hwc hC hM0 rfl kl kv hR hn hls (hst.trans rfl) hW hdg hf) hwc (fun H1 locs1 hw1 => ?_)
  obtain ⟨z1, z2, z3, z4, z5, z6⟩ := back_w (ad := ad) (M := M) (isC_eq hC0 (fun l hl => c_lo hl)) (fun l a b => ⟨rfl, rfl⟩) rfl rfl hw1
  exact kk (bAd (cAd ad)) (bMp (cMp M)) H1 locs1 z1 z2 z3 z4 (z5.trans (c_hi (M := M) (ad := ad) (by omega) (by omega)).2) z6
theorem k_cd (X : fX p s m args meth c cc nL ret own g) (hw : fw g ad M s H locs) {T A : fTn} {kf nf sf : Nat → Int32} {v : UInt64} (hC0 : isC g ad M T A kf nf sf)
    (hC : fCd l g y bytes maxL rt fr lo 0 0 (cAd ad) (cMp M) (.ref (cAd ad 0) :: As) (fDd (cAd ad) (cMp M) v))
    (kl : Cond.methodLink own index y ∈ AL) (kv : fkV RX5 y bytes maxL rt n) (hR : fr + 1 ≤ R.frames ∧ 8 + (maxL + 11) + lo ≤ R.locals) (hn : As.length = n) (hls : ls.size = nL) (hst : st0 = As.reverse ++ .ref (ad 0) :: rest) (hW : (rest.map fun v => v.category).sum ≤ 8) (hdg : decode cc pc = .ok (.invokevirtual index, 3)) (hf : cells + 0 ≤ R.cells ∧ slots + 0 ≤ R.slots)
    (kk : ∀ (ad1 : Nat → Nat) (M1 : fM) (H1 : Heap) (locs1 : List Loc), isC g ad1 M1 T A kf nf sf → (∀ l, 5 ≤ l → l < 32 → ad1 l = ad l ∧ M1 l = M l) → ad1 0 = ad 0 → ad1 32 = ad 32 → M1 32 = M 32 → fw g ad1 M1 s H1 locs1 → W p l e R s m args below meth c H1 locs1 cells slots Q (F0 m (pc + 3) ls (.double v :: rest))) :
    W p l e R s m args below meth c H locs cells slots Q (F0 m pc ls st0) := by
  have hwc : fw g (cAd ad) (cMp M) s H locs := ⟨fh_cl hw.1, hw.2⟩
  have hM0 : cMp M 0 = some (.inr (6, [.ref (ad 1), .ref (ad 1000), .ref (ad 2000)])) := hC0.1
  refine fk_dd (fcV X hwc hC hM0 rfl kl kv hR hn hls (hst.trans rfl) hW hdg hf) hwc (fun H1 locs1 hw1 => ?_)
  obtain ⟨z1, z2, z3, z4, z5, z6⟩ := back_w (ad := ad) (M := M) (isC_eq hC0 (fun l hl => c_lo hl)) (fun l a b => ⟨rfl, rfl⟩) rfl rfl hw1
  exact kk (bAd (cAd ad)) (bMp (cMp M)) H1 locs1 z1 z2 z3 z4 (z5.trans (c_hi (M := M) (ad := ad) (by omega) (by omega)).2) z6
/-- behind the reference's methods the class's world and the law's row are as they were -/
theorem rest_w {ad2 : Nat → Nat} {M2 : fM} {T A : fTn} {kf nf sf : Nat → Int32} {f : Nat → Int64} (hC : isC g ad M T A kf nf sf) (hO : M 32 = some (oCell g f)) (hr : fReg 5 31 ad M ad2 M2) : isC g ad2 M2 T A kf nf sf ∧ M2 32 = some (oCell g f) ∧ ad2 0 = ad 0 ∧ ad2 32 = ad 32 :=
  ⟨isC_eq hC (fun l hl => hr l (by omega) (by omega)), (hr 32 (by omega) (by omega)).2.trans hO, (hr 0 (by omega) (by omega)).1, (hr 32 (by omega) (by omega)).1⟩
end LROWS
