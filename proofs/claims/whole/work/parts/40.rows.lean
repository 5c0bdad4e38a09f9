/-! rows of int rows: made, written, read; an int row's copy; int rows copied into another -/
section FROWS
variable {p : Program} {l : Launch} {e : Env} {R : Room} {s : State} {m : MethodId} {args : Array Value} {below : List Frame} {meth : Method} {c : Code} {H : Heap} {locs : List Loc} {cells slots : Nat} {Q : State → Prop}
variable {cc : ByteArray} {nL : Nat} {ret : Option FieldType} {own : String} {g : fG} {ad : Nat → Nat} {M : fM} {pc : Nat} {ls : Array Slot} {rest : List Value} {lb lb2 : Nat}
theorem f_newQ (X : fX p s m args meth c cc nL ret own g) (hw : fw g ad M s H locs) {index : Nat} (ln : Nat) (h4 : ln < 4096) (hcl : Cond.classLink own index "[I" ∈ AL) {n : Int32} {N' : Nat} (hn : ¬ n < 0) (hN : n.toNatClampNeg = N') (hbytes : N' * 4 ≤ 536870912) (hcells : cells + 1 ≤ R.cells) (hslots : slots + N' ≤ R.slots) (hdg : decode cc pc = .ok (.anewarray index, 3))
    (kk : ∀ (q : Nat) (H1 : Heap), fw g (fV ad ln q) (fU M ln (.inl (gQ g, N', .inr (.inr (.inr (.inr (fun _ => none))))))) s H1 locs → W p l e R s m args below meth c H1 locs (cells + 1) (slots + N') Q (F0 m (pc + 3) ls (.ref q :: rest))) : W p l e R s m args below meth c H locs cells slots Q (F0 m pc ls (.int n :: rest)) := by
  obtain ⟨hx, hb, hml, hown, hts, hK, hz, hr, hlk⟩ := X
  subst hN
  refine W.anewA (t := .int) hx hb hown (hts _ hcl) hK.2.2.2.2.2 rfl hdg rfl hn hbytes hcells hslots fun cA kA comp f1 f2 f3 f4 => ?_
  have ec : cA = gQ g := Option.some.inj (f1.symm.trans (hK.1.2 3 (gQ g, .array .int) rfl).2)
  subst ec
  generalize hH1 : H.push ({ cls := gQ g, slots := Array.replicate n.toNatClampNeg .null, vm := .none } : Cell) = H1
  have z1 : H1.size = H.size + 1 := by rw [← hH1, Array.size_push]
  have e1 : H1[H.size]? = some (arrV (gQ g) n.toNatClampNeg (fun _ => .null)) := by rw [← hH1, Array.getElem?_push_size, ← arrV_new]
  have o1 : ∀ q : Nat, q < H.size → H1[q]? = H[q]? := fun q hq => by rw [← hH1, Array.getElem?_push, if_neg (Nat.ne_of_lt hq)]
  have hP := fh_P hw.1
  have hk : ∀ (k : Nat) (x : Nat × va_E), (fwl ad M)[k]? = some x → H1[x.1]? = H[x.1]? := fun k x hx => o1 x.1 ((hP k x hx).lt)
  refine kk H.size H1 ⟨fh_push hw.1 h4 (by have := hw.1.1; omega) ((hP.kept hk).app (fun k x hx => ?_)) ((fh_D hw.1).push hP rfl (fw_A hz _ hw.2.1)), ⟨Nat.le_trans hw.2.1 (by omega), fun x h1 h2 => (o1 x (Nat.lt_of_lt_of_le h1 hw.2.1)).trans (hw.2.2.1 x h1 h2), hw.2.2.2⟩⟩
  · have hz : k < 1 := (List.getElem?_eq_some_iff.mp hx).1
    rw [show k = 0 by omega] at hx
    cases hx
    show H1[H.size]? = some (vp_cell _ _)
    rw [vp_cell_q]
    exact e1
theorem f_aastQ (X : fX p s m args meth c cc nL ret own g) (hw : fw g ad M s H locs) {n n2 : Nat} {f : Nat → Option Nat} {f2 : Nat → Int32} (hM : M lb = some (.inl (gQ g, n, .inr (.inr (.inr (.inr f)))))) (hv : M lb2 = some (.inl (gI g, n2, .inl f2))) {i : Int32} (hin : vp_in i n) (hdg : decode cc pc = .ok (.aastore, 1))
    (kk : ∀ (H1 : Heap) (locs1 : List Loc), fw g ad (fU M lb (.inl (gQ g, n, .inr (.inr (.inr (.inr (va_up f i.toNatClampNeg (some (ad lb2))))))))) s H1 locs1 → W p l e R s m args below meth c H1 locs1 cells slots Q (F0 m (pc + 1) ls rest)) : W p l e R s m args below meth c H locs cells slots Q (F0 m pc ls (.ref (ad lb2) :: .int i :: .ref (ad lb) :: rest)) := by
  obtain ⟨hx, hb, hml, hown, hts, hK, hz, hr, hlk⟩ := X
  obtain ⟨j, hj⟩ := fh_k hw.1 hM
  have hP := fh_P hw.1
  have hD := fh_D hw.1
  have hlt : i.toNatClampNeg < n := Nat.not_le.mp fun q => hin (Or.inr q)
  have h0 : ¬ i < 0 := fun q => hin (Or.inl q)
  obtain ⟨comp, c9, k9, h1, -, h3, h4, h5⟩ := arrayOverA_spec hK.2.2.2.2.2
  have ec : c9 = gQ g := Option.some.inj (h5.symm.trans (hK.1.2 3 (gQ g, .array .int) rfl).2)
  have ei : comp = gI g := Option.some.inj (h1.symm.trans (hK.1.2 0 (gI g, .int) rfl).2)
  subst ec
  subst ei
  obtain ⟨kC, hkC, -⟩ := Vm.findClass_spec h1
  have hvc : H[ad lb2]? = some (vp_cell (gI g) (n2, .inl f2)) := (hw.1.2.2.1 lb2 _ hv).2
  refine W.aast hx hb (hP j _ hj) (fun q h => by cases h) (fun h => by cases h) h3 h4 rfl hkC ⟨h0, by show _ < (arrV _ _ _).slots.size; rw [arrV_size]; exact hlt⟩ hvc (fun q h => by cases h) hkC (va_asg _ _) rfl rfl hdg fun H1 e z oq => ?_
  refine kk H1 _ ⟨fh_set hw.1 hM hj (by rw [z]; exact hw.1.1) (hP.set hD hj ?_ oq) (hD.set hj), hw.2.put z oq (hD.2 j _ hj)⟩
  show H1[ad lb]? = some (vp_cell _ _)
  rw [e]
  rw [vp_cell_q, vp_cell_q, arrV_store]
  refine congrArg (fun F => some (arrV (gQ g) n F)) (funext fun q => ?_)
  by_cases hq : q = i.toNatClampNeg
  · subst hq
    simp [updV, va_up, va_rf]
  · simp [updV, va_up, hq]
theorem f_aaldQ (X : fX p s m args meth c cc nL ret own g) (hw : fw g ad M s H locs) {n : Nat} {f : Nat → Option Nat} (hM : M lb = some (.inl (gQ g, n, .inr (.inr (.inr (.inr f)))))) {i : Int32} (hin : vp_in i n) {q : Nat} (hf : f i.toNatClampNeg = some q) (hdg : decode cc pc = .ok (.aaload, 1))
    (kk : W p l e R s m args below meth c H locs cells slots Q (F0 m (pc + 1) ls (.ref q :: rest))) : W p l e R s m args below meth c H locs cells slots Q (F0 m pc ls (.int i :: .ref (ad lb) :: rest)) := by
  obtain ⟨hx, hb, hml, hown, hts, hK, hz, hr, hlk⟩ := id X
  have hlt : i.toNatClampNeg < n := Nat.not_le.mp fun q => hin (Or.inr q)
  refine W.aald (v := va_rf (f i.toNatClampNeg)) (ty := .array .int) hx hb (hw.1.2.2.1 lb _ hM).2 ((hK.1.2 3 (gQ g, .array .int) rfl).1 n (fun j => va_rf (f j))) rfl (fun q => by cases q) (by show ¬ (i < 0 ∨ (arrV _ _ _).slots.size ≤ _); rw [arrV_size]; exact hin) (by show (arrV _ _ _).slots[_]? = _; rw [arrV_read _ _ hlt]) rfl rfl hdg ?_
  rw [hf]
  exact kk
theorem f_clone (X : fX p s m args meth c cc nL ret own g) (hls : ls.size = nL) (hw : fw g ad M s H locs) {index n : Nat} {f : Nat → Int32} (ln : Nat) (h4 : ln < 4096) (hM : M lb = some (.inl (gI g, n, .inl f)))
    (hlink : Cond.methodLink own index ⟨"[I", "clone", "()Ljava/lang/Object;"⟩ ∈ AL) (hframes : 1 ≤ R.frames) (hlocals : (rest.map fun v => v.category).sum + 14 ≤ R.locals) (hcells : cells + 1 ≤ R.cells) (hslots : slots + n ≤ R.slots) (hdg : decode cc pc = .ok (.invokevirtual index, 3))
    (kk : ∀ (q : Nat) (H1 : Heap), fw g (fV ad ln q) (fU M ln (.inl (gI g, n, .inl f))) s H1 locs → W p l e R s m args below meth c H1 locs (cells + 1) (slots + n) Q (F0 m (pc + 3) ls (.ref q :: rest))) : W p l e R s m args below meth c H locs cells slots Q (F0 m pc ls (.ref (ad lb) :: rest)) := by
  obtain ⟨hx, hb, hml, hown, hts, hK, hz, hr, hlk⟩ := X
  obtain ⟨j, hj⟩ := fh_k hw.1 hM
  exact va_clone hx hb (hml.trans hls.symm) hown (hts _ hlink) (hts _ wq1032) (hts _ wq1033) (hts _ wq1034) (hts _ wq1035) (hK.2.1 _ wn1036) hK.1 (fh_P hw.1) (fh_D hw.1) hw.2 (fw_A hz) j 0 hj rfl (hK.1.2 0 (gI g, .int) rfl).2
    (va_fit fun _ _ => rfl) hframes hlocals hcells hslots hdg (fun q H1 _ hP hD hS => kk q H1 ⟨fh_push hw.1 h4 (Nat.le_trans hz.1 hS.1) hP hD, hS⟩)
theorem f_castI (X : fX p s m args meth c cc nL ret own g) (hw : fw g ad M s H locs) {index n : Nat} {f : Nat → Int32} (hM : M lb = some (.inl (gI g, n, .inl f))) (hlink : Cond.classLink own index "[I" ∈ AL) (hdg : decode cc pc = .ok (.checkcast index, 3))
    (k : W p l e R s m args below meth c H locs cells slots Q (F0 m (pc + 3) ls (.ref (ad lb) :: rest))) : W p l e R s m args below meth c H locs cells slots Q (F0 m pc ls (.ref (ad lb) :: rest)) := by
  obtain ⟨hx, hb, hml, hown, hts, hK, hz, hr, hlk⟩ := X
  obtain ⟨j, hj⟩ := fh_k hw.1 hM
  exact va_castA hx hb hown (hts _ hlink) (fh_P hw.1) j hj (hK.1.2 0 (gI g, .int) rfl).2 hdg k
theorem f_copyI (X : fX p s m args meth c cc nL ret own g) (hls : ls.size = nL) (hw : fw g ad M s H locs) {index n0 n1 : Nat} {f0 f1 : Nat → Int32} (hM : M lb = some (.inl (gI g, n0, .inl f0))) (hM2 : M lb2 = some (.inl (gI g, n1, .inl f1)))
    (hlink : Cond.methodLink own index arraycopyName ∈ AL) (hnat : Cond.native arraycopyName ∈ AL) (hstat : Cond.static arraycopyName ∈ AL) (hini : Cond.initialized "java/lang/System" ∈ AL) {k dp : Nat} (h0 : k < 2 ^ 31) (hd : dp < 2 ^ 31) (h1 : k ≤ n0) (h2 : dp + k ≤ n1)
    (hframes : 1 ≤ R.frames) (hlocals : (rest.map fun v => v.category).sum + (nativeFrameWords "java/lang/System" "arraycopy" 5 + 11) ≤ R.locals) (hdg : decode cc pc = .ok (.invokestatic index, 3))
    (kk : ∀ (H1 : Heap) (locs1 : List Loc), fw g ad (fU M lb2 (.inl (gI g, n1, .inl (va_cpy f0 f1 0 dp k)))) s H1 locs1 → W p l e R s m args below meth c H1 locs1 cells slots Q (F0 m (pc + 3) ls rest)) : W p l e R s m args below meth c H locs cells slots Q (F0 m pc ls (.int (nI k) :: .int (nI dp) :: .ref (ad lb2) :: .int 0 :: .ref (ad lb) :: rest)) := by
  obtain ⟨hx, hb, hml, hown, hts, hK, hz, hr, hlk⟩ := X
  obtain ⟨j, hj⟩ := fh_k hw.1 hM
  obtain ⟨j2, hj2⟩ := fh_k hw.1 hM2
  have e0 : (0 : Int32).toNatClampNeg = 0 := rfl
  have ek : (nI k).toNatClampNeg = k := nI_clamp h0
  have ed : (nI dp).toNatClampNeg = dp := nI_clamp hd
  refine va_copyi hx hb (hml.trans hls.symm) hown (hts _ hlink) (hts _ hnat) (hts _ hstat) (hts _ hini) hK.1 (fh_P hw.1) (fh_D hw.1) hw.2 j j2 0 0 hj hj2 rfl rfl rfl (by decide) (nI_pos hd) (nI_pos h0) (by rw [e0, ek]; omega) (by rw [ed, ek]; omega) (fun i hi => rfl) hframes hlocals hdg ?_
  intro H1 locs1 hP hD hS
  rw [e0, ek, ed] at hP hD
  exact kk H1 locs1 ⟨fh_set hw.1 hM2 hj2 (Nat.le_trans hz.1 hS.1) hP hD, hS⟩
end FROWS
