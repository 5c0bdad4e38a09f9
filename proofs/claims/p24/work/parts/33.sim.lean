/-! THE LAW'S OWN TOWN (Sim): rows of references, its picture -/
section FSIM
variable {p : Program} {l : Launch} {e : Env} {R : Room} {s : State} {m : MethodId} {args : Array Value} {below : List Frame} {meth : Method} {c : Code} {H : Heap} {locs : List Loc} {cells slots : Nat} {Q : State → Prop}
variable {cc : ByteArray} {nL : Nat} {ret : Option FieldType} {own : String} {g : fG} {ad : Nat → Nat} {M : fM} {pc : Nat} {ls : Array Slot} {rest : List Value} {lb lb2 : Nat}
theorem f_newQ (X : fX p s m args meth c cc nL ret own g) (hw : fw g ad M s H locs) {index : Nat} (ln : Nat) (h4 : ln < 4096) (hcl : Cond.classLink own index "[I" ∈ AL) {n : Int32} {N' : Nat} (hn : ¬ n < 0) (hN : n.toNatClampNeg = N') (hbytes : N' * 4 ≤ 536870912) (hcells : cells + 1 ≤ R.cells) (hslots : slots + N' ≤ R.slots) (hdg : decode cc pc = .ok (.anewarray index, 3))
    (kk : ∀ (q : Nat) (H1 : Heap), fw g (fV ad ln q) (fU M ln (.inl (gQ g, N', .inr (.inr (.inr (.inr (fun _ => none))))))) s H1 locs → W p l e R s m args below meth c H1 locs (cells + 1) (slots + N') Q (F0 m (pc + 3) ls (.ref q :: rest))) : W p l e R s m args below meth c H locs cells slots Q (F0 m pc ls (.int n :: rest)) := by
  obtain ⟨hx, hb, hml, hown, hts, hK, hz, hr, hlk⟩ := X
  subst hN
  refine W.anewA (t := .int) hx hb hown (hts _ hcl) hK.2.2.2.2.2.1 rfl hdg rfl hn hbytes hcells hslots fun cA kA comp f1 f2 f3 f4 => ?_
  have ec : cA = gQ g := Option.some.inj (f1.symm.trans (hK.1.2 3 (gQ g, .array .int) rfl).2)
  subst ec
  generalize hH1 : H.push ({ cls := gQ g, slots := Array.replicate n.toNatClampNeg .null, vm := .none } : Cell) = H1
  have z1 : H1.size = H.size + 1 := by rw [← hH1, Array.size_push]
  have e1 : H1[H.size]? = some (arrV (gQ g) n.toNatClampNeg (fun _ => .null)) := by rw [← hH1, Array.getElem?_push_size, ← arrV_new]
  have o1 : ∀ q : Nat, q < H.size → H1[q]? = H[q]? := fun q hq => by rw [← hH1, Array.getElem?_push, if_neg (Nat.ne_of_lt hq)]
  have hP := fh_P hw.1
  have hk : ∀ (k : Nat) (x : Nat × va_E), (fwl ad M)[k]? = some x → H1[x.1]? = H[x.1]? := fun k x hx => o1 x.1 ((hP k x hx).lt)
  refine kk H.size H1 ⟨fh_push hw.1 h4 (by have := hw.1.1; omega) ((hP.kept hk).app (fun k x hx => ?_)) ((fh_D hw.1).push hP rfl (fw_A hz _ hw.2.1)), ⟨Nat.le_trans hw.2.1 (by omega), fun x h1 h2 => (o1 x (Nat.lt_of_lt_of_le h1 hw.2.1)).trans (hw.2.2.1 x h1 h2), hw.2.2.2⟩⟩
  · have hz : k < 1 := (List.getElem?_eq_some_iff.mp hx).1
    rw [show k = 0 by omega] at hx
    cases hx
    show H1[H.size]? = some (vp_cell _ _)
    rw [vp_cell_q]
    exact e1
theorem f_aastQ (X : fX p s m args meth c cc nL ret own g) (hw : fw g ad M s H locs) {n n2 : Nat} {f : Nat → Option Nat} {f2 : Nat → Int32} (hM : M lb = some (.inl (gQ g, n, .inr (.inr (.inr (.inr f)))))) (hv : M lb2 = some (.inl (gI g, n2, .inl f2))) {i : Int32} (hin : vp_in i n) (hdg : decode cc pc = .ok (.aastore, 1))
    (kk : ∀ (H1 : Heap) (locs1 : List Loc), fw g ad (fU M lb (.inl (gQ g, n, .inr (.inr (.inr (.inr (va_up f i.toNatClampNeg (some (ad lb2))))))))) s H1 locs1 → W p l e R s m args below meth c H1 locs1 cells slots Q (F0 m (pc + 1) ls rest)) : W p l e R s m args below meth c H locs cells slots Q (F0 m pc ls (.ref (ad lb2) :: .int i :: .ref (ad lb) :: rest)) := by
  obtain ⟨hx, hb, hml, hown, hts, hK, hz, hr, hlk⟩ := X
  obtain ⟨j, hj⟩ := fh_k hw.1 hM
  have hP := fh_P hw.1
  have hD := fh_D hw.1
  have hlt : i.toNatClampNeg < n := Nat.not_le.mp fun q => hin (Or.inr q)
  have h0 : ¬ i < 0 := fun q => hin (Or.inl q)
  obtain ⟨comp, c9, k9, h1, -, h3, h4, h5⟩ := arrayOverA_spec hK.2.2.2.2.2.1
  have ec : c9 = gQ g := Option.some.inj (h5.symm.trans (hK.1.2 3 (gQ g, .array .int) rfl).2)
  have ei : comp = gI g := Option.some.inj (h1.symm.trans (hK.1.2 0 (gI g, .int) rfl).2)
  subst ec
  subst ei
  obtain ⟨kC, hkC, -⟩ := Vm.findClass_spec h1
  have hvc : H[ad lb2]? = some (vp_cell (gI g) (n2, .inl f2)) := (hw.1.2.2.1 lb2 _ hv).2
  refine W.aast hx hb (hP j _ hj) (fun q h => by cases h) (fun h => by cases h) h3 h4 rfl hkC ⟨h0, by show _ < (arrV _ _ _).slots.size; rw [arrV_size]; exact hlt⟩ hvc (fun q h => by cases h) hkC (va_asg _ _) rfl rfl hdg fun H1 e z oq => ?_
  refine kk H1 _ ⟨fh_set hw.1 hM hj (by rw [z]; exact hw.1.1) (hP.set hD hj ?_ oq) (hD.set hj), hw.2.put z oq (hD.2 j _ hj)⟩
  show H1[ad lb]? = some (vp_cell _ _)
  rw [e]
  rw [vp_cell_q, vp_cell_q, arrV_store]
  refine congrArg (fun F => some (arrV (gQ g) n F)) (funext fun q => ?_)
  by_cases hq : q = i.toNatClampNeg
  · subst hq
    simp [updV, va_up, va_rf]
  · simp [updV, va_up, hq]
theorem f_aaldQ (X : fX p s m args meth c cc nL ret own g) (hw : fw g ad M s H locs) {n : Nat} {f : Nat → Option Nat} (hM : M lb = some (.inl (gQ g, n, .inr (.inr (.inr (.inr f)))))) {i : Int32} (hin : vp_in i n) {q : Nat} (hf : f i.toNatClampNeg = some q) (hdg : decode cc pc = .ok (.aaload, 1))
    (kk : W p l e R s m args below meth c H locs cells slots Q (F0 m (pc + 1) ls (.ref q :: rest))) : W p l e R s m args below meth c H locs cells slots Q (F0 m pc ls (.int i :: .ref (ad lb) :: rest)) := by
  obtain ⟨hx, hb, hml, hown, hts, hK, hz, hr, hlk⟩ := id X
  have hlt : i.toNatClampNeg < n := Nat.not_le.mp fun q => hin (Or.inr q)
  refine W.aald (v := va_rf (f i.toNatClampNeg)) (ty := .array .int) hx hb (hw.1.2.2.1 lb _ hM).2 ((hK.1.2 3 (gQ g, .array .int) rfl).1 n (fun j => va_rf (f j))) rfl (fun q => by cases q) (by show ¬ (i < 0 ∨ (arrV _ _ _).slots.size ≤ _); rw [arrV_size]; exact hin) (by show (arrV _ _ _).slots[_]? = _; rw [arrV_read _ _ hlt]) rfl rfl hdg ?_
  rw [hf]
  exact kk
theorem f_newY (X : fX p s m args meth c cc nL ret own g) (hw : fw g ad M s H locs) {index : Nat} (ln : Nat) (h4 : ln < 4096) (hcl : Cond.classLink own index "FireEnginesLaw$House" ∈ AL) {n : Int32} {N' : Nat} (hn : ¬ n < 0) (hN : n.toNatClampNeg = N') (hbytes : N' * 4 ≤ 536870912) (hcells : cells + 1 ≤ R.cells) (hslots : slots + N' ≤ R.slots) (hdg : decode cc pc = .ok (.anewarray index, 3))
    (kk : ∀ (q : Nat) (H1 : Heap), fw g (fV ad ln q) (fU M ln (.inl (gY g, N', .inr (.inr (.inr (.inr (fun _ => none))))))) s H1 locs → W p l e R s m args below meth c H1 locs (cells + 1) (slots + N') Q (F0 m (pc + 3) ls (.ref q :: rest))) : W p l e R s m args below meth c H locs cells slots Q (F0 m pc ls (.int n :: rest)) := by
  obtain ⟨hx, hb, hml, hown, hts, hK, hz, hr, hlk⟩ := X
  refine va_newq hx hb hown (hts _ hcl) hK.2.2.2.2.2.2.1 hK.1 (fh_P hw.1) (fh_D hw.1) hw.2 (fw_A hz) hn hN hbytes hcells hslots hdg (fun q cA H1 hK1 hP hD hS => ?_)
  have e1 : cA = gY g := by
    obtain ⟨kA, comp, a1, a2, a3, a4⟩ := (hK1.2 6 (cA, .object "FireEnginesLaw$House") rfl).2
    obtain ⟨kA', comp', b1, b2, b3, b4⟩ := (hK.1.2 4 (gY g, .object "FireEnginesLaw$House") rfl).2
    exact Option.some.inj (a4.symm.trans b4)
  subst e1
  exact kk q H1 ⟨fh_push hw.1 h4 (Nat.le_trans hz.1 hS.1) hP hD, hS⟩
theorem f_aaldY (X : fX p s m args meth c cc nL ret own g) (hw : fw g ad M s H locs) {n : Nat} {f : Nat → Option Nat} (hM : M lb = some (.inl (gY g, n, .inr (.inr (.inr (.inr f)))))) {i : Int32} (hin : vp_in i n) {q : Nat} (hf : f i.toNatClampNeg = some q) (hdg : decode cc pc = .ok (.aaload, 1))
    (kk : W p l e R s m args below meth c H locs cells slots Q (F0 m (pc + 1) ls (.ref q :: rest))) : W p l e R s m args below meth c H locs cells slots Q (F0 m pc ls (.int i :: .ref (ad lb) :: rest)) := by
  obtain ⟨hx, hb, hml, hown, hts, hK, hz, hr, hlk⟩ := id X
  refine va_aldq hx hb hK.1 (f_single (hw.1.2.2.1 lb _ hM).2) 0 4 rfl rfl hin hdg ?_
  rw [hf]
  exact kk
theorem f_aastY (X : fX p s m args meth c cc nL ret own g) (hw : fw g ad M s H locs) {n : Nat} {f : Nat → Option Nat} {vs : List Value} (hM : M lb = some (.inl (gY g, n, .inr (.inr (.inr (.inr f)))))) (hv : M lb2 = some (.inr (8, vs))) {i : Int32} (hin : vp_in i n) (hdg : decode cc pc = .ok (.aastore, 1))
    (kk : ∀ (H1 : Heap) (locs1 : List Loc), fw g ad (fU M lb (.inl (gY g, n, .inr (.inr (.inr (.inr (va_up f i.toNatClampNeg (some (ad lb2))))))))) s H1 locs1 → W p l e R s m args below meth c H1 locs1 cells slots Q (F0 m (pc + 1) ls rest)) : W p l e R s m args below meth c H locs cells slots Q (F0 m pc ls (.ref (ad lb2) :: .int i :: .ref (ad lb) :: rest)) := by
  obtain ⟨hx, hb, hml, hown, hts, hK, hz, hr, hlk⟩ := X
  obtain ⟨j, hj⟩ := fh_k hw.1 hM
  obtain ⟨k, hk⟩ := fh_k hw.1 hv
  exact va_astq hx hb hK.1 (fh_P hw.1) (fh_D hw.1) hw.2 j 4 k 8 (r := (RX7, TX7, 7)) hj rfl hk rfl hin hdg (fun H1 locs1 hP hD hS => kk H1 locs1 ⟨fh_set hw.1 hM hj (Nat.le_trans hz.1 hS.1) hP hD, hS⟩)
theorem f_newW (X : fX p s m args meth c cc nL ret own g) (hw : fw g ad M s H locs) {index : Nat} (ln : Nat) (h4 : ln < 4096) (hcl : Cond.classLink own index "FireEnginesLaw$Engine" ∈ AL) {n : Int32} {N' : Nat} (hn : ¬ n < 0) (hN : n.toNatClampNeg = N') (hbytes : N' * 4 ≤ 536870912) (hcells : cells + 1 ≤ R.cells) (hslots : slots + N' ≤ R.slots) (hdg : decode cc pc = .ok (.anewarray index, 3))
    (kk : ∀ (q : Nat) (H1 : Heap), fw g (fV ad ln q) (fU M ln (.inl (gW g, N', .inr (.inr (.inr (.inr (fun _ => none))))))) s H1 locs → W p l e R s m args below meth c H1 locs (cells + 1) (slots + N') Q (F0 m (pc + 3) ls (.ref q :: rest))) : W p l e R s m args below meth c H locs cells slots Q (F0 m pc ls (.int n :: rest)) := by
  obtain ⟨hx, hb, hml, hown, hts, hK, hz, hr, hlk⟩ := X
  refine va_newq hx hb hown (hts _ hcl) hK.2.2.2.2.2.2.2 hK.1 (fh_P hw.1) (fh_D hw.1) hw.2 (fw_A hz) hn hN hbytes hcells hslots hdg (fun q cA H1 hK1 hP hD hS => ?_)
  have e1 : cA = gW g := by
    obtain ⟨kA, comp, a1, a2, a3, a4⟩ := (hK1.2 6 (cA, .object "FireEnginesLaw$Engine") rfl).2
    obtain ⟨kA', comp', b1, b2, b3, b4⟩ := (hK.1.2 5 (gW g, .object "FireEnginesLaw$Engine") rfl).2
    exact Option.some.inj (a4.symm.trans b4)
  subst e1
  exact kk q H1 ⟨fh_push hw.1 h4 (Nat.le_trans hz.1 hS.1) hP hD, hS⟩
theorem f_aaldW (X : fX p s m args meth c cc nL ret own g) (hw : fw g ad M s H locs) {n : Nat} {f : Nat → Option Nat} (hM : M lb = some (.inl (gW g, n, .inr (.inr (.inr (.inr f)))))) {i : Int32} (hin : vp_in i n) {q : Nat} (hf : f i.toNatClampNeg = some q) (hdg : decode cc pc = .ok (.aaload, 1))
    (kk : W p l e R s m args below meth c H locs cells slots Q (F0 m (pc + 1) ls (.ref q :: rest))) : W p l e R s m args below meth c H locs cells slots Q (F0 m pc ls (.int i :: .ref (ad lb) :: rest)) := by
  obtain ⟨hx, hb, hml, hown, hts, hK, hz, hr, hlk⟩ := id X
  refine va_aldq hx hb hK.1 (f_single (hw.1.2.2.1 lb _ hM).2) 0 5 rfl rfl hin hdg ?_
  rw [hf]
  exact kk
theorem f_aastW (X : fX p s m args meth c cc nL ret own g) (hw : fw g ad M s H locs) {n : Nat} {f : Nat → Option Nat} {vs : List Value} (hM : M lb = some (.inl (gW g, n, .inr (.inr (.inr (.inr f)))))) (hv : M lb2 = some (.inr (7, vs))) {i : Int32} (hin : vp_in i n) (hdg : decode cc pc = .ok (.aastore, 1))
    (kk : ∀ (H1 : Heap) (locs1 : List Loc), fw g ad (fU M lb (.inl (gW g, n, .inr (.inr (.inr (.inr (va_up f i.toNatClampNeg (some (ad lb2))))))))) s H1 locs1 → W p l e R s m args below meth c H1 locs1 cells slots Q (F0 m (pc + 1) ls rest)) : W p l e R s m args below meth c H locs cells slots Q (F0 m pc ls (.ref (ad lb2) :: .int i :: .ref (ad lb) :: rest)) := by
  obtain ⟨hx, hb, hml, hown, hts, hK, hz, hr, hlk⟩ := X
  obtain ⟨j, hj⟩ := fh_k hw.1 hM
  obtain ⟨k, hk⟩ := fh_k hw.1 hv
  exact va_astq hx hb hK.1 (fh_P hw.1) (fh_D hw.1) hw.2 j 5 k 7 (r := (RX6, TX6, 9)) hj rfl hk rfl hin hdg (fun H1 locs1 hP hD hS => kk H1 locs1 ⟨fh_set hw.1 hM hj (Nat.le_trans hz.1 hS.1) hP hD, hS⟩)
/-! the script -/
theorem f_sld (X : fX p s m args meth c cc nL ret own g) (hw : fw g ad M s H locs) {i : Int32} (hin : vp_in i (gXn g)) (hdg : decode cc pc = .ok (.iaload, 1))
    (kk : W p l e R s m args below meth c H locs cells slots Q (F0 m (pc + 1) ls (.int (gXf g i.toNatClampNeg) :: rest))) : W p l e R s m args below meth c H locs cells slots Q (F0 m pc ls (.int i :: .ref (gXb g) :: rest)) := by
  obtain ⟨hx, hb, hml, hown, hts, hK, hz, hr, hlk⟩ := X
  exact va_sld hx hb hz.2.2.2.1 (by obtain ⟨scr, h1, -⟩ := hz.2.2.2.1; exact (Array.getElem?_eq_some_iff.mp h1).1) hz.2.2.2.2 hw.2 hin hdg kk
theorem f_slen (X : fX p s m args meth c cc nL ret own g) (hw : fw g ad M s H locs) (hdg : decode cc pc = .ok (.arraylength, 1))
    (kk : W p l e R s m args below meth c H locs cells slots Q (F0 m (pc + 1) ls (.int (nI (gXn g)) :: rest))) : W p l e R s m args below meth c H locs cells slots Q (F0 m pc ls (.ref (gXb g) :: rest)) := by
  obtain ⟨hx, hb, hml, hown, hts, hK, hz, hr, hlk⟩ := X
  exact va_slen hx hb hz.2.2.2.1 (by obtain ⟨scr, h1, -⟩ := hz.2.2.2.1; exact (Array.getElem?_eq_some_iff.mp h1).1) hz.2.2.2.2 hw.2 hdg kk
end FSIM
abbrev gV (f : Nat → Int32) : List Value := [.int (f 0), .int (f 1), .int (f 2), .int (f 3), .int (f 4), .int (f 5), .int (f 6), .int (f 7), .int (f 9)]
/-- the law's town: the object at 3000, its rows at 3001 (houses), 3002 (engines), 3003 (ponds), houses at 3100 + i, ponds at 3200 + i, engines at 3300 + i (goal: column 6, hose: 7, gave: 9) -/
def isSim (g : fG) (ad : Nat → Nat) (M : fM) (U : fTn) : Prop :=
  M 3000 = some (.inr (9, [.int (tM U), .ref (ad 3001), .ref (ad 3002), .ref (ad 3003)])) ∧
  (∃ f, M 3001 = some (.inl (gY g, tHn U, .inr (.inr (.inr (.inr f))))) ∧ ∀ i, i < tHn U → f i = some (ad (3100 + i))) ∧
  (∃ f, M 3002 = some (.inl (gW g, tEn U, .inr (.inr (.inr (.inr f))))) ∧ ∀ i, i < tEn U → f i = some (ad (3300 + i))) ∧
  (∃ f, M 3003 = some (.inl (gQ g, tPn U, .inr (.inr (.inr (.inr f))))) ∧ ∀ i, i < tPn U → f i = some (ad (3200 + i))) ∧
  (∀ i, i < tHn U → M (3100 + i) = some (.inr (8, hV (tH U i)))) ∧ (∀ i, i < tEn U → M (3300 + i) = some (.inr (7, gV (tE U i)))) ∧ (∀ i, i < tPn U → M (3200 + i) = some (.inl (gI g, 2, .inl (tP U i)))) ∧
  tHn U ≤ 30 ∧ tEn U ≤ 6 ∧ tPn U ≤ 6
theorem isSim_eq {g : fG} {ad ad1 : Nat → Nat} {M M1 : fM} {U : fTn} (h : isSim g ad M U) (R : ∀ l, 3000 ≤ l → l < 3400 → ad1 l = ad l ∧ M1 l = M l) : isSim g ad1 M1 U := by
  obtain ⟨h0, ⟨f1, a1, b1⟩, ⟨f2, a2, b2⟩, ⟨f3, a3, b3⟩, h4, h5, h6, n1, n2, n3⟩ := h
  refine ⟨?_, ⟨f1, (R _ (by omega) (by omega)).2.trans a1, fun i hi => ?_⟩, ⟨f2, (R _ (by omega) (by omega)).2.trans a2, fun i hi => ?_⟩, ⟨f3, (R _ (by omega) (by omega)).2.trans a3, fun i hi => ?_⟩, fun i hi => (R _ (by omega) (by omega)).2.trans (h4 i hi), fun i hi => (R _ (by omega) (by omega)).2.trans (h5 i hi), fun i hi => (R _ (by omega) (by omega)).2.trans (h6 i hi), n1, n2, n3⟩
  · rw [(R 3000 (by omega) (by omega)).2, (R 3001 (by omega) (by omega)).1, (R 3002 (by omega) (by omega)).1, (R 3003 (by omega) (by omega)).1]; exact h0
  · rw [b1 i hi, (R (3100 + i) (by omega) (by omega)).1]
  · rw [b2 i hi, (R (3300 + i) (by omega) (by omega)).1]
  · rw [b3 i hi, (R (3200 + i) (by omega) (by omega)).1]
theorem isSim_reg {g : fG} {ad ad1 : Nat → Nat} {M M1 : fM} {U : fTn} {lo hi : Nat} (h : isSim g ad M U) (hr : fReg lo hi ad M ad1 M1) (hb : hi ≤ 3000 ∨ 3400 ≤ lo) : isSim g ad1 M1 U := isSim_eq h (fun l a b => hr l (by omega) (by omega))
theorem isSim_H {g : fG} {ad : Nat → Nat} {M : fM} {U : fTn} {j : Nat} {f : Nat → Int32} (h : isSim g ad M U) (hj : j < tHn U) : isSim g ad (fU M (3100 + j) (.inr (8, hV f))) (sH U j f) := by
  obtain ⟨h0, ⟨f1, a1, b1⟩, ⟨f2, a2, b2⟩, ⟨f3, a3, b3⟩, h4, h5, h6, n1, n2, n3⟩ := h
  refine ⟨(fU_n (by omega)).trans h0, ⟨f1, (fU_n (by omega)).trans a1, b1⟩, ⟨f2, (fU_n (by omega)).trans a2, b2⟩, ⟨f3, (fU_n (by omega)).trans a3, b3⟩, fun i (hi : i < tHn U) => ?_, fun i (hi : i < tEn U) => (fU_n (by omega)).trans (h5 i hi), fun i (hi : i < tPn U) => (fU_n (by omega)).trans (h6 i hi), n1, n2, n3⟩
  by_cases e : i = j
  · subst e
    show fU M (3100 + i) _ (3100 + i) = some (.inr (8, hV (if i = i then f else tH U i)))
    rw [fU_s, if_pos rfl]
  · show fU M (3100 + j) _ (3100 + i) = some (.inr (8, hV (if i = j then f else tH U i)))
    rw [fU_n (by omega), if_neg e]
    exact h4 i hi
theorem isSim_E {g : fG} {ad : Nat → Nat} {M : fM} {U : fTn} {j : Nat} {f : Nat → Int32} (h : isSim g ad M U) (hj : j < tEn U) : isSim g ad (fU M (3300 + j) (.inr (7, gV f))) (sE U j f) := by
  obtain ⟨h0, ⟨f1, a1, b1⟩, ⟨f2, a2, b2⟩, ⟨f3, a3, b3⟩, h4, h5, h6, n1, n2, n3⟩ := h
  refine ⟨(fU_n (by omega)).trans h0, ⟨f1, (fU_n (by omega)).trans a1, b1⟩, ⟨f2, (fU_n (by omega)).trans a2, b2⟩, ⟨f3, (fU_n (by omega)).trans a3, b3⟩, fun i (hi : i < tHn U) => (fU_n (by omega)).trans (h4 i hi), fun i (hi : i < tEn U) => ?_, fun i (hi : i < tPn U) => (fU_n (by omega)).trans (h6 i hi), n1, n2, n3⟩
  by_cases e : i = j
  · subst e
    show fU M (3300 + i) _ (3300 + i) = some (.inr (7, gV (if i = i then f else tE U i)))
    rw [fU_s, if_pos rfl]
  · show fU M (3300 + j) _ (3300 + i) = some (.inr (7, gV (if i = j then f else tE U i)))
    rw [fU_n (by omega), if_neg e]
    exact h5 i hi
theorem isSim_P {g : fG} {ad : Nat → Nat} {M : fM} {U : fTn} {j : Nat} {f : Nat → Int32} (h : isSim g ad M U) (hj : j < tPn U) : isSim g ad (fU M (3200 + j) (.inl (gI g, 2, .inl f))) (sP U j f) := by
  obtain ⟨h0, ⟨f1, a1, b1⟩, ⟨f2, a2, b2⟩, ⟨f3, a3, b3⟩, h4, h5, h6, n1, n2, n3⟩ := h
  refine ⟨(fU_n (by omega)).trans h0, ⟨f1, (fU_n (by omega)).trans a1, b1⟩, ⟨f2, (fU_n (by omega)).trans a2, b2⟩, ⟨f3, (fU_n (by omega)).trans a3, b3⟩, fun i (hi : i < tHn U) => (fU_n (by omega)).trans (h4 i hi), fun i (hi : i < tEn U) => (fU_n (by omega)).trans (h5 i hi), fun i (hi : i < tPn U) => ?_, n1, n2, n3⟩
  by_cases e : i = j
  · subst e
    show fU M (3200 + i) _ (3200 + i) = some (.inl (gI g, 2, .inl (if i = i then f else tP U i)))
    rw [fU_s, if_pos rfl]
  · show fU M (3200 + j) _ (3200 + i) = some (.inl (gI g, 2, .inl (if i = j then f else tP U i)))
    rw [fU_n (by omega), if_neg e]
    exact h6 i hi
theorem isSim_M {g : fG} {ad : Nat → Nat} {M : fM} {U : fTn} {x : Int32} (h : isSim g ad M U) : isSim g ad (fU M 3000 (.inr (9, [.int x, .ref (ad 3001), .ref (ad 3002), .ref (ad 3003)]))) (sM U x) := by
  obtain ⟨h0, ⟨f1, a1, b1⟩, ⟨f2, a2, b2⟩, ⟨f3, a3, b3⟩, h4, h5, h6, n1, n2, n3⟩ := h
  exact ⟨fU_s, ⟨f1, (fU_n (by omega)).trans a1, b1⟩, ⟨f2, (fU_n (by omega)).trans a2, b2⟩, ⟨f3, (fU_n (by omega)).trans a3, b3⟩, fun i (hi : i < tHn U) => (fU_n (by omega)).trans (h4 i hi), fun i (hi : i < tEn U) => (fU_n (by omega)).trans (h5 i hi), fun i (hi : i < tPn U) => (fU_n (by omega)).trans (h6 i hi), n1, n2, n3⟩
/-- the columns that isSim reads -/
theorem isSim_cg {g : fG} {ad : Nat → Nat} {M : fM} {U V : fTn} (h : isSim g ad M U) (e0 : tM V = tM U) (e1 : tHn V = tHn U) (e2 : tEn V = tEn U) (e3 : tPn V = tPn U) (r1 : ∀ i, i < tHn U → ∀ k, k < 7 → tH V i k = tH U i k) (r2 : ∀ i, i < tEn U → (∀ k, k < 8 → tE V i k = tE U i k) ∧ tE V i 9 = tE U i 9) (r3 : ∀ i, i < tPn U → tP V i = tP U i) : isSim g ad M V := by
  obtain ⟨h0, ⟨f1, a1, b1⟩, ⟨f2, a2, b2⟩, ⟨f3, a3, b3⟩, h4, h5, h6, n1, n2, n3⟩ := h
  refine ⟨by rw [e0]; exact h0, ⟨f1, by rw [e1]; exact a1, fun i hi => b1 i (by omega)⟩, ⟨f2, by rw [e2]; exact a2, fun i hi => b2 i (by omega)⟩, ⟨f3, by rw [e3]; exact a3, fun i hi => b3 i (by omega)⟩, fun i hi => ?_, fun i hi => ?_, fun i hi => ?_, by omega, by omega, by omega⟩
  · rw [h4 i (by omega)]
    have r := r1 i (by omega)
    show _ = some (Sum.inr (8, [Value.int (tH V i 0), .int (tH V i 1), .int (tH V i 2), .int (tH V i 3), .int (tH V i 4), .int (tH V i 5), .int (tH V i 6)]))
    rw [r 0 (by omega), r 1 (by omega), r 2 (by omega), r 3 (by omega), r 4 (by omega), r 5 (by omega), r 6 (by omega)]
  · rw [h5 i (by omega)]
    have r := r2 i (by omega)
    show _ = some (Sum.inr (7, [Value.int (tE V i 0), .int (tE V i 1), .int (tE V i 2), .int (tE V i 3), .int (tE V i 4), .int (tE V i 5), .int (tE V i 6), .int (tE V i 7), .int (tE V i 9)]))
    rw [r.1 0 (by omega), r.1 1 (by omega), r.1 2 (by omega), r.1 3 (by omega), r.1 4 (by omega), r.1 5 (by omega), r.1 6 (by omega), r.1 7 (by omega), r.2]
  · rw [h6 i (by omega), r3 i (by omega)]
theorem upd_at {f : Nat → Int32} {i : Nat} {x : Int32} : upd f i x i = x := if_pos rfl
theorem upd_ne {f : Nat → Int32} {i j : Nat} {x : Int32} (h : j ≠ i) : upd f i x j = f j := if_neg h
/-! what Sim asks, in its own way -/
def sNear (a b : Int32) : Bool := decide (¬ a = b) && decide (iMax (iAbs (iMod a - iMod b)) (iAbs (a / 14 - b / 14)) = 1)
def sPump (f : Nat → Int32) : Int32 := if 0 < f 5 then 0 else if 20 ≤ f 4 then f 2 * f 4 / 20 else 0
def sSrc (U : fTn) (f : Nat → Int32) : Int32 := if 0 < f 5 then -1 else jFirst (fun i => sNear (tP U i 0) (f 0)) (tPn U)
def sHeat (f : Nat → Nat → Int32) (w : Int32) : Nat → Int32
  | 0 => 0
  | k + 1 => sHeat f w k + (if f k 3 = 1 then (if sNear (f k 0) w = true then f k 4 else 0) else 0)
