/-! rows for rows of references, statics, the class object of a row of Objects, fields named through a class above, copying -/
section FREF
variable {p : Program} {l : Launch} {e : Env} {R : Room} {s : State} {m : MethodId} {args : Array Value} {below : List Frame} {meth : Method} {c : Code} {H : Heap} {locs : List Loc} {cells slots : Nat} {Q : State → Prop}
variable {cc : ByteArray} {nL : Nat} {ret : Option FieldType} {own : String} {g : fG} {ad : Nat → Nat} {M : fM} {pc : Nat} {ls : Array Slot} {rest : List Value} {lb lb2 : Nat}
theorem fw_move (h : fw g ad M s H locs) {lx la : Nat} {x : va_E} (hx : M lx = some x) (ha : la < 4096) (hne : lx ≠ la) : fw g (fV ad la (ad lx)) (fun l => if l = la then some x else if l = lx then none else M l) s H locs := ⟨fh_move h.1 hx ha hne, h.2⟩
theorem f_getG (X : fX p s m args meth c cc nL ret own g) (hw : fw g ad M s H locs) {ci index : Nat} {C ref : String} {T : u_T} {N : Nat} {ty : Nat → FieldType} {fs : List Value} (hM : M lb = some (.inr (ci, fs))) (hc : fcl ci C T N ty) (k : Nat) (hk : k < N)
    (hlink : Cond.fieldLink own index ref (T k).2.1 (T k).2.2.1 ∈ AL) (hsame : ∀ x, s.fieldFound? (T k).1 (T k).2.1 (T k).2.2.1 = some x → s.fieldFound? ref (T k).2.1 (T k).2.2.1 = some x) {v : Value} (hv : fs[k]? = some v) (hdg : decode cc pc = .ok (.getfield index, 3))
    (kk : W p l e R s m args below meth c H locs cells slots Q (F0 m (pc + 3) ls (v :: rest))) : W p l e R s m args below meth c H locs cells slots Q (F0 m pc ls (.ref (ad lb) :: rest)) := by
  obtain ⟨hx, hb, hml, hown, hts, hK, hz, hr, hlk⟩ := X
  exact va_get hx hb hts hc.2.1 hown hK.1 (f_single (hw.1.2.2.1 lb _ hM).2) 0 rfl hc.1 k hk (hts _ hlink) hsame hv hdg kk
theorem f_putG (X : fX p s m args meth c cc nL ret own g) (hw : fw g ad M s H locs) {ci index : Nat} {C ref : String} {T : u_T} {N : Nat} {ty : Nat → FieldType} {fs : List Value} (hM : M lb = some (.inr (ci, fs))) (hc : fcl ci C T N ty) (k : Nat) (hk : k < N)
    (hlink : Cond.fieldLink own index ref (T k).2.1 (T k).2.2.1 ∈ AL) (hsame : ∀ x, s.fieldFound? (T k).1 (T k).2.1 (T k).2.2.1 = some x → s.fieldFound? ref (T k).2.1 (T k).2.2.1 = some x) (hfin : (T k).2.2.2 = false) {v : Value} (hn : narrow (ty k) v = v) (hfit : fits (ty k) v = true) (hl : k < fs.length) (hdg : decode cc pc = .ok (.putfield index, 3))
    (kk : ∀ (H1 : Heap) (locs1 : List Loc), fw g ad (fU M lb (.inr (ci, fs.set k v))) s H1 locs1 → W p l e R s m args below meth c H1 locs1 cells slots Q (F0 m (pc + 3) ls rest)) : W p l e R s m args below meth c H locs cells slots Q (F0 m pc ls (v :: .ref (ad lb) :: rest)) := by
  obtain ⟨hx, hb, hml, hown, hts, hK, hz, hr, hlk⟩ := X
  obtain ⟨j, hj⟩ := fh_k hw.1 hM
  exact va_put hx hb hts hc.2.1 ty hc.2.2.1 hc.2.2.2 hown hK.1 (fh_P hw.1) (fh_D hw.1) hw.2 j hj hc.1 k hk (hts _ hlink) hsame hfin (hc.2.2.1 k hk) hn hfit hl hdg (fun H1 locs1 hP hD hS => kk H1 locs1 ⟨fh_set hw.1 hM hj (Nat.le_trans hz.1 hS.1) hP hD, hS⟩)
theorem f_same (X : fX p s m args meth c cc nL ret own g) {ref owner name desc : String} (h : Cond.sameField ref owner name desc ∈ AL) : ∀ x, s.fieldFound? owner name desc = some x → s.fieldFound? ref name desc = some x := fun x hx => u_same (X.2.2.2.2.1 _ h) x hx
theorem f_gets (X : fX p s m args meth c cc nL ret own g) (hw : fw g ad M s H locs) {index : Nat} (hlink : Cond.fieldLink own index "java/util/ArrayList" "DEFAULTCAPACITY_EMPTY_ELEMENTDATA" "[Ljava/lang/Object;" ∈ AL) (hdg : decode cc pc = .ok (.getstatic index, 3))
    (kk : W p l e R s m args below meth c H locs cells slots Q (F0 m (pc + 3) ls (.ref (gE g) :: rest))) : W p l e R s m args below meth c H locs cells slots Q (F0 m pc ls rest) := by
  obtain ⟨hx, hb, hml, hown, hts, hK, hz, hr, hlk⟩ := X
  exact va_gets hx hb hz.2.1 hw.2 hown (hts _ hlink) (fun _ h => h) hdg kk
theorem f_alenE (X : fX p s m args meth c cc nL ret own g) (hw : fw g ad M s H locs) (hdg : decode cc pc = .ok (.arraylength, 1))
    (kk : W p l e R s m args below meth c H locs cells slots Q (F0 m (pc + 1) ls (.int (nI 0) :: rest))) : W p l e R s m args below meth c H locs cells slots Q (F0 m pc ls (.ref (gE g) :: rest)) := by
  obtain ⟨hx, hb, hml, hown, hts, hK, hz, hr, hlk⟩ := X
  obtain ⟨cell, h1, h2, h3, h4, h5, h6, h7⟩ := hz.2.2.1
  exact W.alen (n := nI 0) hx hb (by rw [hw.2.2.1 _ (Array.getElem?_eq_some_iff.mp h1).1 h7]; exact h1) h2 h5 rfl rfl hdg kk
theorem f_newO (X : fX p s m args meth c cc nL ret own g) (hw : fw g ad M s H locs) {index : Nat} (ln : Nat) (h4 : ln < 4096) (hcl : Cond.classLink own index "java/lang/Object" ∈ AL) {n : Int32} {N' : Nat} (hn : ¬ n < 0) (hN : n.toNatClampNeg = N') (hbytes : N' * 4 ≤ 536870912) (hcells : cells + 1 ≤ R.cells) (hslots : slots + N' ≤ R.slots) (hdg : decode cc pc = .ok (.anewarray index, 3))
    (kk : ∀ (q : Nat) (H1 : Heap), fw g (fV ad ln q) (fU M ln (.inl (gO g, N', .inr (.inr (.inr (.inr (fun _ => none))))))) s H1 locs → W p l e R s m args below meth c H1 locs (cells + 1) (slots + N') Q (F0 m (pc + 3) ls (.ref q :: rest))) : W p l e R s m args below meth c H locs cells slots Q (F0 m pc ls (.int n :: rest)) := by
  obtain ⟨hx, hb, hml, hown, hts, hK, hz, hr, hlk⟩ := X
  refine va_newq hx hb hown (hts _ hcl) hK.2.2.2.1 hK.1 (fh_P hw.1) (fh_D hw.1) hw.2 (fw_A hz) hn hN hbytes hcells hslots hdg (fun q cA H1 hK1 hP hD hS => ?_)
  have e1 : cA = gO g := by
    obtain ⟨kA, comp, a1, a2, a3, a4⟩ := (hK1.2 6 (cA, .object "java/lang/Object") rfl).2
    obtain ⟨kA', comp', b1, b2, b3, b4⟩ := (hK.1.2 2 (gO g, .object "java/lang/Object") rfl).2
    exact Option.some.inj (a4.symm.trans b4)
  subst e1
  exact kk q H1 ⟨fh_push hw.1 h4 (Nat.le_trans hz.1 hS.1) hP hD, hS⟩
theorem f_aast (X : fX p s m args meth c cc nL ret own g) (hw : fw g ad M s H locs) {n ci : Nat} {f : Nat → Option Nat} {C : String} {T : u_T} {N : Nat} {vs : List Value} (hM : M lb = some (.inl (gO g, n, .inr (.inr (.inr (.inr f)))))) (hv : M lb2 = some (.inr (ci, vs))) (hci : vwCl[ci]? = some (C, T, N)) (hca : Cond.castable C "java/lang/Object" ∈ NW) {i : Int32} (hin : vp_in i n) (hdg : decode cc pc = .ok (.aastore, 1))
    (kk : ∀ (H1 : Heap) (locs1 : List Loc), fw g ad (fU M lb (.inl (gO g, n, .inr (.inr (.inr (.inr (va_up f i.toNatClampNeg (some (ad lb2))))))))) s H1 locs1 → W p l e R s m args below meth c H1 locs1 cells slots Q (F0 m (pc + 1) ls rest)) : W p l e R s m args below meth c H locs cells slots Q (F0 m pc ls (.ref (ad lb2) :: .int i :: .ref (ad lb) :: rest)) := by
  obtain ⟨hx, hb, hml, hown, hts, hK, hz, hr, hlk⟩ := X
  obtain ⟨j, hj⟩ := fh_k hw.1 hM
  obtain ⟨k, hk⟩ := fh_k hw.1 hv
  exact va_astqO hx hb hK.1 (fh_P hw.1) (fh_D hw.1) hw.2 j 2 k ci (r := (C, T, N)) hj rfl (hK.2.1 _ hca) hk hci hin hdg (fun H1 locs1 hP hD hS => kk H1 locs1 ⟨fh_set hw.1 hM hj (Nat.le_trans hz.1 hS.1) hP hD, hS⟩)
theorem f_copyq (X : fX p s m args meth c cc nL ret own g) (hls : ls.size = nL) (hw : fw g ad M s H locs) {index n0 n1 ci : Nat} {f0 f1 : Nat → Option Nat} {C : String} {T : u_T} {N : Nat} (hM : M lb = some (.inl (gO g, n0, .inr (.inr (.inr (.inr f0)))))) (hM2 : M lb2 = some (.inl (gO g, n1, .inr (.inr (.inr (.inr f1)))))) (hci : vwCl[ci]? = some (C, T, N)) (hca : Cond.castable C "java/lang/Object" ∈ NW)
    (hlink : Cond.methodLink own index arraycopyName ∈ AL) (hnat : Cond.native arraycopyName ∈ AL) (hstat : Cond.static arraycopyName ∈ AL) (hini : Cond.initialized "java/lang/System" ∈ AL) {k : Nat} (h0 : k < 2 ^ 31) (h1 : k ≤ n0) (h2 : k ≤ n1) (hel : ∀ i, i < k → ∃ (le : Nat) (fs : List Value), f0 i = some (ad le) ∧ M le = some (.inr (ci, fs)))
    (hframes : 1 ≤ R.frames) (hlocals : (rest.map fun v => v.category).sum + (nativeFrameWords "java/lang/System" "arraycopy" 5 + 11) ≤ R.locals) (hdg : decode cc pc = .ok (.invokestatic index, 3))
    (kk : ∀ (H1 : Heap) (locs1 : List Loc), fw g ad (fU M lb2 (.inl (gO g, n1, .inr (.inr (.inr (.inr (va_cpy f0 f1 0 0 k))))))) s H1 locs1 → W p l e R s m args below meth c H1 locs1 cells slots Q (F0 m (pc + 3) ls rest)) : W p l e R s m args below meth c H locs cells slots Q (F0 m pc ls (.int (nI k) :: .int 0 :: .ref (ad lb2) :: .int 0 :: .ref (ad lb) :: rest)) := by
  have X' := X
  obtain ⟨hx, hb, hml, hown, hts, hK, hz, hr, hlk⟩ := X
  obtain ⟨j, hj⟩ := fh_k hw.1 hM
  obtain ⟨j2, hj2⟩ := fh_k hw.1 hM2
  have e0 : (0 : Int32).toNatClampNeg = 0 := rfl
  have ek : (nI k).toNatClampNeg = k := nI_clamp h0
  obtain ⟨c0, t0', f1', f2', f3'⟩ := Cond.castable_spec (va_Nw.use (A := args) rfl (hK.2.1 _ hca))
  refine va_copyq (E0 := "java/lang/Object") (E1 := "java/lang/Object") (C := C) hx hb (hml.trans hls.symm) hown (hts _ hlink) (hts _ hnat) (hts _ hstat) (hts _ hini) hK.1 (fh_P hw.1) (fh_D hw.1) hw.2 j j2 2 2 hj hj2 rfl rfl (by decide) (by decide) (nI_pos h0) (by rw [e0, ek]; omega) (by rw [e0, ek]; omega) ?_ ?_ hframes hlocals hdg ?_
  · intro i hi y hy
    rw [ek] at hi
    rw [e0, Nat.zero_add] at hy
    obtain ⟨le, fs, g1, g2⟩ := hel i hi
    rw [g1] at hy
    cases hy
    exact f_recv X' hw g2 hci
  · intro comp c9 g1 g2
    rw [f1'] at g2
    cases g2
    rw [f2'] at g1
    cases g1
    exact f3'
  · intro H1 locs1 hP hD hS
    rw [e0, ek] at hP hD
    exact kk H1 locs1 ⟨fh_set hw.1 hM2 hj2 (Nat.le_trans hz.1 hS.1) hP hD, hS⟩
theorem f_ldcM (X : fX p s m args meth c cc nL ret own g) {index : Nat} (hlink : Cond.classLink own index "[Ljava/lang/Object;" ∈ AL) (hdg : decode cc pc = .ok (.ldc index, 2))
    (kk : W p l e R s m args below meth c H locs cells slots Q (F0 m (pc + 2) ls (.ref (gS g 0) :: rest))) : W p l e R s m args below meth c H locs cells slots Q (F0 m pc ls rest) := by
  obtain ⟨hx, hb, hml, hown, hts, hK, hz, hr, hlk⟩ := X
  exact va_ldcM hx hb hown (hts _ hlink) hK.2.2.2.2.1 hdg kk
theorem f_getC (X : fX p s m args meth c cc nL ret own g) (hls : ls.size = nL) (hw : fw g ad M s H locs) {index : Nat} {x : vp_A} (hM : M lb = some (.inl (gO g, x))) (hlink : Cond.methodLink own index ⟨"java/lang/Object", "getClass", "()Ljava/lang/Class;"⟩ ∈ AL) (hdecl : Cond.declares ⟨"java/lang/Object", "getClass", "()Ljava/lang/Class;"⟩ ∈ NW) (hsel : Cond.selects "[Ljava/lang/Object;" ⟨"java/lang/Object", "getClass", "()Ljava/lang/Class;"⟩ ⟨"java/lang/Object", "getClass", "()Ljava/lang/Class;"⟩ ∈ AL)
    (hinst : Cond.instanceMethod ⟨"java/lang/Object", "getClass", "()Ljava/lang/Class;"⟩ ∈ AL) (hnat : Cond.native ⟨"java/lang/Object", "getClass", "()Ljava/lang/Class;"⟩ ∈ AL) (hframes : 1 ≤ R.frames) (hlocals : (rest.map fun v => v.category).sum + 14 ≤ R.locals) (hdg : decode cc pc = .ok (.invokevirtual index, 3))
    (kk : W p l e R s m args below meth c H locs cells slots Q (F0 m (pc + 3) ls (.ref (gS g 0) :: rest))) : W p l e R s m args below meth c H locs cells slots Q (F0 m pc ls (.ref (ad lb) :: rest)) := by
  obtain ⟨hx, hb, hml, hown, hts, hK, hz, hr, hlk⟩ := X
  refine va_getC hx hb (hml.trans hls.symm) hown (hts _ hlink) (va_Nw.use rfl (hK.2.1 _ hdecl)) (hts _ hsel) (hts _ hinst) (hts _ hnat) hK.2.2.2.2.1 ?_ hframes hlocals hdg kk
  obtain ⟨kA, comp, a1, a2, a3, a4⟩ := (hK.1.2 2 (gO g, .object "java/lang/Object") rfl).2
  refine ⟨_, (hw.1.2.2.1 lb _ hM).2, ?_, ?_⟩
  · obtain ⟨n, f | f | f | f | f⟩ := x <;> rfl
  · rw [show (vp_cell (gO g) x).cls = gO g from by obtain ⟨n, f | f | f | f | f⟩ := x <;> rfl]
    exact a4
end FREF
/-! rows where the labels' places have just changed: the address as it stands on the stack, and its label -/
section FADR
variable {p : Program} {l : Launch} {e : Env} {R : Room} {s : State} {m : MethodId} {args : Array Value} {below : List Frame} {meth : Method} {c : Code} {H : Heap} {locs : List Loc} {cells slots : Nat} {Q : State → Prop}
variable {cc : ByteArray} {nL : Nat} {ret : Option FieldType} {own : String} {g : fG} {ad : Nat → Nat} {M : fM} {pc : Nat} {ls : Array Slot} {rest : List Value} {lb lb2 a a2 : Nat}
/-- the reference on top, by its label -/
theorem f_adr (ha : ad lb = a) (k : W p l e R s m args below meth c H locs cells slots Q (F0 m pc ls (.ref (ad lb) :: rest))) : W p l e R s m args below meth c H locs cells slots Q (F0 m pc ls (.ref a :: rest)) := ha ▸ k
theorem f_adr2 {v : Value} (ha : ad lb = a) (k : W p l e R s m args below meth c H locs cells slots Q (F0 m pc ls (v :: .ref (ad lb) :: rest))) : W p l e R s m args below meth c H locs cells slots Q (F0 m pc ls (v :: .ref a :: rest)) := ha ▸ k
theorem f_adr3 {v w : Value} (ha : ad lb = a) (k : W p l e R s m args below meth c H locs cells slots Q (F0 m pc ls (v :: w :: .ref (ad lb) :: rest))) : W p l e R s m args below meth c H locs cells slots Q (F0 m pc ls (v :: w :: .ref a :: rest)) := ha ▸ k
theorem f_adr4 {v w u : Value} (ha : ad lb = a) (k : W p l e R s m args below meth c H locs cells slots Q (F0 m pc ls (v :: w :: u :: .ref (ad lb) :: rest))) : W p l e R s m args below meth c H locs cells slots Q (F0 m pc ls (v :: w :: u :: .ref a :: rest)) := ha ▸ k
theorem f_adr5 {v w u t : Value} (ha : ad lb = a) (k : W p l e R s m args below meth c H locs cells slots Q (F0 m pc ls (v :: w :: u :: t :: .ref (ad lb) :: rest))) : W p l e R s m args below meth c H locs cells slots Q (F0 m pc ls (v :: w :: u :: t :: .ref a :: rest)) := ha ▸ k
end FADR
/-- what add does to a list: one element more, its array perhaps another one -/
def fAdd (g : fG) (ad : Nat → Nat) (M : fM) (ll la eb n : Nat) (ad1 : Nat → Nat) (M1 : fM) : Prop := fList g ad1 M1 ll la eb (n + 1) ∧ (∀ l, l ≠ la → l ≠ 4090 → ad1 l = ad l) ∧ ∀ l, l ≠ ll → l ≠ la → l ≠ 4090 → M1 l = M l
theorem fList_A {g : fG} {ad ad1 : Nat → Nat} {M M1 : fM} {ll la eb n : Nat} (h : fList g ad M ll la eb n) (h1 : ad1 la = ad la) (h2 : ∀ i, i < n → ad1 (eb + i) = ad (eb + i)) (h3 : M1 ll = M ll) (h4 : M1 la = M la) : fList g ad1 M1 ll la eb n := by
  obtain ⟨mo, d, N, f, a1, a2, a3⟩ := h
  refine ⟨mo, d, N, f, h3.trans a1, a2, ?_⟩
  rcases a3 with a3 | ⟨b1, b2, b3, b4, b5, b6⟩
  · exact Or.inl a3
  · exact Or.inr ⟨b1.trans h1.symm, h4.trans b2, b3, b4, b5, fun i hi => by rw [b6 i hi, h2 i hi]⟩
/-- a new cell under the label ln: its place is the answer -/
abbrev fNew (ad : Nat → Nat) (M : fM) (ln : Nat) (e : va_E) : Nat → (Nat → Nat) → fM → Prop := fun r ad1 M1 => ad1 = fV ad ln r ∧ M1 = fU M ln e
/-- behind grow: the list's array is another one -/
abbrev fGrown (ad : Nat → Nat) (M : fM) (ll la : Nat) (mo z : Int32) (e : va_E) : Nat → (Nat → Nat) → fM → Prop := fun r ad1 M1 => ad1 la = r ∧ (∀ l, l ≠ la → l ≠ 4090 → ad1 l = ad l) ∧ M1 la = some e ∧ M1 ll = some (.inr (0, [.int mo, .ref r, .int z])) ∧ ∀ l, l ≠ ll → l ≠ la → l ≠ 4090 → M1 l = M l
abbrev fAddV (g : fG) (ad : Nat → Nat) (M : fM) (ll la eb n : Nat) : (Nat → Nat) → fM → Prop := fun ad1 M1 => fAdd g ad M ll la eb n ad1 M1
abbrev fAddI (g : fG) (ad : Nat → Nat) (M : fM) (ll la eb n : Nat) : Int32 → (Nat → Nat) → fM → Prop := fun r ad1 M1 => fAdd g ad M ll la eb n ad1 M1 ∧ r = 1
theorem fList_add {g : fG} {ad ad1 : Nat → Nat} {M : fM} {ll la eb n N : Nat} {mo : Int32} {d : Nat} {f : Nat → Option Nat} (h1 : M ll = some (.inr (0, [.int mo, .ref d, .int (nI (n + 1))]))) (h2 : d = ad1 la) (h3 : M la = some (.inl (gO g, N, .inr (.inr (.inr (.inr (va_up f n (some (ad1 (eb + n))))))))))
    (h4 : n < N) (h5 : 10 ≤ N) (h6 : N ≤ 43) (h7 : ∀ i, i < n → f i = some (ad (eb + i))) (h8 : ∀ i, i < n → ad1 (eb + i) = ad (eb + i)) : fList g ad1 M ll la eb (n + 1) := by
  refine ⟨mo, d, N, _, h1, by omega, Or.inr ⟨h2, h3, by omega, h5, h6, fun i hi => ?_⟩⟩
  by_cases e : i = n
  · rw [e]; exact if_pos rfl
  · rw [show va_up f n (some (ad1 (eb + n))) i = f i from if_neg e, h7 i (by omega), h8 i (by omega)]
