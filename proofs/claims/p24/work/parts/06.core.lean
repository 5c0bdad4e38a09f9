/-! THE WORLD AS A MAP: from labels (numbers of our own) to cells; ad says where a label's cell lies. Rows of the kit turned to it. -/
abbrev fM : Type := Nat → Option va_E
/-- what is fixed in a run: classes' ids and slots, the array classes, where our cells begin, the empty list's array, the texts -/
abbrev fG : Type := va_G × (ClassId × ClassId × ClassId × ClassId × ClassId × ClassId) × (Nat × Nat × Nat × Nat × (Nat → Int32)) × (Nat → Nat)
abbrev gD (g : fG) : va_G := g.1
abbrev gI (g : fG) : ClassId := g.2.1.1
abbrev gZ (g : fG) : ClassId := g.2.1.2.1
abbrev gO (g : fG) : ClassId := g.2.1.2.2.1
abbrev gQ (g : fG) : ClassId := g.2.1.2.2.2.1
abbrev gY (g : fG) : ClassId := g.2.1.2.2.2.2.1
abbrev gW (g : fG) : ClassId := g.2.1.2.2.2.2.2
abbrev gB (g : fG) : Nat := g.2.2.1.1
abbrev gE (g : fG) : Nat := g.2.2.1.2.1
abbrev gXb (g : fG) : Nat := g.2.2.1.2.2.1
abbrev gXn (g : fG) : Nat := g.2.2.1.2.2.2.1
abbrev gXf (g : fG) : Nat → Int32 := g.2.2.1.2.2.2.2
abbrev gS (g : fG) : Nat → Nat := g.2.2.2
def fA (g : fG) : Nat → Prop := fun q => gB g ≤ q
abbrev fT (g : fG) : List (ClassId × FieldType) := [(gI g, .int), (gZ g, .boolean), (gO g, .object "java/lang/Object"), (gQ g, .array .int), (gY g, .object "FireEnginesLaw$House"), (gW g, .object "FireEnginesLaw$Engine")]
def fU (M : fM) (l : Nat) (e : va_E) : fM := fun k => if k = l then some e else M k
def fV (ad : Nat → Nat) (l q : Nat) : Nat → Nat := fun k => if k = l then q else ad k
theorem fU_s {M : fM} {l : Nat} {e : va_E} : fU M l e l = some e := if_pos rfl
theorem fU_n {M : fM} {l k : Nat} {e : va_E} (h : k ≠ l) : fU M l e k = M k := if_neg h
theorem fV_s {ad : Nat → Nat} {l q : Nat} : fV ad l q l = q := if_pos rfl
theorem fV_n {ad : Nat → Nat} {l q k : Nat} (h : k ≠ l) : fV ad l q k = ad k := if_neg h
theorem fU_U {M : fM} {l : Nat} {e e' : va_E} : fU (fU M l e) l e' = fU M l e' := by funext k; unfold fU; by_cases h : k = l <;> simp [h]
/-- the heap holds the map -/
def fh (g : fG) (ad : Nat → Nat) (M : fM) (H : Heap) : Prop := gB g ≤ H.size ∧ (∀ l, M l ≠ none → l < 4096) ∧ (∀ l e, M l = some e → gB g ≤ ad l ∧ va_at (gD g) vwCl (ad l, e) H) ∧ ∀ l l', M l ≠ none → M l' ≠ none → ad l = ad l' → l = l'
/-- the map as a list of cells, for the kit's rows -/
def fwl (ad : Nat → Nat) (M : fM) : va_W := (List.range 4096).filterMap (fun l => (M l).map (fun e => (ad l, e)))
theorem fwl_mem {ad : Nat → Nat} {M : fM} {q : Nat × va_E} : q ∈ fwl ad M ↔ ∃ l, l < 4096 ∧ M l = some q.2 ∧ ad l = q.1 := by
  unfold fwl
  rw [List.mem_filterMap]
  constructor
  · rintro ⟨l, hl, h⟩
    cases hM : M l with
    | none => rw [hM] at h; cases h
    | some e =>
      rw [hM] at h
      cases h
      exact ⟨l, List.mem_range.mp hl, hM, rfl⟩
  · rintro ⟨l, hl, hM, ha⟩
    refine ⟨l, List.mem_range.mpr hl, ?_⟩
    rw [hM, ha]
    rfl
theorem fwl_nd {ad : Nat → Nat} {M : fM} (inj : ∀ l l', M l ≠ none → M l' ≠ none → ad l = ad l' → l = l') : ((fwl ad M).map (fun q => q.1)).Nodup := by
  unfold fwl
  rw [List.map_filterMap]
  refine List.Pairwise.filterMap (R := fun a b => a ≠ b) _ ?_ List.nodup_range
  intro a a' hne b hb b' hb' he
  cases hM : M a with
  | none => simp [hM] at hb
  | some e =>
    cases hM' : M a' with
    | none => simp [hM'] at hb'
    | some e' =>
      simp [hM] at hb
      simp [hM'] at hb'
      exact hne (inj a a' (by simp [hM]) (by simp [hM']) (by rw [hb, hb', he]))
theorem fh_P {g : fG} {ad : Nat → Nat} {M : fM} {H : Heap} (h : fh g ad M H) : va_P (gD g) vwCl (fwl ad M) H := by
  intro k q hk
  obtain ⟨l, -, h2, h3⟩ := fwl_mem.mp (List.mem_of_getElem? hk)
  have := (h.2.2.1 l q.2 h2).2
  rw [h3] at this
  exact this
theorem fh_D {g : fG} {ad : Nat → Nat} {M : fM} {H : Heap} (h : fh g ad M H) : va_D (fA g) (fwl ad M) := by
  refine ⟨fun i j p q hi hj hpq => ?_, fun k q hk => ?_⟩
  · have nd := fwl_nd (ad := ad) h.2.2.2
    have li : i < ((fwl ad M).map (fun q => q.1)).length := by rw [List.length_map]; exact (List.getElem?_eq_some_iff.mp hi).1
    refine (List.getElem?_inj li nd).mp ?_
    rw [List.getElem?_map, List.getElem?_map, hi, hj]
    simp [hpq]
  · obtain ⟨l, -, h2, h3⟩ := fwl_mem.mp (List.mem_of_getElem? hk)
    have := (h.2.2.1 l q.2 h2).1
    rw [h3] at this
    exact this
theorem fh_k {g : fG} {ad : Nat → Nat} {M : fM} {H : Heap} {l : Nat} {e : va_E} (h : fh g ad M H) (hl : M l = some e) : ∃ k : Nat, (fwl ad M)[k]? = some (ad l, e) :=
  List.getElem?_of_mem (fwl_mem.mpr ⟨l, h.2.1 l (by rw [hl]; exact fun z => by cases z), hl, rfl⟩)
/-- a list of cells that covers the new map -/
theorem fh_of {g : fG} {ad : Nat → Nat} {M : fM} {H : Heap} {ws : va_W} (hb : gB g ≤ H.size) (hP : va_P (gD g) vwCl ws H) (hD : va_D (fA g) ws) (h4 : ∀ l, M l ≠ none → l < 4096) (hm : ∀ l e, M l = some e → (ad l, e) ∈ ws) (inj : ∀ l l', M l ≠ none → M l' ≠ none → ad l = ad l' → l = l') : fh g ad M H := by
  refine ⟨hb, h4, fun l e hl => ?_, inj⟩
  obtain ⟨k, hk⟩ := List.getElem?_of_mem (hm l e hl)
  exact ⟨hD.2 k _ hk, hP k _ hk⟩
theorem fh_set {g : fG} {ad : Nat → Nat} {M : fM} {H H1 : Heap} {k l : Nat} {e e' : va_E} (h : fh g ad M H) (hl : M l = some e) (hk : (fwl ad M)[k]? = some (ad l, e)) (hz : gB g ≤ H1.size) (hP : va_P (gD g) vwCl ((fwl ad M).set k (ad l, e')) H1) (hD : va_D (fA g) ((fwl ad M).set k (ad l, e'))) : fh g ad (fU M l e') H1 := by
  have key : ∀ x, fU M l e' x ≠ none → M x ≠ none := by
    intro x hx
    by_cases hxl : x = l
    · rw [hxl, hl]; exact fun z => by cases z
    · rwa [fU_n hxl] at hx
  have lk := (List.getElem?_eq_some_iff.mp hk).1
  refine fh_of hz hP hD (fun x hx => h.2.1 x (key x hx)) (fun x e9 hx => ?_) (fun x y hx hy => h.2.2.2 x y (key x hx) (key y hy))
  by_cases hxl : x = l
  · subst hxl
    rw [fU_s] at hx
    cases hx
    exact List.mem_of_getElem? (List.getElem?_set_self lk)
  · rw [fU_n hxl] at hx
    obtain ⟨j, hj⟩ := fh_k h hx
    have hjk : j ≠ k := by
      rintro rfl
      rw [hj] at hk
      exact hxl (h.2.2.2 x l (by rw [hx]; exact fun z => by cases z) (by rw [hl]; exact fun z => by cases z) (congrArg Prod.fst (Option.some.inj hk)))
    refine List.mem_of_getElem? (i := j) ?_
    rw [List.getElem?_set_ne (Ne.symm hjk)]
    exact hj
theorem fh_push {g : fG} {ad : Nat → Nat} {M : fM} {H H1 : Heap} {l q : Nat} {e : va_E} (h : fh g ad M H) (h4 : l < 4096) (hz : gB g ≤ H1.size) (hP : va_P (gD g) vwCl (fwl ad M ++ [(q, e)]) H1) (hD : va_D (fA g) (fwl ad M ++ [(q, e)])) : fh g (fV ad l q) (fU M l e) H1 := by
  have fresh : ∀ x, M x ≠ none → ad x ≠ q := by
    intro x hx hq
    cases hM : M x with
    | none => exact hx hM
    | some ex =>
      obtain ⟨j, hj⟩ := fh_k h hM
      have lj := (List.getElem?_eq_some_iff.mp hj).1
      have a1 : (fwl ad M ++ [(q, e)])[j]? = some (ad x, ex) := by rw [List.getElem?_append_left lj]; exact hj
      have a2 : (fwl ad M ++ [(q, e)])[(fwl ad M).length]? = some (q, e) := by rw [List.getElem?_append_right (Nat.le_refl _), Nat.sub_self]; rfl
      have := hD.1 _ _ _ _ a1 a2 hq
      omega
  have at' : ∀ x, x ≠ l → fU M l e x = M x ∧ fV ad l q x = ad x := fun x hx => ⟨fU_n hx, fV_n hx⟩
  refine fh_of hz hP hD (fun x hx => ?_) (fun x e9 hx => ?_) (fun x y hx hy hxy => ?_)
  · by_cases hxl : x = l
    · rw [hxl]; exact h4
    · rw [(at' x hxl).1] at hx
      exact h.2.1 x hx
  · by_cases hxl : x = l
    · subst hxl
      rw [fU_s] at hx
      cases hx
      rw [fV_s]
      exact List.mem_append_right _ List.mem_cons_self
    · rw [(at' x hxl).1] at hx
      rw [(at' x hxl).2]
      exact List.mem_append_left _ (fwl_mem.mpr ⟨x, h.2.1 x (by rw [hx]; exact fun z => by cases z), hx, rfl⟩)
  · by_cases hxl : x = l <;> by_cases hyl : y = l
    · rw [hxl, hyl]
    · rw [hxl, fV_s, (at' y hyl).2] at hxy
      rw [(at' y hyl).1] at hy
      exact absurd hxy.symm (fresh y hy)
    · rw [hyl, fV_s, (at' x hxl).2] at hxy
      rw [(at' x hxl).1] at hx
      exact absurd hxy (fresh x hx)
    · rw [(at' x hxl).1] at hx
      rw [(at' y hyl).1] at hy
      rw [(at' x hxl).2, (at' y hyl).2] at hxy
      exact h.2.2.2 x y hx hy hxy
theorem fh_less {g : fG} {ad : Nat → Nat} {M M' : fM} {H : Heap} (h : fh g ad M H) (hs : ∀ l e, M' l = some e → M l = some e) : fh g ad M' H := by
  have key : ∀ x, M' x ≠ none → M x ≠ none := by
    intro x hx
    cases hM : M' x with
    | none => exact absurd hM hx
    | some e => rw [hs x e hM]; exact fun z => by cases z
  exact ⟨h.1, fun x hx => h.2.1 x (key x hx), fun l e hl => h.2.2.1 l e (hs l e hl), fun x y hx hy => h.2.2.2 x y (key x hx) (key y hy)⟩
/-! what the tables say, and the statics that nobody writes -/
def nestW : Cond → Bool
  | .fieldLinkNest .. => true
  | .methodLinkNest .. => true
  | .castable .. => true
  | .declares .. => true
  | _ => false
theorem nestW_warm {w : Cond} (h : nestW w = true) {s U : State} (hW : s.WarmedH U.vm) (hZ : va_Nw w s) : va_Nw w U := by
  cases w <;> first
    | (simp [nestW] at h; done)
    | exact va_Nw.warmF hW hZ
    | exact va_Nw.warmM hW hZ
    | exact va_Nw.warmC hW hZ
    | exact va_Nw.warmD hW hZ
theorem nestW_tab {w : Cond} (h : nestW w = true) : w.onTables = true := by
  cases w <;> first | (simp [nestW] at h; done) | rfl
theorem NW_ok : ∀ w ∈ NW, nestW w = true := by decide
/-- rows of int rows can be made -/
def fAO (U : State) : Prop := (Cond.arrayOver (.array .int)).before #[] U = true
theorem fAO_moved {u U : State} (hvm : u.vm.Alike U.vm) (h : fAO u) : fAO U := by
  obtain ⟨comp, c, k, h1, h2, h3, h4, h5⟩ := arrayOverA_spec h
  obtain ⟨k', hk', he⟩ := hvm.2.2 _ _ h3
  have hi : (U.vm.classes.findIdx? fun (x : Class) => match x.kind with | .array component _ => component == comp | _ => false) = some c := by
    rw [hvm.findIdx?_eq _ (fun _ => rfl)]
    exact h2
  have hkind : k'.kind = .array comp (.array .int) := by rw [he]; exact h4
  have f1 : U.vm.findClass (FieldType.array .int).toString = some comp := by rw [hvm.findClass]; exact h1
  have f2 : U.vm.findClass ("[" ++ (FieldType.array .int).toString) = some c := by rw [hvm.findClass]; exact h5
  unfold fAO Cond.before Cond.holds
  simp only [Cond.value]
  rw [f1, Option.bind_some]
  refine (congrArg (fun o : Option Nat => (o.bind (fun c => (U.vm.classes[c]?).map fun (k : Class) => match k.kind with | .array _ ty => decide (ty = FieldType.array .int) && decide (U.vm.findClass ("[" ++ (FieldType.array .int).toString) = some c) | _ => false) == some true)) hi).trans ?_
  simp [hk', hkind, f2]
def fK (g : fG) (U : State) : Prop := va_K (gD g) vwCl (fT g) U ∧ (∀ w ∈ NW, va_Nw w U) ∧ True ∧ va_AO "java/lang/Object" U ∧ va_Mi "[Ljava/lang/Object;" (gS g 0) U ∧ fAO U ∧ va_AO "FireEnginesLaw$House" U ∧ va_AO "FireEnginesLaw$Engine" U
theorem fK_warm {g : fG} {s U : State} (hW : s.WarmedH U.vm) (h : fK g s) : fK g U :=
  ⟨va_K.moved hW.alike h.1, fun w hw => nestW_warm (NW_ok w hw) hW (h.2.1 w hw), trivial, va_AO.moved hW.alike h.2.2.2.1, va_Mi.moved hW.alike h.2.2.2.2.1, fAO_moved hW.alike h.2.2.2.2.2.1, va_AO.moved hW.alike h.2.2.2.2.2.2.1, va_AO.moved hW.alike h.2.2.2.2.2.2.2⟩
theorem fK_same {g : fG} {s U : State} (hv : U.vm = s.vm) (h : fK g s) : fK g U := by
  have ha : s.vm.Alike U.vm := by rw [hv]; exact Vm.Alike.refl _
  exact ⟨va_K.moved ha h.1, fun w hw => va_Nw.same (nestW_tab (NW_ok w hw)) hv.symm (h.2.1 w hw), trivial, va_AO.moved ha h.2.2.2.1, va_Mi.moved ha h.2.2.2.2.1, fAO_moved ha h.2.2.2.2.2.1, va_AO.moved ha h.2.2.2.2.2.2.1, va_AO.moved ha h.2.2.2.2.2.2.2⟩
/-- a cell under another label -/
theorem fh_move {g : fG} {ad : Nat → Nat} {M : fM} {H : Heap} {lx la : Nat} {e : va_E} (h : fh g ad M H) (hx : M lx = some e) (ha : la < 4096) (hne : lx ≠ la) : fh g (fV ad la (ad lx)) (fun l => if l = la then some e else if l = lx then none else M l) H := by
  obtain ⟨h1, h2, h3, h4⟩ := h
  have nx : M lx ≠ none := by rw [hx]; exact fun z => by cases z
  have key : ∀ l, l ≠ la → (fun l => if l = la then some e else if l = lx then none else M l) l ≠ none → l ≠ lx ∧ M l ≠ none := by
    intro l hl hn
    simp only [if_neg hl] at hn
    by_cases q : l = lx
    · rw [if_pos q] at hn; exact absurd rfl hn
    · rw [if_neg q] at hn; exact ⟨q, hn⟩
  refine ⟨h1, fun l hn => ?_, fun l e9 hl => ?_, fun l l' hn hn' hE => ?_⟩
  · by_cases q : l = la
    · rw [q]; exact ha
    · exact h2 l (key l q hn).2
  · by_cases q : l = la
    · simp only [if_pos q] at hl
      cases hl
      rw [q, fV_s]
      exact h3 lx e hx
    · have k := key l q (by rw [hl]; exact fun z => by cases z)
      simp only [if_neg q, if_neg k.1] at hl
      rw [fV_n q]
      exact h3 l e9 hl
  · by_cases q : l = la <;> by_cases q' : l' = la
    · rw [q, q']
    · have k := key l' q' hn'
      rw [q, fV_s, fV_n q'] at hE
      exact absurd (h4 _ _ nx k.2 hE).symm k.1
    · have k := key l q hn
      rw [q', fV_s, fV_n q] at hE
      exact absurd (h4 _ _ k.2 nx hE) k.1
    · have k := key l q hn
      have k' := key l' q' hn'
      rw [fV_n q, fV_n q'] at hE
      exact h4 _ _ k.2 k'.2 hE
def fz (g : fG) (U : State) (H : Heap) : Prop := gB g ≤ H.size ∧ va_Z "java/util/ArrayList" "DEFAULTCAPACITY_EMPTY_ELEMENTDATA" "[Ljava/lang/Object;" (.ref (gE g)) (fA g) U H ∧ va_T (.object "java/lang/Object") (gE g) 0 (fun _ => .null) (fA g) U H ∧ va_X (gXb g) (gXn g) (gXf g) U H ∧ ¬ fA g (gXb g)
theorem fz_moved {g : fG} {u U : State} {H : Heap} (hvm : u.vm.Alike U.vm) (h : fz g u H) : fz g U H := ⟨h.1, va_Z.moved hvm h.2.1, va_T.moved hvm h.2.2.1, va_X.moved hvm h.2.2.2.1, h.2.2.2.2⟩
theorem fz_kept {g : fG} {U : State} {H H1 : Heap} (h : fz g U H) (hz : H.size ≤ H1.size) (hq : ∀ a : Nat, a < H.size → ¬ fA g a → H1[a]? = H[a]?) : fz g U H1 := ⟨Nat.le_trans h.1 hz, va_Z.kept h.2.1 hq, va_T.kept h.2.2.1 hq, va_X.kept h.2.2.2.1 (by obtain ⟨scr, h1, -⟩ := h.2.2.2.1; exact hq _ (Array.getElem?_eq_some_iff.mp h1).1 h.2.2.2.2), h.2.2.2.2⟩
def fS (g : fG) (ad : Nat → Nat) (M : fM) (U : State) : Prop := fK g U ∧ fz g U U.heap ∧ fh g ad M U.heap
theorem fS_blind {g : fG} {ad : Nat → Nat} {M : fM} {av : List Value} : FrameBlind (va_Pc av (fS g ad M)) := by
  intro a U g9 mk h
  exact ⟨h.1, fK_same (s := U) (U := U.calling g9 mk a) rfl h.2.1, fz_moved (u := U) (U := U.calling g9 mk a) (Vm.Alike.refl U.vm) h.2.2.1, h.2.2.2⟩
/-- what holds of the machine and the tables all through a body -/
def fX (p : Program) (s : State) (m : MethodId) (args : Array Value) (meth : Method) (c : Code) (cc : ByteArray) (nL : Nat) (ret : Option FieldType) (own : String) (g : fG) : Prop :=
  p.tables.exec = Jvm.exec ∧ c.code = cc ∧ c.maxLocals = nL ∧ s.vm.findClass own = some m.cls ∧ (∀ w ∈ AL, w.before args s = true) ∧ fK g s ∧ fz g s s.heap ∧ meth.sig.returnType = ret ∧ meth.locks = false
/-- .. and of the world at a point of it -/
def fw (g : fG) (ad : Nat → Nat) (M : fM) (s : State) (H : Heap) (locs : List Loc) : Prop := fh g ad M H ∧ va_S (fA g) s.heap H locs
theorem fw_A {g : fG} {s : State} (h : fz g s s.heap) : ∀ q, s.heap.size ≤ q → fA g q := fun _ hq => Nat.le_trans h.1 hq
theorem fw_less {g : fG} {ad : Nat → Nat} {M M' : fM} {s : State} {H : Heap} {locs : List Loc} (h : fw g ad M s H locs) (hs : ∀ l e, M' l = some e → M l = some e) : fw g ad M' s H locs := ⟨fh_less h.1 hs, h.2⟩
abbrev fWs (y : MethodName) (cc : ByteArray) (maxL : Nat) (ret : Option FieldType) : List Cond := .code y cc maxL ret :: AL
abbrev fR (fr lo mc ms : Nat) : Room := { frames := fr, cells := mc, slots := ms, locals := lo }
theorem f_good {ws : List Cond} (h : ∀ w ∈ ws, w ∈ AL) : GoodIn AL ws := fun w hw => ⟨h w hw, good_of_word (AL_good w (h w hw))⟩
/-- a method's contract, out of the walk of its body -/
theorem f_body {l : Launch} {g : fG} {y : MethodName} {own : String} {cc : ByteArray} {maxL : Nat} {ret : Option FieldType} {fr lo mc ms : Nat} {ad : Nat → Nat} {M : fM} {av : List Value} {Qc : Array Value → State → Outcome → State → Prop} {free : Addr → Prop}
    (hy : plainName y.cls = true) (ho : y.cls = own) (hn : (lg_sl av).length ≤ maxL)
    (body : ∀ (p : Program) (e : Env) (s : State) (m : MethodId) (args : Array Value) (below : List Frame) (meth : Method) (c : Code) (ls : Array Slot), fX p s m args meth c cc maxL ret own g → fw g ad M s s.heap [] → (y.name = "<init>" → meth.name = "<init>") → lv_has ls maxL (lv_args 0 av) →
      W p l e (fR fr lo mc ms) s m args below meth c s.heap [] 0 0 (MQ below Qc args s mc ms free) (F0 m 0 ls [])) :
    Met l y (fWs y cc maxL ret) (fR fr lo mc ms) (va_Pc av (fS g ad M)) Qc mc ms free := by
  refine Met.ofW (cc := cc) (maxL := maxL) (ret := ret) hy rfl ?_
  intro p e s m args below meth c s₁ B hml hv
  obtain ⟨rfl, hK, hz, hh⟩ := hv
  have hts := atoms_spec (ws := fWs y cc maxL ret) B.pre
  have hown : s.vm.findClass y.cls = some m.cls := findClass_of_methodNamed B.named
  have hl := lv_entry av hn
  rw [lg_entry_eq]
  exact body p e s m _ below meth c _ ⟨B.exec, B.bytes, hml, by rw [← ho]; exact hown, fun w hw => hts w (List.mem_cons_of_mem _ hw), hK, hz, B.returns, B.notSynchronized⟩ ⟨hh, va_S.rf⟩ (fun h => (name_of_methodNamed B.named B.method).1.trans h) hl
section FWALK
variable {p : Program} {l : Launch} {e : Env} {R : Room} {s : State} {m : MethodId} {args : Array Value} {below : List Frame} {meth : Method} {c : Code} {H : Heap} {locs : List Loc} {cells slots : Nat} {Q : State → Prop}
variable {cc : ByteArray} {nL : Nat} {ret : Option FieldType} {own : String} {g : fG} {ad : Nat → Nat} {M : fM} {pc : Nat} {ls : Array Slot} {rest : List Value} {lb q9 : Nat}
/-- the class's words, once a class -/
def fcl (ci : Nat) (C : String) (T : u_T) (N : Nat) (ty : Nat → FieldType) : Prop := vwCl[ci]? = some (C, T, N) ∧ (∀ w ∈ u_ws C T N, w ∈ AL) ∧ (∀ k, k < N → parseFieldDescriptor (T k).2.2.1 = some (ty k)) ∧ (∀ a, a < N → ∀ b, b < N → a ≠ b → (T a).2.1 ≠ (T b).2.1)
theorem f_single {D : va_G} {cl : List vw_C} {q : Nat × va_E} (h : va_at D cl q H) : va_P D cl [q] H := by
  intro k q' hk
  have hz : k < 1 := (List.getElem?_eq_some_iff.mp hk).1
  rw [show k = 0 by omega] at hk
  cases hk
  exact h
theorem f_get (X : fX p s m args meth c cc nL ret own g) (hw : fw g ad M s H locs) {ci index : Nat} {C : String} {T : u_T} {N : Nat} {ty : Nat → FieldType} {fs : List Value} (hM : M lb = some (.inr (ci, fs))) (hc : fcl ci C T N ty) (k : Nat) (hk : k < N)
    (hlink : Cond.fieldLink own index C (T k).2.1 (T k).2.2.1 ∈ AL) (ho : (T k).1 = C) {v : Value} (hv : fs[k]? = some v) (hdg : decode cc pc = .ok (.getfield index, 3))
    (kk : W p l e R s m args below meth c H locs cells slots Q (F0 m (pc + 3) ls (v :: rest))) : W p l e R s m args below meth c H locs cells slots Q (F0 m pc ls (.ref (ad lb) :: rest)) := by
  obtain ⟨hx, hb, hml, hown, hts, hK, hz, hr, hlk⟩ := X
  exact va_get hx hb hts hc.2.1 hown hK.1 (f_single (hw.1.2.2.1 lb _ hM).2) 0 rfl hc.1 k hk (hts _ hlink) (fun _ h => by rw [ho] at h; exact h) hv hdg kk
theorem f_getN (X : fX p s m args meth c cc nL ret own g) (hw : fw g ad M s H locs) {ci index : Nat} {C host : String} {T : u_T} {N : Nat} {ty : Nat → FieldType} {fs : List Value} (hM : M lb = some (.inr (ci, fs))) (hc : fcl ci C T N ty) (k : Nat) (hk : k < N)
    (hlink : Cond.fieldLinkNest own index C (T k).2.1 (T k).2.2.1 host ∈ NW) (ho : (T k).1 = C) {v : Value} (hv : fs[k]? = some v) (hdg : decode cc pc = .ok (.getfield index, 3))
    (kk : W p l e R s m args below meth c H locs cells slots Q (F0 m (pc + 3) ls (v :: rest))) : W p l e R s m args below meth c H locs cells slots Q (F0 m pc ls (.ref (ad lb) :: rest)) := by
  obtain ⟨hx, hb, hml, hown, hts, hK, hz, hr, hlk⟩ := X
  exact va_getN hx hb hts hc.2.1 hown hK.1 (f_single (hw.1.2.2.1 lb _ hM).2) 0 rfl hc.1 k hk (va_Nw.use rfl (hK.2.1 _ hlink)) (fun _ h => by rw [ho] at h; exact h) hv hdg kk
theorem f_put (X : fX p s m args meth c cc nL ret own g) (hw : fw g ad M s H locs) {ci index : Nat} {C : String} {T : u_T} {N : Nat} {ty : Nat → FieldType} {fs : List Value} (hM : M lb = some (.inr (ci, fs))) (hc : fcl ci C T N ty) (k : Nat) (hk : k < N)
    (hlink : Cond.fieldLink own index C (T k).2.1 (T k).2.2.1 ∈ AL) (ho : (T k).1 = C) (hfin : (T k).2.2.2 = false) {v : Value} (hn : narrow (ty k) v = v) (hfit : fits (ty k) v = true) (hl : k < fs.length) (hdg : decode cc pc = .ok (.putfield index, 3))
    (kk : ∀ (H1 : Heap) (locs1 : List Loc), fw g ad (fU M lb (.inr (ci, fs.set k v))) s H1 locs1 → W p l e R s m args below meth c H1 locs1 cells slots Q (F0 m (pc + 3) ls rest)) : W p l e R s m args below meth c H locs cells slots Q (F0 m pc ls (v :: .ref (ad lb) :: rest)) := by
  obtain ⟨hx, hb, hml, hown, hts, hK, hz, hr, hlk⟩ := X
  obtain ⟨j, hj⟩ := fh_k hw.1 hM
  exact va_put hx hb hts hc.2.1 ty hc.2.2.1 hc.2.2.2 hown hK.1 (fh_P hw.1) (fh_D hw.1) hw.2 j hj hc.1 k hk (hts _ hlink) (fun _ h => by rw [ho] at h; exact h) hfin (hc.2.2.1 k hk) hn hfit hl hdg (fun H1 locs1 hP hD hS => kk H1 locs1 ⟨fh_set hw.1 hM hj (Nat.le_trans hz.1 hS.1) hP hD, hS⟩)
theorem f_putN (X : fX p s m args meth c cc nL ret own g) (hw : fw g ad M s H locs) {ci index : Nat} {C host : String} {T : u_T} {N : Nat} {ty : Nat → FieldType} {fs : List Value} (hM : M lb = some (.inr (ci, fs))) (hc : fcl ci C T N ty) (k : Nat) (hk : k < N)
    (hlink : Cond.fieldLinkNest own index C (T k).2.1 (T k).2.2.1 host ∈ NW) (ho : (T k).1 = C) (hfin : (T k).2.2.2 = false) {v : Value} (hn : narrow (ty k) v = v) (hfit : fits (ty k) v = true) (hl : k < fs.length) (hdg : decode cc pc = .ok (.putfield index, 3))
    (kk : ∀ (H1 : Heap) (locs1 : List Loc), fw g ad (fU M lb (.inr (ci, fs.set k v))) s H1 locs1 → W p l e R s m args below meth c H1 locs1 cells slots Q (F0 m (pc + 3) ls rest)) : W p l e R s m args below meth c H locs cells slots Q (F0 m pc ls (v :: .ref (ad lb) :: rest)) := by
  obtain ⟨hx, hb, hml, hown, hts, hK, hz, hr, hlk⟩ := X
  obtain ⟨j, hj⟩ := fh_k hw.1 hM
  exact va_putN hx hb hts hc.2.1 ty hc.2.2.1 hc.2.2.2 hown hK.1 (fh_P hw.1) (fh_D hw.1) hw.2 j hj hc.1 k hk (va_Nw.use rfl (hK.2.1 _ hlink)) (fun _ h => by rw [ho] at h; exact h) hfin (hc.2.2.1 k hk) hn hfit hl hdg (fun H1 locs1 hP hD hS => kk H1 locs1 ⟨fh_set hw.1 hM hj (Nat.le_trans hz.1 hS.1) hP hD, hS⟩)
theorem f_putF (X : fX p s m args meth c cc nL ret own g) (hw : fw g ad M s H locs) {ci index : Nat} {C : String} {T : u_T} {N : Nat} {ty : Nat → FieldType} {fs : List Value} (hM : M lb = some (.inr (ci, fs))) (hc : fcl ci C T N ty) (k : Nat) (hk : k < N)
    (hlink : Cond.fieldLink own index C (T k).2.1 (T k).2.2.1 ∈ AL) (ho : (T k).1 = C) (hfin : (T k).2.2.2 = true) (hin2 : meth.name = "<init>") (hdecl : (T k).1 = own) {v : Value} (hn : narrow (ty k) v = v) (hfit : fits (ty k) v = true) (hl : k < fs.length) (hdg : decode cc pc = .ok (.putfield index, 3))
    (kk : ∀ (H1 : Heap) (locs1 : List Loc), fw g ad (fU M lb (.inr (ci, fs.set k v))) s H1 locs1 → W p l e R s m args below meth c H1 locs1 cells slots Q (F0 m (pc + 3) ls rest)) : W p l e R s m args below meth c H locs cells slots Q (F0 m pc ls (v :: .ref (ad lb) :: rest)) := by
  obtain ⟨hx, hb, hml, hown, hts, hK, hz, hr, hlk⟩ := X
  obtain ⟨j, hj⟩ := fh_k hw.1 hM
  exact va_putF hx hb hts hc.2.1 ty hc.2.2.1 hc.2.2.2 hown hK.1 (fh_P hw.1) (fh_D hw.1) hw.2 j hj hc.1 k hk (hts _ hlink) (fun _ h => by rw [ho] at h; exact h) hfin hin2 hdecl (hc.2.2.1 k hk) hn hfit hl hdg (fun H1 locs1 hP hD hS => kk H1 locs1 ⟨fh_set hw.1 hM hj (Nat.le_trans hz.1 hS.1) hP hD, hS⟩)
theorem f_iald (X : fX p s m args meth c cc nL ret own g) (hw : fw g ad M s H locs) {n : Nat} {f : Nat → Int32} (hM : M lb = some (.inl (gI g, n, .inl f))) {i : Int32} (hin : vp_in i n) (hdg : decode cc pc = .ok (.iaload, 1))
    (kk : W p l e R s m args below meth c H locs cells slots Q (F0 m (pc + 1) ls (.int (f i.toNatClampNeg) :: rest))) : W p l e R s m args below meth c H locs cells slots Q (F0 m pc ls (.int i :: .ref (ad lb) :: rest)) := by
  obtain ⟨hx, hb, hml, hown, hts, hK, hz, hr, hlk⟩ := X
  exact va_iald hx hb hK.1 (f_single (hw.1.2.2.1 lb _ hM).2) 0 0 rfl rfl hin hdg kk
theorem f_zald (X : fX p s m args meth c cc nL ret own g) (hw : fw g ad M s H locs) {n : Nat} {f : Nat → Int32} (hM : M lb = some (.inl (gZ g, n, .inl f))) {i : Int32} (hin : vp_in i n) (hdg : decode cc pc = .ok (.baload, 1))
    (kk : W p l e R s m args below meth c H locs cells slots Q (F0 m (pc + 1) ls (.int (f i.toNatClampNeg) :: rest))) : W p l e R s m args below meth c H locs cells slots Q (F0 m pc ls (.int i :: .ref (ad lb) :: rest)) := by
  obtain ⟨hx, hb, hml, hown, hts, hK, hz, hr, hlk⟩ := X
  exact va_zald hx hb hK.1 (f_single (hw.1.2.2.1 lb _ hM).2) 0 1 rfl rfl hin hdg kk
theorem f_alen (X : fX p s m args meth c cc nL ret own g) (hw : fw g ad M s H locs) {x : vp_A} {cA : ClassId} {ty : FieldType} (t0 : Nat) (hM : M lb = some (.inl (cA, x))) (ht : (fT g)[t0]? = some (cA, ty)) (hdg : decode cc pc = .ok (.arraylength, 1))
    (kk : W p l e R s m args below meth c H locs cells slots Q (F0 m (pc + 1) ls (.int (nI x.1) :: rest))) : W p l e R s m args below meth c H locs cells slots Q (F0 m pc ls (.ref (ad lb) :: rest)) := by
  obtain ⟨hx, hb, hml, hown, hts, hK, hz, hr, hlk⟩ := X
  exact va_alen hx hb hK.1 (f_single (hw.1.2.2.1 lb _ hM).2) 0 t0 rfl ht rfl hdg kk
theorem f_iast (X : fX p s m args meth c cc nL ret own g) (hw : fw g ad M s H locs) {n : Nat} {f : Nat → Int32} (hM : M lb = some (.inl (gI g, n, .inl f))) {i : Int32} {x : Int32} (hin : vp_in i n) (hdg : decode cc pc = .ok (.iastore, 1))
    (kk : ∀ (H1 : Heap) (locs1 : List Loc), fw g ad (fU M lb (.inl (gI g, n, .inl (upd f i.toNatClampNeg x)))) s H1 locs1 → W p l e R s m args below meth c H1 locs1 cells slots Q (F0 m (pc + 1) ls rest)) : W p l e R s m args below meth c H locs cells slots Q (F0 m pc ls (.int x :: .int i :: .ref (ad lb) :: rest)) := by
  obtain ⟨hx, hb, hml, hown, hts, hK, hz, hr, hlk⟩ := X
  obtain ⟨j, hj⟩ := fh_k hw.1 hM
  exact va_iast hx hb hK.1 (fh_P hw.1) (fh_D hw.1) hw.2 j 0 hj rfl hin hdg (fun H1 locs1 hP hD hS => kk H1 locs1 ⟨fh_set hw.1 hM hj (Nat.le_trans hz.1 hS.1) hP hD, hS⟩)
theorem f_zast (X : fX p s m args meth c cc nL ret own g) (hw : fw g ad M s H locs) {n : Nat} {f : Nat → Int32} (hM : M lb = some (.inl (gZ g, n, .inl f))) {i : Int32} {x : Int32} (hin : vp_in i n) (hdg : decode cc pc = .ok (.bastore, 1))
    (kk : ∀ (H1 : Heap) (locs1 : List Loc), fw g ad (fU M lb (.inl (gZ g, n, .inl (upd f i.toNatClampNeg (x &&& 1))))) s H1 locs1 → W p l e R s m args below meth c H1 locs1 cells slots Q (F0 m (pc + 1) ls rest)) : W p l e R s m args below meth c H locs cells slots Q (F0 m pc ls (.int x :: .int i :: .ref (ad lb) :: rest)) := by
  obtain ⟨hx, hb, hml, hown, hts, hK, hz, hr, hlk⟩ := X
  obtain ⟨j, hj⟩ := fh_k hw.1 hM
  exact va_zast hx hb hK.1 (fh_P hw.1) (fh_D hw.1) hw.2 j 1 hj rfl hin hdg (fun H1 locs1 hP hD hS => kk H1 locs1 ⟨fh_set hw.1 hM hj (Nat.le_trans hz.1 hS.1) hP hD, hS⟩)
theorem f_new (X : fX p s m args meth c cc nL ret own g) (hw : fw g ad M s H locs) {ci index : Nat} {C : String} {T : u_T} {N : Nat} {ty : Nat → FieldType} (ln : Nat) (h4 : ln < 4096) (hc : fcl ci C T N ty) (hcl : Cond.classLink own index C ∈ AL) (hinst : Cond.instantiable C N ∈ AL) (hini : Cond.initialized C ∈ AL)
    {fs : List Value} (hfs : ∀ j, j < N → defaultValue (ty j) = vp_V fs j) (hcells : cells + 1 ≤ R.cells) (hslots : slots + N ≤ R.slots) (hdg : decode cc pc = .ok (.new index, 3))
    (kk : ∀ (q : Nat) (H1 : Heap), fw g (fV ad ln q) (fU M ln (.inr (ci, fs))) s H1 locs → W p l e R s m args below meth c H1 locs (cells + 1) (slots + N) Q (F0 m (pc + 3) ls (.ref q :: rest))) : W p l e R s m args below meth c H locs cells slots Q (F0 m pc ls rest) := by
  obtain ⟨hx, hb, hml, hown, hts, hK, hz, hr, hlk⟩ := X
  exact va_new hx hb hts hc.2.1 ty hc.2.2.1 hown (hts _ hcl) (hts _ hinst) (hts _ hini) hK.1 (fh_P hw.1) (fh_D hw.1) hw.2 (fw_A hz) hc.1 hfs hcells hslots hdg (fun q H1 hP hD hS => kk q H1 ⟨fh_push hw.1 h4 (Nat.le_trans hz.1 hS.1) hP hD, hS⟩)
theorem f_newI (X : fX p s m args meth c cc nL ret own g) (hw : fw g ad M s H locs) (ln : Nat) (h4 : ln < 4096) (harr : Cond.arrayClass .int ∈ AL) {n : Int32} {N' : Nat} (hn : ¬ n < 0) (hN : n.toNatClampNeg = N') (hbytes : N' * componentBytes .int ≤ 536870912) (hcells : cells + 1 ≤ R.cells) (hslots : slots + N' ≤ R.slots) (hdg : decode cc pc = .ok (.newarray .int, 2))
    (kk : ∀ (q : Nat) (H1 : Heap), fw g (fV ad ln q) (fU M ln (.inl (gI g, N', .inl (fun _ => 0)))) s H1 locs → W p l e R s m args below meth c H1 locs (cells + 1) (slots + N') Q (F0 m (pc + 2) ls (.ref q :: rest))) : W p l e R s m args below meth c H locs cells slots Q (F0 m pc ls (.int n :: rest)) := by
  obtain ⟨hx, hb, hml, hown, hts, hK, hz, hr, hlk⟩ := X
  refine va_newa (atype := .int) (a0 := (N', .inl (fun _ => 0))) hx hb (hts _ harr) rfl hK.1 (fh_P hw.1) (fh_D hw.1) hw.2 (fw_A hz) (fun _ => rfl) hn hN hbytes hcells hslots hdg (fun q cA H1 hK1 hP hD hS => ?_)
  have e1 : cA = gI g := by
    have a1 := (hK1.2 6 (cA, .int) rfl).2
    have a2 := (hK.1.2 0 (gI g, .int) rfl).2
    exact Option.some.inj (a1.symm.trans a2)
  subst e1
  exact kk q H1 ⟨fh_push hw.1 h4 (Nat.le_trans hz.1 hS.1) hP hD, hS⟩
theorem f_newZ (X : fX p s m args meth c cc nL ret own g) (hw : fw g ad M s H locs) (ln : Nat) (h4 : ln < 4096) (harr : Cond.arrayClass .boolean ∈ AL) {n : Int32} {N' : Nat} (hn : ¬ n < 0) (hN : n.toNatClampNeg = N') (hbytes : N' * componentBytes .boolean ≤ 536870912) (hcells : cells + 1 ≤ R.cells) (hslots : slots + N' ≤ R.slots) (hdg : decode cc pc = .ok (.newarray .boolean, 2))
    (kk : ∀ (q : Nat) (H1 : Heap), fw g (fV ad ln q) (fU M ln (.inl (gZ g, N', .inl (fun _ => 0)))) s H1 locs → W p l e R s m args below meth c H1 locs (cells + 1) (slots + N') Q (F0 m (pc + 2) ls (.ref q :: rest))) : W p l e R s m args below meth c H locs cells slots Q (F0 m pc ls (.int n :: rest)) := by
  obtain ⟨hx, hb, hml, hown, hts, hK, hz, hr, hlk⟩ := X
  refine va_newa (atype := .boolean) (a0 := (N', .inl (fun _ => 0))) hx hb (hts _ harr) rfl hK.1 (fh_P hw.1) (fh_D hw.1) hw.2 (fw_A hz) (fun _ => rfl) hn hN hbytes hcells hslots hdg (fun q cA H1 hK1 hP hD hS => ?_)
  have e1 : cA = gZ g := by
    have a1 := (hK1.2 6 (cA, .boolean) rfl).2
    have a2 := (hK.1.2 1 (gZ g, .boolean) rfl).2
    exact Option.some.inj (a1.symm.trans a2)
  subst e1
  exact kk q H1 ⟨fh_push hw.1 h4 (Nat.le_trans hz.1 hS.1) hP hD, hS⟩
/-- returns -/
theorem f_iret (X : fX p s m args meth c cc nL (some .int) own g) (hw : fw g ad M s H locs) {post : Int32 → (Nat → Nat) → fM → Prop} {v : Int32} {mc ms : Nat} (hp : post v ad M) (hc : cells ≤ mc) (hs : slots ≤ ms) (hdg : decode cc pc = .ok (.ireturn, 1)) :
    W p l e R s m args below meth c H locs cells slots (MQ below (va_Qi (fun r (u : (Nat → Nat) × fM) => post r u.1 u.2) (fun u t => fh g u.1 u.2 t.heap) (fA g)) args s mc ms (fA g)) (F0 m pc ls [.int v]) := by
  obtain ⟨hx, hb, hml, hown, hts, hK, hz, hr, hlk⟩ := X
  exact W.widen hc hs (W.iret hx hb hr (fun t ht _ => ⟨⟨v, (ad, M), rfl, hp, (by show fh g ad M t.heap; rw [ht]; exact hw.1)⟩, hw.2.F ht⟩) hw.2.2.2 hdg hlk)
theorem f_zret (X : fX p s m args meth c cc nL (some .boolean) own g) (hw : fw g ad M s H locs) {post : Int32 → (Nat → Nat) → fM → Prop} {v : Int32} {mc ms : Nat} (hn : narrow .boolean (.int v) = .int v) (hp : post v ad M) (hc : cells ≤ mc) (hs : slots ≤ ms) (hdg : decode cc pc = .ok (.ireturn, 1)) :
    W p l e R s m args below meth c H locs cells slots (MQ below (va_Qi (fun r (u : (Nat → Nat) × fM) => post r u.1 u.2) (fun u t => fh g u.1 u.2 t.heap) (fA g)) args s mc ms (fA g)) (F0 m pc ls [.int v]) := by
  obtain ⟨hx, hb, hml, hown, hts, hK, hz, hr, hlk⟩ := X
  exact W.widen hc hs (W.zret hx hb hr hn (fun t ht _ => ⟨⟨v, (ad, M), rfl, hp, (by show fh g ad M t.heap; rw [ht]; exact hw.1)⟩, hw.2.F ht⟩) hw.2.2.2 hdg hlk)
theorem f_lret (X : fX p s m args meth c cc nL (some .long) own g) (hw : fw g ad M s H locs) {post : Int64 → (Nat → Nat) → fM → Prop} {v : Int64} {mc ms : Nat} (hp : post v ad M) (hc : cells ≤ mc) (hs : slots ≤ ms) (hdg : decode cc pc = .ok (.lreturn, 1)) :
    W p l e R s m args below meth c H locs cells slots (MQ below (va_Ql (fun r (u : (Nat → Nat) × fM) => post r u.1 u.2) (fun u t => fh g u.1 u.2 t.heap) (fA g)) args s mc ms (fA g)) (F0 m pc ls [.long v]) := by
  obtain ⟨hx, hb, hml, hown, hts, hK, hz, hr, hlk⟩ := X
  exact W.widen hc hs (W.lret hx hb hr (fun t ht _ => ⟨⟨v, (ad, M), rfl, hp, (by show fh g ad M t.heap; rw [ht]; exact hw.1)⟩, hw.2.F ht⟩) hw.2.2.2 hdg hlk)
theorem f_vret (X : fX p s m args meth c cc nL none own g) (hw : fw g ad M s H locs) {post : (Nat → Nat) → fM → Prop} {mc ms : Nat} (hp : post ad M) (hc : cells ≤ mc) (hs : slots ≤ ms) (hdg : decode cc pc = .ok (.return_, 1)) :
    W p l e R s m args below meth c H locs cells slots (MQ below (va_Qv (fun (u : (Nat → Nat) × fM) => post u.1 u.2) (fun u t => fh g u.1 u.2 t.heap) (fA g)) args s mc ms (fA g)) (F0 m pc ls []) := by
  obtain ⟨hx, hb, hml, hown, hts, hK, hz, hr, hlk⟩ := X
  exact W.widen hc hs (W.vret hx hb hr (fun t ht _ => ⟨⟨(ad, M), rfl, hp, (by show fh g ad M t.heap; rw [ht]; exact hw.1)⟩, hw.2.F ht⟩) hw.2.2.2 hdg hlk)
theorem f_aret (X : fX p s m args meth c cc nL ret own g) {rt : FieldType} (hrt : ret = some rt) (hn : (∃ n, rt = FieldType.object n) ∨ ∃ t, rt = FieldType.array t) (hw : fw g ad M s H locs) {post : Nat → (Nat → Nat) → fM → Prop} {mc ms : Nat} (hp : post q9 ad M) (hc : cells ≤ mc) (hs : slots ≤ ms) (hdg : decode cc pc = .ok (.areturn, 1)) :
    W p l e R s m args below meth c H locs cells slots (MQ below (va_Qr (fun (u : Nat × (Nat → Nat) × fM) => post u.1 u.2.1 u.2.2) (fun u a t => a = u.1 ∧ fh g u.2.1 u.2.2 t.heap) (fA g)) args s mc ms (fA g)) (F0 m pc ls [.ref q9]) := by
  obtain ⟨hx, hb, hml, hown, hts, hK, hz, hr, hlk⟩ := X
  subst hrt
  exact W.widen hc hs (W.aret (v := .ref q9) hx hb hr hn (Or.inr ⟨q9, rfl⟩) (fun t ht _ => ⟨⟨(q9, ad, M), q9, rfl, hp, rfl, (by show fh g ad M t.heap; rw [ht]; exact hw.1)⟩, hw.2.F ht⟩) hw.2.2.2 hdg hlk)
/-- the callee's words -/
def fkV (C : String) (y : MethodName) (bytes : ByteArray) (maxL : Nat) (rt : Option FieldType) (n : Nat) : Prop := Cond.instanceMethod y ∈ AL ∧ Cond.selects C y y ∈ AL ∧ Cond.initialized C ∈ AL ∧ Cond.code y bytes maxL rt ∈ AL ∧ (y.cls = C ∧ y.cls ≠ "java/lang/invoke/MethodHandle" ∧ y.cls ≠ "java/lang/invoke/VarHandle" ∧ (parseMethodDescriptor y.desc).map (fun d => d.parameters.length) = some n)
def fkS (y : MethodName) (bytes : ByteArray) (maxL : Nat) (rt : Option FieldType) (n : Nat) : Prop := Cond.static y ∈ AL ∧ Cond.initialized y.cls ∈ AL ∧ Cond.code y bytes maxL rt ∈ AL ∧ (y.cls ≠ "java/lang/invoke/MethodHandle" ∧ y.cls ≠ "java/lang/invoke/VarHandle" ∧ (parseMethodDescriptor y.desc).map (fun d => d.parameters.length) = some n)
def fkI (y : MethodName) (bytes : ByteArray) (maxL : Nat) (n : Nat) : Prop := Cond.instanceMethod y ∈ AL ∧ Cond.initialized y.cls ∈ AL ∧ Cond.code y bytes maxL none ∈ AL ∧ y.name = "<init>" ∧ (y.cls ≠ "java/lang/invoke/MethodHandle" ∧ y.cls ≠ "java/lang/invoke/VarHandle" ∧ (parseMethodDescriptor y.desc).map (fun d => d.parameters.length) = some n)
theorem f_pre (X : fX p s m args meth c cc nL ret own g) (hw : fw g ad M s H locs) {av : List Value} : ∀ U : State, U.heap = H → s.WarmedH U.vm → va_Pc av (fS g ad M) av.toArray U := by
  obtain ⟨hx, hb, hml, hown, hts, hK, hz, hr, hlk⟩ := X
  intro U hU hW
  refine ⟨rfl, fK_warm hW hK, ?_, by rw [hU]; exact hw.1⟩
  rw [hU]
  exact fz_moved hW.alike (fz_kept hz hw.2.1 hw.2.2.1)
theorem f_recv (X : fX p s m args meth c cc nL ret own g) (hw : fw g ad M s H locs) {ci : Nat} {C : String} {T : u_T} {N : Nat} {fs : List Value} (hM : M lb = some (.inr (ci, fs))) (hci : vwCl[ci]? = some (C, T, N)) : ∃ cell : Cell, H[ad lb]? = some cell ∧ cell.vm.isStatics = false ∧ s.vm.findClass C = some cell.cls :=
  va_recv X.2.2.2.2.2.1.1 (f_single (hw.1.2.2.1 lb _ hM).2) hci (q0 := 0) rfl
section FCALL
variable {y : MethodName} {bytes : ByteArray} {maxL fr lo mc ms n index : Nat} {rt : Option FieldType} {Qc : Array Value → State → Outcome → State → Prop} {As st0 : List Value} {free : Addr → Prop}
theorem fcV (X : fX p s m args meth c cc nL ret own g) (hw : fw g ad M s H locs) (hC : Met l y (fWs y bytes maxL rt) (fR fr lo mc ms) (va_Pc (.ref (ad lb) :: As) (fS g ad M)) Qc mc ms free)
    {ci : Nat} {C : String} {T : u_T} {N : Nat} {fs : List Value} (hM : M lb = some (.inr (ci, fs))) (hci : vwCl[ci]? = some (C, T, N)) (kl : Cond.methodLink own index y ∈ AL) (kv : fkV C y bytes maxL rt n) (hR : fr + 1 ≤ R.frames ∧ 8 + (maxL + 11) + lo ≤ R.locals) (hn : As.length = n) (hls : ls.size = nL) (hst : st0 = As.reverse ++ .ref (ad lb) :: rest) (hW : (rest.map fun v => v.category).sum ≤ 8) (hdg : decode cc pc = .ok (.invokevirtual index, 3)) (hf : cells + mc ≤ R.cells ∧ slots + ms ≤ R.slots) :
    va_Run p l e R s m args below meth c H locs cells slots mc ms (F0 m pc ls st0) rest (Qc (Value.ref (ad lb) :: As).toArray) free := by
  obtain ⟨hx, hb, hml, hown, hts, hK, hz, hr, hlk⟩ := id X
  obtain ⟨k1, k2, k3, k4, k5⟩ := kv
  refine va_runV (Ts := AL) (own := own) ⟨hx, hb, hml, hown, hts⟩ hC (cwV n hts (f_good fun w h => ?_) rfl rfl rfl k5 hR) ⟨fS_blind, f_recv X hw hM hci, f_pre X hw⟩ rfl hn hls hst (lv_room hW) hdg hf
  simp only [wsV, List.mem_append, List.mem_cons, List.not_mem_nil, or_false] at h
  rcases h with (rfl | rfl | rfl | rfl) | (rfl | h)
  · exact kl
  · exact k1
  · exact k2
  · exact k3
  · exact k4
  · exact h
theorem fcS (X : fX p s m args meth c cc nL ret own g) (hw : fw g ad M s H locs) (hC : Met l y (fWs y bytes maxL rt) (fR fr lo mc ms) (va_Pc As (fS g ad M)) Qc mc ms free)
    (kl : Cond.methodLink own index y ∈ AL) (kv : fkS y bytes maxL rt n) (hR : fr + 1 ≤ R.frames ∧ 8 + (maxL + 11) + lo ≤ R.locals) (hn : As.length = n) (hls : ls.size = nL) (hst : st0 = As.reverse ++ rest) (hW : (rest.map fun v => v.category).sum ≤ 8) (hdg : decode cc pc = .ok (.invokestatic index, 3)) (hf : cells + mc ≤ R.cells ∧ slots + ms ≤ R.slots) :
    va_Run p l e R s m args below meth c H locs cells slots mc ms (F0 m pc ls st0) rest (Qc As.toArray) free := by
  obtain ⟨hx, hb, hml, hown, hts, hK, hz, hr, hlk⟩ := id X
  obtain ⟨k1, k3, k4, k5⟩ := kv
  refine va_runS (Ts := AL) (own := own) ⟨hx, hb, hml, hown, hts⟩ hC (va_cwS n hts (f_good fun w h => ?_) rfl rfl rfl k5 hR) ⟨fS_blind, f_pre X hw⟩ rfl hn hls hst (lv_room hW) hdg hf
  simp only [va_wsS, List.mem_append, List.mem_cons, List.not_mem_nil, or_false] at h
  rcases h with (rfl | rfl | rfl) | (rfl | h)
  · exact kl
  · exact k1
  · exact k3
  · exact k4
  · exact h
theorem fcSN (X : fX p s m args meth c cc nL ret own g) (hw : fw g ad M s H locs) (hC : Met l y (fWs y bytes maxL rt) (fR fr lo mc ms) (va_Pc As (fS g ad M)) Qc mc ms free) {host : String}
    (kl : Cond.methodLinkNest own index y host ∈ NW) (kv : fkS y bytes maxL rt n) (hR : fr + 1 ≤ R.frames ∧ 8 + (maxL + 11) + lo ≤ R.locals) (hn : As.length = n) (hls : ls.size = nL) (hst : st0 = As.reverse ++ rest) (hW : (rest.map fun v => v.category).sum ≤ 8) (hdg : decode cc pc = .ok (.invokestatic index, 3)) (hf : cells + mc ≤ R.cells ∧ slots + ms ≤ R.slots) :
    va_Run p l e R s m args below meth c H locs cells slots mc ms (F0 m pc ls st0) rest (Qc As.toArray) free := by
  obtain ⟨hx, hb, hml, hown, hts, hK, hz, hr, hlk⟩ := id X
  obtain ⟨k1, k3, k4, k5⟩ := kv
  refine va_runSN (Ts := AL) (own := own) ⟨hx, hb, hml, hown, hts⟩ hC ⟨va_cnB n hts (f_good fun w h => ?_) rfl rfl rfl (hK.2.1 _ kl) (hts _ k3) k5 hR, hts _ k1, trivial⟩ ⟨fS_blind, f_pre X hw⟩ rfl hn hls hst (lv_room hW) hdg hf
  rcases List.mem_cons.mp h with rfl | h
  · exact k4
  · exact h
theorem fcI (X : fX p s m args meth c cc nL ret own g) (hw : fw g ad M s H locs) {b9 : Nat} (hC : Met l y (fWs y bytes maxL none) (fR fr lo mc ms) (va_Pc (.ref b9 :: As) (fS g ad M)) Qc mc ms free)
    (kl : Cond.methodLink own index y ∈ AL) (kv : fkI y bytes maxL n) (hR : fr + 1 ≤ R.frames ∧ 8 + (maxL + 11) + lo ≤ R.locals) (hn : As.length = n) (hls : ls.size = nL) (hst : st0 = As.reverse ++ .ref b9 :: rest) (hW : (rest.map fun v => v.category).sum ≤ 8) (hdg : decode cc pc = .ok (.invokespecial index, 3)) (hf : cells + mc ≤ R.cells ∧ slots + ms ≤ R.slots) :
    va_Run p l e R s m args below meth c H locs cells slots mc ms (F0 m pc ls st0) rest (Qc (Value.ref b9 :: As).toArray) free := by
  obtain ⟨hx, hb, hml, hown, hts, hK, hz, hr, hlk⟩ := id X
  obtain ⟨k1, k3, k4, k6, k5⟩ := kv
  refine va_runI (Ts := AL) (own := own) ⟨hx, hb, hml, hown, hts⟩ hC (cwI n hts (f_good fun w h => ?_) rfl rfl rfl (hts _ k3) (hts _ kl) (hts _ k1) k6 k5 hR) ⟨fS_blind, f_pre X hw⟩ rfl hn hls hst (lv_room hW) hdg hf
  rcases List.mem_cons.mp h with rfl | h
  · exact k4
  · exact h
theorem fcIN (X : fX p s m args meth c cc nL ret own g) (hw : fw g ad M s H locs) {b9 : Nat} (hC : Met l y (fWs y bytes maxL none) (fR fr lo mc ms) (va_Pc (.ref b9 :: As) (fS g ad M)) Qc mc ms free) {host : String}
    (kl : Cond.methodLinkNest own index y host ∈ NW) (kv : fkI y bytes maxL n) (hR : fr + 1 ≤ R.frames ∧ 8 + (maxL + 11) + lo ≤ R.locals) (hn : As.length = n) (hls : ls.size = nL) (hst : st0 = As.reverse ++ .ref b9 :: rest) (hW : (rest.map fun v => v.category).sum ≤ 8) (hdg : decode cc pc = .ok (.invokespecial index, 3)) (hf : cells + mc ≤ R.cells ∧ slots + ms ≤ R.slots) :
    va_Run p l e R s m args below meth c H locs cells slots mc ms (F0 m pc ls st0) rest (Qc (Value.ref b9 :: As).toArray) free := by
  obtain ⟨hx, hb, hml, hown, hts, hK, hz, hr, hlk⟩ := id X
  obtain ⟨k1, k3, k4, k6, k5⟩ := kv
  refine va_runIN (Ts := AL) (own := own) ⟨hx, hb, hml, hown, hts⟩ hC ⟨va_cnB n hts (f_good fun w h => ?_) rfl rfl rfl (hK.2.1 _ kl) (hts _ k3) k5 hR, k6, hts _ k1⟩ ⟨fS_blind, f_pre X hw⟩ rfl hn hls hst (lv_room hW) hdg hf
  rcases List.mem_cons.mp h with rfl | h
  · exact k4
  · exact h
end FCALL
section FBACK
variable {st0 : List Value} {a : Array Value} {mc ms : Nat}
theorem fk_i {post : Int32 → (Nat → Nat) → fM → Prop} (hr : va_Run p l e R s m args below meth c H locs cells slots mc ms (F0 m pc ls st0) rest (va_Qi (fun r (u : (Nat → Nat) × fM) => post r u.1 u.2) (fun u t => fh g u.1 u.2 t.heap) (fA g) a) (fA g)) (hw : fw g ad M s H locs)
    (kk : ∀ (r : Int32) (ad1 : Nat → Nat) (M1 : fM) (H1 : Heap) (locs1 : List Loc), post r ad1 M1 → fw g ad1 M1 s H1 locs1 → W p l e R s m args below meth c H1 locs1 (cells + mc) (slots + ms) Q (F0 m (pc + 3) ls (.int r :: rest))) : W p l e R s m args below meth c H locs cells slots Q (F0 m pc ls st0) :=
  va_calli hr hw.2 (fun _ _ h => h) (fun _ h => h) (fun r u t H1 locs1 ht _ hp hB _ _ hS => kk r u.1 u.2 H1 locs1 hp ⟨by rw [← ht]; exact hB, hS⟩)
theorem fk_l {post : Int64 → (Nat → Nat) → fM → Prop} (hr : va_Run p l e R s m args below meth c H locs cells slots mc ms (F0 m pc ls st0) rest (va_Ql (fun r (u : (Nat → Nat) × fM) => post r u.1 u.2) (fun u t => fh g u.1 u.2 t.heap) (fA g) a) (fA g)) (hw : fw g ad M s H locs)
    (kk : ∀ (r : Int64) (ad1 : Nat → Nat) (M1 : fM) (H1 : Heap) (locs1 : List Loc), post r ad1 M1 → fw g ad1 M1 s H1 locs1 → W p l e R s m args below meth c H1 locs1 (cells + mc) (slots + ms) Q (F0 m (pc + 3) ls (.long r :: rest))) : W p l e R s m args below meth c H locs cells slots Q (F0 m pc ls st0) :=
  va_calll hr hw.2 (fun _ _ h => h) (fun _ h => h) (fun r u t H1 locs1 ht _ hp hB _ _ hS => kk r u.1 u.2 H1 locs1 hp ⟨by rw [← ht]; exact hB, hS⟩)
theorem fk_v {post : (Nat → Nat) → fM → Prop} (hr : va_Run p l e R s m args below meth c H locs cells slots mc ms (F0 m pc ls st0) rest (va_Qv (fun (u : (Nat → Nat) × fM) => post u.1 u.2) (fun u t => fh g u.1 u.2 t.heap) (fA g) a) (fA g)) (hw : fw g ad M s H locs)
    (kk : ∀ (ad1 : Nat → Nat) (M1 : fM) (H1 : Heap) (locs1 : List Loc), post ad1 M1 → fw g ad1 M1 s H1 locs1 → W p l e R s m args below meth c H1 locs1 (cells + mc) (slots + ms) Q (F0 m (pc + 3) ls rest)) : W p l e R s m args below meth c H locs cells slots Q (F0 m pc ls st0) :=
  va_callv hr hw.2 (fun _ _ h => h) (fun _ h => h) (fun u t H1 locs1 ht _ hp hB _ _ hS => kk u.1 u.2 H1 locs1 hp ⟨by rw [← ht]; exact hB, hS⟩)
theorem fk_r {post : Nat → (Nat → Nat) → fM → Prop} (hr : va_Run p l e R s m args below meth c H locs cells slots mc ms (F0 m pc ls st0) rest (va_Qr (fun (u : Nat × (Nat → Nat) × fM) => post u.1 u.2.1 u.2.2) (fun u a t => a = u.1 ∧ fh g u.2.1 u.2.2 t.heap) (fA g) a) (fA g)) (hw : fw g ad M s H locs)
    (kk : ∀ (q : Nat) (ad1 : Nat → Nat) (M1 : fM) (H1 : Heap) (locs1 : List Loc), post q ad1 M1 → fw g ad1 M1 s H1 locs1 → W p l e R s m args below meth c H1 locs1 (cells + mc) (slots + ms) Q (F0 m (pc + 3) ls (.ref q :: rest))) : W p l e R s m args below meth c H locs cells slots Q (F0 m pc ls st0) := by
  refine va_callr hr hw.2 (fun _ _ h => h) (fun _ h => h) (fun u a9 t H1 locs1 ht _ hp hB _ _ hS => ?_)
  obtain ⟨rfl, hB⟩ := hB
  exact kk _ u.2.1 u.2.2 H1 locs1 hp ⟨by rw [← ht]; exact hB, hS⟩
end FBACK
end FWALK
