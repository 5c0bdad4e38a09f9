/-! THROWING: contracts of methods that throw (and have made nothing else of ours but the thrown cell) -/
theorem fh_kept {g : fG} {ad : Nat → Nat} {M : fM} {H H1 : Heap} (h : fh g ad M H) (hz : H.size ≤ H1.size) (hq : ∀ q : Nat, q < H.size → H1[q]? = H[q]?) : fh g ad M H1 :=
  ⟨Nat.le_trans h.1 hz, h.2.1, fun l e hl => ⟨(h.2.2.1 l e hl).1, (h.2.2.1 l e hl).2.kept (hq _ (h.2.2.1 l e hl).2.lt)⟩, h.2.2.2⟩
abbrev IOO : String := "java/lang/IndexOutOfBoundsException"
abbrev IAE : String := "java/lang/IllegalArgumentException"
abbrev ISE : String := "java/lang/IllegalStateException"
abbrev xNames : List String := ["java/lang/RuntimeException", "java/lang/Exception"]
def xOk (w : Cond) : Bool := (goodWord w && decide (w ∈ lw_tbl)) || (nestW w && decide (w ∈ NW))
theorem xOk_IOO : (vx_atS RX5 164 IOO xNames).all xOk = true := by decide +kernel
theorem xOk_IAE : (vx_atS RX5 211 IAE xNames).all xOk = true := by decide +kernel
theorem xOk_ISE : (vx_atS RX5 216 ISE xNames).all xOk = true := by decide +kernel
theorem xOk_at {args : Array Value} {s : State} {g : fG} {L : List Cond} (h : L.all xOk = true) (hts : ∀ w ∈ AL, w.before args s = true) (hK : fK g s) : ∀ w ∈ L, w.before args s = true := by
  intro w hw
  have h1 := List.all_eq_true.mp h w hw
  simp only [xOk, Bool.or_eq_true, Bool.and_eq_true, decide_eq_true_eq] at h1
  rcases h1 with ⟨a, b⟩ | ⟨a, b⟩
  · exact hts w (List.mem_filter.mpr ⟨b, a⟩)
  · exact va_Nw.use (nestW_tab a) (hK.2.1 w b)
theorem xOk_ot {L : List Cond} (h : L.all xOk = true) : ∀ w ∈ L, vx_ot w = true := by
  intro w hw
  have h1 := List.all_eq_true.mp h w hw
  simp only [xOk, Bool.or_eq_true, Bool.and_eq_true, decide_eq_true_eq] at h1
  simp only [vx_ot, Bool.or_eq_true]
  rcases h1 with ⟨a, b⟩ | ⟨a, b⟩
  · exact Or.inr a
  · exact Or.inl (nestW_tab a)
def fxX (g : fG) (ad : Nat → Nat) (M : fM) (E : String) : String → State → State → Prop := vx_X (fun (_ : Unit) => True) (fun E' _ t => E' = E ∧ fh g ad M t.heap) (fA g)
abbrev fNo : Array Value → State → Outcome → State → Prop := fun _ _ _ _ => False
abbrev fXt (l : Launch) (g : fG) (y : MethodName) (cc : ByteArray) (maxL : Nat) (ret : Option FieldType) (fr lo : Nat) (ad : Nat → Nat) (M : fM) (av : List Value) (E : String) (ad2 : Nat → Nat) (M2 : fM) : Prop := vx_Met l y (fWs y cc maxL ret) (fR fr lo 1 6) (va_Pc av (fS g ad M)) fNo (fxX g ad2 M2 E) 1 6 (fA g)
theorem f_bodyX {l : Launch} {g : fG} {y : MethodName} {own : String} {cc : ByteArray} {maxL : Nat} {ret : Option FieldType} {fr lo mc ms : Nat} {ad : Nat → Nat} {M : fM} {av : List Value} {Qc : Array Value → State → Outcome → State → Prop} {XC : String → State → State → Prop} {free : Addr → Prop}
    (hy : plainName y.cls = true) (ho : y.cls = own) (hn : (lg_sl av).length ≤ maxL)
    (body : ∀ (p : Program) (e : Env) (s : State) (m : MethodId) (args : Array Value) (below : List Frame) (meth : Method) (c : Code) (ls : Array Slot), fX p s m args meth c cc maxL ret own g → (∀ x ∈ c.exceptionTable.toList, False) → fw g ad M s s.heap [] → lv_has ls maxL (lv_args 0 av) →
      W p l e (fR fr lo mc ms) s m args below meth c s.heap [] 0 0 (vx_MQ below Qc XC args s mc ms free) (F0 m 0 ls [])) :
    vx_Met l y (fWs y cc maxL ret) (fR fr lo mc ms) (va_Pc av (fS g ad M)) Qc XC mc ms free := by
  refine vx_ofW (cc := cc) (maxL := maxL) (ret := ret) hy rfl ?_
  intro p e s m args below meth c s₁ B hml ht hv
  obtain ⟨rfl, hK, hz, hh⟩ := hv
  have hts := atoms_spec (ws := fWs y cc maxL ret) B.pre
  have hown : s.vm.findClass y.cls = some m.cls := findClass_of_methodNamed B.named
  have hl := lv_entry av hn
  rw [lg_entry_eq]
  exact body p e s m _ below meth c _ ⟨B.exec, B.bytes, hml, by rw [← ho]; exact hown, fun w hw => hts w (List.mem_cons_of_mem _ hw), hK, hz, B.returns, B.notSynchronized⟩ ht ⟨hh, va_S.rf⟩ hl
section FTHROW
variable {p : Program} {l : Launch} {e : Env} {R : Room} {s : State} {m : MethodId} {args : Array Value} {below : List Frame} {meth : Method} {c : Code} {H : Heap} {locs : List Loc} {cells slots : Nat} {Q : State → Prop}
variable {cc : ByteArray} {nL : Nat} {ret : Option FieldType} {own : String} {g : fG} {ad : Nat → Nat} {M : fM} {pc : Nat} {ls : Array Slot} {rest : List Value} {lb : Nat}
variable {y : MethodName} {bytes : ByteArray} {maxL fr lo n index mc ms mc1 ms1 : Nat} {rt : Option FieldType} {Qc : Array Value → State → Outcome → State → Prop} {XC : String → State → State → Prop} {As st0 : List Value} {free : Addr → Prop}
theorem fxV (X : fX p s m args meth c cc nL ret own g) (hw : fw g ad M s H locs) (hC : vx_Met l y (fWs y bytes maxL rt) (fR fr lo mc1 ms1) (va_Pc (.ref (ad lb) :: As) (fS g ad M)) Qc XC mc1 ms1 free)
    {ci : Nat} {C : String} {T : u_T} {N : Nat} {fs : List Value} (hM : M lb = some (.inr (ci, fs))) (hci : vwCl[ci]? = some (C, T, N)) (kl : Cond.methodLink own index y ∈ AL) (kv : fkV C y bytes maxL rt n) (hR : fr + 1 ≤ R.frames ∧ 8 + (maxL + 11) + lo ≤ R.locals) (hn : As.length = n) (hls : ls.size = nL) (hst : st0 = As.reverse ++ .ref (ad lb) :: rest) (hW : (rest.map fun v => v.category).sum ≤ 8) (hdg : decode cc pc = .ok (.invokevirtual index, 3)) (hf : cells + mc1 ≤ R.cells ∧ slots + ms1 ≤ R.slots) :
    vx_Run p l e R s m args below meth c H locs cells slots mc1 ms1 (F0 m pc ls st0) rest (Qc (Value.ref (ad lb) :: As).toArray) XC free := by
  obtain ⟨hx, hb, hml, hown, hts, hK, hz, hr, hlk⟩ := id X
  obtain ⟨k1, k2, k3, k4, k5⟩ := kv
  refine vx_runV (Ts := AL) (own := own) ⟨hx, hb, hml, hown, hts⟩ hC (cwV n hts (f_good fun w h => ?_) rfl rfl rfl k5 hR) ⟨fS_blind, f_recv X hw hM hci, f_pre X hw⟩ rfl hn hls hst (lv_room hW) hdg hf
  simp only [wsV, List.mem_append, List.mem_cons, List.not_mem_nil, or_false] at h
  rcases h with (rfl | rfl | rfl | rfl) | (rfl | h)
  · exact kl
  · exact k1
  · exact k2
  · exact k3
  · exact k4
  · exact h
theorem fxS (X : fX p s m args meth c cc nL ret own g) (hw : fw g ad M s H locs) (hC : vx_Met l y (fWs y bytes maxL rt) (fR fr lo mc1 ms1) (va_Pc As (fS g ad M)) Qc XC mc1 ms1 free)
    (kl : Cond.methodLink own index y ∈ AL) (kv : fkS y bytes maxL rt n) (hR : fr + 1 ≤ R.frames ∧ 8 + (maxL + 11) + lo ≤ R.locals) (hn : As.length = n) (hls : ls.size = nL) (hst : st0 = As.reverse ++ rest) (hW : (rest.map fun v => v.category).sum ≤ 8) (hdg : decode cc pc = .ok (.invokestatic index, 3)) (hf : cells + mc1 ≤ R.cells ∧ slots + ms1 ≤ R.slots) :
    vx_Run p l e R s m args below meth c H locs cells slots mc1 ms1 (F0 m pc ls st0) rest (Qc As.toArray) XC free := by
  obtain ⟨hx, hb, hml, hown, hts, hK, hz, hr, hlk⟩ := id X
  obtain ⟨k1, k3, k4, k5⟩ := kv
  refine vx_runS (Ts := AL) (own := own) ⟨hx, hb, hml, hown, hts⟩ hC (va_cwS n hts (f_good fun w h => ?_) rfl rfl rfl k5 hR) ⟨fS_blind, f_pre X hw⟩ rfl hn hls hst (lv_room hW) hdg hf
  simp only [va_wsS, List.mem_append, List.mem_cons, List.not_mem_nil, or_false] at h
  rcases h with (rfl | rfl | rfl) | (rfl | h)
  · exact kl
  · exact k1
  · exact k3
  · exact k4
  · exact h
/-- a call that throws, in a method that lets it through -/
theorem fk_x {ad2 : Nat → Nat} {M2 : fM} {E : String} (X : fX p s m args meth c cc nL ret own g) (ht : ∀ x ∈ c.exceptionTable.toList, False) (hr : vx_Run p l e R s m args below meth c H locs cells slots mc1 ms1 (F0 m pc ls st0) rest (fun _ _ _ => False) (fxX g ad2 M2 E) (fA g)) (hw : fw g ad M s H locs) (hc : cells + mc1 ≤ mc) (hs : slots + ms1 ≤ ms) :
    W p l e R s m args below meth c H locs cells slots (vx_MQ below Qc (fxX g ad2 M2 E) args s mc ms (fA g)) (F0 m pc ls st0) := by
  intro T hT XS
  rcases hr T hT XS with ⟨v, st₀, t, T', L, h0, X', hL, e1, e2, hq, st⟩ | ⟨q, st₀, t, T', L, E', ce, h0, X', hL, e1, e2, ⟨u, hp, ⟨rfl, hb⟩, hF⟩, hce, hcv, hcl, st⟩
  · exact hq.elim
  · obtain ⟨k1, k2, k3⟩ := vx_keep h0 e1 hw.2 (fun _ _ h => h) (fun _ h => h) hL hF
    obtain ⟨t2, a1, b1⟩ := vx_out (p := p) (l := l) (e := e) (R := R) (args := args) (below := below) (ls := ls) (rest := rest) (Qc := Qc) (XC := fxX g ad2 M2 E') (free := fA g) (pc := pc) (mc := mc) (ms := ms) (fun x hx => (ht x hx).elim) X.2.2.2.2.2.2.2.2 (by rw [e1]; exact hce) hcv hcl
      (fun t9 h9 _ => ⟨(), trivial, ⟨rfl, by rw [h9, e1]; exact hb⟩, ⟨by rw [h9]; exact k3.1, fun q9 h1 h2 => by rw [h9]; exact k3.2.1 q9 h1 h2⟩⟩) k3.2.2 hc hs T' rfl X'
    exact ⟨t2, st.trans a1, b1⟩
/-- new E(text), thrown -/
theorem f_throw {E text : String} {ik is ic : Nat} (X : fX p s m args meth c cc nL ret own g) (ho : own = RX5) (ht : ∀ x ∈ c.exceptionTable.toList, False) (hl : l.stackTraces = false) (hw : fw g ad M s H locs) (hcls : Bundle.fit E = true) (hk : Cond.classLink RX5 ik E ∈ AL) (hini : Cond.initialized E ∈ AL) (hstr : (is, text) ∈ fStrs) (hat : (vx_atS RX5 ic E xNames).all xOk = true)
    (hls : ls.size = nL) (d0 : decode cc pc = .ok (.new ik, 3)) (d3 : decode cc (pc + 3) = .ok (.dup, 1)) (d4 : decode cc (pc + 4) = .ok (.ldc is, 2)) (d6 : decode cc (pc + 6) = .ok (.invokespecial ic, 3)) (d9 : decode cc (pc + 9) = .ok (.athrow, 1))
    (hR : 5 < R.frames ∧ (rest.map fun v => v.category).sum + 82 ≤ R.locals) (hf : cells + 1 ≤ R.cells ∧ slots + 6 ≤ R.slots) (hc : cells + 1 ≤ mc) (hs : slots + 6 ≤ ms) :
    W p l e R s m args below meth c H locs cells slots (vx_MQ below Qc (fxX g ad M E) args s mc ms (fA g)) (F0 m pc ls rest) := by
  obtain ⟨hx, hb, hml, hown, hts, hK, hz, hr, hlk⟩ := id X
  subst ho
  refine vx_throwS (names := xNames) (A := fA g) hx hb hl hown hcls (by decide) (hts _ hk) (hts _ hini) (hK.2.2.1 (is, text) hstr) (xOk_at hat hts hK) ?_ hz.2.2.2.1 hz.2.2.2.2 hw.2 (hls.trans hml.symm) d0 d3 d4 d6 d9 (fun x hx => (ht x hx).elim) hR.1 hR.2 hf.1 hf.2 hlk ?_ hw.2.2.2 hc hs
  · intro w hw9
    rcases List.mem_cons.mp hw9 with rfl | h9
    · exact Bool.or_eq_true _ _ |>.mpr (Or.inr (AL_good _ hk))
    · rcases List.mem_cons.mp h9 with rfl | h9
      · exact Bool.or_eq_true _ _ |>.mpr (Or.inr (AL_good _ hini))
      · exact xOk_ot hat w h9
  · intro t hA hz2 hq2
    exact ⟨(), trivial, ⟨rfl, fh_kept hw.1 hz2 hq2⟩, ⟨Nat.le_trans hw.2.1 hz2, fun q h1 h2 => (hq2 q (Nat.lt_of_lt_of_le h1 hw.2.1)).trans (hw.2.2.1 q h1 h2)⟩⟩
end FTHROW
