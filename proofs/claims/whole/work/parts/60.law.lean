/-! THE LAW: methods that catch; the worlds of the class and of the reference side by side -/
def xNc (U : State) : Prop := va_Nc IAE IOO U ∧ va_Nc ISE IOO U ∧ va_Nc ISE IAE U ∧ va_Nc IOO IAE U
theorem xNc_moved {u U : State} (hvm : u.vm.Alike U.vm) (h : xNc u) : xNc U := ⟨va_Nc.moved hvm h.1, va_Nc.moved hvm h.2.1, va_Nc.moved hvm h.2.2.1, va_Nc.moved hvm h.2.2.2⟩
def fSL (g : fG) (ad : Nat → Nat) (M : fM) (U : State) : Prop := fS g ad M U ∧ xNc U
theorem fSL_blind {g : fG} {ad : Nat → Nat} {M : fM} {av : List Value} : FrameBlind (va_Pc av (fSL g ad M)) := by
  intro a U g9 mk h
  obtain ⟨h1, h2, h3⟩ := h
  obtain ⟨z1, z2⟩ := fS_blind (g := g) (ad := ad) (M := M) (av := av) a U g9 mk ⟨h1, h2⟩
  exact ⟨z1, z2, xNc_moved (u := U) (U := U.calling g9 mk a) (Vm.Alike.refl U.vm) h3⟩
abbrev fWsH (y : MethodName) (cc : ByteArray) (maxL : Nat) (ret : Option FieldType) (hh : List (Nat × Nat × Nat × Nat)) : List Cond := .codeWith y cc maxL ret hh :: AL
abbrev fNX : String → State → State → Prop := fun _ _ _ => False
theorem f_bodyH {l : Launch} {g : fG} {y : MethodName} {own : String} {cc : ByteArray} {maxL : Nat} {ret : Option FieldType} {hh : List (Nat × Nat × Nat × Nat)} {fr lo mc ms : Nat} {ad : Nat → Nat} {M : fM} {av : List Value} {Qc : Array Value → State → Outcome → State → Prop} {XC : String → State → State → Prop} {free : Addr → Prop}
    (hy : plainName y.cls = true) (ho : y.cls = own) (hn : (lg_sl av).length ≤ maxL)
    (body : ∀ (p : Program) (e : Env) (s : State) (m : MethodId) (args : Array Value) (below : List Frame) (meth : Method) (c : Code) (ls : Array Slot), fX p s m args meth c cc maxL ret own g → xNc s → c.exceptionTable.toList = tableOf hh → fw g ad M s s.heap [] → lv_has ls maxL (lv_args 0 av) →
      W p l e (fR fr lo mc ms) s m args below meth c s.heap [] 0 0 (vx_MQ below Qc XC args s mc ms free) (F0 m 0 ls [])) :
    vx_Met l y (fWsH y cc maxL ret hh) (fR fr lo mc ms) (va_Pc av (fSL g ad M)) Qc XC mc ms free := by
  refine vx_ofWH (cc := cc) (maxL := maxL) (ret := ret) (hh := hh) hy rfl ?_
  intro p e s m args below meth c s₁ B hml hv
  obtain ⟨rfl, ⟨hK, hz, hh9⟩, hnc⟩ := hv
  have hts := atoms_spec (ws := fWsH y cc maxL ret hh) B.pre
  have hown : s.vm.findClass y.cls = some m.cls := findClass_of_methodNamed B.named
  have hl := lv_entry av hn
  rw [lg_entry_eq]
  exact body p e s m _ below meth c _ ⟨B.exec, B.bytes, hml, by rw [← ho]; exact hown, fun w hw => hts w (List.mem_cons_of_mem _ hw), hK, hz, B.returns, B.notSynchronized⟩ hnc (vx_table (x := y) B (hts _ List.mem_cons_self)) ⟨hh9, va_S.rf⟩ hl
section FLAW
variable {p : Program} {l : Launch} {e : Env} {R : Room} {s : State} {m : MethodId} {args : Array Value} {below : List Frame} {meth : Method} {c : Code} {H : Heap} {locs : List Loc} {cells slots : Nat} {Q : State → Prop}
variable {cc : ByteArray} {nL : Nat} {ret : Option FieldType} {own : String} {g : fG} {ad : Nat → Nat} {M : fM} {pc : Nat} {ls : Array Slot} {rest : List Value}
variable {y : MethodName} {bytes : ByteArray} {maxL fr lo n index mc ms mc1 ms1 : Nat} {rt : Option FieldType} {Qc : Array Value → State → Outcome → State → Prop} {XC : String → State → State → Prop} {As st0 : List Value} {free : Addr → Prop} {hh : List (Nat × Nat × Nat × Nat)}
theorem fk_c {ad2 : Nat → Nat} {M2 : fM} {E : String} (X : fX p s m args meth c cc nL ret own g) (hr : vx_Run p l e R s m args below meth c H locs cells slots mc1 ms1 (F0 m pc ls st0) rest (fun _ _ _ => False) (fxX g ad2 M2 E) (fA g)) (hw : fw g ad M s H locs)
    (pre : List ExceptionTableEntry) (x : ExceptionTableEntry) (suf : List ExceptionTableEntry) (hsplit : c.exceptionTable.toList = pre ++ x :: suf)
    (hpass : ∀ z ∈ pre, covers z pc = false ∨ (z.catchType ≠ 0 ∧ ∃ nm : String, (Cond.classLink own z.catchType nm).before args s = true ∧ va_Nc E nm s)) (hx : covers x pc = true) (h0 : x.catchType ≠ 0)
    (hlink : Cond.classLink own x.catchType E ∈ AL) (hcast : Cond.castable E E ∈ NW)
    (kk : ∀ (q : Nat) (H1 : Heap) (locs1 : List Loc), fw g ad2 M2 s H1 locs1 → W p l e R s m args below meth c H1 locs1 (cells + mc1) (slots + ms1) Q (F0 m x.handlerPc ls [.ref q])) :
    W p l e R s m args below meth c H locs cells slots Q (F0 m pc ls st0) := by
  intro T hT XS
  rcases hr T hT XS with ⟨v, st₀, t, T', L, h9, X', hL, e1, e2, hq, st⟩ | ⟨q, st₀, t, T', L, E', ce, h9, X', hL, e1, e2, ⟨u, hp, ⟨rfl, hb⟩, hF⟩, hce, hcv, hcl, st⟩
  · exact hq.elim
  · obtain ⟨k1, k2, k3⟩ := vx_keep h9 e1 hw.2 (fun _ _ h => h) (fun _ h => h) hL hF
    obtain ⟨t2, a1, b1⟩ := vx_catch (p := p) (l := l) (e := e) (R := R) (args := args) (below := below) (ls := ls) (rest := rest) (pc := pc) (H := T'.heap) X.2.2.2.1 pre x suf hsplit hpass hx h0 (X.2.2.2.2.1 _ hlink) (va_Nw.use (nestW_tab rfl) (X.2.2.2.2.2.1.2.1 _ hcast)) (by rw [e1]; exact hce) hcv hcl (kk q T'.heap (locs ++ L) ⟨by rw [e1]; exact hb, k3⟩) T' rfl X'
    exact ⟨t2, st.trans a1, b1⟩
theorem f_preL (X : fX p s m args meth c cc nL ret own g) (hn : xNc s) (hw : fw g ad M s H locs) {av : List Value} : ∀ U : State, U.heap = H → s.WarmedH U.vm → va_Pc av (fSL g ad M) av.toArray U := by
  intro U hU hW
  obtain ⟨h1, h2⟩ := f_pre X hw (av := av) U hU hW
  exact ⟨h1, h2, xNc_moved hW.alike hn⟩
theorem fcSH (X : fX p s m args meth c cc nL ret own g) (hnc : xNc s) (hw : fw g ad M s H locs) (hC : vx_Met l y (fWsH y bytes maxL rt hh) (fR fr lo mc ms) (va_Pc As (fSL g ad M)) Qc XC mc ms free)
    (kl : Cond.methodLink own index y ∈ AL) (kst : Cond.static y ∈ AL) (kcw : Cond.codeWith y bytes maxL rt hh ∈ AL) (kin : Cond.initialized y.cls ∈ AL) (k5 : y.cls ≠ "java/lang/invoke/MethodHandle" ∧ y.cls ≠ "java/lang/invoke/VarHandle" ∧ (parseMethodDescriptor y.desc).map (fun d => d.parameters.length) = some n)
    (hR : fr + 1 ≤ R.frames ∧ 8 + (maxL + 11) + lo ≤ R.locals) (hn : As.length = n) (hls : ls.size = nL) (hst : st0 = As.reverse ++ rest) (hW : (rest.map fun v => v.category).sum ≤ 8) (hdg : decode cc pc = .ok (.invokestatic index, 3)) (hf : cells + mc ≤ R.cells ∧ slots + ms ≤ R.slots) :
    vx_Run p l e R s m args below meth c H locs cells slots mc ms (F0 m pc ls st0) rest (Qc As.toArray) XC free := by
  obtain ⟨hx, hb, hml, hown, hts, hK, hz, hr, hlk⟩ := id X
  refine vx_runSX (Ts := AL) (own := own) ⟨hx, hb, hml, hown, hts⟩ hC (vx_cwSW n hts (f_good fun w h => ?_) rfl rfl rfl k5 hR) ⟨fSL_blind, f_preL X hnc hw⟩ rfl hn hls hst (lv_room hW) hdg hf
  simp only [va_wsS, List.mem_append, List.mem_cons, List.not_mem_nil, or_false] at h
  rcases h with (rfl | rfl | rfl) | (rfl | h)
  · exact kl
  · exact kst
  · exact kin
  · exact kcw
  · exact h
theorem vx_none {gg : JFrame} {Qa : State → Outcome → State → Prop} (hr : vx_Run p l e R s m args below meth c H locs cells slots mc ms gg rest Qa fNX free) : va_Run p l e R s m args below meth c H locs cells slots mc ms gg rest Qa free := by
  intro T hT XS
  rcases hr T hT XS with h | ⟨q, st₀, t, T', L, E', ce, h9, X', hL, e1, e2, hX, -⟩
  · exact h
  · exact hX.elim
end FLAW
/-! relabelling: while the class is called, the reference and the law's row stand 3000 higher -/
theorem fh_re {g : fG} {ad ad2 : Nat → Nat} {M M2 : fM} {H : Heap} (h : fh g ad M H) (τ : Nat → Nat) (hm : ∀ l e, M2 l = some e → l < 4096 ∧ M (τ l) = some e ∧ ad2 l = ad (τ l)) (hi : ∀ l l2, M2 l ≠ none → M2 l2 ≠ none → τ l = τ l2 → l = l2) : fh g ad2 M2 H := by
  refine ⟨h.1, fun l hl => ?_, fun l e hl => ?_, fun l l2 hl hl2 ha => ?_⟩
  · rcases hz : M2 l with - | e
    · exact absurd hz hl
    · exact (hm l e hz).1
  · obtain ⟨-, b, c⟩ := hm l e hl
    rw [c]
    exact h.2.2.1 _ _ b
  · rcases hz : M2 l with - | e
    · exact absurd hz hl
    · rcases hz2 : M2 l2 with - | e2
      · exact absurd hz2 hl2
      · obtain ⟨-, b, c⟩ := hm l e hz
        obtain ⟨-, b2, c2⟩ := hm l2 e2 hz2
        refine hi l l2 hl hl2 (h.2.2.2 _ _ (by rw [b]; exact Option.some_ne_none e) (by rw [b2]; exact Option.some_ne_none e2) ?_)
        rw [← c, ← c2]; exact ha
def cAd (ad : Nat → Nat) : Nat → Nat := fun l => ad (if 3000 ≤ l then l - 3000 else l)
def cMp (M : fM) : fM := fun l => if 5 ≤ l ∧ l < 1000 then none else if l < 3000 then M l else if 3005 ≤ l ∧ l < 3100 then M (l - 3000) else none
def bAd (ad : Nat → Nat) : Nat → Nat := fun l => ad (if 5 ≤ l ∧ l < 100 then l + 3000 else l)
def bMp (M : fM) : fM := fun l => if 5 ≤ l ∧ l < 100 then M (l + 3000) else if 100 ≤ l ∧ l < 1000 then none else if l < 3000 then M l else none
theorem fh_cl {g : fG} {ad : Nat → Nat} {M : fM} {H : Heap} (h : fh g ad M H) : fh g (cAd ad) (cMp M) H := by
  have key : ∀ l e, cMp M l = some e → l < 3100 ∧ ¬ (5 ≤ l ∧ l < 1000) ∧ ¬ (3000 ≤ l ∧ l < 3005) ∧ M (if 3000 ≤ l then l - 3000 else l) = some e := by
    intro l e hl
    unfold cMp at hl
    by_cases q : 5 ≤ l ∧ l < 1000
    · rw [if_pos q] at hl; exact absurd hl (by simp)
    · rw [if_neg q] at hl
      by_cases q2 : l < 3000
      · rw [if_pos q2] at hl
        exact ⟨by omega, q, by omega, by rw [if_neg (by omega)]; exact hl⟩
      · rw [if_neg q2] at hl
        by_cases q3 : 3005 ≤ l ∧ l < 3100
        · rw [if_pos q3] at hl
          exact ⟨by omega, q, by omega, by rw [if_pos (by omega)]; exact hl⟩
        · rw [if_neg q3] at hl; exact absurd hl (by simp)
  refine fh_re h (fun l => if 3000 ≤ l then l - 3000 else l) (fun l e hl => ?_) (fun l l2 hl hl2 ha => ?_)
  · obtain ⟨a, b, b2, d⟩ := key l e hl
    exact ⟨by omega, d, rfl⟩
  · rcases hz : cMp M l with - | e
    · exact absurd hz hl
    · rcases hz2 : cMp M l2 with - | e2
      · exact absurd hz2 hl2
      · obtain ⟨a, b, b3, d⟩ := key l e hz
        obtain ⟨a2, b2, b4, d2⟩ := key l2 e2 hz2
        have ha : (if 3000 ≤ l then l - 3000 else l) = (if 3000 ≤ l2 then l2 - 3000 else l2) := ha
        split at ha <;> split at ha <;> omega
theorem fh_bk {g : fG} {ad : Nat → Nat} {M : fM} {H : Heap} (h : fh g ad M H) : fh g (bAd ad) (bMp M) H := by
  have key : ∀ l e, bMp M l = some e → l < 3000 ∧ ¬ (100 ≤ l ∧ l < 1000) ∧ M (if 5 ≤ l ∧ l < 100 then l + 3000 else l) = some e := by
    intro l e hl
    unfold bMp at hl
    by_cases q : 5 ≤ l ∧ l < 100
    · rw [if_pos q] at hl
      exact ⟨by omega, by omega, by rw [if_pos q]; exact hl⟩
    · rw [if_neg q] at hl
      by_cases q2 : 100 ≤ l ∧ l < 1000
      · rw [if_pos q2] at hl; exact absurd hl (by simp)
      · rw [if_neg q2] at hl
        by_cases q3 : l < 3000
        · rw [if_pos q3] at hl
          exact ⟨q3, q2, by rw [if_neg q]; exact hl⟩
        · rw [if_neg q3] at hl; exact absurd hl (by simp)
  refine fh_re h (fun l => if 5 ≤ l ∧ l < 100 then l + 3000 else l) (fun l e hl => ?_) (fun l l2 hl hl2 ha => ?_)
  · obtain ⟨a, b, d⟩ := key l e hl
    exact ⟨by omega, d, rfl⟩
  · rcases hz : bMp M l with - | e
    · exact absurd hz hl
    · rcases hz2 : bMp M l2 with - | e2
      · exact absurd hz2 hl2
      · obtain ⟨a, b, d⟩ := key l e hz
        obtain ⟨a2, b2, d2⟩ := key l2 e2 hz2
        have ha : (if 5 ≤ l ∧ l < 100 then l + 3000 else l) = (if 5 ≤ l2 ∧ l2 < 100 then l2 + 3000 else l2) := ha
        split at ha <;> split at ha <;> omega
theorem isTown_eq {g : fG} {ad ad1 : Nat → Nat} {M M1 : fM} {b : Nat} {T : fTn} (h : isTown g ad M b T) (R : ∀ k, k < 1000 → ad1 (b + k) = ad (b + k) ∧ M1 (b + k) = M (b + k)) : isTown g ad1 M1 b T := by
  obtain ⟨h0, h1, h2, h3, h5, h6, h7, n1, n2, n3, hA⟩ := h
  refine ⟨?_, fList_A h1 (R 4 (by omega)).1 (fun i hi => ?_) (R 1 (by omega)).2 (R 4 (by omega)).2, fList_A h2 (R 5 (by omega)).1 (fun i hi => ?_) (R 2 (by omega)).2 (R 5 (by omega)).2, fList_A h3 (R 6 (by omega)).1 (fun i hi => ?_) (R 3 (by omega)).2 (R 6 (by omega)).2, fun j hj => ?_, fun j hj => ?_, fun j hj => ?_, n1, n2, n3, hA⟩
  · rw [show M1 b = M b from (R 0 (by omega)).2, (R 1 (by omega)).1, (R 2 (by omega)).1, (R 3 (by omega)).1]
    exact h0
  · have := (R (100 + i) (by omega)).1
    rwa [← Nat.add_assoc] at this
  · have := (R (200 + i) (by omega)).1
    rwa [← Nat.add_assoc] at this
  · have := (R (300 + i) (by omega)).1
    rwa [← Nat.add_assoc] at this
  · have := (R (100 + j) (by omega)).2
    rw [← Nat.add_assoc] at this
    exact this.trans (h5 j hj)
  · have := (R (200 + j) (by omega)).2
    rw [← Nat.add_assoc] at this
    exact this.trans (h6 j hj)
  · have := (R (300 + j) (by omega)).2
    rw [← Nat.add_assoc] at this
    exact this.trans (h7 j hj)
theorem isC_eq {g : fG} {ad ad1 : Nat → Nat} {M M1 : fM} {T A : fTn} {kf nf sf : Nat → Int32} (h : isC g ad M T A kf nf sf) (R : ∀ l, (l < 5 ∨ (1000 ≤ l ∧ l < 3000)) → ad1 l = ad l ∧ M1 l = M l) : isC g ad1 M1 T A kf nf sf := by
  obtain ⟨h1, ⟨a0, a1, a2, a3⟩, h3, h4⟩ := h
  refine ⟨isFE_of h1 (R 0 (by omega)).2 (R 1 (by omega)).1 (R 1000 (by omega)).1 (R 2000 (by omega)).1, ⟨?_, (R 2 (by omega)).2.trans a1, (R 3 (by omega)).2.trans a2, (R 4 (by omega)).2.trans a3⟩, isTown_eq h3 (fun k hk => R _ (by omega)), isTown_eq h4 (fun k hk => R _ (by omega))⟩
  rw [(R 1 (by omega)).2, (R 2 (by omega)).1, (R 3 (by omega)).1, (R 4 (by omega)).1]
  exact a0
theorem isMo_eq {g : fG} {ad ad1 : Nat → Nat} {M M1 : fM} {th : Int32} {U : fTn} {sp ca : Nat → Int32} (h : isMo g ad M th U sp ca) (R : ∀ k, 5 ≤ k → k < 15 → ad1 k = ad k ∧ M1 k = M k) : isMo g ad1 M1 th U sp ca := by
  obtain ⟨pcs, wa, ht, et, mi, co, as, hO, ⟨m6, m7, m8, m9, m10, m11, m12, m13, m14⟩, h2, h3⟩ := h
  refine ⟨pcs, wa, ht, et, mi, co, as, ?_, ⟨(R 6 (by omega) (by omega)).2.trans m6, (R 7 (by omega) (by omega)).2.trans m7, (R 8 (by omega) (by omega)).2.trans m8, (R 9 (by omega) (by omega)).2.trans m9, (R 10 (by omega) (by omega)).2.trans m10, (R 11 (by omega) (by omega)).2.trans m11, (R 12 (by omega) (by omega)).2.trans m12, (R 13 (by omega) (by omega)).2.trans m13, (R 14 (by omega) (by omega)).2.trans m14⟩, h2, h3⟩
  unfold mObj at hO ⊢
  rw [(R 5 (by omega) (by omega)).2, (R 6 (by omega) (by omega)).1, (R 7 (by omega) (by omega)).1, (R 8 (by omega) (by omega)).1, (R 9 (by omega) (by omega)).1, (R 10 (by omega) (by omega)).1, (R 11 (by omega) (by omega)).1, (R 12 (by omega) (by omega)).1, (R 13 (by omega) (by omega)).1, (R 14 (by omega) (by omega)).1]
  exact hO
theorem c_lo {ad : Nat → Nat} {M : fM} {l : Nat} (h : l < 5 ∨ (1000 ≤ l ∧ l < 3000)) : cAd ad l = ad l ∧ cMp M l = M l := by
  unfold cAd cMp
  rw [if_neg (by omega), if_neg (by omega), if_pos (by omega)]
  exact ⟨rfl, rfl⟩
theorem c_hi {ad : Nat → Nat} {M : fM} {l : Nat} (h : 5 ≤ l) (h2 : l < 100) : cAd ad (l + 3000) = ad l ∧ cMp M (l + 3000) = M l := by
  unfold cAd cMp
  rw [if_pos (by omega), if_neg (by omega), if_neg (by omega), if_pos (by omega), Nat.add_sub_cancel]
  exact ⟨rfl, rfl⟩
theorem b_lo {ad : Nat → Nat} {M : fM} {l : Nat} (h : l < 5 ∨ (1000 ≤ l ∧ l < 3000)) : bAd ad l = ad l ∧ bMp M l = M l := by
  unfold bAd bMp
  rw [if_neg (by omega), if_neg (by omega), if_neg (by omega), if_pos (by omega)]
  exact ⟨rfl, rfl⟩
theorem b_hi {ad : Nat → Nat} {M : fM} {l : Nat} (h : 5 ≤ l) (h2 : l < 100) : bAd ad l = ad (l + 3000) ∧ bMp M l = M (l + 3000) := by
  unfold bAd bMp
  rw [if_pos ⟨h, h2⟩, if_pos ⟨h, h2⟩]
  exact ⟨rfl, rfl⟩
/-! contracts of one form -/
theorem fCi_mono {l : Launch} {g : fG} {y : MethodName} {cc : ByteArray} {maxL : Nat} {ret : Option FieldType} {fr lo mc ms : Nat} {ad : Nat → Nat} {M : fM} {av : List Value} {post post2 : Int32 → (Nat → Nat) → fM → Prop} (h : fCi l g y cc maxL ret fr lo mc ms ad M av post) (hp : ∀ r ad1 M1, post r ad1 M1 → post2 r ad1 M1) : fCi l g y cc maxL ret fr lo mc ms ad M av post2 :=
  MetFree.mono h (fun _ _ h => h) (fun _ _ _ _ _ h => h) (fun a s o t _ q => ⟨by obtain ⟨⟨⟨r, u, h1, h2, h3⟩, hF⟩, -⟩ := q; exact ⟨⟨r, u, h1, hp _ _ _ h2, h3⟩, hF⟩, q.2⟩)
/-- what a method of the class leaves -/
abbrev fCu (g : fG) (ad : Nat → Nat) (M : fM) (T2 : fTn) (kf2 nf2 : Nat → Int32) (v : Int32) : Int32 → (Nat → Nat) → fM → Prop := fun r ad1 M1 => (∃ A2 sf2, isC g ad1 M1 T2 A2 kf2 nf2 sf2 ∧ leT A2 T2) ∧ fReg 0 3000 ad M ad1 M1 ∧ ad1 0 = ad 0 ∧ r = v
theorem cu_Co {g : fG} {ad : Nat → Nat} {M : fM} {T2 A : fTn} {kf nf sf : Nat → Int32} {v : Int32} (hL : leT A T2) : ∀ r ad1 M1, fCo g ad M T2 A kf nf sf v r ad1 M1 → fCu g ad M T2 kf nf v r ad1 M1 := fun _ _ _ h => ⟨⟨A, sf, h.1, hL⟩, h.2⟩
theorem cu_Di {g : fG} {ad : Nat → Nat} {M : fM} {T A : fTn} {kf nf sf : Nat → Int32} {v : Int32} (hC : isC g ad M T A kf nf sf) (hL : leT A T) : ∀ r ad1 M1, fDi ad M v r ad1 M1 → fCu g ad M T kf nf v r ad1 M1 := fun _ _ _ h => by
  obtain ⟨h1, h2, h3⟩ := h
  rw [h1, h2, h3]
  exact ⟨⟨A, sf, hC, hL⟩, fReg_rf, rfl, rfl⟩
theorem cu_Adv {g : fG} {ad : Nat → Nat} {M : fM} {T : fTn} {kf nf sf : Nat → Int32} {v : Int32} : ∀ r ad1 M1, fAdv g ad M T kf nf sf v r ad1 M1 → fCu g ad M T kf nf v r ad1 M1 := fun _ _ _ h => by
  obtain ⟨⟨A, h1, h2⟩, h3⟩ := h
  exact ⟨⟨A, sf, h1, h2⟩, h3⟩
abbrev oCell (g : fG) (f : Nat → Int64) : va_E := .inl (gJ g, 1, .inr (.inl f))
/-- what a law's method leaves, in the class's world -/
abbrev fWr (g : fG) (ad : Nat → Nat) (M : fM) (T2 : fTn) (kf2 nf2 : Nat → Int32) (k : Int32) (f2 : Nat → Int64) : Int32 → (Nat → Nat) → fM → Prop := fun r ad1 M1 => (∃ A2 sf2, isC g ad1 M1 T2 A2 kf2 nf2 sf2 ∧ leT A2 T2) ∧ (∀ l, 3000 ≤ l → l < 3032 → ad1 l = ad l ∧ M1 l = M l) ∧ (ad1 0 = ad 0 ∧ ad1 3032 = ad 3032) ∧ M1 3032 = some (oCell g f2) ∧ r = k
/-- what a method of the reference leaves -/
abbrev fRp (g : fG) (ad : Nat → Nat) (M : fM) (T2 : fTn) (k b2 : Int32) : Int32 → (Nat → Nat) → fM → Prop := fun r ad1 M1 => (∃ U2 sp2 ca2, simT U2 T2 ∧ isMo g ad1 M1 k U2 sp2 ca2) ∧ fReg 5 31 ad M ad1 M1 ∧ ad1 5 = ad 5 ∧ r = b2
theorem rp_Mi {g : fG} {ad : Nat → Nat} {M : fM} {th : Int32} {U T2 : fTn} {st ca : Nat → Int32} {v : Int32} (hs : simT U T2) : ∀ r ad1 M1, fMi g ad M th U st ca v r ad1 M1 → fRp g ad M T2 th v r ad1 M1 := fun _ _ _ h => by
  obtain ⟨h1, h2, h3, h4⟩ := h
  rw [h1]
  exact ⟨⟨U, st, ca, hs, h2⟩, fReg_w h3 (by omega) (by omega), rfl, h4⟩
theorem rp_Mx {g : fG} {ad : Nat → Nat} {M : fM} {th : Int32} {U T2 : fTn} {st : Nat → Int32} {v : Int32} (hs : simT U T2) : ∀ r ad1 M1, fMx g ad M th U st v r ad1 M1 → fRp g ad M T2 th v r ad1 M1 := fun _ _ _ h => by
  obtain ⟨h1, ⟨ca, h2⟩, h3, h4⟩ := h
  rw [h1]
  exact ⟨⟨U, st, ca, hs, h2⟩, fReg_w h3 (by omega) (by omega), rfl, h4⟩
theorem rp_Mn {g : fG} {ad : Nat → Nat} {M : fM} {U T2 : fTn} {st ca : Nat → Int32} {v : Int32} (hs : simT U T2) : ∀ r ad1 M1, fMn g ad M U st ca v r ad1 M1 → fRp g ad M T2 0 v r ad1 M1 := fun _ _ _ h => by
  obtain ⟨h1, h2, h3, h4⟩ := h
  exact ⟨⟨U, st, ca, hs, h1⟩, h2, h3 5 (by omega), h4⟩
theorem rp_Me {g : fG} {ad : Nat → Nat} {M : fM} {U T2 : fTn} {ne : Nat → Int32} {st ca : Nat → Int32} {v : Int32} (hs : ∀ f : Nat → Int32, (∀ k, k ≠ 8 → k ≠ 10 → f k = ne k) → simT (addE U f) T2) : ∀ r ad1 M1, fMe g ad M U ne st ca v r ad1 M1 → fRp g ad M T2 0 v r ad1 M1 := fun _ _ _ h => by
  obtain ⟨⟨f, hf, h1⟩, h2, h3, h4⟩ := h
  exact ⟨⟨_, st, ca, hs f hf, h1⟩, h2, h3 5 (by omega), h4⟩
theorem rp_Ma {g : fG} {ad : Nat → Nat} {M : fM} {U T2 : fTn} {st : Nat → Int32} {v : Int32} (hs : simT U T2) : ∀ r ad1 M1, fMa g ad M U st v r ad1 M1 → fRp g ad M T2 0 v r ad1 M1 := fun _ _ _ h => by
  obtain ⟨⟨ca, h1⟩, h2, h3, h4⟩ := h
  exact ⟨⟨U, st, ca, hs, h1⟩, fReg_w h2 (by omega) (by omega), h3 5 (by omega), h4⟩
