/-! contracts with one known end; lists; cells' contents -/
def bI (b : Bool) : Int32 := if b then 1 else 0
theorem bI_f {b : Bool} : bI b = 0 ↔ b = false := by cases b <;> simp [bI]
theorem bI_nf {b : Bool} : ¬ bI b = 0 ↔ b = true := by cases b <;> simp [bI]
theorem bI_t : bI true = 1 := rfl
theorem bI_ff : bI false = 0 := rfl
theorem bI_nar (b : Bool) : narrow .boolean (.int (bI b)) = .int (bI b) := by cases b <;> rfl
theorem bI_fit (b : Bool) : fits .boolean (.int (bI b)) = true := by cases b <;> rfl
theorem bI_and (b : Bool) : bI b &&& 1 = bI b := by cases b <;> rfl
abbrev fQi (g : fG) (post : Int32 → (Nat → Nat) → fM → Prop) : Array Value → State → Outcome → State → Prop := va_Qi (fun (r : Int32) (u : (Nat → Nat) × fM) => post r u.1 u.2) (fun u t => fh g u.1 u.2 t.heap) (fA g)
abbrev fQl (g : fG) (post : Int64 → (Nat → Nat) → fM → Prop) : Array Value → State → Outcome → State → Prop := va_Ql (fun (r : Int64) (u : (Nat → Nat) × fM) => post r u.1 u.2) (fun u t => fh g u.1 u.2 t.heap) (fA g)
abbrev fQv (g : fG) (post : (Nat → Nat) → fM → Prop) : Array Value → State → Outcome → State → Prop := va_Qv (fun (u : (Nat → Nat) × fM) => post u.1 u.2) (fun u t => fh g u.1 u.2 t.heap) (fA g)
abbrev fQr (g : fG) (post : Nat → (Nat → Nat) → fM → Prop) : Array Value → State → Outcome → State → Prop := va_Qr (fun (u : Nat × (Nat → Nat) × fM) => post u.1 u.2.1 u.2.2) (fun u a t => a = u.1 ∧ fh g u.2.1 u.2.2 t.heap) (fA g)
abbrev fDi (ad : Nat → Nat) (M : fM) (v : Int32) : Int32 → (Nat → Nat) → fM → Prop := fun r ad1 M1 => ad1 = ad ∧ M1 = M ∧ r = v
abbrev fDl (ad : Nat → Nat) (M : fM) (v : Int64) : Int64 → (Nat → Nat) → fM → Prop := fun r ad1 M1 => ad1 = ad ∧ M1 = M ∧ r = v
abbrev fDv (ad : Nat → Nat) (M : fM) : (Nat → Nat) → fM → Prop := fun ad1 M1 => ad1 = ad ∧ M1 = M
abbrev fDr (ad : Nat → Nat) (M : fM) (q : Nat) : Nat → (Nat → Nat) → fM → Prop := fun r ad1 M1 => ad1 = ad ∧ M1 = M ∧ r = q
abbrev fCi (l : Launch) (g : fG) (y : MethodName) (cc : ByteArray) (maxL : Nat) (ret : Option FieldType) (fr lo mc ms : Nat) (ad : Nat → Nat) (M : fM) (av : List Value) (post : Int32 → (Nat → Nat) → fM → Prop) : Prop := Met l y (fWs y cc maxL ret) (fR fr lo mc ms) (va_Pc av (fS g ad M)) (fQi g post) mc ms (fA g)
abbrev fCl (l : Launch) (g : fG) (y : MethodName) (cc : ByteArray) (maxL : Nat) (ret : Option FieldType) (fr lo mc ms : Nat) (ad : Nat → Nat) (M : fM) (av : List Value) (post : Int64 → (Nat → Nat) → fM → Prop) : Prop := Met l y (fWs y cc maxL ret) (fR fr lo mc ms) (va_Pc av (fS g ad M)) (fQl g post) mc ms (fA g)
abbrev fCv (l : Launch) (g : fG) (y : MethodName) (cc : ByteArray) (maxL : Nat) (fr lo mc ms : Nat) (ad : Nat → Nat) (M : fM) (av : List Value) (post : (Nat → Nat) → fM → Prop) : Prop := Met l y (fWs y cc maxL none) (fR fr lo mc ms) (va_Pc av (fS g ad M)) (fQv g post) mc ms (fA g)
abbrev fCr (l : Launch) (g : fG) (y : MethodName) (cc : ByteArray) (maxL : Nat) (ret : Option FieldType) (fr lo mc ms : Nat) (ad : Nat → Nat) (M : fM) (av : List Value) (post : Nat → (Nat → Nat) → fM → Prop) : Prop := Met l y (fWs y cc maxL ret) (fR fr lo mc ms) (va_Pc av (fS g ad M)) (fQr g post) mc ms (fA g)
section FDET
variable {p : Program} {l : Launch} {e : Env} {R : Room} {s : State} {m : MethodId} {args : Array Value} {below : List Frame} {meth : Method} {c : Code} {H : Heap} {locs : List Loc} {cells slots : Nat} {Q : State → Prop}
variable {cc : ByteArray} {nL : Nat} {ret : Option FieldType} {own : String} {g : fG} {ad : Nat → Nat} {M : fM} {pc : Nat} {ls : Array Slot} {rest : List Value} {lb q9 : Nat} {st0 : List Value} {a : Array Value} {mc ms : Nat}
theorem fk_di {ad2 : Nat → Nat} {M2 : fM} {v : Int32} (hr : va_Run p l e R s m args below meth c H locs cells slots mc ms (F0 m pc ls st0) rest (fQi g (fDi ad2 M2 v) a) (fA g)) (hw : fw g ad M s H locs)
    (kk : ∀ (H1 : Heap) (locs1 : List Loc), fw g ad2 M2 s H1 locs1 → W p l e R s m args below meth c H1 locs1 (cells + mc) (slots + ms) Q (F0 m (pc + 3) ls (.int v :: rest))) : W p l e R s m args below meth c H locs cells slots Q (F0 m pc ls st0) :=
  fk_i hr hw (fun r ad1 M1 H1 locs1 hp hw1 => by obtain ⟨e1, e2, e3⟩ := hp; rw [e3]; rw [e1, e2] at hw1; exact kk H1 locs1 hw1)
theorem fk_dl {ad2 : Nat → Nat} {M2 : fM} {v : Int64} (hr : va_Run p l e R s m args below meth c H locs cells slots mc ms (F0 m pc ls st0) rest (fQl g (fDl ad2 M2 v) a) (fA g)) (hw : fw g ad M s H locs)
    (kk : ∀ (H1 : Heap) (locs1 : List Loc), fw g ad2 M2 s H1 locs1 → W p l e R s m args below meth c H1 locs1 (cells + mc) (slots + ms) Q (F0 m (pc + 3) ls (.long v :: rest))) : W p l e R s m args below meth c H locs cells slots Q (F0 m pc ls st0) :=
  fk_l hr hw (fun r ad1 M1 H1 locs1 hp hw1 => by obtain ⟨e1, e2, e3⟩ := hp; rw [e3]; rw [e1, e2] at hw1; exact kk H1 locs1 hw1)
theorem fk_dv {ad2 : Nat → Nat} {M2 : fM} (hr : va_Run p l e R s m args below meth c H locs cells slots mc ms (F0 m pc ls st0) rest (fQv g (fDv ad2 M2) a) (fA g)) (hw : fw g ad M s H locs)
    (kk : ∀ (H1 : Heap) (locs1 : List Loc), fw g ad2 M2 s H1 locs1 → W p l e R s m args below meth c H1 locs1 (cells + mc) (slots + ms) Q (F0 m (pc + 3) ls rest)) : W p l e R s m args below meth c H locs cells slots Q (F0 m pc ls st0) :=
  fk_v hr hw (fun ad1 M1 H1 locs1 hp hw1 => by obtain ⟨e1, e2⟩ := hp; rw [e1, e2] at hw1; exact kk H1 locs1 hw1)
theorem fk_dr {ad2 : Nat → Nat} {M2 : fM} {v : Nat} (hr : va_Run p l e R s m args below meth c H locs cells slots mc ms (F0 m pc ls st0) rest (fQr g (fDr ad2 M2 v) a) (fA g)) (hw : fw g ad M s H locs)
    (kk : ∀ (H1 : Heap) (locs1 : List Loc), fw g ad2 M2 s H1 locs1 → W p l e R s m args below meth c H1 locs1 (cells + mc) (slots + ms) Q (F0 m (pc + 3) ls (.ref v :: rest))) : W p l e R s m args below meth c H locs cells slots Q (F0 m pc ls st0) :=
  fk_r hr hw (fun r ad1 M1 H1 locs1 hp hw1 => by obtain ⟨e1, e2, e3⟩ := hp; rw [e3]; rw [e1, e2] at hw1; exact kk H1 locs1 hw1)
theorem f_cast (X : fX p s m args meth c cc nL ret own g) (hw : fw g ad M s H locs) {ci index : Nat} {C : String} {T : u_T} {N : Nat} {ty : Nat → FieldType} {fs : List Value} (hM : M lb = some (.inr (ci, fs))) (hc : fcl ci C T N ty) (hlink : Cond.classLink own index C ∈ AL) (hdg : decode cc pc = .ok (.checkcast index, 3))
    (kk : W p l e R s m args below meth c H locs cells slots Q (F0 m (pc + 3) ls (.ref (ad lb) :: rest))) : W p l e R s m args below meth c H locs cells slots Q (F0 m pc ls (.ref (ad lb) :: rest)) := by
  obtain ⟨hx, hb, hml, hown, hts, hK, hz, hr, hlk⟩ := id X
  exact va_castS hx hb hown (hts _ hlink) (hK.1.1 ci _ hc.1).2 (f_recv X hw hM hc.1) hdg kk
theorem f_aald (X : fX p s m args meth c cc nL ret own g) (hw : fw g ad M s H locs) {n : Nat} {f : Nat → Option Nat} (hM : M lb = some (.inl (gO g, n, .inr (.inr (.inr (.inr f)))))) {i : Int32} (hin : vp_in i n) {q : Nat} (hf : f i.toNatClampNeg = some q) (hdg : decode cc pc = .ok (.aaload, 1))
    (kk : W p l e R s m args below meth c H locs cells slots Q (F0 m (pc + 1) ls (.ref q :: rest))) : W p l e R s m args below meth c H locs cells slots Q (F0 m pc ls (.int i :: .ref (ad lb) :: rest)) := by
  obtain ⟨hx, hb, hml, hown, hts, hK, hz, hr, hlk⟩ := id X
  refine va_aldq hx hb hK.1 (f_single (hw.1.2.2.1 lb _ hM).2) 0 2 rfl rfl hin hdg ?_
  rw [hf]
  exact kk
theorem f_top {x y : Int32} (h : x = y) (k : W p l e R s m args below meth c H locs cells slots Q (F0 m pc ls (.int y :: rest))) : W p l e R s m args below meth c H locs cells slots Q (F0 m pc ls (.int x :: rest)) := h ▸ k
end FDET
theorem fU_same {M : fM} {l : Nat} {e : va_E} (h : M l = some e) : fU M l e = M := by funext k; unfold fU; by_cases hk : k = l <;> simp [hk, h]
abbrev hV (f : Nat → Int32) : List Value := [.int (f 0), .int (f 1), .int (f 2), .int (f 3), .int (f 4), .int (f 5), .int (f 6)]
abbrev pV (f : Nat → Int32) : List Value := [.int (f 0), .int (f 1)]
abbrev eV (f : Nat → Int32) : List Value := [.int (f 0), .int (f 1), .int (f 2), .int (f 3), .int (f 4), .int (f 5), .int (f 6), .int (f 7), .int (f 8), .int (f 9), .int (f 10)]
/-- a list object at the label ll, its array at la, its n elements at eb, eb + 1 .. -/
def fList (g : fG) (ad : Nat → Nat) (M : fM) (ll la eb n : Nat) : Prop := ∃ (mo : Int32) (d N : Nat) (f : Nat → Option Nat), M ll = some (.inr (0, [.int mo, .ref d, .int (nI n)])) ∧ n ≤ 1000 ∧
  ((d = gE g ∧ n = 0) ∨ (d = ad la ∧ M la = some (.inl (gO g, N, .inr (.inr (.inr (.inr f))))) ∧ n ≤ N ∧ 10 ≤ N ∧ N ≤ 43 ∧ ∀ i, i < n → f i = some (ad (eb + i))))
theorem f_tout {x : Int32} {lo hi : Int} (h : ∀ k : Int, lo ≤ k → k ≤ hi → ¬ x = Int32.ofInt k) : x.toInt < lo ∨ hi < x.toInt := by
  by_cases a : x.toInt < lo
  · exact Or.inl a
  · by_cases b : hi < x.toInt
    · exact Or.inr b
    · exact absurd (Int32.ofInt_toInt x).symm (h x.toInt (by omega) (by omega))
/-! WHAT ONE HOUSE, POND, ENGINE DOES -/
def hTell (f : Nat → Int32) (w : Int32) : Int32 := if w = 0 then f 0 else if w = 1 then f 1 else if w = 2 then f 2 else if w = 3 then f 3 else if w = 4 then f 4 else if w = 5 then f 5 else f 6
def iMin (x y : Int32) : Int32 := if y < x then y else x
def iMax (x y : Int32) : Int32 := if x < y then y else x
/-- a house's minute by the fire: heat, walls -/
def hBurn (f : Nat → Int32) : Nat → Int32 :=
  if f 3 = 1 then
    if 0 < iMin 99 (f 4 + f 1 - f 5 / 4) then
      if iMax 0 (f 2 - 1 - iMin 99 (f 4 + f 1 - f 5 / 4) / 25) = 0 then upd (upd (upd (upd f 4 (iMin 99 (f 4 + f 1 - f 5 / 4))) 2 (iMax 0 (f 2 - 1 - iMin 99 (f 4 + f 1 - f 5 / 4) / 25))) 3 3) 4 0
      else upd (upd f 4 (iMin 99 (f 4 + f 1 - f 5 / 4))) 2 (iMax 0 (f 2 - 1 - iMin 99 (f 4 + f 1 - f 5 / 4) / 25))
    else upd (upd (upd f 4 (iMin 99 (f 4 + f 1 - f 5 / 4))) 3 2) 4 0
  else f
def eStands (f : Nat → Int32) : Bool := decide (f 5 = 0)
def ePump (f : Nat → Int32) : Int32 := if eStands f = true then (if 20 ≤ f 4 then f 2 * f 4 / 20 else 0) else 0
def eFire (f : Nat → Int32) : Nat → Int32 := if f 3 ≤ 0 then upd f 4 (iMax 0 (f 4 - 3)) else upd (upd f 3 (f 3 - 1)) 4 (iMin 100 (f 4 + 4))
def eDrive (f : Nat → Int32) : Nat → Int32 := if eStands f = true then f else if f 5 - 1 = 0 then upd (upd (upd f 5 (f 5 - 1)) 0 (f 6)) 6 (-1) else upd f 5 (f 5 - 1)
def eSpend (f : Nat → Int32) : Nat → Int32 := if f 9 ≤ 0 then f else upd f 4 (iMax 0 (f 4 - 2))
def eSetOut (f : Nat → Int32) (goal steps : Int32) : Nat → Int32 := upd (upd f 6 goal) 5 (steps * (5 - f 1))
def pGive (f : Nat → Int32) (w : Int32) : Int32 := iMax 0 (iMin w (f 1))
