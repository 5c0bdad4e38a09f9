/-! THE TOWN: its state as numbers, its cells, what is asked of it -/
abbrev fTn : Type := Int32 × (Nat × (Nat → Nat → Int32)) × (Nat × (Nat → Nat → Int32)) × (Nat × (Nat → Nat → Int32))
abbrev tM (t : fTn) : Int32 := t.1
abbrev tHn (t : fTn) : Nat := t.2.1.1
abbrev tH (t : fTn) : Nat → Nat → Int32 := t.2.1.2
abbrev tPn (t : fTn) : Nat := t.2.2.1.1
abbrev tP (t : fTn) : Nat → Nat → Int32 := t.2.2.1.2
abbrev tEn (t : fTn) : Nat := t.2.2.2.1
abbrev tE (t : fTn) : Nat → Nat → Int32 := t.2.2.2.2
/-- a town's cells: the town at the label b, its lists at b + 1 .. b + 3, their arrays at b + 4 .. b + 6, its houses at b + 100 .., ponds at b + 200 .., engines at b + 300 .. -/
def isTown (g : fG) (ad : Nat → Nat) (M : fM) (b : Nat) (T : fTn) : Prop :=
  M b = some (.inr (5, [.int (tM T), .ref (ad (b + 1)), .ref (ad (b + 2)), .ref (ad (b + 3))])) ∧
  fList g ad M (b + 1) (b + 4) (b + 100) (tHn T) ∧ fList g ad M (b + 2) (b + 5) (b + 200) (tPn T) ∧ fList g ad M (b + 3) (b + 6) (b + 300) (tEn T) ∧
  (∀ i, i < tHn T → M (b + 100 + i) = some (.inr (3, hV (tH T i)))) ∧ (∀ i, i < tPn T → M (b + 200 + i) = some (.inr (4, pV (tP T i)))) ∧ (∀ i, i < tEn T → M (b + 300 + i) = some (.inr (1, eV (tE T i)))) ∧
  tHn T ≤ 30 ∧ tPn T ≤ 6 ∧ tEn T ≤ 6 ∧ ∀ i, i < tEn T → tE T i 10 = 0 ∨ tE T i 10 = 1
theorem fList_obj {g : fG} {ad : Nat → Nat} {M : fM} {ll la eb n : Nat} (h : fList g ad M ll la eb n) : ∃ fs, M ll = some (.inr (0, fs)) := by
  obtain ⟨mo, d, N, f, h1, -⟩ := h
  exact ⟨_, h1⟩
theorem nI_le' {a b : Nat} (h : nI a ≤ nI b) (ha : a < 2 ^ 31) (hb : b < 2 ^ 31) : a ≤ b := (nI_leI ha hb).mp h
theorem nI_nle' {a b : Nat} (h : ¬ nI a ≤ nI b) (ha : a < 2 ^ 31) (hb : b < 2 ^ 31) : b < a := Nat.lt_of_not_le fun z => h ((nI_leI ha hb).mpr z)
theorem nI_lt' {a b : Nat} (h : nI a < nI b) (ha : a < 2 ^ 31) (hb : b < 2 ^ 31) : a < b := (nI_ltI ha hb).mp h
theorem nI_nlt' {a b : Nat} (h : ¬ nI a < nI b) (ha : a < 2 ^ 31) (hb : b < 2 ^ 31) : b ≤ a := Nat.le_of_not_lt fun z => h ((nI_ltI ha hb).mpr z)
theorem nI_eq' {a b : Nat} (h : nI a = nI b) (ha : a < 2 ^ 31) (hb : b < 2 ^ 31) : a = b := (nI_eq ha hb).mp h
theorem nI_neq' {a b : Nat} (h : ¬ nI a = nI b) (ha : a < 2 ^ 31) (hb : b < 2 ^ 31) : a ≠ b := fun z => h (by rw [z])
/-! cells of the map -/
def iMod (a : Int32) : Int32 := a - a / 14 * 14
def iAbs (x : Int32) : Int32 := if 0 ≤ x then x else 0 - x
def aOn (x y : Int32) : Bool := decide (¬ x < 0) && (decide (¬ 14 ≤ x) && (decide (¬ y < 0) && decide (¬ 10 ≤ y)))
def aDist (a b : Int32) : Int32 := iAbs (iMod a - iMod b) + iAbs (a / 14 - b / 14)
def aNear (a b : Int32) : Bool := decide (¬ a = b) && (decide (¬ 1 < (iMod a - iMod b) * (iMod a - iMod b)) && decide (¬ 1 < (a / 14 - b / 14) * (a / 14 - b / 14)))
/-! counts and sums -/
def cntH (f : Nat → Nat → Int32) (w : Int32) : Nat → Int32
  | 0 => 0
  | k + 1 => if f k 3 = w then cntH f w k + 1 else cntH f w k
def sumH (f : Nat → Nat → Int32) (w : Int32) : Nat → Int32
  | 0 => 0
  | k + 1 => sumH f w k + hTell (f k) w
def sumP (f : Nat → Nat → Int32) : Nat → Int32
  | 0 => 0
  | k + 1 => sumP f k + f k 1
def cntE (f : Nat → Nat → Int32) (w : Int32) : Nat → Int32
  | 0 => 0
  | k + 1 => if f k 0 = w then cntE f w k + 1 else cntE f w k
def anyGoal (f : Nat → Nat → Int32) (w : Int32) : Nat → Bool
  | 0 => false
  | k + 1 => anyGoal f w k || decide (f k 6 = w)
def heatN (f : Nat → Nat → Int32) (w : Int32) : Nat → Int32
  | 0 => 0
  | k + 1 => if f k 3 = 1 then (if aNear (f k 0) w = true then heatN f w k + f k 4 else heatN f w k) else heatN f w k
/-- the first of n places for which p holds, n if for none -/
def firstN (p : Nat → Bool) : Nat → Nat
  | 0 => 0
  | n + 1 => if p 0 = true then 0 else firstN (fun i => p (i + 1)) n + 1
theorem firstN_le (p : Nat → Bool) (n : Nat) : firstN p n ≤ n := by
  induction n generalizing p with
  | zero => exact Nat.le_refl 0
  | succ n ih =>
    unfold firstN
    split
    · exact Nat.zero_le _
    · exact Nat.succ_le_succ (ih _)
theorem firstN_no {p : Nat → Bool} {n k : Nat} (h : k < firstN p n) : p k = false := by
  induction n generalizing p k with
  | zero => exact absurd h (Nat.not_lt_zero _)
  | succ n ih =>
    unfold firstN at h
    split at h
    · exact absurd h (Nat.not_lt_zero _)
    · cases k with
      | zero => simp_all
      | succ k => exact ih (p := fun i => p (i + 1)) (by omega)
theorem firstN_yes {p : Nat → Bool} {n : Nat} (h : firstN p n < n) : p (firstN p n) = true := by
  induction n generalizing p with
  | zero => exact absurd h (Nat.not_lt_zero _)
  | succ n ih =>
    unfold firstN at h ⊢
    split
    · assumption
    · rename_i hp
      simp only [hp] at h
      exact ih (p := fun i => p (i + 1)) (by simpa using h)
theorem firstN_at {p : Nat → Bool} {n k : Nat} (hk : k < n) (h1 : p k = true) (h2 : ∀ j, j < k → p j = false) : firstN p n = k := by
  rcases Nat.lt_trichotomy (firstN p n) k with h | h | h
  · have := firstN_yes (p := p) (n := n) (by omega)
    rw [h2 _ h] at this
    cases this
  · exact h
  · rw [firstN_no h] at h1
    cases h1
theorem firstN_none {p : Nat → Bool} {n : Nat} (h : ∀ j, j < n → p j = false) : firstN p n = n := by
  rcases Nat.lt_or_ge (firstN p n) n with a | a
  · have := firstN_yes a
    rw [h _ a] at this
    cases this
  · exact Nat.le_antisymm (firstN_le p n) a
/-- as Java tells it: -1 for none -/
def jFirst (p : Nat → Bool) (n : Nat) : Int32 := if firstN p n < n then nI (firstN p n) else -1
def pondOf (T : fTn) (f : Nat → Int32) : Int32 := if eStands f = true then jFirst (fun i => aNear (tP T i 0) (f 0)) (tPn T) else -1
/-- what Town.tell says -/
def tTell (T : fTn) (w : Int32) : Int32 := if w = 0 then tM T else if w = 1 then nI (tHn T) else if w = 2 then cntH (tH T) 1 (tHn T) else if w = 3 then cntH (tH T) 2 (tHn T) else if w = 4 then cntH (tH T) 3 (tHn T) else if w = 5 then nI (tPn T) else if w = 6 then nI (tEn T) else if w = 7 then sumP (tP T) (tPn T) else if w = 8 then sumH (tH T) 4 (tHn T) else sumH (tH T) 6 (tHn T)
def eTell (T : fTn) (f : Nat → Int32) (w : Int32) : Int32 := if w = 0 then f 0 else if w = 1 then f 1 else if w = 2 then f 2 else if w = 3 then f 3 else if w = 4 then f 4 else if w = 5 then f 5 else if w = 6 then f 7 else if w = 7 then pondOf T f else if w = 8 then f 9 else ePump f
def isIx (n : Nat) (x : Int32) : Bool := decide (¬ x < 0) && decide (¬ nI n ≤ x)
/-- whether an engine that isn't asked yet has its hose at x -/
def waits (f : Nat → Nat → Int32) (x : Int32) : Nat → Bool
  | 0 => false
  | k + 1 => waits f x k || (decide (f k 10 = 0) && decide (f k 7 = x))
def nextE (T : fTn) : Int32 := jFirst (fun i => decide (tE T i 10 = 0) && !(waits (tE T) (nI i) (tEn T))) (tEn T)
/-- the hoses from 'at' on, at most n steps: whether one comes to 'to' -/
def leadsN (T : fTn) (to : Int32) : Nat → Int32 → Bool
  | 0, _ => false
  | n + 1, at0 => isIx (tEn T) at0 && (decide (at0 = to) || leadsN T to n (tE T at0.toNatClampNeg 7))
theorem f_lts {p : Nat → Bool} {k : Nat} (h : ∀ j, j < k → p j = false) (hk : p k = false) : ∀ j, j < k + 1 → p j = false := fun j hj => by
  rcases Nat.lt_or_ge j k with a | a
  · exact h j a
  · rw [show j = k by omega]; exact hk
theorem jFirst_at {p : Nat → Bool} {n k : Nat} (hk : k < n) (h1 : p k = true) (h2 : ∀ j, j < k → p j = false) : nI k = jFirst p n := by
  unfold jFirst
  rw [firstN_at hk h1 h2, if_pos hk]
theorem jFirst_none {p : Nat → Bool} {n : Nat} (h : ∀ j, j < n → p j = false) : (-1 : Int32) = jFirst p n := by
  unfold jFirst
  rw [firstN_none h, if_neg (Nat.lt_irrefl _)]
theorem anyGoal_t {f : Nat → Nat → Int32} {w : Int32} {k n : Nat} (hk : k < n) (h : f k 6 = w) : anyGoal f w n = true := by
  induction n with
  | zero => exact absurd hk (Nat.not_lt_zero _)
  | succ n ih =>
    unfold anyGoal
    rcases Nat.lt_or_ge k n with a | a
    · rw [ih a]; rfl
    · rw [show n = k by omega, h]; simp
theorem waits_t {f : Nat → Nat → Int32} {w : Int32} {k n : Nat} (hk : k < n) (h0 : f k 10 = 0) (h : f k 7 = w) : waits f w n = true := by
  induction n with
  | zero => exact absurd hk (Nat.not_lt_zero _)
  | succ n ih =>
    unfold waits
    rcases Nat.lt_or_ge k n with a | a
    · rw [ih a]; rfl
    · rw [show n = k by omega, h, h0]; simp
theorem isIx_t {n : Nat} {x : Int32} (h : isIx n x = true) (hn : n < 2 ^ 31) : ∃ j : Nat, j < n ∧ x = nI j := by
  simp only [isIx, Bool.and_eq_true, decide_eq_true_eq] at h
  rcases pk_ix x hn with a | a | a
  · exact absurd a h.1
  · exact absurd a h.2
  · exact a
theorem isIx_nI {n j : Nat} (h : j < n) (hn : n < 2 ^ 31) : isIx n (nI j) = true := by
  simp only [isIx, Bool.and_eq_true, decide_eq_true_eq]
  exact ⟨nI_pos (by omega), nI_ge h hn⟩
section FVE
variable {p : Program} {l : Launch} {e : Env} {R : Room} {s : State} {m : MethodId} {args : Array Value} {below : List Frame} {meth : Method} {c : Code} {H : Heap} {locs : List Loc} {cells slots : Nat} {Q : State → Prop}
variable {cc : ByteArray} {nL : Nat} {ret : Option FieldType} {own : String} {g : fG} {ad : Nat → Nat} {M : fM} {pc : Nat} {ls : Array Slot} {rest : List Value} {lb : Nat}
variable {y : MethodName} {bytes : ByteArray} {maxL fr lo mc ms n index : Nat} {rt : Option FieldType} {Qc : Array Value → State → Outcome → State → Prop} {As st0 : List Value} {free : Addr → Prop}
theorem fcVe (X : fX p s m args meth c cc nL ret own g) (hw : fw g ad M s H locs) (hC : Met l y (fWs y bytes maxL rt) (fR fr lo mc ms) (va_Pc (.ref (ad lb) :: As) (fS g ad M)) Qc mc ms free)
    {ci : Nat} {C : String} {T : u_T} {N : Nat} (hM : ∃ fs, M lb = some (.inr (ci, fs))) (hci : vwCl[ci]? = some (C, T, N)) (kl : Cond.methodLink own index y ∈ AL) (kv : fkV C y bytes maxL rt n) (hR : fr + 1 ≤ R.frames ∧ 8 + (maxL + 11) + lo ≤ R.locals) (hn : As.length = n) (hls : ls.size = nL) (hst : st0 = As.reverse ++ .ref (ad lb) :: rest) (hW : (rest.map fun v => v.category).sum ≤ 8) (hdg : decode cc pc = .ok (.invokevirtual index, 3)) (hf : cells + mc ≤ R.cells ∧ slots + ms ≤ R.slots) :
    va_Run p l e R s m args below meth c H locs cells slots mc ms (F0 m pc ls st0) rest (Qc (Value.ref (ad lb) :: As).toArray) free := by
  obtain ⟨fs, hM⟩ := hM
  exact fcV X hw hC hM hci kl kv hR hn hls hst hW hdg hf
end FVE
