/-! THE GROUND: kinds, numbers, steps of 140 cells each; the ways over the streets, as the class looks for them -/
def isGround (g : fG) (ad : Nat → Nat) (M : fM) (kf nf sf : Nat → Int32) : Prop := M 1 = some (.inr (2, [.ref (ad 2), .ref (ad 3), .ref (ad 4)])) ∧ M 2 = some (.inl (gI g, 140, .inl kf)) ∧ M 3 = some (.inl (gI g, 140, .inl nf)) ∧ M 4 = some (.inl (gI g, 140, .inl sf))
def kOf (kf : Nat → Int32) (c : Int32) : Int32 := if c < 0 then -1 else if 140 ≤ c then -1 else kf c.toNatClampNeg
def kSt (kf : Nat → Int32) (c : Int32) : Bool := decide (kOf kf c = 0)
def nOf (kf nf : Nat → Int32) (c : Int32) : Int32 := if c < 0 then -1 else if 140 ≤ c then -1 else if kf c.toNatClampNeg = 0 then -1 else nf c.toNatClampNeg
def fillF (f : Nat → Int32) (v : Int32) (k : Nat) : Nat → Int32 := fun j => if j < k then v else f j
theorem fillF_step {f : Nat → Int32} {v : Int32} {k : Nat} : upd (fillF f v k) k v = fillF f v (k + 1) := by
  funext j
  unfold upd fillF
  by_cases h : j = k
  · rw [if_pos h, if_pos (by omega)]
  · by_cases h2 : j < k
    · rw [if_neg h, if_pos h2, if_pos (by omega)]
    · rw [if_neg h, if_neg h2, if_neg (by omega)]
theorem fillF_0 {f : Nat → Int32} {v : Int32} : fillF f v 0 = f := by
  funext j
  exact if_neg (Nat.not_lt_zero _)
theorem aOn_ix {x y : Int32} (h : aOn x y = true) : ∃ j : Nat, j < 140 ∧ x + 14 * y = nI j := by
  simp only [aOn, Bool.and_eq_true, decide_eq_true_eq] at h
  obtain ⟨h1, h2, h3, h4⟩ := h
  rcases pk_ix x (n := 14) (by decide) with a | a | ⟨i, hi, rfl⟩
  · exact absurd a h1
  · exact absurd a h2
  · rcases pk_ix y (n := 10) (by decide) with a | a | ⟨j, hj, rfl⟩
    · exact absurd a h3
    · exact absurd a h4
    · refine ⟨i + 14 * j, by omega, ?_⟩
      rw [show (14 : Int32) = nI 14 from rfl, pk_mul, nI_add]
def entC (kf sf : Nat → Int32) (x y : Int32) : Bool := aOn x y && (kSt kf (x + 14 * y) && decide (sf (x + 14 * y).toNatClampNeg = -1))
def entS (kf sf : Nat → Int32) (x y w : Int32) : Nat → Int32 := if entC kf sf x y = true then upd sf (x + 14 * y).toNatClampNeg w else sf
def entF (kf : Nat → Int32) (q : (Nat → Int32) × Int32) (x y w : Int32) : (Nat → Int32) × Int32 := (entS kf q.1 x y w, q.2 + bI (entC kf q.1 x y))
/-- one step on from the cells of a wave: the first k cells -/
def sprF (kf sf : Nat → Int32) (w : Int32) : Nat → (Nat → Int32) × Int32
  | 0 => (sf, 0)
  | k + 1 => if (sprF kf sf w k).1 k = w then
      entF kf (entF kf (entF kf (entF kf (sprF kf sf w k) (iMod (nI k) - 1) (nI k / 14) (w + 1)) (iMod (nI k) + 1) (nI k / 14) (w + 1)) (iMod (nI k)) (nI k / 14 - 1) (w + 1)) (iMod (nI k)) (nI k / 14 + 1) (w + 1)
    else sprF kf sf w k
/-- the waves: the steps so far, and how many were entered -/
def wavG (kf sf : Nat → Int32) (fr to : Nat) : Nat → (Nat → Int32) × Int32
  | 0 => (upd (fillF sf (-1) 140) fr 0, 1)
  | k + 1 => if 0 < (wavG kf sf fr to k).2 then (if (wavG kf sf fr to k).1 to = -1 then sprF kf (wavG kf sf fr to k).1 (nI k) 140 else wavG kf sf fr to k) else wavG kf sf fr to k
theorem wavG_stop {kf sf : Nat → Int32} {fr to k : Nat} (h : ¬ (0 < (wavG kf sf fr to k).2 ∧ (wavG kf sf fr to k).1 to = -1)) : ∀ n, wavG kf sf fr to (k + n) = wavG kf sf fr to k := by
  intro n
  induction n with
  | zero => rfl
  | succ n ih =>
    show wavG kf sf fr to ((k + n) + 1) = _
    rw [wavG, ih]
    by_cases a : 0 < (wavG kf sf fr to k).2
    · rw [if_pos a, if_neg (fun b => h ⟨a, b⟩)]
    · rw [if_neg a]
def stepsOk (kf : Nat → Int32) (a b : Nat) : Bool := kSt kf (nI a) && kSt kf (nI b)
def stepsF (kf sf : Nat → Int32) (a b : Nat) : Nat → Int32 := if stepsOk kf a b = true then (wavG kf sf a b 140).1 else sf
def stepsR (kf sf : Nat → Int32) (a b : Nat) : Int32 := if stepsOk kf a b = true then (wavG kf sf a b 140).1 b else -1
theorem stepsF_yes {kf sf : Nat → Int32} {a b : Nat} (h : (kSt kf (nI a) && kSt kf (nI b)) = true) : stepsF kf sf a b = (wavG kf sf a b 140).1 := if_pos h
theorem stepsR_yes {kf sf : Nat → Int32} {a b : Nat} (h : (kSt kf (nI a) && kSt kf (nI b)) = true) : stepsR kf sf a b = (wavG kf sf a b 140).1 b := if_pos h
theorem stepsF_no {kf sf : Nat → Int32} {a b : Nat} (h : (kSt kf (nI a) && kSt kf (nI b)) = false) : stepsF kf sf a b = sf := if_neg (by unfold stepsOk; rw [h]; exact Bool.false_ne_true)
theorem stepsR_no {kf sf : Nat → Int32} {a b : Nat} (h : (kSt kf (nI a) && kSt kf (nI b)) = false) : stepsR kf sf a b = -1 := if_neg (by unfold stepsOk; rw [h]; exact Bool.false_ne_true)
theorem f_ix140 {c : Int32} (h1 : ¬ c < 0) (h2 : ¬ 140 ≤ c) : vp_in c 140 := by
  rcases pk_ix c (n := 140) (by decide) with a | a | ⟨i, hi, rfl⟩
  · exact absurd a h1
  · exact absurd a h2
  · exact vp_in_nI hi (by decide)
