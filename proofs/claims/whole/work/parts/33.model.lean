/-! THE REFERENCE: its rows, told as a town: a house's row is tH, an engine's row is tE with GAVE in its column 9; comes is tE's column 8, asked its column 10 -/
def mRel (U : fTn) (pcs wa ht et mi co as : Nat → Int32) : Prop :=
  (∀ h, h < tHn U → ∀ k, k < 7 → ht (7 * h + k) = tH U h k) ∧ (∀ i, i < tPn U → pcs i = tP U i 0 ∧ wa i = tP U i 1) ∧
  (∀ j, j < tEn U → (∀ k, k < 8 → et (9 * j + k) = tE U j k) ∧ et (9 * j + 8) = tE U j 9 ∧ co j = tE U j 8 ∧ as j = tE U j 10 ∧ True) ∧ mi 0 = tM U
def mObj (ad : Nat → Nat) (M : fM) (th : Int32) (U : fTn) : Prop := M 5 = some (.inr (7, [.int th, .int (nI (tHn U)), .int (nI (tPn U)), .int (nI (tEn U)), .ref (ad 6), .ref (ad 7), .ref (ad 8), .ref (ad 9), .ref (ad 10), .ref (ad 11), .ref (ad 12), .ref (ad 13), .ref (ad 14)]))
def mArr (g : fG) (M : fM) (pcs wa ht et mi co as st ca : Nat → Int32) : Prop :=
  M 6 = some (.inl (gI g, 6, .inl pcs)) ∧ M 7 = some (.inl (gI g, 6, .inl wa)) ∧ M 8 = some (.inl (gI g, 210, .inl ht)) ∧ M 9 = some (.inl (gI g, 54, .inl et)) ∧ M 10 = some (.inl (gI g, 1, .inl mi)) ∧ M 11 = some (.inl (gI g, 6, .inl co)) ∧ M 12 = some (.inl (gZ g, 6, .inl as)) ∧ M 13 = some (.inl (gI g, 140, .inl st)) ∧ M 14 = some (.inl (gZ g, 30, .inl ca))
def mCnt (U : fTn) : Prop := tHn U ≤ 30 ∧ tPn U ≤ 6 ∧ tEn U ≤ 6
def isMo (g : fG) (ad : Nat → Nat) (M : fM) (th : Int32) (U : fTn) (st ca : Nat → Int32) : Prop :=
  ∃ pcs wa ht et mi co as : Nat → Int32, mObj ad M th U ∧ mArr g M pcs wa ht et mi co as st ca ∧ mRel U pcs wa ht et mi co as ∧ mCnt U
theorem upd_at {f : Nat → Int32} {i : Nat} {x : Int32} : upd f i x i = x := if_pos rfl
theorem upd_ne {f : Nat → Int32} {i j : Nat} {x : Int32} (h : j ≠ i) : upd f i x j = f j := if_neg h
/-- a cell of the reference's object -/
theorem mObj_n {ad : Nat → Nat} {M : fM} {th : Int32} {U : fTn} {l : Nat} {e : va_E} (h : mObj ad M th U) (hl : 5 ≠ l) : mObj ad (fU M l e) th U := (fU_n hl).trans h
theorem mRel_H {U : fTn} {pcs wa ht et mi co as : Nat → Int32} {h0 k0 : Nat} {v : Int32} (h : mRel U pcs wa ht et mi co as) (hh : h0 < tHn U) (hk : k0 < 7) : mRel (sH U h0 (upd (tH U h0) k0 v)) pcs wa (upd ht (7 * h0 + k0) v) et mi co as := by
  obtain ⟨r1, r2, r3, r4⟩ := h
  refine ⟨fun h1 hh1 k hk1 => ?_, r2, r3, r4⟩
  show upd ht (7 * h0 + k0) v (7 * h1 + k) = (if h1 = h0 then upd (tH U h0) k0 v else tH U h1) k
  by_cases e : h1 = h0
  · subst e
    rw [if_pos rfl]
    by_cases e2 : k = k0
    · subst e2; rw [upd_at, upd_at]
    · rw [upd_ne (by omega), upd_ne e2]; exact r1 _ hh1 _ hk1
  · rw [if_neg e, upd_ne (by omega)]
    exact r1 _ hh1 _ hk1
theorem mRel_E {U : fTn} {pcs wa ht et mi co as : Nat → Int32} {e0 k0 : Nat} {v : Int32} (h : mRel U pcs wa ht et mi co as) (hh : e0 < tEn U) (hk : k0 < 8) : mRel (sE U e0 (upd (tE U e0) k0 v)) pcs wa ht (upd et (9 * e0 + k0) v) mi co as := by
  obtain ⟨r1, r2, r3, r4⟩ := h
  refine ⟨r1, r2, fun j hj => ?_, r4⟩
  have hj : j < tEn U := hj
  obtain ⟨a1, a2, a3, a4, a5⟩ := r3 j hj
  show (∀ k, k < 8 → upd et (9 * e0 + k0) v (9 * j + k) = (if j = e0 then upd (tE U e0) k0 v else tE U j) k) ∧ upd et (9 * e0 + k0) v (9 * j + 8) = (if j = e0 then upd (tE U e0) k0 v else tE U j) 9 ∧ co j = (if j = e0 then upd (tE U e0) k0 v else tE U j) 8 ∧ as j = (if j = e0 then upd (tE U e0) k0 v else tE U j) 10 ∧ True
  by_cases e : j = e0
  · subst e
    rw [if_pos rfl, upd_ne (by omega), upd_ne (show 9 ≠ k0 by omega), upd_ne (show 8 ≠ k0 by omega), upd_ne (show 10 ≠ k0 by omega)]
    refine ⟨fun k hk1 => ?_, a2, a3, a4, a5⟩
    by_cases e2 : k = k0
    · subst e2; rw [upd_at, upd_at]
    · rw [upd_ne (by omega), upd_ne e2]; exact a1 _ hk1
  · rw [if_neg e, upd_ne (by omega)]
    exact ⟨fun k hk1 => by rw [upd_ne (by omega)]; exact a1 _ hk1, a2, a3, a4, a5⟩
theorem mRel_E8 {U : fTn} {pcs wa ht et mi co as : Nat → Int32} {e0 : Nat} {v : Int32} (h : mRel U pcs wa ht et mi co as) (hh : e0 < tEn U) : mRel (sE U e0 (upd (tE U e0) 9 v)) pcs wa ht (upd et (9 * e0 + 8) v) mi co as := by
  obtain ⟨r1, r2, r3, r4⟩ := h
  refine ⟨r1, r2, fun j hj => ?_, r4⟩
  have hj : j < tEn U := hj
  obtain ⟨a1, a2, a3, a4, a5⟩ := r3 j hj
  show (∀ k, k < 8 → upd et (9 * e0 + 8) v (9 * j + k) = (if j = e0 then upd (tE U e0) 9 v else tE U j) k) ∧ upd et (9 * e0 + 8) v (9 * j + 8) = (if j = e0 then upd (tE U e0) 9 v else tE U j) 9 ∧ co j = (if j = e0 then upd (tE U e0) 9 v else tE U j) 8 ∧ as j = (if j = e0 then upd (tE U e0) 9 v else tE U j) 10 ∧ True
  by_cases e : j = e0
  · subst e
    rw [if_pos rfl, upd_at, upd_at, upd_ne (show 8 ≠ 9 by omega), upd_ne (show 10 ≠ 9 by omega)]
    exact ⟨fun k hk1 => by rw [upd_ne (by omega), upd_ne (by omega)]; exact a1 _ hk1, rfl, a3, a4, a5⟩
  · rw [if_neg e, upd_ne (by omega)]
    exact ⟨fun k hk1 => by rw [upd_ne (by omega)]; exact a1 _ hk1, a2, a3, a4, a5⟩
theorem mRel_C {U : fTn} {pcs wa ht et mi co as : Nat → Int32} {e0 : Nat} {v : Int32} (h : mRel U pcs wa ht et mi co as) (hh : e0 < tEn U) : mRel (sE U e0 (upd (tE U e0) 8 v)) pcs wa ht et mi (upd co e0 v) as := by
  obtain ⟨r1, r2, r3, r4⟩ := h
  refine ⟨r1, r2, fun j hj => ?_, r4⟩
  have hj : j < tEn U := hj
  obtain ⟨a1, a2, a3, a4, a5⟩ := r3 j hj
  show (∀ k, k < 8 → et (9 * j + k) = (if j = e0 then upd (tE U e0) 8 v else tE U j) k) ∧ et (9 * j + 8) = (if j = e0 then upd (tE U e0) 8 v else tE U j) 9 ∧ upd co e0 v j = (if j = e0 then upd (tE U e0) 8 v else tE U j) 8 ∧ as j = (if j = e0 then upd (tE U e0) 8 v else tE U j) 10 ∧ True
  by_cases e : j = e0
  · subst e
    rw [if_pos rfl, upd_at, upd_at, upd_ne (show 9 ≠ 8 by omega), upd_ne (show 10 ≠ 8 by omega)]
    exact ⟨fun k hk1 => by rw [upd_ne (by omega)]; exact a1 _ hk1, a2, rfl, a4, a5⟩
  · rw [if_neg e, upd_ne e]
    exact ⟨a1, a2, a3, a4, a5⟩
theorem mRel_A {U : fTn} {pcs wa ht et mi co as : Nat → Int32} {e0 : Nat} {v : Int32} (h : mRel U pcs wa ht et mi co as) (hh : e0 < tEn U) (hv : v = 0 ∨ v = 1) : mRel (sE U e0 (upd (tE U e0) 10 v)) pcs wa ht et mi co (upd as e0 v) := by
  obtain ⟨r1, r2, r3, r4⟩ := h
  refine ⟨r1, r2, fun j hj => ?_, r4⟩
  have hj : j < tEn U := hj
  obtain ⟨a1, a2, a3, a4, a5⟩ := r3 j hj
  show (∀ k, k < 8 → et (9 * j + k) = (if j = e0 then upd (tE U e0) 10 v else tE U j) k) ∧ et (9 * j + 8) = (if j = e0 then upd (tE U e0) 10 v else tE U j) 9 ∧ co j = (if j = e0 then upd (tE U e0) 10 v else tE U j) 8 ∧ upd as e0 v j = (if j = e0 then upd (tE U e0) 10 v else tE U j) 10 ∧ True
  by_cases e : j = e0
  · subst e
    rw [if_pos rfl, upd_at, upd_at, upd_ne (show 9 ≠ 10 by omega), upd_ne (show 8 ≠ 10 by omega)]
    exact ⟨fun k hk1 => by rw [upd_ne (by omega)]; exact a1 _ hk1, a2, a3, rfl, trivial⟩
  · rw [if_neg e, upd_ne e]
    exact ⟨a1, a2, a3, a4, a5⟩
theorem mRel_W {U : fTn} {pcs wa ht et mi co as : Nat → Int32} {p0 : Nat} {v : Int32} (h : mRel U pcs wa ht et mi co as) (hh : p0 < tPn U) : mRel (sP U p0 (upd (tP U p0) 1 v)) pcs (upd wa p0 v) ht et mi co as := by
  obtain ⟨r1, r2, r3, r4⟩ := h
  refine ⟨r1, fun i hi => ?_, r3, r4⟩
  have hi : i < tPn U := hi
  obtain ⟨a1, a2⟩ := r2 i hi
  show pcs i = (if i = p0 then upd (tP U p0) 1 v else tP U i) 0 ∧ upd wa p0 v i = (if i = p0 then upd (tP U p0) 1 v else tP U i) 1
  by_cases e : i = p0
  · subst e
    rw [if_pos rfl, upd_at, upd_at, upd_ne (show 0 ≠ 1 by omega)]
    exact ⟨a1, rfl⟩
  · rw [if_neg e, upd_ne e]
    exact ⟨a1, a2⟩
theorem mRel_M {U : fTn} {pcs wa ht et mi co as : Nat → Int32} {v : Int32} (h : mRel U pcs wa ht et mi co as) : mRel (sM U v) pcs wa ht et (upd mi 0 v) co as := ⟨h.1, h.2.1, h.2.2.1, upd_at⟩
abbrev fMw (g : fG) (ad : Nat → Nat) (M : fM) (th : Int32) (U : fTn) (st ca : Nat → Int32) : (Nat → Nat) → fM → Prop := fun ad1 M1 => ad1 = ad ∧ isMo g ad M1 th U st ca ∧ fReg 5 15 ad M ad M1
abbrev fMi (g : fG) (ad : Nat → Nat) (M : fM) (th : Int32) (U : fTn) (st ca : Nat → Int32) (v : Int32) : Int32 → (Nat → Nat) → fM → Prop := fun r ad1 M1 => ad1 = ad ∧ isMo g ad M1 th U st ca ∧ fReg 5 15 ad M ad M1 ∧ r = v
section FMW
variable {p : Program} {l : Launch} {e : Env} {R : Room} {s : State} {m : MethodId} {args : Array Value} {below : List Frame} {meth : Method} {c : Code} {H : Heap} {locs : List Loc} {cells slots : Nat} {Q : State → Prop}
variable {g : fG} {ad : Nat → Nat} {M : fM} {pc : Nat} {ls : Array Slot} {rest : List Value} {st0 : List Value} {a : Array Value} {mc ms : Nat} {U : fTn} {th : Int32} {st ca : Nat → Int32}
theorem fk_mv (hr : va_Run p l e R s m args below meth c H locs cells slots mc ms (F0 m pc ls st0) rest (fQv g (fMw g ad M th U st ca) a) (fA g)) (hw : fw g ad M s H locs)
    (kk : ∀ (M1 : fM) (H1 : Heap) (locs1 : List Loc), isMo g ad M1 th U st ca → fReg 5 15 ad M ad M1 → fw g ad M1 s H1 locs1 → W p l e R s m args below meth c H1 locs1 (cells + mc) (slots + ms) Q (F0 m (pc + 3) ls rest)) : W p l e R s m args below meth c H locs cells slots Q (F0 m pc ls st0) :=
  fk_v hr hw (fun ad1 M1 H1 locs1 hp hw1 => by obtain ⟨e1, e2, e3⟩ := hp; rw [e1] at hw1; exact kk M1 H1 locs1 e2 e3 hw1)
theorem fk_mi {v : Int32} (hr : va_Run p l e R s m args below meth c H locs cells slots mc ms (F0 m pc ls st0) rest (fQi g (fMi g ad M th U st ca v) a) (fA g)) (hw : fw g ad M s H locs)
    (kk : ∀ (M1 : fM) (H1 : Heap) (locs1 : List Loc), isMo g ad M1 th U st ca → fReg 5 15 ad M ad M1 → fw g ad M1 s H1 locs1 → W p l e R s m args below meth c H1 locs1 (cells + mc) (slots + ms) Q (F0 m (pc + 3) ls (.int v :: rest))) : W p l e R s m args below meth c H locs cells slots Q (F0 m pc ls st0) :=
  fk_i hr hw (fun r ad1 M1 H1 locs1 hp hw1 => by obtain ⟨e1, e2, e3, e4⟩ := hp; rw [e4]; rw [e1] at hw1; exact kk M1 H1 locs1 e2 e3 hw1)
end FMW
/-! what the reference asks, in its own way -/
def mNear (a b : Int32) : Bool := decide (¬ a = b) && (decide (¬ 1 < iAbs (iMod a - iMod b)) && decide (¬ 1 < iAbs (a / 14 - b / 14)))
theorem toInt_nI {n : Nat} (h : n < 2 ^ 31) : (nI n).toInt = (n : Int) := by
  unfold nI
  rw [Int32.toInt_ofNat_of_lt h]
theorem inR_ix {n : Nat} {x : Int32} (h : n ≤ 1000) : inR x 0 (nI n - 1) = isIx n x := by
  have e : (nI n - 1).toInt = (n : Int) - 1 := by
    rw [Int32.toInt_sub, toInt_nI (by omega)]
    show ((n : Int) - 1).bmod (2 ^ 32) = _
    rw [Int.bmod_eq_of_le] <;> omega
  unfold inR isIx
  congr 1
  apply decide_eq_decide.mpr
  rw [Int32.lt_iff_toInt_lt, Int32.le_iff_toInt_le, e, toInt_nI (by omega)]
  omega
theorem inR_cell {x y : Int32} : (inR x 0 13 && inR y 0 9) = aOn x y := by
  have a : decide (¬ (13 : Int32) < x) = decide (¬ (14 : Int32) ≤ x) := by
    apply decide_eq_decide.mpr
    rw [Int32.lt_iff_toInt_lt, Int32.le_iff_toInt_le, show (13 : Int32).toInt = 13 from rfl, show (14 : Int32).toInt = 14 from rfl]
    omega
  have b : decide (¬ (9 : Int32) < y) = decide (¬ (10 : Int32) ≤ y) := by
    apply decide_eq_decide.mpr
    rw [Int32.lt_iff_toInt_lt, Int32.le_iff_toInt_le, show (9 : Int32).toInt = 9 from rfl, show (10 : Int32).toInt = 10 from rfl]
    omega
  unfold inR aOn
  rw [a, b, Bool.and_assoc]
