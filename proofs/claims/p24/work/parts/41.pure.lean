def mCnt (U : fTn) : Prop := tHn U ≤ 30 ∧ tPn U ≤ 6 ∧ tEn U ≤ 6
def mNear (a b : Int32) : Bool := decide (¬ a = b) && (decide (¬ 1 < iAbs (iMod a - iMod b)) && decide (¬ 1 < iAbs (a / 14 - b / 14)))
theorem inR_ix {n : Nat} {x : Int32} (h : n ≤ 1000) : inR x 0 (nI n - 1) = isIx n x := by
  have e : (nI n - 1).toInt = (n : Int) - 1 := by
    rw [Int32.toInt_sub, toInt_nI (by omega)]
    show ((n : Int) - 1).bmod (2 ^ 32) = _
    rw [Int.bmod_eq_of_le] <;> omega
  unfold inR isIx
  congr 1
  apply decide_eq_decide.mpr
  rw [Int32.lt_iff_toInt_lt, Int32.le_iff_toInt_le, e, toInt_nI (by omega)]
  omega
theorem inR_cell {x y : Int32} : (inR x 0 13 && inR y 0 9) = aOn x y := by
  have a : decide (¬ (13 : Int32) < x) = decide (¬ (14 : Int32) ≤ x) := by
    apply decide_eq_decide.mpr
    rw [Int32.lt_iff_toInt_lt, Int32.le_iff_toInt_le, show (13 : Int32).toInt = 13 from rfl, show (14 : Int32).toInt = 14 from rfl]
    omega
  have b : decide (¬ (9 : Int32) < y) = decide (¬ (10 : Int32) ≤ y) := by
    apply decide_eq_decide.mpr
    rw [Int32.lt_iff_toInt_lt, Int32.le_iff_toInt_le, show (9 : Int32).toInt = 9 from rfl, show (10 : Int32).toInt = 10 from rfl]
    omega
  unfold inR aOn
  rw [a, b, Bool.and_assoc]

theorem ix7 {h k : Nat} {what : Int32} (hk : what = nI k) : 7 * nI h + what = nI (7 * h + k) := by rw [hk, show (7 : Int32) = nI 7 from rfl, pk_mul, nI_add]
theorem ix9 {h k : Nat} {what : Int32} (hk : what = nI k) : 9 * nI h + what = nI (9 * h + k) := by rw [hk, show (9 : Int32) = nI 9 from rfl, pk_mul, nI_add]
def hAt (U : fTn) (c : Int32) : Int32 := jFirst (fun i => decide (tH U i 0 = c)) (tHn U)
def pAt (U : fTn) (c : Int32) : Int32 := jFirst (fun i => decide (tP U i 0 = c)) (tPn U)
def mSt (U : fTn) (c : Int32) : Bool := decide (hAt U c = -1) && decide (pAt U c = -1)
def frF (U : fTn) (c : Int32) : Nat → Bool
  | 0 => mSt U c
  | k + 1 => frF U c k && (decide (¬ tE U k 0 = c) && (decide (tE U k 5 = 0) || decide (¬ tE U k 6 = c)))
def mHeat (f : Nat → Nat → Int32) (w : Int32) : Nat → Int32
  | 0 => 0
  | k + 1 => mHeat f w k + (if mNear (f k 0) w = true then f k 4 else 0)
def mSrc (U : fTn) (f : Nat → Int32) : Int32 := jFirst (fun i => eStands f && mNear (tP U i 0) (f 0)) (tPn U)
/-- the hoses have no ring: a rank under 6 that falls along each -/
def okH (U : fTn) (rk : Nat → Nat) : Prop := ∀ j, j < tEn U → rk j < 6 ∧ (inR (tE U j 7) 0 5 = true → ∃ i, i < tEn U ∧ tE U j 7 = nI i ∧ rk i < rk j)
theorem inR_no {x : Int32} {n : Nat} (h : inR x 0 5 = false) (hn : n ≤ 6) : isIx n x = false := by
  rw [← inR_ix (n := n) (by omega)]
  simp only [inR, Bool.and_eq_false_iff, decide_eq_false_iff_not, Classical.not_not] at h ⊢
  rcases h with h | h
  · exact Or.inl h
  · refine Or.inr ?_
    have e : (nI n - 1).toInt = (n : Int) - 1 := by
      rw [Int32.toInt_sub, toInt_nI (by omega)]
      show ((n : Int) - 1).bmod (2 ^ 32) = _
      rw [Int.bmod_eq_of_le] <;> omega
    rw [Int32.lt_iff_toInt_lt] at h ⊢
    rw [e]
    rw [show (5 : Int32).toInt = 5 from rfl] at h
    omega
def isF (U : fTn) (k n : Nat) : Bool := decide (tE U k 10 = 0) && !(waits (tE U) (nI k) n)
theorem isF_step {U : fTn} {k n : Nat} : isF U k (n + 1) = (isF U k n && !(decide (tE U n 10 = 0) && decide (tE U n 7 = nI k))) := by
  show (decide (tE U k 10 = 0) && !(waits (tE U) (nI k) n || (decide (tE U n 10 = 0) && decide (tE U n 7 = nI k)))) = _
  rw [Bool.not_or, ← Bool.and_assoc]
  rfl
theorem isF_0 {U : fTn} {k : Nat} : isF U k 0 = decide (tE U k 10 = 0) := by
  show (decide (tE U k 10 = 0) && !false) = _
  rw [Bool.not_false, Bool.and_true]
theorem leadsN_ix {U : fTn} {to x : Int32} (h : isIx (tEn U) x = false) : ∀ n, leadsN U to n x = false := by
  intro n
  cases n with
  | zero => rfl
  | succ n => show (isIx (tEn U) x && _) = false; rw [h]; rfl
theorem sH_sH {U : fTn} {i : Nat} {f f2 : Nat → Int32} : sH (sH U i f) i f2 = sH U i f2 := by
  show (tM U, (tHn U, fun j => if j = i then f2 else (if j = i then f else tH U j)), (tPn U, tP U), (tEn U, tE U)) = (tM U, (tHn U, fun j => if j = i then f2 else tH U j), (tPn U, tP U), (tEn U, tE U))
  congr 3
  funext j
  by_cases h : j = i
  · rw [if_pos h, if_pos h]
  · rw [if_neg h, if_neg h, if_neg h]
theorem sE_sE {U : fTn} {i : Nat} {f f2 : Nat → Int32} : sE (sE U i f) i f2 = sE U i f2 := by
  show (tM U, (tHn U, tH U), (tPn U, tP U), (tEn U, fun j => if j = i then f2 else (if j = i then f else tE U j))) = (tM U, (tHn U, tH U), (tPn U, tP U), (tEn U, fun j => if j = i then f2 else tE U j))
  congr 4
  funext j
  by_cases h : j = i
  · rw [if_pos h, if_pos h]
  · rw [if_neg h, if_neg h, if_neg h]
theorem tH_sH {U : fTn} {i : Nat} {f : Nat → Int32} : tH (sH U i f) i = f := if_pos rfl
theorem tE_sE {U : fTn} {i : Nat} {f : Nat → Int32} : tE (sE U i f) i = f := if_pos rfl
def mHt (f : Nat → Int32) : Int32 := iMin 99 (f 4 + f 1 - f 5 / 4)
/-- a house's minute, as the reference does it -/
def mBurn (f : Nat → Int32) : Nat → Int32 :=
  if f 3 = 1 then (if 0 < mHt f then
    (if iMax 0 (f 2 - 1 - mHt f / 25) ≤ 0 then upd (upd (upd (upd f 4 (iMax 0 (mHt f))) 2 (iMax 0 (f 2 - 1 - mHt f / 25))) 3 3) 4 0 else upd (upd f 4 (iMax 0 (mHt f))) 2 (iMax 0 (f 2 - 1 - mHt f / 25)))
    else upd (upd f 4 (iMax 0 (mHt f))) 3 2) else f
theorem sub100 {h : Nat} : nI (100 + h) - 100 = nI h := by
  have e : nI (100 + h) - nI 100 = nI (100 + h - 100) := pk_sub (by omega)
  rw [show (100 : Int32) = nI 100 from rfl, e, Nat.add_sub_cancel_left]
abbrev pm1 (U : fTn) (e : Nat) : fTn := sE U e (upd (tE U e) 9 0)
abbrev pmS (U : fTn) (e i : Nat) : Int32 := iMin (tP U i 1) (iMax 0 (ePump (tE (pm1 U e) e) - tE (pm1 U e) e 8))
abbrev pmW (U : fTn) (e i : Nat) : fTn := sP (pm1 U e) i (upd (tP (pm1 U e) i) 1 (tP U i 1 - pmS U e i))
abbrev pmG (U : fTn) (e : Nat) (x : Int32) : Int32 := iMin (ePump (tE (pm1 U e) e)) (tE (pm1 U e) e 8 + x)
abbrev pm3 (V : fTn) (e : Nat) (gv : Int32) : fTn := sE V e (upd (tE V e) 9 gv)
abbrev pmE (V : fTn) (e i : Nat) (gv : Int32) : fTn := sE (pm3 V e gv) i (upd (tE (pm3 V e gv) i) 8 (tE (pm3 V e gv) i 8 + arrivesI gv (aDist (tE V e 0) (tE V i 0))))
abbrev pmH (V : fTn) (e h : Nat) (gv : Int32) : fTn := sH (pm3 V e gv) h (upd (tH V h) 5 (tH V h 5 + arrivesI gv (aDist (tE V e 0) (tH V h 0))))
def okHz (U : fTn) : Prop := ∀ j, j < tEn U → tE U j 7 = -1 ∨ (∃ i, i < tEn U ∧ tE U j 7 = nI i) ∨ (∃ h, h < tHn U ∧ tE U j 7 = nI (100 + h))
theorem jFirst_or (q : Nat → Bool) (n : Nat) : jFirst q n = -1 ∨ ∃ k, k < n ∧ jFirst q n = nI k ∧ q k = true := by
  unfold jFirst
  by_cases h : firstN q n < n
  · rw [if_pos h]; exact Or.inr ⟨_, h, rfl, firstN_yes h⟩
  · rw [if_neg h]; exact Or.inl rfl
def pumpS (U : fTn) (e : Nat) : Int32 := mSrc (pm1 U e) (tE (pm1 U e) e)
def pumpT (U V : fTn) (e : Nat) (gv : Int32) : fTn := if tE U e 7 < 100 then pmE V e (tE U e 7).toNatClampNeg gv else pmH V e (tE U e 7 - 100).toNatClampNeg gv
def pumpU (U : fTn) (e : Nat) : fTn :=
  if tE U e 7 = -1 then pm1 U e else if pumpS U e = -1 then pumpT U (pm1 U e) e (pmG U e 0) else pumpT U (pmW U e (pumpS U e).toNatClampNeg) e (pmG U e (pmS U e (pumpS U e).toNatClampNeg))
theorem pumpT_n (U V : fTn) (e : Nat) (gv : Int32) : tHn (pumpT U V e gv) = tHn V ∧ tPn (pumpT U V e gv) = tPn V ∧ tEn (pumpT U V e gv) = tEn V ∧ tM (pumpT U V e gv) = tM V := by unfold pumpT; split <;> exact ⟨rfl, rfl, rfl, rfl⟩
theorem pumpU_n (U : fTn) (e : Nat) : tHn (pumpU U e) = tHn U ∧ tPn (pumpU U e) = tPn U ∧ tEn (pumpU U e) = tEn U ∧ tM (pumpU U e) = tM U := by
  unfold pumpU
  split
  · exact ⟨rfl, rfl, rfl, rfl⟩
  · split
    · exact pumpT_n _ _ _ _
    · exact pumpT_n U (pmW U e (pumpS U e).toNatClampNeg) e _
theorem sE_col {U : fTn} {e j c0 k : Nat} {v : Int32} (h : k ≠ c0) : tE (sE U e (upd (tE U e) c0 v)) j k = tE U j k := by
  show (if j = e then upd (tE U e) c0 v else tE U j) k = _
  by_cases q : j = e
  · rw [if_pos q, upd_ne h, q]
  · rw [if_neg q]
theorem pumpT_7 (U V : fTn) (e j : Nat) (gv : Int32) : tE (pumpT U V e gv) j 7 = tE V j 7 ∧ tE (pumpT U V e gv) j 10 = tE V j 10 := by
  unfold pumpT
  split
  · exact ⟨(sE_col (by decide)).trans (sE_col (by decide)), (sE_col (by decide)).trans (sE_col (by decide))⟩
  · exact ⟨sE_col (by decide), sE_col (by decide)⟩
theorem pumpU_7 (U : fTn) (e j : Nat) : tE (pumpU U e) j 7 = tE U j 7 ∧ tE (pumpU U e) j 10 = tE U j 10 := by
  unfold pumpU
  split
  · exact ⟨sE_col (by decide), sE_col (by decide)⟩
  · split
    · exact ⟨(pumpT_7 _ _ _ _ _).1.trans (sE_col (by decide)), (pumpT_7 _ _ _ _ _).2.trans (sE_col (by decide))⟩
    · exact ⟨(pumpT_7 U (pmW U e (pumpS U e).toNatClampNeg) e j _).1.trans (sE_col (by decide)), (pumpT_7 U (pmW U e (pumpS U e).toNatClampNeg) e j _).2.trans (sE_col (by decide))⟩
theorem lt100 {i : Nat} (h : i < 100) : nI i < (100 : Int32) := nI_lt (a := i) (b := 100) h (by omega)
theorem nlt100 {i : Nat} (h : i ≤ 1000) : ¬ nI (100 + i) < (100 : Int32) := fun z => absurd (nI_lt' (a := 100 + i) (b := 100) z (by omega) (by omega)) (by omega)
def mReset (f : Nat → Int32) : Nat → Int32 := upd (upd f 8 0) 10 0
def mAll (f : Nat → Int32) : Nat → Int32 := upd f 6 (f 6 + f 5)
abbrev askd (U : fTn) (e : Nat) : fTn := sE U e (upd (tE U e) 10 1)
def mTurn (U : fTn) : fTn := if nextE U = -1 then U else askd (pumpU U (nextE U).toNatClampNeg) (nextE U).toNatClampNeg
def mTurns : Nat → fTn → fTn
  | 0, U => U
  | n + 1, U => mTurns n (mTurn U)
theorem mTurns_stop {U : fTn} (h : nextE U = -1) (n : Nat) : mTurns n U = U := by
  induction n with
  | zero => rfl
  | succ n ih => show mTurns n (mTurn U) = U; rw [show mTurn U = U from if_pos h]; exact ih
def unask (f : Nat → Nat → Int32) : Nat → Nat
  | 0 => 0
  | k + 1 => unask f k + (if f k 10 = 0 then 1 else 0)
theorem unask_cong {f f2 : Nat → Nat → Int32} {n : Nat} (h : ∀ j, j < n → f j 10 = f2 j 10) : unask f n = unask f2 n := by
  induction n with
  | zero => rfl
  | succ n ih => unfold unask; rw [ih (fun j hj => h j (by omega)), h n (by omega)]
theorem unask_set {f f2 : Nat → Nat → Int32} {n e : Nat} (he : e < n) (h0 : f e 10 = 0) (h1 : f2 e 10 = 1) (h : ∀ j, j ≠ e → f2 j 10 = f j 10) : unask f2 n + 1 = unask f n := by
  induction n with
  | zero => exact absurd he (Nat.not_lt_zero _)
  | succ n ih =>
    unfold unask
    rcases Nat.lt_or_ge e n with q | q
    · rw [← ih q, h n (by omega)]; omega
    · rw [show e = n by omega] at h0 h1 h
      rw [unask_cong (f := f2) (f2 := f) (fun j hj => h j (by omega)), h0, h1, if_pos rfl, if_neg (by decide)]
theorem unask_le {f : Nat → Nat → Int32} {n : Nat} : unask f n ≤ n := by
  induction n with
  | zero => exact Nat.le_refl 0
  | succ n ih => unfold unask; split <;> omega
theorem nextE_or (U : fTn) : nextE U = -1 ∨ ∃ e, e < tEn U ∧ nextE U = nI e ∧ tE U e 10 = 0 := by
  rcases jFirst_or (fun i => decide (tE U i 10 = 0) && !(waits (tE U) (nI i) (tEn U))) (tEn U) with h | ⟨k, hk, h, q⟩
  · exact Or.inl h
  · simp only [Bool.and_eq_true, decide_eq_true_eq] at q
    exact Or.inr ⟨k, hk, h, q.1⟩
theorem mTurn_at {U : fTn} {e : Nat} (h : nextE U = nI e) (he : e < 1000) : mTurn U = askd (pumpU U e) e := by
  unfold mTurn
  rw [h, if_neg (nI_m1 (by omega)), nI_clamp (n := e) (by omega)]
theorem mTurn_n (U : fTn) : tHn (mTurn U) = tHn U ∧ tPn (mTurn U) = tPn U ∧ tEn (mTurn U) = tEn U ∧ tM (mTurn U) = tM U := by
  unfold mTurn
  split
  · exact ⟨rfl, rfl, rfl, rfl⟩
  · exact pumpU_n U (nextE U).toNatClampNeg
theorem mTurn_7 (U : fTn) (j : Nat) : tE (mTurn U) j 7 = tE U j 7 := by
  unfold mTurn
  split
  · rfl
  · exact (sE_col (by decide)).trans (pumpU_7 _ _ _).1
theorem okHz_turn {U : fTn} (h : okHz U) : okHz (mTurn U) := by
  intro j hj
  rw [(mTurn_n U).2.2.1] at hj
  rw [(mTurn_n U).2.2.1, (mTurn_n U).1, mTurn_7]
  exact h j hj
def pumpedT (U : fTn) : fTn := mTurns (tEn U + 1) (mE mReset (tEn U) (mH hReset (tHn U) U))
def mPumpAll (U : fTn) : fTn := mE eSpend (tEn U) (mH mAll (tHn U) (pumpedT U))
theorem mTurns_n (n : Nat) (U : fTn) : tHn (mTurns n U) = tHn U ∧ tPn (mTurns n U) = tPn U ∧ tEn (mTurns n U) = tEn U ∧ tM (mTurns n U) = tM U := by
  induction n generalizing U with
  | zero => exact ⟨rfl, rfl, rfl, rfl⟩
  | succ n ih =>
    obtain ⟨a1, a2, a3, a4⟩ := ih (mTurn U)
    obtain ⟨b1, b2, b3, b4⟩ := mTurn_n U
    exact ⟨a1.trans b1, a2.trans b2, a3.trans b3, a4.trans b4⟩
theorem okHz_reset {U : fTn} (h : okHz U) : okHz (mE mReset (tEn U) (mH hReset (tHn U) U)) := by
  intro j hj
  rw [show tE (mE mReset (tEn U) (mH hReset (tHn U) U)) j 7 = tE U j 7 from by show (if j < tEn U then mReset (tE U j) else tE U j) 7 = _; split <;> rfl]
  exact h j hj
theorem pumpedT_n (U : fTn) : tHn (pumpedT U) = tHn U ∧ tPn (pumpedT U) = tPn U ∧ tEn (pumpedT U) = tEn U ∧ tM (pumpedT U) = tM U := mTurns_n (tEn U + 1) (mE mReset (tEn U) (mH hReset (tHn U) U))
def mFire (f : Nat → Int32) : Nat → Int32 := upd (upd f 3 (iMax 0 (f 3 - 1))) 4 (if f 3 ≤ 0 then iMax 0 (f 4 - 3) else iMin 100 (f 4 + 4))
def mDrive (f : Nat → Int32) : Nat → Int32 := if eStands f = true then f else if eStands (upd f 5 (f 5 - 1)) = true then upd (upd f 5 (f 5 - 1)) 0 (f 6) else upd f 5 (f 5 - 1)
def catB (V : fTn) (k : Nat) : Bool := decide (tH V k 3 = 0) && decide (¬ mHeat (tH V) (tH V k 0) (tHn V) - tH V k 5 < 40)
def caF (V : fTn) (ca : Nat → Int32) (k : Nat) : Nat → Int32 := fun j => if j < k then bI (catB V j) else ca j
theorem caF_0 {V : fTn} {ca : Nat → Int32} : caF V ca 0 = ca := by funext j; exact if_neg (Nat.not_lt_zero _)
theorem caF_step {V : fTn} {ca : Nat → Int32} {k : Nat} {v : Int32} (h : v = bI (catB V k)) : upd (caF V ca k) k v = caF V ca (k + 1) := by
  funext j
  unfold caF
  by_cases e : j = k
  · subst e; rw [upd_at, if_pos (by omega), h]
  · rw [upd_ne e]
    by_cases e2 : j < k
    · rw [if_pos e2, if_pos (by omega)]
    · rw [if_neg e2, if_neg (by omega)]
theorem caF_at {V : fTn} {ca : Nat → Int32} {k n : Nat} (h : k < n) : caF V ca n k = bI (catB V k) := if_pos h
def catH (V : fTn) (j : Nat) (f : Nat → Int32) : Nat → Int32 := if catB V j = true then upd (upd f 3 1) 4 5 else f
def catN (V : fTn) : Nat → Int32
  | 0 => 0
  | k + 1 => if catB V k = true then catN V k + 1 else catN V k
theorem mDrive_7 {f : Nat → Int32} : mDrive f 7 = f 7 := by unfold mDrive; split <;> (try split) <;> rfl
theorem okHz_mE {U : fTn} {F : (Nat → Int32) → Nat → Int32} {n : Nat} (hF : ∀ f, F f 7 = f 7) (h : okHz U) : okHz (mE F n U) := by
  intro j hj
  rw [show tE (mE F n U) j 7 = tE U j 7 from by show (if j < n then F (tE U j) else tE U j) 7 = _; split; exact hF _; rfl]
  exact h j hj
def mBurnt (U : fTn) : fTn := mH mBurn (tHn U) (mPumpAll (mE mDrive (tEn U) (mE mFire (tEn U) U)))
def minU (U : fTn) : fTn × Int32 := (sM (mHi (catH (mBurnt U)) (tHn U) (mBurnt U)) (tM U + 1), catN (mBurnt U) (tHn U))
theorem mPumpAll_n (U : fTn) : tHn (mPumpAll U) = tHn U ∧ tPn (mPumpAll U) = tPn U ∧ tEn (mPumpAll U) = tEn U ∧ tM (mPumpAll U) = tM U := pumpedT_n U
theorem mTurns_7 (n : Nat) (U : fTn) (j : Nat) : tE (mTurns n U) j 7 = tE U j 7 := by
  induction n generalizing U with
  | zero => rfl
  | succ n ih => exact (ih (mTurn U)).trans (mTurn_7 U j)
theorem mE_col {F : (Nat → Int32) → Nat → Int32} {n : Nat} {U : fTn} {j k : Nat} (h : ∀ f, F f k = f k) : tE (mE F n U) j k = tE U j k := by
  show (if j < n then F (tE U j) else tE U j) k = _
  split
  · exact h _
  · rfl
theorem eSpend_7 {f : Nat → Int32} : eSpend f 7 = f 7 := by unfold eSpend; split <;> rfl
theorem mPumpAll_7 (U : fTn) (j : Nat) : tE (mPumpAll U) j 7 = tE U j 7 :=
  (mE_col (F := eSpend) (U := mH mAll (tHn U) (pumpedT U)) (fun f => eSpend_7)).trans ((mTurns_7 (tEn U + 1) (mE mReset (tEn U) (mH hReset (tHn U) U)) j).trans (mE_col (F := mReset) (U := mH hReset (tHn U) U) (fun f => rfl)))
theorem minU_7 (U : fTn) (j : Nat) : tE (minU U).1 j 7 = tE U j 7 :=
  (mPumpAll_7 (mE mDrive (tEn U) (mE mFire (tEn U) U)) j).trans ((mE_col (F := mDrive) (U := mE mFire (tEn U) U) (fun f => mDrive_7)).trans (mE_col (F := mFire) (U := U) (fun f => rfl)))
theorem minU_n (U : fTn) : tHn (minU U).1 = tHn U ∧ tPn (minU U).1 = tPn U ∧ tEn (minU U).1 = tEn U := by
  obtain ⟨a1, a2, a3, -⟩ := mPumpAll_n (mE mDrive (tEn U) (mE mFire (tEn U) U))
  exact ⟨a1, a2, a3⟩
theorem okHz_min {U : fTn} (h : okHz U) : okHz (minU U).1 := by
  obtain ⟨a1, a2, a3⟩ := minU_n U
  intro j hj
  rw [a3] at hj
  rw [minU_7, a1, a3]
  exact h j hj
def goU (U : fTn) : Nat → fTn × Int32
  | 0 => (U, 0)
  | n + 1 => ((minU (goU U n).1).1, (goU U n).2 + (minU (goU U n).1).2)
theorem goU_n (U : fTn) (n : Nat) : tHn (goU U n).1 = tHn U ∧ tPn (goU U n).1 = tPn U ∧ tEn (goU U n).1 = tEn U := by
  induction n with
  | zero => exact ⟨rfl, rfl, rfl⟩
  | succ n ih =>
    obtain ⟨a1, a2, a3⟩ := minU_n (goU U n).1
    exact ⟨a1.trans ih.1, a2.trans ih.2.1, a3.trans ih.2.2⟩
theorem okHz_go {U : fTn} (h : okHz U) (n : Nat) : okHz (goU U n).1 := by
  induction n with
  | zero => exact h
  | succ n ih => exact okHz_min ih
