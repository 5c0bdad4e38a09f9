/-! ROWS OF A MINUTE: engines, houses -/
theorem max_nI {a b : Nat} (ha : a < 2 ^ 30) (hb : b < 2 ^ 30) : iMax 0 (nI a - nI b) = nI (a - b) := by
  apply Int32.toInt_inj.mp
  rw [iMax_i, pk_sub_toInt ha hb, toInt_nI (by omega), z0]
  split <;> omega
theorem dec_max {x : Int32} (h : 0 < x) : iMax 0 (x - 1) = x - 1 := by
  rw [sw_lt, z0] at h
  apply Int32.toInt_inj.mp
  have e : (x - 1).toInt = x.toInt - 1 := by
    rw [Int32.toInt_sub]
    show (x.toInt - 1).bmod (2 ^ 32) = _
    have := Int32.toInt_lt x
    rw [Int.bmod_eq_of_le] <;> omega
  rw [iMax_i, e, z0]
  split <;> omega
theorem small_nI {x : Int32} {n : Nat} (h0 : 0 ≤ x) (h1 : x ≤ nI n) (hn : n < 2 ^ 30) : ∃ m, m ≤ n ∧ x = nI m := by
  rcases pk_ix x (n := n + 1) (by omega) with a | a | ⟨j, hj, e⟩
  · exact absurd a (Int32.not_lt.mpr h0)
  · rw [sw_le, toInt_nI (by omega)] at a
    rw [sw_le, toInt_nI (by omega)] at h1
    omega
  · exact ⟨j, by omega, e⟩
/-- an engine: its steam, its power; a hose lies only where it stands -/
def okE (f : Nat → Int32) : Prop := (∃ st, st ≤ 100 ∧ f 4 = nI st) ∧ (∃ pw, pw ≤ 20 ∧ f 2 = nI pw) ∧ (f 7 ≠ -1 → f 5 = 0)
def lSt (f : Nat → Int32) : Int32 := if 0 < f 3 then iMin 100 (f 4 + 4) else iMax 0 (f 4 - 3)
def lMost (f : Nat → Int32) : Int32 := if 0 < iMax 0 (f 5 - 1) then 0 else if 20 ≤ lSt f then f 2 * lSt f / 20 else 0
theorem lSt_nI {f : Nat → Int32} (h : okE f) : ∃ st, st ≤ 100 ∧ lSt f = nI st := by
  obtain ⟨⟨st, h1, h2⟩, -⟩ := h
  unfold lSt
  rw [h2]
  split
  · exact ⟨min 100 (st + 4), by omega, by rw [show nI st + 4 = nI (st + 4) from nI_add st 4]; exact iMin_nI (a := 100) (b := st + 4) (by omega) (by omega)⟩
  · exact ⟨st - 3, by omega, max_nI (a := st) (b := 3) (by omega) (by omega)⟩
theorem eFire_c {f : Nat → Int32} : eFire f 4 = lSt f ∧ (0 ≤ f 3 → eFire f 3 = iMax 0 (f 3 - 1)) ∧ ∀ k, k ≠ 3 → k ≠ 4 → eFire f k = f k := by
  unfold eFire lSt
  by_cases q : f 3 ≤ 0
  · rw [if_pos q, if_neg (Int32.not_lt.mpr q)]
    refine ⟨upd_at, fun h => ?_, fun k h3 h4 => upd_ne h4⟩
    rw [upd_ne (by omega), eq0_of h q]; rfl
  · have q1 : 0 < f 3 := Int32.not_le.mp q
    rw [if_neg q, if_pos q1]
    refine ⟨upd_at, fun h => ?_, fun k h3 h4 => by rw [upd_ne h4, upd_ne h3]⟩
    rw [upd_ne (by omega), upd_at, dec_max q1]
theorem eDrive_c {f : Nat → Int32} (h : 0 ≤ f 5) : eDrive f 5 = iMax 0 (f 5 - 1) ∧ (f 5 ≠ 1 → eDrive f 0 = f 0) ∧ (∀ k, k ≠ 0 → k ≠ 5 → k ≠ 6 → eDrive f k = f k) ∧ (f 5 = 0 → eDrive f = f) := by
  unfold eDrive eStands
  by_cases q : f 5 = 0
  · rw [if_pos (decide_eq_true q), q]
    exact ⟨rfl, fun _ => rfl, fun _ _ _ _ => rfl, fun _ => rfl⟩
  · have q1 : 0 < f 5 := by rw [sw_lt]; rw [sw_le] at h; rw [sw_eq] at q; omega
    rw [if_neg (by rw [decide_eq_false q]; decide)]
    by_cases q2 : f 5 - 1 = 0
    · rw [if_pos q2]
      refine ⟨?_, fun z => absurd ?_ z, fun k h0 h5 h6 => by rw [upd_ne h6, upd_ne h0, upd_ne h5], fun z => absurd z q⟩
      · rw [upd_ne (by omega), upd_ne (by omega), upd_at, dec_max q1]
      · have e := congrArg (fun x => x + 1) q2
        simpa [Int32.sub_add_cancel] using e
    · rw [if_neg q2]
      exact ⟨by rw [upd_at, dec_max q1], fun _ => upd_ne (by omega), fun k h0 h5 h6 => upd_ne h5, fun z => absurd z q⟩
/-- an engine's part of the minute ahead of the water -/
theorem eGo_c {kf f : Nat → Int32} (h : okE f) (ho : eOk kf f) : eGo f 3 = iMax 0 (f 3 - 1) ∧ eGo f 4 = lSt f ∧ eGo f 5 = iMax 0 (f 5 - 1) ∧ (f 5 ≠ 1 → eGo f 0 = f 0) ∧ eGo f 1 = f 1 ∧ eGo f 2 = f 2 ∧ eGo f 7 = f 7 ∧ (f 5 = 0 → eGo f 0 = f 0 ∧ eGo f 5 = 0) ∧ eGo f 9 = f 9 := by
  obtain ⟨-, ⟨h3, -⟩, -, hD⟩ := ho
  have p5 : 0 ≤ f 5 := by
    rcases hD with ⟨z, -⟩ | ⟨z, -⟩
    · rw [z]; decide
    · exact Int32.le_of_lt z
  obtain ⟨a4, a3, ak⟩ := eFire_c (f := f)
  have e5 : eFire f 5 = f 5 := ak 5 (by omega) (by omega)
  obtain ⟨b5, b0, bk, bz⟩ := eDrive_c (f := eFire f) (by rw [e5]; exact p5)
  rw [e5] at b5 b0 bz
  unfold eGo
  refine ⟨by rw [bk 3 (by omega) (by omega) (by omega), a3 h3], by rw [bk 4 (by omega) (by omega) (by omega), a4], b5, fun z => by rw [b0 z, ak 0 (by omega) (by omega)], by rw [bk 1 (by omega) (by omega) (by omega), ak 1 (by omega) (by omega)], by rw [bk 2 (by omega) (by omega) (by omega), ak 2 (by omega) (by omega)], by rw [bk 7 (by omega) (by omega) (by omega), ak 7 (by omega) (by omega)], fun z => ?_, by rw [bk 9 (by omega) (by omega) (by omega), ak 9 (by omega) (by omega)]⟩
  rw [bz z]
  exact ⟨ak 0 (by omega) (by omega), e5.trans z⟩
theorem ePump_nI {f : Nat → Int32} (h : okE f) : ∃ m, m ≤ 100 ∧ ePump f = nI m := by
  obtain ⟨⟨st, h1, h2⟩, ⟨pw, h3, h4⟩, -⟩ := h
  unfold ePump
  split
  · split
    · rw [h2, h4, pk_mul, show nI (pw * st) / 20 = nI (pw * st / 20) from pk_div (a := pw * st) (d := 20) (by have : pw * st ≤ 20 * 100 := Nat.mul_le_mul h3 h1; omega) (by omega) (by omega)]
      have : pw * st ≤ 20 * 100 := Nat.mul_le_mul h3 h1
      exact ⟨pw * st / 20, by omega, rfl⟩
    · exact ⟨0, by omega, rfl⟩
  · exact ⟨0, by omega, rfl⟩
theorem okE_go {kf f : Nat → Int32} (h : okE f) (ho : eOk kf f) : okE (eGo f) := by
  obtain ⟨c3, c4, c5, c0, c1, c2, c7, cz, -⟩ := eGo_c h ho
  refine ⟨?_, by rw [c2]; exact h.2.1, fun z => ?_⟩
  · rw [c4]; exact lSt_nI h
  · rw [c7] at z
    exact (cz (h.2.2 z)).2
theorem pump_most {kf f : Nat → Int32} (h : okE f) (ho : eOk kf f) : ePump (eGo f) = lMost f := by
  obtain ⟨c3, c4, c5, c0, c1, c2, c7, cz, -⟩ := eGo_c h ho
  unfold ePump eStands lMost
  rw [c5, c4, c2]
  have p : 0 ≤ iMax 0 (f 5 - 1) := max_nn
  by_cases q : iMax 0 (f 5 - 1) = 0
  · rw [if_pos (decide_eq_true q), if_neg (show ¬ 0 < iMax 0 (f 5 - 1) by rw [q]; decide)]
  · rw [if_neg (show ¬ decide (iMax 0 (f 5 - 1) = 0) = true by rw [decide_eq_false q]; decide), if_pos (show 0 < iMax 0 (f 5 - 1) by rw [sw_lt]; rw [sw_le] at p; rw [sw_eq] at q; omega)]
/-- .. as the law's town does it -/
theorem sFire_m {f : Nat → Int32} (h3 : 0 ≤ f 3) (h4 : ∃ st, st ≤ 100 ∧ f 4 = nI st) : ∀ k, sFire f k = mFire f k := by
  obtain ⟨st, s1, s2⟩ := h4
  intro k
  unfold sFire mFire
  by_cases q : f 3 ≤ 0
  · have q0 := eq0_of h3 q
    have e3 : upd f 3 (iMax 0 (f 3 - 1)) = f := by
      funext j
      by_cases z : j = 3
      · rw [z, upd_at, q0]; rfl
      · rw [upd_ne z]
    have e4 : iMax 0 (f 4 - 3) = nI (st - 3) := by rw [s2]; exact max_nI (a := st) (b := 3) (by omega) (by omega)
    rw [if_pos q, if_pos q, e3, e4, s2]
    by_cases y : 3 ≤ st
    · rw [if_pos (show (3 : Int32) ≤ nI st from nI_le (a := 3) (b := st) y (by omega)), show nI st - 3 = nI (st - 3) from pk_sub (a := st) (b := 3) y]
    · rw [if_neg (show ¬ (3 : Int32) ≤ nI st from fun z => y (nI_le' (a := 3) (b := st) z (by omega) (by omega))), show st - 3 = 0 by omega]; rfl
  · have q1 : 0 < f 3 := Int32.not_le.mp q
    have e4 : iMin 100 (f 4 + 4) = nI (min 100 (st + 4)) := by rw [s2, show nI st + 4 = nI (st + 4) from nI_add st 4]; exact iMin_nI (a := 100) (b := st + 4) (by omega) (by omega)
    rw [if_neg q, if_neg q, dec_max q1, e4, s2]
    by_cases y : st ≤ 96
    · rw [if_pos (show nI st ≤ (96 : Int32) from nI_le (a := st) (b := 96) y (by omega)), show nI st + 4 = nI (st + 4) from nI_add st 4, show min 100 (st + 4) = st + 4 by omega]
    · rw [if_neg (show ¬ nI st ≤ (96 : Int32) from fun z => y (nI_le' (a := st) (b := 96) z (by omega) (by omega))), show min 100 (st + 4) = 100 by omega]; rfl
theorem sGo_m {f : Nat → Int32} (h3 : 0 ≤ f 3) (h4 : ∃ st, st ≤ 100 ∧ f 4 = nI st) : sGo f = mDrive (mFire f) := by
  have e : sFire f = mFire f := funext (sFire_m h3 h4)
  unfold sGo sDrv mDrive eStands
  rw [e]
  obtain ⟨g, hg⟩ : ∃ g, g = mFire f := ⟨_, rfl⟩
  rw [← hg, upd_at]
  by_cases q : g 5 = 0
  · rw [if_pos q, if_pos (decide_eq_true q)]
  · rw [if_neg q, if_neg (show ¬ decide (g 5 = 0) = true by rw [decide_eq_false q]; decide)]
    by_cases q2 : g 5 - 1 = 0
    · rw [if_pos q2, if_pos (show decide (g 5 - 1 = 0) = true from decide_eq_true q2)]
    · rw [if_neg q2, if_neg (show ¬ decide (g 5 - 1 = 0) = true by rw [decide_eq_false q2]; decide)]
/-! houses -/
/-- a house: wood, walls, heat, the water of the latest minute; they go with what it is -/
def okHo (f : Nat → Int32) : Prop := ∃ wd wl ht nw : Nat, f 1 = nI wd ∧ wd ≤ 9 ∧ f 2 = nI wl ∧ wl ≤ 60 ∧ f 4 = nI ht ∧ ht ≤ 99 ∧ f 5 = nI nw ∧ nw ≤ 900 ∧
  ((f 3 = 0 ∧ 1 ≤ wl ∧ ht = 0) ∨ (f 3 = 1 ∧ 1 ≤ wl ∧ 1 ≤ ht) ∨ (f 3 = 2 ∧ 1 ≤ wl ∧ ht = 0) ∨ (f 3 = 3 ∧ wl = 0 ∧ ht = 0))
theorem okHo_3 {f : Nat → Int32} (h : okHo f) : f 3 ≠ 1 → f 4 = 0 := by
  obtain ⟨wd, wl, ht, nw, -, -, -, -, h4, -, -, -, hs⟩ := h
  intro z
  rcases hs with ⟨-, -, e⟩ | ⟨y, -⟩ | ⟨-, -, e⟩ | ⟨-, -, e⟩
  · rw [h4, e]; rfl
  · exact absurd y z
  · rw [h4, e]; rfl
  · rw [h4, e]; rfl
theorem okHo_4 {f : Nat → Int32} (h : okHo f) : f 3 = 1 → f 4 ≠ 0 := by
  obtain ⟨wd, wl, ht, nw, -, -, -, -, h4, hl, -, -, hs⟩ := h
  intro z
  rcases hs with ⟨y, -⟩ | ⟨y, -, e⟩ | ⟨y, -⟩ | ⟨y, -⟩
  · rw [y] at z; exact absurd z (by decide)
  · rw [h4]; exact nI_ne0 (by omega) (by omega)
  · rw [y] at z; exact absurd z (by decide)
  · rw [y] at z; exact absurd z (by decide)
theorem okHo_cg {f f2 : Nat → Int32} {nw : Nat} (h : okHo f) (h1 : f2 1 = f 1) (h2 : f2 2 = f 2) (h3 : f2 3 = f 3) (h4 : f2 4 = f 4) (h5 : f2 5 = nI nw) (hn : nw ≤ 900) : okHo f2 := by
  obtain ⟨wd, wl, ht, -, a1, a2, a3, a4, a5, a6, -, -, hs⟩ := h
  exact ⟨wd, wl, ht, nw, h1.trans a1, a2, h2.trans a3, a4, h4.trans a5, a6, h5, hn, by rw [h3]; exact hs⟩
/-- how hot it becomes -/
def lHot (f : Nat → Int32) : Int32 := iMin 99 (f 4 + f 1 - f 5 / 4)
def lLeft (f : Nat → Int32) : Int32 := if lHot f ≤ 0 then f 2 else iMax 0 (f 2 - 1 - lHot f / 25)
theorem hot_nI {f : Nat → Int32} (h : okHo f) : lHot f ≤ 0 ∨ ∃ x, 1 ≤ x ∧ x ≤ 99 ∧ lHot f = nI x := by
  obtain ⟨wd, wl, ht, nw, a1, a2, a3, a4, a5, a6, a7, a8, hs⟩ := h
  have e : lHot f = iMin 99 (nI (ht + wd) - nI (nw / 4)) := by
    unfold lHot
    rw [a1, a5, a7, nI_add, show nI nw / 4 = nI (nw / 4) from pk_div (a := nw) (d := 4) (by omega) (by omega) (by omega)]
  have ti : (lHot f).toInt = if (ht + wd : Int) - (nw / 4 : Nat) < 99 then (ht + wd : Int) - (nw / 4 : Nat) else 99 := by
    rw [e, iMin_i, pk_sub_toInt (by omega) (by omega), show (99 : Int32).toInt = 99 from rfl]
    push_cast
    rfl
  by_cases q : lHot f ≤ 0
  · exact Or.inl q
  · rw [sw_le, z0, ti] at q
    refine Or.inr ⟨min 99 (ht + wd - nw / 4), by split at q <;> omega, by omega, ?_⟩
    apply Int32.toInt_inj.mp
    rw [ti, toInt_nI (by omega)]
    split at q <;> split <;> omega
theorem hBurn_eq {f : Nat → Int32} : hBurn f = if f 3 = 1 then (if 0 < lHot f then (if iMax 0 (f 2 - 1 - lHot f / 25) = 0 then upd (upd (upd (upd f 4 (lHot f)) 2 (iMax 0 (f 2 - 1 - lHot f / 25))) 3 3) 4 0 else upd (upd f 4 (lHot f)) 2 (iMax 0 (f 2 - 1 - lHot f / 25))) else upd (upd (upd f 4 (lHot f)) 3 2) 4 0) else f := rfl
/-- a house's fire, by what it was -/
theorem burn_c {f : Nat → Int32} (h : okHo f) : okHo (hBurn f) ∧ (f 3 ≠ 1 → hBurn f = f) ∧ (f 3 = 1 → hBurn f 3 = (if lHot f ≤ 0 then 2 else if lLeft f = 0 then 3 else 1) ∧ hBurn f 2 = lLeft f ∧ (hBurn f 3 = 1 → hBurn f 4 = lHot f)) ∧ hBurn f 0 = f 0 ∧ hBurn f 1 = f 1 ∧ hBurn f 5 = f 5 ∧ hBurn f 6 = f 6 := by
  have hh := hot_nI h
  obtain ⟨wd, wl, ht, nw, a1, a2, a3, a4, a5, a6, a7, a8, hs⟩ := id h
  rw [hBurn_eq]
  by_cases q : f 3 = 1
  · rw [if_pos q]
    have wl1 : 1 ≤ wl := by
      rcases hs with ⟨y, -⟩ | ⟨-, e, -⟩ | ⟨y, -⟩ | ⟨y, -⟩
      · rw [y] at q; exact absurd q (by decide)
      · exact e
      · rw [y] at q; exact absurd q (by decide)
      · rw [y] at q; exact absurd q (by decide)
    rcases hh with z | ⟨x, x1, x2, ex⟩
    · rw [if_neg (Int32.not_lt.mpr z)]
      have el : lLeft f = f 2 := if_pos z
      refine ⟨⟨wd, wl, 0, nw, a1, a2, a3, a4, rfl, by omega, a7, a8, Or.inr (Or.inr (Or.inl ⟨rfl, wl1, rfl⟩))⟩, fun y => absurd q y, fun _ => ⟨by rw [if_pos z]; rfl, el.symm, fun y => absurd y (by show ¬ (2 : Int32) = 1; decide)⟩, rfl, rfl, rfl, rfl⟩
    · have zp : 0 < lHot f := by rw [ex]; exact nI_lt (a := 0) (b := x) (by omega) (by omega)
      rw [if_pos zp]
      have el : lLeft f = iMax 0 (f 2 - 1 - lHot f / 25) := if_neg (Int32.not_le.mpr zp)
      have ew : iMax 0 (f 2 - 1 - lHot f / 25) = nI (wl - 1 - x / 25) := by
        rw [a3, ex, show nI wl - 1 = nI (wl - 1) from pk_sub (a := wl) (b := 1) wl1, show nI x / 25 = nI (x / 25) from pk_div (a := x) (d := 25) (by omega) (by omega) (by omega)]
        exact max_nI (by omega) (by omega)
      rw [el, if_neg (Int32.not_le.mpr zp)]
      by_cases y : iMax 0 (f 2 - 1 - lHot f / 25) = 0
      · have y0 : wl - 1 - x / 25 = 0 := by
          rw [ew] at y
          exact nI_eq' (b := 0) y (by omega) (by omega)
        rw [if_pos y, if_pos y]
        refine ⟨⟨wd, 0, 0, nw, a1, a2, y, by omega, rfl, by omega, a7, a8, Or.inr (Or.inr (Or.inr ⟨rfl, rfl, rfl⟩))⟩, fun z => absurd q z, fun _ => ⟨rfl, rfl, fun z => absurd z (by show ¬ (3 : Int32) = 1; decide)⟩, rfl, rfl, rfl, rfl⟩
      · have y0 : 1 ≤ wl - 1 - x / 25 := by
          rcases Nat.eq_zero_or_pos (wl - 1 - x / 25) with z | z
          · rw [ew, z] at y; exact absurd rfl y
          · exact z
        rw [if_neg y, if_neg y]
        refine ⟨⟨wd, wl - 1 - x / 25, x, nw, a1, a2, ew, by omega, ex, by omega, a7, a8, Or.inr (Or.inl ⟨q, y0, x1⟩)⟩, fun z => absurd q z, fun _ => ⟨q, rfl, fun _ => rfl⟩, rfl, rfl, rfl, rfl⟩
  · rw [if_neg q]
    exact ⟨h, fun _ => rfl, fun y => absurd y q, rfl, rfl, rfl, rfl⟩
/-- catching fire -/
theorem lit_c {S : fTn} {j : Nat} {f : Nat → Int32} (hf : f = tH S j) (h : okHo f) : okHo (hCatch (litF S j f)) ∧ hCatch (litF S j f) = (if catBT S j = true then upd (upd f 3 1) 4 5 else f) ∧ (catBT S j = true → f 3 = 0) := by
  have c0 : catBT S j = true → f 3 = 0 := fun q => by
    unfold catBT at q
    simp only [Bool.and_eq_true, decide_eq_true_eq] at q
    rw [hf]; exact q.1
  have e : hCatch (litF S j f) = (if catBT S j = true then upd (upd f 3 1) 4 5 else f) := by
    unfold litF hCatch
    by_cases q : catBT S j = true
    · rw [if_pos q, if_pos q, upd_at, if_pos rfl, upd_ne (show 4 ≠ 3 by omega), if_pos (okHo_3 h (by rw [c0 q]; decide))]
    · rw [if_neg q, if_neg q]
      by_cases z : f 3 = 1
      · rw [if_pos z, if_neg (okHo_4 h z)]
      · rw [if_neg z]
  refine ⟨?_, e, c0⟩
  rw [e]
  by_cases q : catBT S j = true
  · rw [if_pos q]
    obtain ⟨wd, wl, ht, nw, a1, a2, a3, a4, a5, a6, a7, a8, hs⟩ := h
    have wl1 : 1 ≤ wl := by
      have z := c0 q
      rcases hs with ⟨-, e, -⟩ | ⟨y, -⟩ | ⟨y, -⟩ | ⟨y, -⟩
      · exact e
      · rw [y] at z; exact absurd z (by decide)
      · rw [y] at z; exact absurd z (by decide)
      · rw [y] at z; exact absurd z (by decide)
    exact ⟨wd, wl, 5, nw, a1, a2, a3, a4, rfl, by omega, a7, a8, Or.inr (Or.inl ⟨rfl, wl1, by omega⟩)⟩
  · rw [if_neg q]; exact h
