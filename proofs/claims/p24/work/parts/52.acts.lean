/-! WHAT IS DONE BETWEEN MINUTES keeps what the law needs -/
theorem dist_nI {a b : Nat} (ha : a < 140) (hb : b < 140) : ∃ L, L < 100 ∧ aDist (nI a) (nI b) = nI L := by
  have e1 : iMod (nI a) = nI (a % 14) := pk_rem (a := a) (d := 14) (by omega) (by omega) (by omega)
  have e2 : iMod (nI b) = nI (b % 14) := pk_rem (a := b) (d := 14) (by omega) (by omega) (by omega)
  have e3 : nI a / 14 = nI (a / 14) := pk_div (a := a) (d := 14) (by omega) (by omega) (by omega)
  have e4 : nI b / 14 = nI (b / 14) := pk_div (a := b) (d := 14) (by omega) (by omega) (by omega)
  unfold aDist
  rw [e1, e2, e3, e4, abs14 ⟨a % 14, by omega⟩ ⟨b % 14, by omega⟩, abs14 ⟨a / 14, by omega⟩ ⟨b / 14, by omega⟩, nI_add]
  refine ⟨_, ?_, rfl⟩
  show (if a % 14 ≤ b % 14 then b % 14 - a % 14 else a % 14 - b % 14) + (if a / 14 ≤ b / 14 then b / 14 - a / 14 else a / 14 - b / 14) < 100
  split <;> split <;> omega
theorem dist_6 {x y : Int32} (hx : isC0 x) (hy : isC0 y) (h : ¬ 6 < aDist x y) : ∃ L, aDist x y = nI L ∧ L ≤ 6 := by
  obtain ⟨a, ha, ea⟩ := hx
  obtain ⟨b, hb, eb⟩ := hy
  obtain ⟨L, hL, e⟩ := dist_nI ha hb
  rw [ea, eb] at h ⊢
  refine ⟨L, e, ?_⟩
  rw [e] at h
  exact Nat.le_of_not_lt fun z => h (nI_lt (a := 6) (b := L) z (by omega))
section ACTS
variable {T : fTn}
theorem okL_addH (hl : okL T) (h0 : tEn T = 0) {c : Int32} {wd wl : Nat} (hw : wd ≤ 9) (h1 : 1 ≤ wl) (h2 : wl ≤ 60) : okL (addH T (newH c (nI wd) (nI wl))) := by
  obtain ⟨a, b, -, -, -⟩ := hl
  refine ⟨fun h hh => ?_, b, fun e (he : e < tEn T) => by omega, fun j (hj : j < tEn T) => by omega, fun j i (hj : j < tEn T) => by omega⟩
  have hh : h < tHn T + 1 := hh
  show okHo (if h = tHn T then newH c (nI wd) (nI wl) else tH T h)
  by_cases q : h = tHn T
  · rw [if_pos q]
    exact ⟨wd, wl, 0, 0, rfl, hw, rfl, h2, rfl, by omega, rfl, by omega, Or.inl ⟨rfl, h1, rfl⟩⟩
  · rw [if_neg q]; exact a h (by omega)
theorem okL_addP (hl : okL T) (h0 : tEn T = 0) {c : Int32} {q : Nat} (hq : q ≤ 5000) : okL (addP T (newP c (nI q))) := by
  obtain ⟨a, b, -, -, -⟩ := hl
  refine ⟨a, fun p hp => ?_, fun e (he : e < tEn T) => by omega, fun j (hj : j < tEn T) => by omega, fun j i (hj : j < tEn T) => by omega⟩
  have hp : p < tPn T + 1 := hp
  show ∃ q2, q2 ≤ 5000 ∧ (if p = tPn T then newP c (nI q) else tP T p) 1 = nI q2
  by_cases z : p = tPn T
  · rw [if_pos z]; exact ⟨q, hq, rfl⟩
  · rw [if_neg z]; exact b p (by omega)
theorem okL_addE (hl : okL T) (h6 : tEn T < 6) {c hor : Int32} {pw : Nat} (hp : pw ≤ 20) : okL (addE T (newE c hor (nI pw))) := by
  obtain ⟨a, b, e1, e2, e3⟩ := hl
  have row : ∀ j, j < tEn T → tE (addE T (newE c hor (nI pw))) j = tE T j := fun j hj => if_neg (by omega)
  have new : tE (addE T (newE c hor (nI pw))) (tEn T) = newE c hor (nI pw) := if_pos rfl
  refine ⟨a, b, fun e he => ?_, fun j hj => ?_, fun j i hj hi h7 => ?_⟩
  · have he : e < tEn T + 1 := he
    by_cases q : e = tEn T
    · rw [q, new]; exact ⟨⟨0, by omega, rfl⟩, ⟨pw, hp, rfl⟩, fun z => absurd rfl z⟩
    · rw [row e (by omega)]; exact e1 e (by omega)
  · have hj : j < tEn T + 1 := hj
    by_cases q : j = tEn T
    · rw [q, new]; exact Or.inl rfl
    · rw [row j (by omega)]
      rcases e2 j (by omega) with z | ⟨i, L, z1, z2, z3, z4, z5⟩ | ⟨i, L, z1, z3, z4, z5⟩
      · exact Or.inl z
      · exact Or.inr (Or.inl ⟨i, L, by show i < tEn T + 1; omega, z2, z3, by rw [row i z1]; exact z4, z5⟩)
      · exact Or.inr (Or.inr ⟨i, L, z1, z3, z4, z5⟩)
  · have hj : j < tEn T + 1 := hj
    have hi : i < tEn T + 1 := hi
    by_cases q : i = tEn T
    · rw [q, new]; rfl
    · rw [row i (by omega)]
      by_cases y : j = tEn T
      · rw [y, new] at h7
        exact absurd (show (-1 : Int32) = nI i from h7).symm (nI_m1 (by omega))
      · rw [row j (by omega)] at h7
        exact e3 j i (by omega) (by omega) h7
theorem okL_light (hl : okL T) {j x : Nat} (hj : j < tHn T) (h3 : tH T j 3 = 0) (h1 : 1 ≤ x) (h2 : x ≤ 99) : okL (sH T j (upd (upd (tH T j) 3 1) 4 (nI x))) := by
  obtain ⟨a, b, e1, e2, e3⟩ := hl
  refine ⟨fun h hh => ?_, b, e1, fun i hi => ?_, e3⟩
  · have hh : h < tHn T := hh
    show okHo (if h = j then upd (upd (tH T j) 3 1) 4 (nI x) else tH T h)
    by_cases q : h = j
    · rw [if_pos q]
      obtain ⟨wd, wl, ht, nw, a1, a2, a3, a4, a5, a6, a7, a8, hs⟩ := a j hj
      have wl1 : 1 ≤ wl := by
        rcases hs with ⟨-, e, -⟩ | ⟨y, -⟩ | ⟨y, -⟩ | ⟨y, -⟩
        · exact e
        · rw [y] at h3; exact absurd h3 (by decide)
        · rw [y] at h3; exact absurd h3 (by decide)
        · rw [y] at h3; exact absurd h3 (by decide)
      exact ⟨wd, wl, x, nw, a1, a2, a3, a4, rfl, h2, a7, a8, Or.inr (Or.inl ⟨rfl, wl1, h1⟩)⟩
    · rw [if_neg q]; exact a h hh
  · rcases e2 i hi with z | z | ⟨h, L, z1, z3, z4, z5⟩
    · exact Or.inl z
    · exact Or.inr (Or.inl z)
    · refine Or.inr (Or.inr ⟨h, L, z1, z3, ?_, z5⟩)
      show aDist (tE T i 0) ((if h = j then upd (upd (tH T j) 3 1) 4 (nI x) else tH T h) 0) = _
      by_cases q : h = j
      · rw [if_pos q, upd_ne (by omega), upd_ne (by omega), ← q]; exact z4
      · rw [if_neg q]; exact z4
/-- an engine's row that changes where the law's needs aren't told -/
theorem okL_coal (hl : okL T) {j : Nat} {x : Int32} : okL (sE T j (upd (tE T j) 3 x)) := by
  obtain ⟨a, b, e1, e2, e3⟩ := hl
  have row : ∀ i k, k ≠ 3 → tE (sE T j (upd (tE T j) 3 x)) i k = tE T i k := fun i k hk => sE_col hk
  refine ⟨a, b, fun e (he : e < tEn T) => ?_, fun i (hi : i < tEn T) => ?_, fun i i2 (hi : i < tEn T) (hi2 : i2 < tEn T) h7 => ?_⟩
  · unfold okE
    rw [row e 4 (by omega), row e 2 (by omega), row e 7 (by omega), row e 5 (by omega)]
    exact e1 e he
  · rw [row i 7 (by omega), row i 0 (by omega)]
    rcases e2 i hi with z | ⟨i2, L, z1, z2, z3, z4, z5⟩ | z
    · exact Or.inl z
    · exact Or.inr (Or.inl ⟨i2, L, z1, z2, z3, by rw [row i2 0 (by omega)]; exact z4, z5⟩)
    · exact Or.inr (Or.inr z)
  · rw [row i 7 (by omega)] at h7
    rw [row i2 5 (by omega)]
    exact e3 i i2 hi hi2 h7
/-- a hose is laid, or taken up -/
theorem okL_hose (hl : okL T) {j : Nat} {x : Int32} (hj : j < tEn T) (h5 : x ≠ -1 → tE T j 5 = 0)
    (hx : x = -1 ∨ (∃ i L, i < tEn T ∧ i ≠ j ∧ x = nI i ∧ aDist (tE T j 0) (tE T i 0) = nI L ∧ L ≤ 6 ∧ tE T i 5 = 0) ∨ (∃ h L, h < tHn T ∧ x = nI (100 + h) ∧ aDist (tE T j 0) (tH T h 0) = nI L ∧ L ≤ 6)) (h6 : tEn T ≤ 6) (h30 : tHn T ≤ 30) : okL (sE T j (upd (tE T j) 7 x)) := by
  obtain ⟨a, b, e1, e2, e3⟩ := hl
  have row : ∀ i k, k ≠ 7 → tE (sE T j (upd (tE T j) 7 x)) i k = tE T i k := fun i k hk => sE_col hk
  have r7 : ∀ i, tE (sE T j (upd (tE T j) 7 x)) i 7 = if i = j then x else tE T i 7 := fun i => tE_at
  refine ⟨a, b, fun e (he : e < tEn T) => ?_, fun i (hi : i < tEn T) => ?_, fun i i2 (hi : i < tEn T) (hi2 : i2 < tEn T) h7 => ?_⟩
  · unfold okE
    rw [row e 4 (by omega), row e 2 (by omega), r7, row e 5 (by omega)]
    refine ⟨(e1 e he).1, (e1 e he).2.1, ?_⟩
    by_cases q : e = j
    · rw [if_pos q, q]; exact h5
    · rw [if_neg q]; exact (e1 e he).2.2
  · rw [r7, row i 0 (by omega)]
    by_cases q : i = j
    · rw [if_pos q, q]
      rcases hx with z | ⟨i2, L, z1, z2, z3, z4, z5, -⟩ | ⟨h, L, z1, z3, z4, z5⟩
      · exact Or.inl z
      · exact Or.inr (Or.inl ⟨i2, L, z1, z2, z3, by rw [row i2 0 (by omega)]; exact z4, z5⟩)
      · exact Or.inr (Or.inr ⟨h, L, z1, z3, z4, z5⟩)
    · rw [if_neg q]
      rcases e2 i hi with z | ⟨i2, L, z1, z2, z3, z4, z5⟩ | z
      · exact Or.inl z
      · exact Or.inr (Or.inl ⟨i2, L, z1, z2, z3, by rw [row i2 0 (by omega)]; exact z4, z5⟩)
      · exact Or.inr (Or.inr z)
  · rw [r7] at h7
    rw [row i2 5 (by omega)]
    by_cases q : i = j
    · rw [if_pos q] at h7
      rcases hx with z | ⟨i3, L, z1, z2, z3, z4, z5, z6⟩ | ⟨h, L, z1, z3, z4, z5⟩
      · rw [z] at h7; exact absurd h7.symm (nI_m1 (by omega))
      · rw [z3] at h7; rw [← nI_eq' h7 (by omega) (by omega)]; exact z6
      · rw [z3] at h7
        have := nI_eq' h7 (by omega) (by omega)
        omega
    · rw [if_neg q] at h7
      exact e3 i i2 hi hi2 h7
theorem upHose_7 {x : Int32} {k : Nat} {f : Nat → Int32} : upHose x k f 7 = if nI k = x then -1 else if f 7 = x then -1 else f 7 := by
  unfold upHose
  by_cases q : nI k = x
  · rw [if_pos q, if_pos q, upd_at]
  · rw [if_neg q, if_neg q]
    by_cases z : f 7 = x
    · rw [if_pos z, if_pos z, upd_at]
    · rw [if_neg z, if_neg z]
theorem upHose_ne {x : Int32} {k c : Nat} {f : Nat → Int32} (h : c ≠ 7) : upHose x k f c = f c := by
  unfold upHose
  split
  · exact upd_ne h
  · split
    · exact upd_ne h
    · rfl
theorem okL_drv (hl : okL T) {j jc : Nat} {st0 : Int32} (hj : j < tEn T) (h6 : tEn T ≤ 6) : okL (drvT T j jc st0) := by
  obtain ⟨a, b, e1, e2, e3⟩ := hl
  have r7 : ∀ i, i < tEn T → tE (drvT T j jc st0) i 7 = -1 ∨ (i ≠ j ∧ tE T i 7 ≠ nI j ∧ tE (drvT T j jc st0) i 7 = tE T i 7) := fun i hi => by
    rw [drvT_row hi hj]
    by_cases q : i = j
    · rw [if_pos q]; exact Or.inl rfl
    · rw [if_neg q, upHose_7, if_neg (fun z => q (nI_eq' z (by omega) (by omega)))]
      by_cases z : tE T i 7 = nI j
      · rw [if_pos z]; exact Or.inl rfl
      · rw [if_neg z]; exact Or.inr ⟨q, z, rfl⟩
  have rk : ∀ i c, i < tEn T → c ≠ 5 → c ≠ 6 → c ≠ 7 → tE (drvT T j jc st0) i c = tE T i c := fun i c hi c5 c6 c7 => by
    rw [drvT_row hi hj]
    by_cases q : i = j
    · rw [if_pos q, upd_ne c5, upd_ne c6, upd_ne c7, q]
    · rw [if_neg q]; exact upHose_ne c7
  have r5 : ∀ i, i < tEn T → i ≠ j → tE (drvT T j jc st0) i 5 = tE T i 5 := fun i hi q => by
    rw [drvT_row hi hj, if_neg q]; exact upHose_ne (by omega)
  refine ⟨a, b, fun e (he : e < tEn T) => ?_, fun i (hi : i < tEn T) => ?_, fun i i2 (hi : i < tEn T) (hi2 : i2 < tEn T) h7 => ?_⟩
  · unfold okE
    rw [rk e 4 he (by omega) (by omega) (by omega), rk e 2 he (by omega) (by omega) (by omega)]
    refine ⟨(e1 e he).1, (e1 e he).2.1, fun z => ?_⟩
    rcases r7 e he with y | ⟨y1, y2, y3⟩
    · exact absurd y z
    · rw [r5 e he y1]; rw [y3] at z; exact (e1 e he).2.2 z
  · rw [rk i 0 hi (by omega) (by omega) (by omega)]
    rcases r7 i hi with y | ⟨y1, y2, y3⟩
    · exact Or.inl y
    · rw [y3]
      rcases e2 i hi with z | ⟨i2, L, z1, z2, z3, z4, z5⟩ | z
      · exact Or.inl z
      · exact Or.inr (Or.inl ⟨i2, L, z1, z2, z3, by rw [rk i2 0 z1 (by omega) (by omega) (by omega)]; exact z4, z5⟩)
      · exact Or.inr (Or.inr z)
  · rcases r7 i hi with y | ⟨y1, y2, y3⟩
    · rw [y] at h7; exact absurd h7.symm (nI_m1 (by omega))
    · rw [y3] at h7
      have ne : i2 ≠ j := fun z => y2 (by rw [← z]; exact h7)
      rw [r5 i2 hi2 ne]
      exact e3 i i2 hi hi2 h7
end ACTS
/-! looking ahead -/
theorem go_shift (T : fTn) : ∀ k, (goT T (k + 1)).1 = (goT (goT T 1).1 k).1 := by
  intro k
  induction k with
  | zero => rfl
  | succ k ih =>
    show (minT (goT T (k + 1)).1).1 = (minT (goT (goT T 1).1 k).1).1
    rw [ih]
theorem rests_shift (T : fTn) (k : Nat) : restsP (goT T 1).1 k = restsP T (k + 1) := by
  unfold restsP
  rw [go_shift T k]
/-- a fire that lasts more than a minute lasts one less behind it -/
theorem lasts_next {T : fTn} (h : 1 < jFirst (restsP T) 201) : jFirst (restsP (goT T 1).1) 201 = jFirst (restsP T) 201 - 1 := by
  rcases jFirst_or (restsP T) 201 with z | ⟨L, hL, e, y⟩
  · rw [z] at h; exact absurd h (by decide)
  · have h0 : ∀ j, j < L → restsP T j = false := fun j hj => by
      have : firstN (restsP T) 201 = L := by
        unfold jFirst at e
        by_cases x : firstN (restsP T) 201 < 201
        · rw [if_pos x] at e; exact nI_eq' e (by omega) (by omega)
        · rw [if_neg x] at e; exact absurd e.symm (nI_m1 (by omega))
      exact firstN_no (n := 201) (by omega)
    rw [e] at h ⊢
    have h1 : 1 < L := nI_lt' (a := 1) (b := L) h (by omega) (by omega)
    rw [show nI L - 1 = nI (L - 1) from pk_sub (a := L) (b := 1) (by omega)]
    refine (jFirst_at (show L - 1 < 201 by omega) ?_ (fun j hj => ?_)).symm
    · rw [rests_shift, show L - 1 + 1 = L by omega]; exact y
    · rw [rests_shift]; exact h0 (j + 1) (by omega)
theorem lasts_one {T : fTn} (h : jFirst (restsP T) 201 = 1) : cntH (tH (goT T 1).1) 1 (tHn (goT T 1).1) = 0 := by
  rcases jFirst_or (restsP T) 201 with z | ⟨L, hL, e, y⟩
  · rw [z] at h; exact absurd h (by decide)
  · rw [e] at h
    have : L = 1 := nI_eq' (b := 1) h (by omega) (by omega)
    rw [this] at y
    unfold restsP at y
    exact of_decide_eq_true y
