/-! what is told of the hoses, the weakest, sums, the digest -/
def cntL (r : Nat → Nat) (x : Nat) : Nat → Nat
  | 0 => 0
  | k + 1 => cntL r x k + (if r k < x then 1 else 0)
theorem cntL_le {r : Nat → Nat} {x n : Nat} : cntL r x n ≤ n := by
  induction n with
  | zero => exact Nat.le_refl 0
  | succ n ih => unfold cntL; split <;> omega
theorem cntL_lt {r : Nat → Nat} {x n j : Nat} (hj : j < n) (h : ¬ r j < x) : cntL r x n < n := by
  induction n with
  | zero => exact absurd hj (Nat.not_lt_zero _)
  | succ n ih =>
    unfold cntL
    rcases Nat.lt_or_ge j n with q | q
    · have := ih q; split <;> omega
    · rw [show n = j by omega, if_neg h]
      have := cntL_le (r := r) (x := x) (n := j)
      omega
theorem cntL_mono {r : Nat → Nat} {x y n : Nat} (h : x ≤ y) : cntL r x n ≤ cntL r y n := by
  induction n with
  | zero => exact Nat.le_refl 0
  | succ n ih => unfold cntL; split <;> split <;> omega
theorem cntL_st {r : Nat → Nat} {x y n i : Nat} (hi : i < n) (h : x ≤ r i) (h2 : r i < y) : cntL r x n < cntL r y n := by
  induction n with
  | zero => exact absurd hi (Nat.not_lt_zero _)
  | succ n ih =>
    unfold cntL
    rcases Nat.lt_or_ge i n with q | q
    · have := ih q; split <;> split <;> omega
    · rw [show n = i by omega, if_neg (show ¬ r i < x by omega), if_pos h2]
      have := cntL_mono (r := r) (x := x) (y := y) (n := i) (by omega)
      omega
theorem rk_small {T : fTn} {r : Nat → Nat} (h6 : tEn T ≤ 6) (h : ∀ j, j < tEn T → inR (tE T j 7) 0 5 = true → ∃ i, i < tEn T ∧ tE T j 7 = nI i ∧ r i < r j) : ∃ rk, okH T rk := by
  refine ⟨fun j => cntL r (r j) (tEn T), fun j hj => ⟨?_, fun z => ?_⟩⟩
  · have := cntL_lt (r := r) (x := r j) hj (Nat.lt_irrefl _)
    show cntL r (r j) (tEn T) < 6
    omega
  · obtain ⟨i, hi, e, lt⟩ := h j hj z
    exact ⟨i, hi, e, cntL_st hi (Nat.le_refl _) lt⟩
theorem leads_S {T : fTn} {to : Int32} {n j : Nat} (hj : j < tEn T) (h6 : tEn T ≤ 6) : leadsN T to (n + 1) (nI j) = (decide (nI j = to) || leadsN T to n (tE T j 7)) := by
  show (isIx (tEn T) (nI j) && (decide (nI j = to) || leadsN T to n (tE T (nI j).toNatClampNeg 7))) = _
  rw [isIx_nI hj (by omega), nI_clamp (by omega), Bool.true_and]
theorem leads_fuel {T : fTn} {rk : Nat → Nat} {to : Int32} (hR : okH T rk) (h6 : tEn T ≤ 6) : ∀ n j, j < tEn T → rk j < n → leadsN T to (n + 1) (nI j) = leadsN T to n (nI j) := by
  intro n
  induction n with
  | zero => intro j _ h; exact absurd h (Nat.not_lt_zero _)
  | succ n ih =>
    intro j hj h
    rw [leads_S hj h6, leads_S hj h6]
    congr 1
    rcases hz : inR (tE T j 7) 0 5 with - | -
    · rw [leadsN_no (inR_no hz h6), leadsN_no (inR_no hz h6)]
    · obtain ⟨i, hi, e, lt⟩ := (hR j hj).2 hz
      rw [e]
      exact ih i hi (by omega)
theorem leads_self {T : fTn} {n j : Nat} (hj : j < tEn T) (h6 : tEn T ≤ 6) : leadsN T (nI j) (n + 1) (nI j) = true := by
  rw [leads_S hj h6, decide_eq_true rfl, Bool.true_or]
theorem leads_same {U T : fTn} {to : Int32} (h : simT U T) (h6 : tEn T ≤ 6) : ∀ n x, leadsN U to n x = leadsN T to n x := by
  intro n
  induction n with
  | zero => intro x; rfl
  | succ n ih =>
    intro x
    show (isIx (tEn U) x && (decide (x = to) || leadsN U to n (tE U x.toNatClampNeg 7))) = (isIx (tEn T) x && (decide (x = to) || leadsN T to n (tE T x.toNatClampNeg 7)))
    rw [h.1.2.2.2, ih]
    rcases hz : isIx (tEn T) x with - | -
    · rfl
    · obtain ⟨j, hj, e⟩ := isIx_t hz (by omega)
      rw [e, nI_clamp (by omega), (h.2.2.2 j hj).1.2.1]
/-- a hose laid to another engine makes no ring -/
theorem relay_ok {T : fTn} {rk : Nat → Nat} {e i : Nat} (hR : okH T rk) (h6 : tEn T ≤ 6) (he : e < tEn T) (hi : i < tEn T) (hl : leadsN T (nI e) 7 (nI i) = false) : ∃ rk2, okH (sE T e (upd (tE T e) 7 (nI i))) rk2 := by
  refine rk_small (T := sE T e (upd (tE T e) 7 (nI i))) (r := fun j => rk j + (if leadsN T (nI e) 7 (nI j) = true then 6 else 0)) h6 (fun j (hj : j < tEn T) => ?_)
  rw [tE_at]
  by_cases q : j = e
  · rw [if_pos q]
    intro _
    refine ⟨i, hi, rfl, ?_⟩
    show rk i + (if leadsN T (nI e) 7 (nI i) = true then 6 else 0) < rk j + (if leadsN T (nI e) 7 (nI j) = true then 6 else 0)
    rw [hl, if_neg Bool.false_ne_true, q, leads_self he h6, if_pos rfl]
    have := (hR i hi).1
    omega
  · rw [if_neg q]
    intro z
    obtain ⟨k, hk, ek, lt⟩ := (hR j hj).2 z
    refine ⟨k, hk, ek, ?_⟩
    show rk k + (if leadsN T (nI e) 7 (nI k) = true then 6 else 0) < rk j + (if leadsN T (nI e) 7 (nI j) = true then 6 else 0)
    have e1 : leadsN T (nI e) 7 (nI j) = leadsN T (nI e) 7 (nI k) := by
      rw [leads_S hj h6, decide_eq_false (fun y => q (nI_eq' y (by omega) (by omega))), Bool.false_or, ek]
      exact (leads_fuel hR h6 6 k hk (hR k hk).1).symm
    rw [e1]
    omega
/-- a hose that goes to no engine -/
theorem aim_ok {T : fTn} {rk : Nat → Nat} {e : Nat} {x : Int32} (hR : okH T rk) (hx : inR x 0 5 = false) : okH (sE T e (upd (tE T e) 7 x)) rk := by
  intro j (hj : j < tEn T)
  rw [tE_at]
  by_cases q : j = e
  · rw [if_pos q]
    refine ⟨(hR j hj).1, fun z => ?_⟩
    rw [hx] at z
    exact absurd z Bool.false_ne_true
  · rw [if_neg q]; exact hR j hj
theorem cntH_cong {f f2 : Nat → Nat → Int32} {w : Int32} {n : Nat} (h : ∀ j, j < n → f j 3 = f2 j 3) : cntH f w n = cntH f2 w n := by
  induction n with
  | zero => rfl
  | succ n ih => unfold cntH; rw [ih (fun j hj => h j (by omega)), h n (by omega)]
theorem cntH_nat (f : Nat → Nat → Int32) (w : Int32) (n : Nat) : ∃ m, m ≤ n ∧ cntH f w n = nI m := by
  induction n with
  | zero => exact ⟨0, Nat.le_refl 0, rfl⟩
  | succ n ih =>
    obtain ⟨m, hm, e⟩ := ih
    unfold cntH
    rw [e]
    split
    · exact ⟨m + 1, by omega, nI_1 m⟩
    · exact ⟨m, by omega, rfl⟩
theorem hTell_cong {f f2 : Nat → Int32} {w : Int32} (h : ∀ k, k < 7 → f k = f2 k) : hTell f w = hTell f2 w := by
  unfold hTell
  rw [h 0 (by omega), h 1 (by omega), h 2 (by omega), h 3 (by omega), h 4 (by omega), h 5 (by omega), h 6 (by omega)]
theorem sumH_cong {f f2 : Nat → Nat → Int32} {w : Int32} {n : Nat} (h : ∀ j, j < n → ∀ k, k < 7 → f j k = f2 j k) : sumH f w n = sumH f2 w n := by
  induction n with
  | zero => rfl
  | succ n ih => unfold sumH; rw [ih (fun j hj => h j (by omega)), hTell_cong (h n (by omega))]
theorem sumP_cong {f f2 : Nat → Nat → Int32} {n : Nat} (h : ∀ j, j < n → f j 1 = f2 j 1) : sumP f n = sumP f2 n := by
  induction n with
  | zero => rfl
  | succ n ih => unfold sumP; rw [ih (fun j hj => h j (by omega)), h n (by omega)]
theorem tell_same {U T : fTn} {w : Int32} (h : simT U T) : tTell U w = tTell T w := by
  obtain ⟨⟨n0, n1, n2, n3⟩, hP, hH, hE⟩ := h
  unfold tTell
  rw [n0, n1, n2, n3, sumP_cong (f := tP U) (f2 := tP T) (fun j hj => (hP j hj).2), sumH_cong (f := tH U) (f2 := tH T) (w := 4) hH, sumH_cong (f := tH U) (f2 := tH T) (w := 6) hH, cntH_cong (f := tH U) (f2 := tH T) (w := 1) (fun j hj => hH j hj 3 (by omega)), cntH_cong (f := tH U) (f2 := tH T) (w := 2) (fun j hj => hH j hj 3 (by omega)), cntH_cong (f := tH U) (f2 := tH T) (w := 3) (fun j hj => hH j hj 3 (by omega))]
theorem cnt_same {U T : fTn} {w : Int32} (h : simT U T) : cntH (tH U) w (tHn U) = cntH (tH T) w (tHn T) := by
  rw [h.1.2.1]
  exact cntH_cong (fun j hj => h.2.2.1 j hj 3 (by omega))
theorem fore_same {U T : fTn} {w : Int32} (h : simT U T) : mFore U w = foreR T w := by
  unfold mFore foreR
  rw [cnt_same h, cnt_same h, tell_same h]
  rfl
theorem walls_same {U T : fTn} (h : simT U T) : wallsD U = wallsD T := by
  unfold wallsD
  rw [h.1.2.1, sumH_cong (f := tH U) (f2 := tH T) (w := 2) h.2.2.1]
theorem hTell_at {f : Nat → Int32} {k : Nat} (hk : k < 7) : hTell f (nI k) = f k := by
  rcases (show k = 0 ∨ k = 1 ∨ k = 2 ∨ k = 3 ∨ k = 4 ∨ k = 5 ∨ k = 6 by omega) with rfl | rfl | rfl | rfl | rfl | rfl | rfl <;> rfl
theorem eng_same {U T : fTn} {e k : Nat} (h : simT U T) (hc : ∀ p, p < tPn T → isC0 (tP T p 0)) (ho : isC0 (tE T e 0)) (he : e < tEn T) (hk : k < 10) : mTell U (tE U e) k = eTell T (tE T e) (nI k) := by
  obtain ⟨⟨n0, n1, n2, n3⟩, hP, hH, hE⟩ := h
  obtain ⟨⟨a, b, c⟩, d⟩ := hE e he
  rcases (show k = 0 ∨ k = 1 ∨ k = 2 ∨ k = 3 ∨ k = 4 ∨ k = 5 ∨ k = 6 ∨ k = 7 ∨ k = 8 ∨ k = 9 by omega) with rfl | rfl | rfl | rfl | rfl | rfl | rfl | rfl | rfl | rfl
  · exact a 0 (by omega)
  · exact a 1 (by omega)
  · exact a 2 (by omega)
  · exact a 3 (by omega)
  · exact a 4 (by omega)
  · exact a 5 (by omega)
  · exact b
  · exact src_same (f := tE U e) n2 (fun p hp => (hP p hp).1) hc (a 0 (by omega)) (a 5 (by omega)) ho
  · exact d
  · exact ePump_cong (a 2 (by omega)) (a 4 (by omega)) (a 5 (by omega))
theorem dig_same {U T : fTn} (h : simT U T) (hc : ∀ p, p < tPn T → isC0 (tP T p 0)) (ho : ∀ e, e < tEn T → isC0 (tE T e 0)) : mdE U (tEn U) = digE T (tEn T) := by
  have c0 : ∀ k, digC U k = digC T k := by
    intro k
    induction k with
    | zero => rfl
    | succ k ih => unfold digC; rw [ih, tell_same h]
  have c1 : ∀ j, j < tHn T → ∀ d k, k ≤ 7 → mdH1 U j d k = digH1 T j d k := by
    intro j hj d k
    induction k with
    | zero => intro _; rfl
    | succ k ih => intro hk; unfold mdH1 digH1; rw [ih (by omega), hTell_at (by omega), h.2.2.1 j hj k (by omega)]
  have c2 : ∀ n, n ≤ tHn T → mdH U n = digH T n := by
    intro n
    induction n with
    | zero => intro _; exact c0 10
    | succ n ih => intro hn; unfold mdH digH; rw [ih (by omega), c1 n (by omega) _ 7 (Nat.le_refl _)]
  have c3 : ∀ n, n ≤ tPn T → mdP U n = digP T n := by
    intro n
    induction n with
    | zero => intro _; show mdH U (tHn U) = digH T (tHn T); rw [h.1.2.1, c2 _ (Nat.le_refl _)]
    | succ n ih => intro hn; unfold mdP digP; rw [ih (by omega), (h.2.1 n (by omega)).1, (h.2.1 n (by omega)).2]
  have c4 : ∀ j, j < tEn T → ∀ d k, k ≤ 10 → mdE1 U j d k = digE1 T j d k := by
    intro j hj d k
    induction k with
    | zero => intro _; rfl
    | succ k ih => intro hk; unfold mdE1 digE1; rw [ih (by omega), eng_same h hc (ho j hj) hj (by omega)]
  have c5 : ∀ n, n ≤ tEn T → mdE U n = digE T n := by
    intro n
    induction n with
    | zero => intro _; show mdP U (tPn U) = digP T (tPn T); rw [h.1.2.2.1, c3 _ (Nat.le_refl _)]
    | succ n ih => intro hn; unfold mdE digE; rw [ih (by omega), c4 n (by omega) _ 10 (Nat.le_refl _)]
  rw [h.1.2.2.2]
  exact c5 _ (Nat.le_refl _)
/-! how long a fire lasts -/
theorem rest_same {kf : Nat → Int32} {U T : fTn} (h : simT U T) (ho : okT kf T) (k : Nat) : mRest U k = !restsP T k := by
  unfold mRest restsP
  rw [cnt_same (go_same h ho k).1]
  obtain ⟨m, hm, e⟩ := cntH_nat (tH (goT T k).1) 1 (tHn (goT T k).1)
  have hn : tHn (goT T k).1 ≤ 30 := (go_same h ho k).2.1.2.2.2.2.2.1
  rw [e]
  rcases Nat.eq_zero_or_pos m with z | z
  · rw [z]; rfl
  · rw [decide_eq_true (nI_nle z (by omega)), decide_eq_false (nI_ne0 z (by omega))]; rfl
theorem lasts_same {kf : Nat → Int32} {U T : fTn} (h : simT U T) (ho : okT kf T) : mLast U = jFirst (restsP T) 201 := by
  have e1 : (fun k => !mRest U k) = restsP T := by funext k; rw [rest_same h ho, Bool.not_not]
  unfold mLast mLastK
  rw [e1, rest_same h ho]
  have hle := firstN_le (restsP T) 200
  rcases Nat.lt_or_ge (firstN (restsP T) 200) 200 with q | q
  · have y := firstN_yes q
    rw [y]
    have z := jFirst_at (p := restsP T) (n := 201) (k := firstN (restsP T) 200) (by omega) y (fun j hj => firstN_no hj)
    rw [← z]; rfl
  · have q2 : firstN (restsP T) 200 = 200 := by omega
    rw [q2]
    rcases hz : restsP T 200 with - | -
    · rw [← jFirst_none (p := restsP T) (n := 201) (fun j hj => by
        rcases Nat.lt_or_ge j 200 with x | x
        · exact firstN_no (n := 200) (by omega)
        · rw [show j = 200 by omega]; exact hz)]
      rfl
    · rw [← jFirst_at (p := restsP T) (n := 201) (k := 200) (by omega) hz (fun j hj => firstN_no (n := 200) (by omega))]
      rfl
/-! the weakest -/
theorem mwk_ok {U T : fTn} {e : Nat} (h : simT U T) (h6 : tEn T ≤ 6) : ∀ k, k ≤ tEn T → (mwk U e k = -1 ∧ ∀ i, i < k → leadsN T (nI e) 7 (nI i) = false) ∨ ∃ b, b < k ∧ mwk U e k = nI b ∧ leadsN T (nI e) 7 (nI b) = true ∧ ∀ i, i < k → leadsN T (nI e) 7 (nI i) = true → (ePump (tE T b)).toInt < (ePump (tE T i)).toInt ∨ ((ePump (tE T b)).toInt = (ePump (tE T i)).toInt ∧ b ≤ i) := by
  intro k
  induction k with
  | zero => intro _; exact Or.inl ⟨rfl, fun i hi => absurd hi (Nat.not_lt_zero _)⟩
  | succ k ih =>
    intro hk
    have pe : ∀ j, j < tEn T → ePump (tE U j) = ePump (tE T j) := fun j hj => eSim_pump (h.2.2.2 j hj).1
    unfold mwk
    rw [leads_same h h6, pe k (by omega)]
    rcases hz : leadsN T (nI e) 7 (nI k) with - | -
    · rw [if_neg Bool.false_ne_true]
      rcases ih (by omega) with ⟨a, b⟩ | ⟨b, hb, e1, e2, e3⟩
      · refine Or.inl ⟨a, fun i hi => ?_⟩
        rcases Nat.lt_or_ge i k with y | y
        · exact b i y
        · rw [show i = k by omega]; exact hz
      · refine Or.inr ⟨b, by omega, e1, e2, fun i hi hl => ?_⟩
        rcases Nat.lt_or_ge i k with y | y
        · exact e3 i y hl
        · rw [show i = k by omega, hz] at hl; exact absurd hl Bool.false_ne_true
    · rw [if_pos rfl]
      rcases ih (by omega) with ⟨a, b⟩ | ⟨b, hb, e1, e2, e3⟩
      · rw [if_pos a]
        refine Or.inr ⟨k, by omega, rfl, hz, fun i hi hl => ?_⟩
        rcases Nat.lt_or_ge i k with y | y
        · rw [b i y] at hl; exact absurd hl Bool.false_ne_true
        · rw [show i = k by omega]; exact Or.inr ⟨rfl, Nat.le_refl _⟩
      · rw [e1, if_neg (nI_m1 (by omega)), nI_clamp (by omega), pe b (by omega)]
        by_cases q : ePump (tE T b) ≤ ePump (tE T k)
        · rw [if_pos q]
          rw [sw_le] at q
          refine Or.inr ⟨b, by omega, rfl, e2, fun i hi hl => ?_⟩
          rcases Nat.lt_or_ge i k with y | y
          · exact e3 i y hl
          · rw [show i = k by omega]; omega
        · rw [if_neg q]
          rw [sw_le] at q
          refine Or.inr ⟨k, by omega, rfl, hz, fun i hi hl => ?_⟩
          rcases Nat.lt_or_ge i k with y | y
          · have := e3 i y hl; omega
          · rw [show i = k by omega]; exact Or.inr ⟨rfl, Nat.le_refl _⟩
theorem wkF_ok {T : fTn} {e : Nat} (he : e < tEn T) (h6 : tEn T ≤ 6) : ∀ k, k ≤ tEn T → ∃ b, b < tEn T ∧ wkF T e k = (nI b, ePump (tE T b)) ∧ leadsN T (nI e) 7 (nI b) = true ∧ ((ePump (tE T b)).toInt < (ePump (tE T e)).toInt ∨ ((ePump (tE T b)).toInt = (ePump (tE T e)).toInt ∧ b ≤ e)) ∧ ∀ i, i < k → leadsN T (nI e) 7 (nI i) = true → (ePump (tE T b)).toInt < (ePump (tE T i)).toInt ∨ ((ePump (tE T b)).toInt = (ePump (tE T i)).toInt ∧ b ≤ i) := by
  intro k
  induction k with
  | zero => intro _; exact ⟨e, he, rfl, leads_self he h6, Or.inr ⟨rfl, Nat.le_refl _⟩, fun i hi => absurd hi (Nat.not_lt_zero _)⟩
  | succ k ih =>
    intro hk
    obtain ⟨b, hb, e1, e2, e4, e3⟩ := ih (by omega)
    have eW : weakB T e k (wkF T e k) = (decide ((ePump (tE T k)).toInt < (ePump (tE T b)).toInt ∨ ((ePump (tE T k)).toInt = (ePump (tE T b)).toInt ∧ k < b)) && leadsN T (nI e) 7 (nI k)) := by
      unfold weakB
      rw [e1]
      congr 1
      rw [show ((nI b, ePump (tE T b)) : Int32 × Int32).1 = nI b from rfl, show ((nI b, ePump (tE T b)) : Int32 × Int32).2 = ePump (tE T b) from rfl]
      rw [show decide (¬ nI b ≤ nI k) = decide (k < b) from decide_eq_decide.mpr ⟨fun z => nI_nle' z (by omega) (by omega), fun z y => absurd (nI_le' y (by omega) (by omega)) (by omega)⟩]
      rw [show decide (ePump (tE T k) < ePump (tE T b)) = decide ((ePump (tE T k)).toInt < (ePump (tE T b)).toInt) from decide_eq_decide.mpr (by rw [sw_lt])]
      rw [show decide (ePump (tE T k) = ePump (tE T b)) = decide ((ePump (tE T k)).toInt = (ePump (tE T b)).toInt) from decide_eq_decide.mpr (by rw [sw_eq])]
      by_cases p1 : (ePump (tE T k)).toInt < (ePump (tE T b)).toInt <;> by_cases p2 : (ePump (tE T k)).toInt = (ePump (tE T b)).toInt <;> by_cases p3 : k < b <;> simp [p1, p2, p3]
    unfold wkF
    rw [eW, e1]
    by_cases q : (decide ((ePump (tE T k)).toInt < (ePump (tE T b)).toInt ∨ ((ePump (tE T k)).toInt = (ePump (tE T b)).toInt ∧ k < b)) && leadsN T (nI e) 7 (nI k)) = true
    · rw [if_pos q]
      simp only [Bool.and_eq_true, decide_eq_true_eq] at q
      obtain ⟨q1, q2⟩ := q
      refine ⟨k, by omega, rfl, q2, by omega, fun i hi hl => ?_⟩
      rcases Nat.lt_or_ge i k with y | y
      · have := e3 i y hl; omega
      · rw [show i = k by omega]; exact Or.inr ⟨rfl, Nat.le_refl _⟩
    · rw [if_neg q]
      refine ⟨b, hb, rfl, e2, e4, fun i hi hl => ?_⟩
      rcases Nat.lt_or_ge i k with y | y
      · exact e3 i y hl
      · rw [show i = k by omega] at hl ⊢
        simp only [hl, Bool.and_true, decide_eq_true_eq] at q
        omega
theorem weak_same {U T : fTn} {e : Nat} (h : simT U T) (he : e < tEn T) (h6 : tEn T ≤ 6) : mwk U e (tEn U) = (wkF T e (tEn T)).1 := by
  rw [h.1.2.2.2]
  obtain ⟨b, hb, e1, e2, -, e3⟩ := wkF_ok he h6 (tEn T) (Nat.le_refl _)
  rw [e1]
  rcases mwk_ok (e := e) h h6 (tEn T) (Nat.le_refl _) with ⟨-, z⟩ | ⟨b2, hb2, g1, g2, g3⟩
  · have := z b hb
    rw [this] at e2
    exact absurd e2 Bool.false_ne_true
  · rw [g1]
    have x1 := e3 b2 hb2 g2
    have x2 := g3 b hb e2
    rw [show b2 = b by omega]
