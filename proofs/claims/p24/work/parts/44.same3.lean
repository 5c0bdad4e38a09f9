def gOk (kf nf : Nat → Int32) (T : fTn) : Prop := (∀ h, h < tHn T → ∃ c, c < 140 ∧ tH T h 0 = nI c ∧ kf c = 1 ∧ nf c = nI h) ∧ (∀ p, p < tPn T → ∃ c, c < 140 ∧ tP T p 0 = nI c ∧ kf c = 2 ∧ nf c = nI p) ∧
  ∀ c, c < 140 → kf c = 0 ∨ (kf c = 1 ∧ ∃ h, h < tHn T ∧ tH T h 0 = nI c) ∨ (kf c = 2 ∧ ∃ p, p < tPn T ∧ tP T p 0 = nI c)
theorem hAt_1 {kf nf : Nat → Int32} {T : fTn} {c : Nat} (g : gOk kf nf T) (hn : tHn T ≤ 30) (hc : c < 140) (h : kf c = 1) : hAt T (nI c) = nf c ∧ ¬ nf c = -1 := by
  obtain ⟨g1, g2, g3⟩ := g
  rcases g3 c hc with z | ⟨-, i, hi, e⟩ | ⟨z, -⟩
  · rw [h] at z; exact absurd z (by decide)
  · obtain ⟨c2, hc2, e2, -, e3⟩ := g1 i hi
    have ec : c2 = c := nI_eq' (e2.symm.trans e) (by omega) (by omega)
    rw [ec] at e3
    refine ⟨?_, by rw [e3]; exact nI_m1 (by omega)⟩
    rw [e3]
    refine (jFirst_at hi (by rw [e]; exact decide_eq_true rfl) (fun j hj => ?_)).symm
    refine decide_eq_false (fun z => ?_)
    obtain ⟨c4, hc4, e4, -, e5⟩ := g1 j (by omega)
    have ec4 : c4 = c := nI_eq' (e4.symm.trans z) (by omega) (by omega)
    rw [ec4, e3] at e5
    have := nI_eq' e5 (by omega) (by omega)
    omega
  · rw [h] at z; exact absurd z (by decide)
theorem hAt_n {kf nf : Nat → Int32} {T : fTn} {c : Nat} (g : gOk kf nf T) (hc : c < 140) (h : ¬ kf c = 1) : hAt T (nI c) = -1 := by
  refine (jFirst_none (fun j hj => decide_eq_false (fun z => ?_))).symm
  obtain ⟨c2, hc2, e2, e3, -⟩ := g.1 j hj
  have ec : c2 = c := nI_eq' (e2.symm.trans z) (by omega) (by omega)
  rw [ec] at e3
  exact h e3
theorem pAt_2 {kf nf : Nat → Int32} {T : fTn} {c : Nat} (g : gOk kf nf T) (hn : tPn T ≤ 6) (hc : c < 140) (h : kf c = 2) : pAt T (nI c) = nf c ∧ ¬ nf c = -1 := by
  obtain ⟨g1, g2, g3⟩ := g
  rcases g3 c hc with z | ⟨z, -⟩ | ⟨-, i, hi, e⟩
  · rw [h] at z; exact absurd z (by decide)
  · rw [h] at z; exact absurd z (by decide)
  · obtain ⟨c2, hc2, e2, -, e3⟩ := g2 i hi
    have ec : c2 = c := nI_eq' (e2.symm.trans e) (by omega) (by omega)
    rw [ec] at e3
    refine ⟨?_, by rw [e3]; exact nI_m1 (by omega)⟩
    rw [e3]
    refine (jFirst_at hi (by rw [e]; exact decide_eq_true rfl) (fun j hj => ?_)).symm
    refine decide_eq_false (fun z => ?_)
    obtain ⟨c4, hc4, e4, -, e5⟩ := g2 j (by omega)
    have ec4 : c4 = c := nI_eq' (e4.symm.trans z) (by omega) (by omega)
    rw [ec4, e3] at e5
    have := nI_eq' e5 (by omega) (by omega)
    omega
theorem pAt_n {kf nf : Nat → Int32} {T : fTn} {c : Nat} (g : gOk kf nf T) (hc : c < 140) (h : ¬ kf c = 2) : pAt T (nI c) = -1 := by
  refine (jFirst_none (fun j hj => decide_eq_false (fun z => ?_))).symm
  obtain ⟨c2, hc2, e2, e3, -⟩ := g.2.1 j hj
  have ec : c2 = c := nI_eq' (e2.symm.trans z) (by omega) (by omega)
  rw [ec] at e3
  exact h e3
theorem hAt_same {U T : fTn} {x : Int32} (h : simT U T) : hAt U x = hAt T x := by
  obtain ⟨⟨n0, n1, n2, n3⟩, hP, hH, hE⟩ := h
  unfold hAt
  rw [n1]
  exact jFirst_cong (fun i hi => by rw [hH i hi 0 (by omega)])
theorem pAt_same {U T : fTn} {x : Int32} (h : simT U T) : pAt U x = pAt T x := by
  obtain ⟨⟨n0, n1, n2, n3⟩, hP, hH, hE⟩ := h
  unfold pAt
  rw [n2]
  exact jFirst_cong (fun i hi => by rw [(hP i hi).1])
theorem nOf_nI {kf nf : Nat → Int32} {c : Nat} (hc : c < 140) : nOf kf nf (nI c) = if kf c = 0 then -1 else nf c := by
  unfold nOf
  rw [if_neg (nI_pos (by omega)), if_neg (show ¬ (140 : Int32) ≤ nI c from fun z => absurd (nI_le' (a := 140) (b := c) z (by omega) (by omega)) (by omega)), nI_clamp (by omega)]
theorem kinds {kf nf : Nat → Int32} {T : fTn} {c : Nat} (g : gOk kf nf T) (hc : c < 140) : kf c = 0 ∨ kf c = 1 ∨ kf c = 2 := by
  rcases g.2.2 c hc with a | ⟨a, -⟩ | ⟨a, -⟩
  · exact Or.inl a
  · exact Or.inr (Or.inl a)
  · exact Or.inr (Or.inr a)
theorem street_same {kf nf : Nat → Int32} {U T : fTn} {c : Nat} (s : simT U T) (g : gOk kf nf T) (hn : tHn T ≤ 30) (hn2 : tPn T ≤ 6) (hc : c < 140) : mSt U (nI c) = kSt kf (nI c) := by
  unfold mSt
  rw [hAt_same s, pAt_same s, kSt_nI hc]
  rcases kinds g hc with z | z | z
  · rw [hAt_n g hc (by rw [z]; decide), pAt_n g hc (by rw [z]; decide), z]; rfl
  · rw [(hAt_1 g hn hc z).1, decide_eq_false (hAt_1 g hn hc z).2, z]; rfl
  · rw [hAt_n g hc (by rw [z]; decide), (pAt_2 g hn2 hc z).1, decide_eq_false (pAt_2 g hn2 hc z).2, z]; rfl
theorem cntE_cong {f f2 : Nat → Nat → Int32} {w : Int32} {n : Nat} (h : ∀ j, j < n → f j 0 = f2 j 0) : cntE f w n = cntE f2 w n := by
  induction n with
  | zero => rfl
  | succ n ih => unfold cntE; rw [ih (fun j hj => h j (by omega)), h n (by omega)]
theorem cntE_nat (f : Nat → Nat → Int32) (w : Int32) (n : Nat) : ∃ m, m ≤ n ∧ cntE f w n = nI m := by
  induction n with
  | zero => exact ⟨0, Nat.le_refl 0, rfl⟩
  | succ n ih =>
    obtain ⟨m, hm, e⟩ := ih
    unfold cntE
    rw [e]
    split
    · exact ⟨m + 1, by omega, nI_1 m⟩
    · exact ⟨m, by omega, rfl⟩
theorem free_same {kf nf : Nat → Int32} {U T : fTn} {c : Nat} (s : simT U T) (g : gOk kf nf T) (ho : okEs kf T) (hn : tHn T ≤ 30) (hn2 : tPn T ≤ 6) (hn3 : tEn T ≤ 6) (hc : c < 140) : frF U (nI c) (tEn U) = freeB kf T (nI c) := by
  obtain ⟨⟨n0, n1, n2, n3⟩, hP, hH, hE⟩ := id s
  have z : ∀ n, n ≤ tEn T → frF U (nI c) n = (kSt kf (nI c) && (decide (cntE (tE T) (nI c) n = 0) && !(anyGoal (tE T) (nI c) n))) := by
    intro n
    induction n with
    | zero =>
      intro _
      show mSt U (nI c) = _
      rw [street_same s g hn hn2 hc]
      show _ = (kSt kf (nI c) && true)
      rw [Bool.and_true]
    | succ n ih =>
      intro h
      obtain ⟨m, hm, em⟩ := cntE_nat (tE T) (nI c) n
      obtain ⟨⟨a, -, b⟩, -⟩ := hE n (by omega)
      obtain ⟨-, -, -, o⟩ := ho n (by omega)
      show (frF U (nI c) n && (decide (¬ tE U n 0 = nI c) && (decide (tE U n 5 = 0) || decide (¬ tE U n 6 = nI c)))) = (kSt kf (nI c) && (decide ((if tE T n 0 = nI c then cntE (tE T) (nI c) n + 1 else cntE (tE T) (nI c) n) = 0) && !(anyGoal (tE T) (nI c) n || decide (tE T n 6 = nI c))))
      rw [ih (by omega), a 0 (by omega), a 5 (by omega)]
      have e6 : (decide (tE T n 5 = 0) || decide (¬ tE U n 6 = nI c)) = !decide (tE T n 6 = nI c) := by
        rcases o with ⟨o1, o2⟩ | ⟨o1, -⟩
        · rw [o1, o2, decide_eq_false (show ¬ (-1 : Int32) = nI c from fun z => nI_m1 (by omega) z.symm)]; rfl
        · have o3 : tE T n 5 ≠ 0 := fun z => by rw [z] at o1; exact absurd o1 (by decide)
          rw [b o3, decide_eq_false o3, Bool.false_or]
          exact decide_not
      rw [e6]
      by_cases q : tE T n 0 = nI c
      · have e1 : decide (cntE (tE T) (nI c) n + 1 = 0) = false := decide_eq_false (by rw [em, nI_1]; exact nI_ne0 (by omega) (by omega))
        rw [if_pos q, e1, decide_eq_false (show ¬ ¬ tE T n 0 = nI c from fun z => z q)]
        simp
      · rw [if_neg q, decide_eq_true q, Bool.true_and, Bool.not_or]
        cases kSt kf (nI c) <;> cases decide (cntE (tE T) (nI c) n = 0) <;> simp
  rw [n3]
  exact z (tEn T) (Nat.le_refl _)

def cntL (r : Nat → Nat) (x : Nat) : Nat → Nat
  | 0 => 0
  | k + 1 => cntL r x k + (if r k < x then 1 else 0)
theorem cntL_le {r : Nat → Nat} {x n : Nat} : cntL r x n ≤ n := by
  induction n with
  | zero => exact Nat.le_refl 0
  | succ n ih => unfold cntL; split <;> omega
theorem cntL_lt {r : Nat → Nat} {x n j : Nat} (hj : j < n) (h : ¬ r j < x) : cntL r x n < n := by
  induction n with
  | zero => exact absurd hj (Nat.not_lt_zero _)
  | succ n ih =>
    unfold cntL
    rcases Nat.lt_or_ge j n with q | q
    · have := ih q; split <;> omega
    · rw [show n = j by omega, if_neg h]
      have := cntL_le (r := r) (x := x) (n := j)
      omega
theorem cntL_mono {r : Nat → Nat} {x y n : Nat} (h : x ≤ y) : cntL r x n ≤ cntL r y n := by
  induction n with
  | zero => exact Nat.le_refl 0
  | succ n ih => unfold cntL; split <;> split <;> omega
theorem cntL_st {r : Nat → Nat} {x y n i : Nat} (hi : i < n) (h : x ≤ r i) (h2 : r i < y) : cntL r x n < cntL r y n := by
  induction n with
  | zero => exact absurd hi (Nat.not_lt_zero _)
  | succ n ih =>
    unfold cntL
    rcases Nat.lt_or_ge i n with q | q
    · have := ih q; split <;> split <;> omega
    · rw [show n = i by omega, if_neg (show ¬ r i < x by omega), if_pos h2]
      have := cntL_mono (r := r) (x := x) (y := y) (n := i) (by omega)
      omega
theorem rk_small {T : fTn} {r : Nat → Nat} (h6 : tEn T ≤ 6) (h : ∀ j, j < tEn T → inR (tE T j 7) 0 5 = true → ∃ i, i < tEn T ∧ tE T j 7 = nI i ∧ r i < r j) : ∃ rk, okH T rk := by
  refine ⟨fun j => cntL r (r j) (tEn T), fun j hj => ⟨?_, fun z => ?_⟩⟩
  · have := cntL_lt (r := r) (x := r j) hj (Nat.lt_irrefl _)
    show cntL r (r j) (tEn T) < 6
    omega
  · obtain ⟨i, hi, e, lt⟩ := h j hj z
    exact ⟨i, hi, e, cntL_st hi (Nat.le_refl _) lt⟩
theorem leads_S {T : fTn} {to : Int32} {n j : Nat} (hj : j < tEn T) (h6 : tEn T ≤ 6) : leadsN T to (n + 1) (nI j) = (decide (nI j = to) || leadsN T to n (tE T j 7)) := by
  show (isIx (tEn T) (nI j) && (decide (nI j = to) || leadsN T to n (tE T (nI j).toNatClampNeg 7))) = _
  rw [isIx_nI hj (by omega), nI_clamp (by omega), Bool.true_and]
theorem leads_fuel {T : fTn} {rk : Nat → Nat} {to : Int32} (hR : okH T rk) (h6 : tEn T ≤ 6) : ∀ n j, j < tEn T → rk j < n → leadsN T to (n + 1) (nI j) = leadsN T to n (nI j) := by
  intro n
  induction n with
  | zero => intro j _ h; exact absurd h (Nat.not_lt_zero _)
  | succ n ih =>
    intro j hj h
    rw [leads_S hj h6, leads_S hj h6]
    congr 1
    rcases hz : inR (tE T j 7) 0 5 with - | -
    · rw [leadsN_ix (inR_no hz h6), leadsN_ix (inR_no hz h6)]
    · obtain ⟨i, hi, e, lt⟩ := (hR j hj).2 hz
      rw [e]
      exact ih i hi (by omega)
theorem leads_self {T : fTn} {n j : Nat} (hj : j < tEn T) (h6 : tEn T ≤ 6) : leadsN T (nI j) (n + 1) (nI j) = true := by
  rw [leads_S hj h6, decide_eq_true rfl, Bool.true_or]
theorem leads_same {U T : fTn} {to : Int32} (h : simT U T) (h6 : tEn T ≤ 6) : ∀ n x, leadsN U to n x = leadsN T to n x := by
  intro n
  induction n with
  | zero => intro x; rfl
  | succ n ih =>
    intro x
    show (isIx (tEn U) x && (decide (x = to) || leadsN U to n (tE U x.toNatClampNeg 7))) = (isIx (tEn T) x && (decide (x = to) || leadsN T to n (tE T x.toNatClampNeg 7)))
    rw [h.1.2.2.2, ih]
    rcases hz : isIx (tEn T) x with - | -
    · rfl
    · obtain ⟨j, hj, e⟩ := isIx_t hz (by omega)
      rw [e, nI_clamp (by omega), (h.2.2.2 j hj).1.2.1]
/-- a hose laid to another engine makes no ring -/
theorem relay_ok {T : fTn} {rk : Nat → Nat} {e i : Nat} (hR : okH T rk) (h6 : tEn T ≤ 6) (he : e < tEn T) (hi : i < tEn T) (hl : leadsN T (nI e) 7 (nI i) = false) : ∃ rk2, okH (sE T e (upd (tE T e) 7 (nI i))) rk2 := by
  refine rk_small (T := sE T e (upd (tE T e) 7 (nI i))) (r := fun j => rk j + (if leadsN T (nI e) 7 (nI j) = true then 6 else 0)) h6 (fun j (hj : j < tEn T) => ?_)
  rw [tE_at]
  by_cases q : j = e
  · rw [if_pos q]
    intro _
    refine ⟨i, hi, rfl, ?_⟩
    show rk i + (if leadsN T (nI e) 7 (nI i) = true then 6 else 0) < rk j + (if leadsN T (nI e) 7 (nI j) = true then 6 else 0)
    rw [hl, if_neg Bool.false_ne_true, q, leads_self he h6, if_pos rfl]
    have := (hR i hi).1
    omega
  · rw [if_neg q]
    intro z
    obtain ⟨k, hk, ek, lt⟩ := (hR j hj).2 z
    refine ⟨k, hk, ek, ?_⟩
    show rk k + (if leadsN T (nI e) 7 (nI k) = true then 6 else 0) < rk j + (if leadsN T (nI e) 7 (nI j) = true then 6 else 0)
    have e1 : leadsN T (nI e) 7 (nI j) = leadsN T (nI e) 7 (nI k) := by
      rw [leads_S hj h6, decide_eq_false (fun y => q (nI_eq' y (by omega) (by omega))), Bool.false_or, ek]
      exact (leads_fuel hR h6 6 k hk (hR k hk).1).symm
    rw [e1]
    omega
/-- a hose that goes to no engine -/
theorem aim_ok {T : fTn} {rk : Nat → Nat} {e : Nat} {x : Int32} (hR : okH T rk) (hx : inR x 0 5 = false) : okH (sE T e (upd (tE T e) 7 x)) rk := by
  intro j (hj : j < tEn T)
  rw [tE_at]
  by_cases q : j = e
  · rw [if_pos q]
    refine ⟨(hR j hj).1, fun z => ?_⟩
    rw [hx] at z
    exact absurd z Bool.false_ne_true
  · rw [if_neg q]; exact hR j hj
theorem cntH_cong {f f2 : Nat → Nat → Int32} {w : Int32} {n : Nat} (h : ∀ j, j < n → f j 3 = f2 j 3) : cntH f w n = cntH f2 w n := by
  induction n with
  | zero => rfl
  | succ n ih => unfold cntH; rw [ih (fun j hj => h j (by omega)), h n (by omega)]
theorem cntH_nat (f : Nat → Nat → Int32) (w : Int32) (n : Nat) : ∃ m, m ≤ n ∧ cntH f w n = nI m := by
  induction n with
  | zero => exact ⟨0, Nat.le_refl 0, rfl⟩
  | succ n ih =>
    obtain ⟨m, hm, e⟩ := ih
    unfold cntH
    rw [e]
    split
    · exact ⟨m + 1, by omega, nI_1 m⟩
    · exact ⟨m, by omega, rfl⟩
theorem hTell_cong {f f2 : Nat → Int32} {w : Int32} (h : ∀ k, k < 7 → f k = f2 k) : hTell f w = hTell f2 w := by
  unfold hTell
  rw [h 0 (by omega), h 1 (by omega), h 2 (by omega), h 3 (by omega), h 4 (by omega), h 5 (by omega), h 6 (by omega)]
theorem sumH_cong {f f2 : Nat → Nat → Int32} {w : Int32} {n : Nat} (h : ∀ j, j < n → ∀ k, k < 7 → f j k = f2 j k) : sumH f w n = sumH f2 w n := by
  induction n with
  | zero => rfl
  | succ n ih => unfold sumH; rw [ih (fun j hj => h j (by omega)), hTell_cong (h n (by omega))]
theorem sumP_cong {f f2 : Nat → Nat → Int32} {n : Nat} (h : ∀ j, j < n → f j 1 = f2 j 1) : sumP f n = sumP f2 n := by
  induction n with
  | zero => rfl
  | succ n ih => unfold sumP; rw [ih (fun j hj => h j (by omega)), h n (by omega)]
theorem tell_same {U T : fTn} {w : Int32} (h : simT U T) : tTell U w = tTell T w := by
  obtain ⟨⟨n0, n1, n2, n3⟩, hP, hH, hE⟩ := h
  unfold tTell
  rw [n0, n1, n2, n3, sumP_cong (f := tP U) (f2 := tP T) (fun j hj => (hP j hj).2), sumH_cong (f := tH U) (f2 := tH T) (w := 4) hH, sumH_cong (f := tH U) (f2 := tH T) (w := 6) hH, cntH_cong (f := tH U) (f2 := tH T) (w := 1) (fun j hj => hH j hj 3 (by omega)), cntH_cong (f := tH U) (f2 := tH T) (w := 2) (fun j hj => hH j hj 3 (by omega)), cntH_cong (f := tH U) (f2 := tH T) (w := 3) (fun j hj => hH j hj 3 (by omega))]
theorem cnt_same {U T : fTn} {w : Int32} (h : simT U T) : cntH (tH U) w (tHn U) = cntH (tH T) w (tHn T) := by
  rw [h.1.2.1]
  exact cntH_cong (fun j hj => h.2.2.1 j hj 3 (by omega))
theorem hTell_at {f : Nat → Int32} {k : Nat} (hk : k < 7) : hTell f (nI k) = f k := by
  rcases (show k = 0 ∨ k = 1 ∨ k = 2 ∨ k = 3 ∨ k = 4 ∨ k = 5 ∨ k = 6 by omega) with rfl | rfl | rfl | rfl | rfl | rfl | rfl <;> rfl
def mOff (x : Int32) (f : Nat → Int32) : Nat → Int32 := if f 7 = x then upd f 7 (-1) else f
def mSet (U : fTn) (j : Nat) (v x : Int32) : fTn := sE (sE (sE U j (upd (tE U j) 5 v)) j (upd (tE (sE U j (upd (tE U j) 5 v)) j) 6 x)) j (upd (tE (sE (sE U j (upd (tE U j) 5 v)) j (upd (tE (sE U j (upd (tE U j) 5 v)) j) 6 x)) j) 7 (-1))
theorem mSet_n (U : fTn) (j : Nat) (v x : Int32) : tHn (mSet U j v x) = tHn U ∧ tPn (mSet U j v x) = tPn U ∧ tEn (mSet U j v x) = tEn U := ⟨rfl, rfl, rfl⟩
theorem mSet_5 (U : fTn) (j : Nat) (v x : Int32) : tE (mSet U j v x) j 5 = v := (sE_col (by decide)).trans ((sE_col (by decide)).trans (tE_at.trans (if_pos rfl)))
theorem mOff_5 {x : Int32} {f : Nat → Int32} : mOff x f 5 = f 5 := by unfold mOff; split <;> rfl
theorem okHz_U {U T : fTn} (s : simT U T) (h : okHz T) : okHz U := by
  obtain ⟨⟨n0, n1, n2, n3⟩, sP, sH, sE0⟩ := s
  exact okHz_of h n3 n1 (fun j hj => (sE0 j hj).1.2.1)
theorem okH_U {U T : fTn} {rk : Nat → Nat} (s : simT U T) (h : okH T rk) : okH U rk := by
  obtain ⟨⟨n0, n1, n2, n3⟩, sP, sH, sE0⟩ := s
  exact okH_of h n3 (fun j hj => (sE0 j hj).1.2.1)
theorem inR_ex {x a c : Int32} {n m : Nat} (h : inR x a c = true) (ha : a = nI n) (hc : c = nI m) (hm : m < 100000) (hn : n ≤ m) : ∃ N, n ≤ N ∧ N ≤ m ∧ x = nI N := by
  have h1 := inR_1 h
  have h2 := inR_2 h
  rw [ha] at h1
  rw [hc] at h2
  have h0 : ¬ x < 0 := fun z => h1 (by
    rw [sw_lt] at z ⊢
    rw [nI_toInt (by omega)]
    rw [z0] at z
    omega)
  obtain ⟨j, hj, e⟩ := nI_of h0
  rw [e] at h1 h2
  exact ⟨j, nI_nlt' h1 hj (by omega), nI_le' h2 hj (by omega), e⟩
theorem sim_sE {U T : fTn} {j c0 : Nat} {v : Int32} (s : simT U T) (hc : c0 ≠ 9) (h6 : c0 ≠ 5) : simT (sE U j (upd (tE U j) c0 v)) (sE T j (upd (tE T j) c0 v)) := by
  obtain ⟨n, sP, sH, sE0⟩ := s
  refine ⟨n, sP, sH, fun e (he : e < tEn T) => ?_⟩
  obtain ⟨⟨a, b, c⟩, d⟩ := sE0 e he
  have key : ∀ k, tE U e k = tE T e k → tE (sE U j (upd (tE U j) c0 v)) e k = tE (sE T j (upd (tE T j) c0 v)) e k := fun k hk => by
    by_cases q : k = c0
    · rw [q, tE_at, tE_at]
      rw [q] at hk
      rw [hk]
    · rw [sE_col q, sE_col q, hk]
  refine ⟨⟨fun k hk => key k (a k hk), key 7 b, fun z => ?_⟩, by rw [sE_col (by omega), sE_col (by omega)]; exact d⟩
  rw [sE_col (by omega)] at z
  exact key 6 (c z)
theorem sim_sH {U T : fTn} {j : Nat} {f f2 : Nat → Int32} (s : simT U T) (h : ∀ k, k < 7 → f k = f2 k) : simT (sH U j f) (sH T j f2) := by
  obtain ⟨n, sP, sH0, sE0⟩ := s
  refine ⟨n, sP, fun e (he : e < tHn T) k hk => ?_, sE0⟩
  show (if e = j then f else tH U e) k = (if e = j then f2 else tH T e) k
  by_cases q : e = j
  · rw [if_pos q, if_pos q]; exact h k hk
  · rw [if_neg q, if_neg q]; exact sH0 e he k hk
theorem sim_addH {U T : fTn} {f : Nat → Int32} (s : simT U T) : simT (addH U f) (addH T f) := by
  obtain ⟨⟨n0, n1, n2, n3⟩, sP, sH, sE0⟩ := s
  refine ⟨⟨n0, by show tHn U + 1 = tHn T + 1; rw [n1], n2, n3⟩, sP, fun j (hj : j < tHn T + 1) k hk => ?_, sE0⟩
  show (if j = tHn U then f else tH U j) k = (if j = tHn T then f else tH T j) k
  rw [n1]
  by_cases q : j = tHn T
  · rw [if_pos q, if_pos q]
  · rw [if_neg q, if_neg q]; exact sH j (by omega) k hk
theorem sim_addP {U T : fTn} {f : Nat → Int32} (s : simT U T) : simT (addP U f) (addP T f) := by
  obtain ⟨⟨n0, n1, n2, n3⟩, sP, sH, sE0⟩ := s
  refine ⟨⟨n0, n1, by show tPn U + 1 = tPn T + 1; rw [n2], n3⟩, fun j (hj : j < tPn T + 1) => ?_, sH, sE0⟩
  show (if j = tPn U then f else tP U j) 0 = (if j = tPn T then f else tP T j) 0 ∧ (if j = tPn U then f else tP U j) 1 = (if j = tPn T then f else tP T j) 1
  rw [n2]
  by_cases q : j = tPn T
  · rw [if_pos q, if_pos q]; exact ⟨rfl, rfl⟩
  · rw [if_neg q, if_neg q]; exact sP j (by omega)
theorem sim_addE {U T : fTn} {f f2 : Nat → Int32} (s : simT U T) (h : ∀ k, k ≠ 8 → k ≠ 10 → f k = f2 k) : simT (addE U f) (addE T f2) := by
  obtain ⟨⟨n0, n1, n2, n3⟩, sP, sH, sE0⟩ := s
  refine ⟨⟨n0, n1, n2, by show tEn U + 1 = tEn T + 1; rw [n3]⟩, sP, sH, fun j (hj : j < tEn T + 1) => ?_⟩
  show eSim (if j = tEn U then f else tE U j) (if j = tEn T then f2 else tE T j) ∧ (if j = tEn U then f else tE U j) 9 = (if j = tEn T then f2 else tE T j) 9
  rw [n3]
  by_cases q : j = tEn T
  · rw [if_pos q, if_pos q]
    exact ⟨⟨fun k hk => h k (by omega) (by omega), h 7 (by omega) (by omega), fun _ => h 6 (by omega) (by omega)⟩, h 9 (by omega) (by omega)⟩
  · rw [if_neg q, if_neg q]; exact sE0 j (by omega)
theorem catch1_0 (S : fTn) (j k : Nat) : tH (catch1 S k).1 j 0 = tH S j 0 := by
  induction k with
  | zero => rfl
  | succ k ih =>
    unfold catch1
    split
    · split
      · exact ih
      · exact (sH_col (U := (catch1 S k).1) (by decide)).trans ih
    · exact ih
theorem hCatch_0 (f : Nat → Int32) : hCatch f 0 = f 0 := by
  unfold hCatch
  repeat' split
  all_goals rfl
theorem hBurn_0 (f : Nat → Int32) : hBurn f 0 = f 0 := by
  unfold hBurn
  repeat' split
  all_goals rfl
theorem mH_0c {F : (Nat → Int32) → Nat → Int32} {n j : Nat} {T : fTn} (h : ∀ f, F f 0 = f 0) : tH (mH F n T) j 0 = tH T j 0 := by
  show (if j < n then F (tH T j) else tH T j) 0 = _
  split
  · exact h _
  · rfl
theorem min_h0 (T : fTn) (j : Nat) : tH (minT T).1 j 0 = tH T j 0 := by
  show tH (mH hCatch _ (catch1 (mH hBurn (tHn T) (moveT (mE eGo (tEn T) T))) _).1) j 0 = _
  rw [mH_0c hCatch_0, catch1_0, mH_0c hBurn_0]
  exact ((turnsT_fr (tEn T) (mE eReset (tEn T) (mH hReset (tHn T) (mE eGo (tEn T) T)))).2.1 j 0 (by decide) (by decide)).trans (mH_0c (T := mE eGo (tEn T) T) (F := hReset) (fun _ => rfl))
theorem go_h0 (T : fTn) (j n : Nat) : tH (goT T n).1 j 0 = tH T j 0 := by
  induction n with
  | zero => rfl
  | succ n ih => exact (min_h0 _ _).trans ih
theorem gOk_of {kf nf : Nat → Int32} {T T2 : fTn} (h : gOk kf nf T) (e1 : tHn T2 = tHn T) (e2 : tPn T2 = tPn T) (h1 : ∀ j, j < tHn T → tH T2 j 0 = tH T j 0) (h2 : ∀ j, j < tPn T → tP T2 j 0 = tP T j 0) : gOk kf nf T2 := by
  obtain ⟨g1, g2, g3⟩ := h
  refine ⟨fun j hj => ?_, fun j hj => ?_, fun c hc => ?_⟩
  · rw [e1] at hj; rw [h1 j hj]; exact g1 j hj
  · rw [e2] at hj; rw [h2 j hj]; exact g2 j hj
  · rcases g3 c hc with z | ⟨z, j, hj, e⟩ | ⟨z, j, hj, e⟩
    · exact Or.inl z
    · exact Or.inr (Or.inl ⟨z, j, by rw [e1]; exact hj, by rw [h1 j hj]; exact e⟩)
    · exact Or.inr (Or.inr ⟨z, j, by rw [e2]; exact hj, by rw [h2 j hj]; exact e⟩)
theorem isCl_upd {kf : Nat → Int32} {x : Int32} {jc : Nat} {v : Int32} (h : isCl kf x) (hj : jc < 140) (hx : ¬ x = nI jc) : isCl (upd kf jc v) x := by
  obtain ⟨c, hc, e, z⟩ := h
  refine ⟨c, hc, e, ?_⟩
  rw [upd_ne (fun y => hx (by rw [e, y]))]
  exact z
theorem eOk_upd {kf f : Nat → Int32} {jc : Nat} {v : Int32} (h : eOk kf f) (hj : jc < 140) (h0 : ¬ f 0 = nI jc) (h6 : ¬ f 6 = nI jc) : eOk (upd kf jc v) f := by
  obtain ⟨a, b, c, d⟩ := h
  refine ⟨isCl_upd a hj h0, b, c, ?_⟩
  rcases d with d | ⟨d1, d2⟩
  · exact Or.inl d
  · exact Or.inr ⟨d1, isCl_upd d2 hj h6⟩
theorem cntE_0 {f : Nat → Nat → Int32} {w : Int32} {n : Nat} (hn : n < 1000) (h : cntE f w n = 0) : ∀ j, j < n → ¬ f j 0 = w := by
  induction n with
  | zero => intro j hj; exact absurd hj (Nat.not_lt_zero _)
  | succ n ih =>
    intro j hj z
    unfold cntE at h
    obtain ⟨m, hm, e⟩ := cntE_nat f w n
    by_cases q : f n 0 = w
    · rw [if_pos q, e, nI_1] at h
      exact nI_ne0 (by omega) (by omega) h
    · rw [if_neg q] at h
      rcases Nat.lt_or_ge j n with y | y
      · exact ih (by omega) h j y z
      · rw [show j = n by omega] at z; exact q z
theorem free_un {kf : Nat → Int32} {T : fTn} {jc : Nat} (hj : jc < 140) (h6 : tEn T ≤ 6) (h : freeB kf T (nI jc) = true) : kf jc = 0 ∧ ∀ e, e < tEn T → ¬ tE T e 0 = nI jc ∧ ¬ tE T e 6 = nI jc := by
  unfold freeB at h
  simp only [Bool.and_eq_true, decide_eq_true_eq, Bool.not_eq_true'] at h
  obtain ⟨a, b, c⟩ := h
  rw [kSt_nI hj] at a
  refine ⟨of_decide_eq_true a, fun e he => ⟨cntE_0 (by omega) b e he, fun z => ?_⟩⟩
  rw [anyGoal_t he z] at c
  exact absurd c (by decide)
theorem ok_addH {kf : Nat → Int32} {T : fTn} {jc : Nat} {w z : Int32} (ho : okT kf T) (hj : jc < 140) (hf : freeB kf T (nI jc) = true) (hn : tHn T < 30) : okT (upd kf jc 1) (addH T (newH (nI jc) w z)) := by
  obtain ⟨oH, oP, oE, oZ, ⟨rk, oR⟩, o1, o2, o3⟩ := ho
  obtain ⟨-, hu⟩ := free_un hj o3 hf
  refine ⟨fun j (hjj : j < tHn T + 1) => ?_, oP, fun e he => eOk_upd (oE e he) hj (hu e he).1 (hu e he).2, fun j hjj => ?_, ⟨rk, oR⟩, ?_, o2, o3⟩
  · show isC0 ((if j = tHn T then newH (nI jc) w z else tH T j) 0) ∧ ((if j = tHn T then newH (nI jc) w z else tH T j) 3 ≠ 1 → (if j = tHn T then newH (nI jc) w z else tH T j) 4 = 0)
    by_cases q : j = tHn T
    · rw [if_pos q]; exact ⟨⟨jc, hj, rfl⟩, fun _ => rfl⟩
    · rw [if_neg q]; exact oH j (by omega)
  · rcases oZ j hjj with a | a | ⟨q, a, b⟩
    · exact Or.inl a
    · exact Or.inr (Or.inl a)
    · exact Or.inr (Or.inr ⟨q, Nat.lt_succ_of_lt a, b⟩)
  · show tHn T + 1 ≤ 30
    omega
theorem g_addH {kf nf : Nat → Int32} {T : fTn} {jc : Nat} {w z : Int32} (h : gOk kf nf T) (hj : jc < 140) (h0 : kf jc = 0) : gOk (upd kf jc 1) (upd nf jc (nI (tHn T))) (addH T (newH (nI jc) w z)) := by
  obtain ⟨g1, g2, g3⟩ := h
  refine ⟨fun i (hi : i < tHn T + 1) => ?_, fun i hi => ?_, fun c hc => ?_⟩
  · show ∃ c, c < 140 ∧ (if i = tHn T then newH (nI jc) w z else tH T i) 0 = nI c ∧ upd kf jc 1 c = 1 ∧ upd nf jc (nI (tHn T)) c = nI i
    by_cases q : i = tHn T
    · rw [if_pos q]
      exact ⟨jc, hj, rfl, upd_at, by rw [upd_at, q]⟩
    · rw [if_neg q]
      obtain ⟨c, hc, a, b, d⟩ := g1 i (by omega)
      have e : c ≠ jc := fun y => by rw [y, h0] at b; exact absurd b (by decide)
      exact ⟨c, hc, a, by rw [upd_ne e]; exact b, by rw [upd_ne e]; exact d⟩
  · obtain ⟨c, hc, a, b, d⟩ := g2 i hi
    have e : c ≠ jc := fun y => by rw [y, h0] at b; exact absurd b (by decide)
    exact ⟨c, hc, a, by rw [upd_ne e]; exact b, by rw [upd_ne e]; exact d⟩
  · by_cases q : c = jc
    · rw [q, upd_at]
      exact Or.inr (Or.inl ⟨rfl, tHn T, Nat.lt_succ_self _, by show (if tHn T = tHn T then newH (nI jc) w z else tH T (tHn T)) 0 = nI jc; rw [if_pos rfl]; rfl⟩)
    · rw [upd_ne q]
      rcases g3 c hc with y | ⟨y, i, hi, e⟩ | ⟨y, i, hi, e⟩
      · exact Or.inl y
      · refine Or.inr (Or.inl ⟨y, i, Nat.lt_succ_of_lt hi, ?_⟩)
        show (if i = tHn T then newH (nI jc) w z else tH T i) 0 = nI c
        rw [if_neg (by omega)]; exact e
      · exact Or.inr (Or.inr ⟨y, i, hi, e⟩)
theorem ok_addP {kf : Nat → Int32} {T : fTn} {jc : Nat} {w : Int32} (ho : okT kf T) (hj : jc < 140) (hf : freeB kf T (nI jc) = true) (hn : tPn T < 6) (hw : 0 ≤ w) : okT (upd kf jc 2) (addP T (newP (nI jc) w)) := by
  obtain ⟨oH, oP, oE, oZ, ⟨rk, oR⟩, o1, o2, o3⟩ := ho
  obtain ⟨-, hu⟩ := free_un hj o3 hf
  refine ⟨oH, fun j (hjj : j < tPn T + 1) => ?_, fun e he => eOk_upd (oE e he) hj (hu e he).1 (hu e he).2, oZ, ⟨rk, oR⟩, o1, ?_, o3⟩
  · show isC0 ((if j = tPn T then newP (nI jc) w else tP T j) 0) ∧ 0 ≤ (if j = tPn T then newP (nI jc) w else tP T j) 1
    by_cases q : j = tPn T
    · rw [if_pos q]; exact ⟨⟨jc, hj, rfl⟩, hw⟩
    · rw [if_neg q]; exact oP j (by omega)
  · show tPn T + 1 ≤ 6
    omega
theorem g_addP {kf nf : Nat → Int32} {T : fTn} {jc : Nat} {w : Int32} (h : gOk kf nf T) (hj : jc < 140) (h0 : kf jc = 0) : gOk (upd kf jc 2) (upd nf jc (nI (tPn T))) (addP T (newP (nI jc) w)) := by
  obtain ⟨g1, g2, g3⟩ := h
  refine ⟨fun i hi => ?_, fun i (hi : i < tPn T + 1) => ?_, fun c hc => ?_⟩
  · obtain ⟨c, hc, a, b, d⟩ := g1 i hi
    have e : c ≠ jc := fun y => by rw [y, h0] at b; exact absurd b (by decide)
    exact ⟨c, hc, a, by rw [upd_ne e]; exact b, by rw [upd_ne e]; exact d⟩
  · show ∃ c, c < 140 ∧ (if i = tPn T then newP (nI jc) w else tP T i) 0 = nI c ∧ upd kf jc 2 c = 2 ∧ upd nf jc (nI (tPn T)) c = nI i
    by_cases q : i = tPn T
    · rw [if_pos q]
      exact ⟨jc, hj, rfl, upd_at, by rw [upd_at, q]⟩
    · rw [if_neg q]
      obtain ⟨c, hc, a, b, d⟩ := g2 i (by omega)
      have e : c ≠ jc := fun y => by rw [y, h0] at b; exact absurd b (by decide)
      exact ⟨c, hc, a, by rw [upd_ne e]; exact b, by rw [upd_ne e]; exact d⟩
  · by_cases q : c = jc
    · rw [q, upd_at]
      exact Or.inr (Or.inr ⟨rfl, tPn T, Nat.lt_succ_self _, by show (if tPn T = tPn T then newP (nI jc) w else tP T (tPn T)) 0 = nI jc; rw [if_pos rfl]; rfl⟩)
    · rw [upd_ne q]
      rcases g3 c hc with y | ⟨y, i, hi, e⟩ | ⟨y, i, hi, e⟩
      · exact Or.inl y
      · exact Or.inr (Or.inl ⟨y, i, hi, e⟩)
      · refine Or.inr (Or.inr ⟨y, i, Nat.lt_succ_of_lt hi, ?_⟩)
        show (if i = tPn T then newP (nI jc) w else tP T i) 0 = nI c
        rw [if_neg (by omega)]; exact e
theorem ok_addE {kf : Nat → Int32} {T : fTn} {jc r : Nat} {w z : Int32} (ho : okT kf T) (hj : jc < 140) (hf : kf jc = 0) (hn : tEn T < 6) (hw : w = nI r) (hr : 1 ≤ r) (hr2 : r ≤ 4) : okT kf (addE T (newE (nI jc) w z)) := by
  obtain ⟨oH, oP, oE, oZ, ⟨rk, oR⟩, o1, o2, o3⟩ := ho
  refine ⟨oH, oP, fun e (he : e < tEn T + 1) => ?_, fun e (he : e < tEn T + 1) => ?_, ⟨fun e => if e = tEn T then 0 else rk e, fun e (he : e < tEn T + 1) => ?_⟩, o1, o2, ?_⟩
  · show eOk kf (if e = tEn T then newE (nI jc) w z else tE T e)
    by_cases q : e = tEn T
    · rw [if_pos q]
      exact ⟨⟨jc, hj, rfl, hf⟩, ⟨by show (0 : Int32) ≤ 60; decide, by show (60 : Int32) ≤ 200; decide⟩, ⟨r, hr, hr2, hw⟩, Or.inl ⟨rfl, rfl⟩⟩
    · rw [if_neg q]; exact oE e (by omega)
  · show (if e = tEn T then newE (nI jc) w z else tE T e) 7 = -1 ∨ (∃ i, i < tEn T + 1 ∧ (if e = tEn T then newE (nI jc) w z else tE T e) 7 = nI i) ∨ (∃ h, h < tHn T ∧ (if e = tEn T then newE (nI jc) w z else tE T e) 7 = nI (100 + h))
    by_cases q : e = tEn T
    · rw [if_pos q]; exact Or.inl rfl
    · rw [if_neg q]
      rcases oZ e (by omega) with a | ⟨i, a, b⟩ | a
      · exact Or.inl a
      · exact Or.inr (Or.inl ⟨i, by omega, b⟩)
      · exact Or.inr (Or.inr a)
  · show (if e = tEn T then 0 else rk e) < 6 ∧ (inR ((if e = tEn T then newE (nI jc) w z else tE T e) 7) 0 5 = true → ∃ i, i < tEn T + 1 ∧ (if e = tEn T then newE (nI jc) w z else tE T e) 7 = nI i ∧ (if i = tEn T then 0 else rk i) < (if e = tEn T then 0 else rk e))
    by_cases q : e = tEn T
    · rw [if_pos q, if_pos q]
      exact ⟨by omega, fun y => absurd y (by show ¬ inR (-1) 0 5 = true; decide)⟩
    · rw [if_neg q, if_neg q]
      obtain ⟨a, b⟩ := oR e (by omega)
      refine ⟨a, fun y => ?_⟩
      obtain ⟨i, hi, e1, lt⟩ := b y
      exact ⟨i, by omega, e1, by rw [if_neg (by omega)]; exact lt⟩
  · show tEn T + 1 ≤ 6
    omega
/-- an engine's row changed, its cell, horses, coal and drive as before -/
theorem ok_row {kf : Nat → Int32} {T : fTn} {j : Nat} {f : Nat → Int32} (ho : okT kf T) (h1 : eOk kf f) (h7 : f 7 = tE T j 7) : okT kf (sE T j f) := by
  obtain ⟨oH, oP, oE, oZ, ⟨rk, oR⟩, o1, o2, o3⟩ := ho
  have e7 : ∀ e, e < tEn T → tE (sE T j f) e 7 = tE T e 7 := fun e _ => by
    show (if e = j then f else tE T e) 7 = _
    by_cases q : e = j
    · rw [if_pos q, q]; exact h7
    · rw [if_neg q]
  refine ⟨oH, oP, fun e (he : e < tEn T) => ?_, okHz_of oZ rfl rfl e7, ⟨rk, okH_of oR rfl e7⟩, o1, o2, o3⟩
  show eOk kf (if e = j then f else tE T e)
  by_cases q : e = j
  · rw [if_pos q]; exact h1
  · rw [if_neg q]; exact oE e he
theorem ok_hose {kf : Nat → Int32} {T : fTn} {j : Nat} {x : Int32} (ho : okT kf T) (hz : x = -1 ∨ (∃ i, i < tEn T ∧ x = nI i) ∨ (∃ h, h < tHn T ∧ x = nI (100 + h))) (hr : ∃ rk, okH (sE T j (upd (tE T j) 7 x)) rk) : okT kf (sE T j (upd (tE T j) 7 x)) := by
  obtain ⟨oH, oP, oE, oZ, -, o1, o2, o3⟩ := ho
  refine ⟨oH, oP, fun e (he : e < tEn T) => ?_, fun e (he : e < tEn T) => ?_, hr, o1, o2, o3⟩
  · exact eOk_of (oE e he) (sE_col (by decide)) (sE_col (by decide)) (sE_col (by decide)) (sE_col (by decide)) (sE_col (by decide))
  · rw [tE_at]
    by_cases q : e = j
    · rw [if_pos q]; exact hz
    · rw [if_neg q]; exact oZ e he
theorem ok_light {kf : Nat → Int32} {T : fTn} {j : Nat} {x : Int32} (ho : okT kf T) : okT kf (sH T j (upd (upd (tH T j) 3 1) 4 x)) := by
  obtain ⟨oH, oP, oE, oZ, oR, o1, o2, o3⟩ := ho
  refine ⟨fun e (he : e < tHn T) => ?_, oP, oE, oZ, oR, o1, o2, o3⟩
  show isC0 ((if e = j then upd (upd (tH T j) 3 1) 4 x else tH T e) 0) ∧ ((if e = j then upd (upd (tH T j) 3 1) 4 x else tH T e) 3 ≠ 1 → (if e = j then upd (upd (tH T j) 3 1) 4 x else tH T e) 4 = 0)
  by_cases q : e = j
  · rw [if_pos q]
    refine ⟨?_, fun z => absurd rfl z⟩
    show isC0 (tH T j 0)
    rw [← q]; exact (oH e he).1
  · rw [if_neg q]; exact oH e he

def drvT (T : fTn) (j jc : Nat) (st0 : Int32) : fTn := sE (mEi (upHose (nI j)) (tEn T) T) j (eSetOut (tE (mEi (upHose (nI j)) (tEn T) T) j) (nI jc) st0)
def drvU (U : fTn) (j jc : Nat) (v : Int32) : fTn := mE (mOff (nI j)) (tEn U) (mSet U j v (nI jc))
theorem drvT_row {T : fTn} {j jc e : Nat} {st0 : Int32} (he : e < tEn T) (hj : j < tEn T) : tE (drvT T j jc st0) e = if e = j then upd (upd (upd (tE T j) 7 (-1)) 6 (nI jc)) 5 (st0 * (5 - tE T j 1)) else upHose (nI j) e (tE T e) := by
  have r : ∀ q, q < tEn T → tE (mEi (upHose (nI j)) (tEn T) T) q = upHose (nI j) q (tE T q) := fun q hq => if_pos hq
  show (if e = j then eSetOut (tE (mEi (upHose (nI j)) (tEn T) T) j) (nI jc) st0 else tE (mEi (upHose (nI j)) (tEn T) T) e) = _
  by_cases q : e = j
  · rw [if_pos q, if_pos q, r j hj, show upHose (nI j) j (tE T j) = upd (tE T j) 7 (-1) from if_pos rfl]
    rfl
  · rw [if_neg q, if_neg q, r e he]
theorem drvU_row {U : fTn} {j jc e : Nat} {v : Int32} (he : e < tEn U) (hj : j < 1000) : tE (drvU U j jc v) e = if e = j then upd (upd (upd (tE U j) 5 v) 6 (nI jc)) 7 (-1) else mOff (nI j) (tE U e) := by
  have r : tE (drvU U j jc v) e = mOff (nI j) (tE (mSet U j v (nI jc)) e) := row_mE (F := mOff (nI j)) (T := mSet U j v (nI jc)) he
  rw [r]
  have s : tE (mSet U j v (nI jc)) e = if e = j then upd (upd (upd (tE U j) 5 v) 6 (nI jc)) 7 (-1) else tE U e := by
    unfold mSet
    rw [tE_sE, tE_sE, sE_sE, sE_sE]
  rw [s]
  by_cases q : e = j
  · rw [if_pos q, if_pos q]
    exact if_neg (show ¬ (-1 : Int32) = nI j from fun z => nI_m1 (by omega) z.symm)
  · rw [if_neg q, if_neg q]
theorem sim_drv {U T : fTn} {j jc : Nat} {st0 v : Int32} (s : simT U T) (hj : j < tEn T) (h6 : tEn T ≤ 6) (hv : v = st0 * (5 - tE T j 1)) : simT (drvU U j jc v) (drvT T j jc st0) := by
  obtain ⟨⟨n0, n1, n2, n3⟩, sP, sH, sE0⟩ := s
  refine ⟨⟨n0, n1, n2, n3⟩, sP, sH, fun e (he : e < tEn T) => ?_⟩
  rw [drvT_row he hj, drvU_row (by omega) (by omega)]
  obtain ⟨⟨a, b, c⟩, d⟩ := sE0 e he
  by_cases q : e = j
  · rw [if_pos q, if_pos q]
    subst q
    refine ⟨⟨fun k hk => ?_, rfl, fun _ => rfl⟩, d⟩
    by_cases q2 : k = 5
    · rw [q2, upd_ne (by omega), upd_ne (by omega), upd_at, upd_at, hv]
    · rw [upd_ne (by omega), upd_ne (by omega), upd_ne q2, upd_ne q2, upd_ne (by omega), upd_ne (by omega)]
      exact a k hk
  · rw [if_neg q, if_neg q]
    unfold mOff upHose
    rw [if_neg (show ¬ nI e = nI j from fun z => q (nI_eq' z (by omega) (by omega))), b]
    by_cases q2 : tE T e 7 = nI j
    · rw [if_pos q2, if_pos q2]
      exact ⟨⟨fun k hk => by rw [upd_ne (by omega), upd_ne (by omega)]; exact a k hk, rfl, c⟩, d⟩
    · rw [if_neg q2, if_neg q2]
      exact ⟨⟨a, b, c⟩, d⟩
theorem ok_drv {kf : Nat → Int32} {T : fTn} {j jc : Nat} {st0 : Int32} (ho : okT kf T) (hj : j < tEn T) (hjc : jc < 140) (hk : kf jc = 0) {mm : Nat} (h1 : 1 ≤ mm) (h2 : mm ≤ 140) (hst : st0 = nI mm) : okT kf (drvT T j jc st0) := by
  obtain ⟨oH, oP, oE, oZ, ⟨rk, oR⟩, o1, o2, o3⟩ := ho
  have h7 : ∀ e, e < tEn T → tE (drvT T j jc st0) e 7 = -1 ∨ tE (drvT T j jc st0) e 7 = tE T e 7 := fun e he => by
    rw [drvT_row he hj]
    by_cases q : e = j
    · rw [if_pos q]; exact Or.inl rfl
    · rw [if_neg q]
      unfold upHose
      split
      · exact Or.inl rfl
      · split
        · exact Or.inl rfl
        · exact Or.inr rfl
  refine ⟨oH, oP, fun e (he : e < tEn T) => ?_, fun e (he : e < tEn T) => ?_, ⟨rk, fun e (he : e < tEn T) => ?_⟩, o1, o2, o3⟩
  · rw [drvT_row he hj]
    by_cases q : e = j
    · rw [if_pos q]
      obtain ⟨a, b, ⟨r, r1, r2, er⟩, -⟩ := oE j hj
      refine ⟨a, b, ⟨r, r1, r2, er⟩, Or.inr ⟨?_, ⟨jc, hjc, rfl, hk⟩⟩⟩
      show 0 < st0 * (5 - tE T j 1)
      have e5 : (5 : Int32) - nI r = nI (5 - r) := pk_sub (a := 5) (b := r) (by omega)
      rw [hst, er, e5, pk_mul]
      have hp : 1 ≤ mm * (5 - r) := Nat.mul_pos h1 (by omega)
      have hp2 : mm * (5 - r) ≤ 140 * 5 := Nat.mul_le_mul h2 (by omega)
      exact nI_lt (a := 0) (b := mm * (5 - r)) hp (by omega)
    · rw [if_neg q]
      unfold upHose
      split
      · exact eOk_of (oE e he) rfl rfl rfl rfl rfl
      · split
        · exact eOk_of (oE e he) rfl rfl rfl rfl rfl
        · exact oE e he
  · rcases h7 e he with z | z
    · exact Or.inl z
    · rw [z]; exact oZ e he
  · refine ⟨(oR e he).1, fun y => ?_⟩
    rcases h7 e he with z | z
    · rw [z] at y; exact absurd y (by decide)
    · rw [z] at y ⊢; exact (oR e he).2 y
theorem aim_in {h : Nat} (hh : h < 30) : inR (100 + nI h) 0 5 = false := by
  rw [show (100 : Int32) + nI h = nI (100 + h) from nI_add 100 h]
  unfold inR
  rw [show decide (¬ (5 : Int32) < nI (100 + h)) = false from decide_eq_false (fun z => z (nI_lt (a := 5) (b := 100 + h) (by omega) (by omega))), Bool.and_false]
theorem ok_aim {kf : Nat → Int32} {T : fTn} {j h : Nat} (ho : okT kf T) (hh : h < tHn T) : okT kf (aimT T j h) := by
  obtain ⟨rk, oR⟩ := ho.2.2.2.2.1
  have o1 := ho.2.2.2.2.2.1
  exact ok_hose ho (Or.inr (Or.inr ⟨h, hh, nI_add 100 h⟩)) ⟨rk, aim_ok oR (aim_in (by omega))⟩
