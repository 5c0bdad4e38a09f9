/-! NUMBERS: sums, and what a turn at pumping does, told in natural numbers -/
def updN (f : Nat → Nat) (i v : Nat) : Nat → Nat := fun j => if j = i then v else f j
theorem updN_at {f : Nat → Nat} {i v : Nat} : updN f i v i = v := if_pos rfl
theorem updN_ne {f : Nat → Nat} {i v j : Nat} (h : j ≠ i) : updN f i v j = f j := if_neg h
def sumN (f : Nat → Nat) : Nat → Nat
  | 0 => 0
  | n + 1 => sumN f n + f n
theorem sumN_cong {f g : Nat → Nat} {n : Nat} (h : ∀ i, i < n → f i = g i) : sumN f n = sumN g n := by
  induction n with
  | zero => rfl
  | succ n ih => unfold sumN; rw [ih (fun i hi => h i (by omega)), h n (by omega)]
theorem sumN_le {f g : Nat → Nat} {n : Nat} (h : ∀ i, i < n → f i ≤ g i) : sumN f n ≤ sumN g n := by
  induction n with
  | zero => exact Nat.le_refl _
  | succ n ih => unfold sumN; exact Nat.add_le_add (ih (fun i hi => h i (by omega))) (h n (by omega))
theorem sumN_upd {f : Nat → Nat} {n i v : Nat} (hi : i < n) : sumN (updN f i v) n + f i = sumN f n + v := by
  induction n with
  | zero => exact absurd hi (Nat.not_lt_zero _)
  | succ n ih =>
    unfold sumN
    by_cases e : i = n
    · subst e
      rw [updN_at, sumN_cong (f := updN f i v) (g := f) (fun j hj => updN_ne (by omega))]
      omega
    · rw [updN_ne (show n ≠ i by omega)]
      have := ih (by omega)
      omega
theorem sumN_at {f : Nat → Nat} {n i : Nat} (hi : i < n) : f i ≤ sumN f n := by
  induction n with
  | zero => exact absurd hi (Nat.not_lt_zero _)
  | succ n ih =>
    unfold sumN
    by_cases e : i = n
    · subst e; omega
    · have := ih (by omega); omega
theorem sumN_0 {f : Nat → Nat} {n : Nat} (h : ∀ i, i < n → f i = 0) : sumN f n = 0 := by
  induction n with
  | zero => rfl
  | succ n ih => unfold sumN; rw [ih (fun i hi => h i (by omega)), h n (by omega)]
theorem sumN_bd {f : Nat → Nat} {n b : Nat} (h : ∀ i, i < n → f i ≤ b) : sumN f n ≤ n * b := by
  induction n with
  | zero => exact Nat.zero_le _
  | succ n ih =>
    unfold sumN
    rw [Nat.succ_mul]
    exact Nat.add_le_add (ih (fun i hi => h i (by omega))) (h n (by omega))
theorem iMin_nI {a b : Nat} (ha : a < 2 ^ 31) (hb : b < 2 ^ 31) : iMin (nI a) (nI b) = nI (min a b) := by
  apply Int32.toInt_inj.mp
  rw [iMin_i, toInt_nI ha, toInt_nI hb, toInt_nI (by omega)]
  split <;> omega
theorem iMax_nI {a b : Nat} (ha : a < 2 ^ 31) (hb : b < 2 ^ 31) : iMax (nI a) (nI b) = nI (max a b) := by
  apply Int32.toInt_inj.mp
  rw [iMax_i, toInt_nI ha, toInt_nI hb, toInt_nI (by omega)]
  split <;> omega
theorem give_nI {m c q : Nat} (hm : m < 2 ^ 30) (hc : c < 2 ^ 30) (hq : q < 2 ^ 30) : iMax 0 (iMin (nI m - nI c) (nI q)) = nI (min (m - c) q) := by
  apply Int32.toInt_inj.mp
  rw [iMax_i, iMin_i, pk_sub_toInt hm hc, toInt_nI (show q < 2 ^ 31 by omega), toInt_nI (by omega), z0]
  repeat' split
  all_goals omega
theorem min_nI {m c q : Nat} (hm : m < 2 ^ 30) (hc : c < 2 ^ 30) (hq : q < 2 ^ 30) (h : c ≤ m) : iMin (nI m - nI c) (nI q) = nI (min (m - c) q) := by
  rw [show nI m - nI c = nI (m - c) from pk_sub h, iMin_nI (by omega) (by omega)]
/-- what arrives of g through a hose L long -/
def arrN (g L : Nat) : Nat := g - g * (L / 2) / 10
theorem arrN_le (g L : Nat) : arrN g L ≤ g := Nat.sub_le _ _
theorem arrN_q {g L : Nat} (hL : L ≤ 6) : g * (L / 2) / 10 ≤ g ∧ (0 < g → g * (L / 2) / 10 < g) := by
  rcases (show L / 2 = 0 ∨ L / 2 = 1 ∨ L / 2 = 2 ∨ L / 2 = 3 by omega) with h | h | h | h <;> rw [h] <;> omega
theorem arrN_pos {g L : Nat} (hL : L ≤ 6) (hg : 0 < g) : 0 < arrN g L := by
  have := (arrN_q (g := g) hL).2 hg
  unfold arrN; omega
theorem arr_nI {g L : Nat} (hg : g ≤ 1000) (hL : L ≤ 6) : arrivesI (nI g) (nI L) = nI (arrN g L) := by
  have hq := (arrN_q (g := g) hL).1
  have h3 : L / 2 ≤ 3 := by omega
  have hm : g * (L / 2) ≤ 1000 * 3 := Nat.mul_le_mul hg h3
  unfold arrivesI arrN
  rw [show nI L / 2 = nI (L / 2) from pk_div (a := L) (d := 2) (by omega) (by omega) (by omega), pk_mul, show nI (g * (L / 2)) / 10 = nI (g * (L / 2) / 10) from pk_div (a := g * (L / 2)) (d := 10) (by omega) (by omega) (by omega), pk_sub hq]
theorem lf_nI {g L : Nat} {a b : Int32} (hg : g ≤ 1000) (hL : L ≤ 6) (hd : aDist a b = nI L) : sLf (nI g) a b = nI (arrN g L) := by
  rw [← arr_nI hg hL]
  unfold sLf arrivesI
  rw [hd, Int32.mul_comm]
/-! the law's ways to ask -/
theorem max14 : ∀ p : Fin 14, ∀ q : Fin 14, decide (iMax (nI p.1) (nI q.1) = 1) = decide ((p.1 ≤ 1 ∧ q.1 ≤ 1) ∧ ¬ (p.1 = 0 ∧ q.1 = 0)) := by decide +kernel
theorem abs14 : ∀ p : Fin 14, ∀ q : Fin 14, iAbs (nI p.1 - nI q.1) = nI (if p.1 ≤ q.1 then q.1 - p.1 else p.1 - q.1) := by decide +kernel
theorem sq14b : ∀ p : Fin 14, ∀ q : Fin 14, decide (¬ 1 < (nI p.1 - nI q.1) * (nI p.1 - nI q.1)) = decide ((if p.1 ≤ q.1 then q.1 - p.1 else p.1 - q.1) ≤ 1) := by decide +kernel
theorem near_dec {x y : Nat} (n0 : ¬ (x = 0 ∧ y = 0)) : decide ((x ≤ 1 ∧ y ≤ 1) ∧ ¬ (x = 0 ∧ y = 0)) = (decide (x ≤ 1) && decide (y ≤ 1)) := by
  rw [← Bool.decide_and]
  exact decide_eq_decide.mpr ⟨fun z => z.1, fun z => ⟨z, n0⟩⟩
theorem sNear_same {a b : Nat} (ha : a < 140) (hb : b < 140) : sNear (nI a) (nI b) = aNear (nI a) (nI b) := by
  have e1 : iMod (nI a) = nI (a % 14) := pk_rem (a := a) (d := 14) (by omega) (by omega) (by omega)
  have e2 : iMod (nI b) = nI (b % 14) := pk_rem (a := b) (d := 14) (by omega) (by omega) (by omega)
  have e3 : nI a / 14 = nI (a / 14) := pk_div (a := a) (d := 14) (by omega) (by omega) (by omega)
  have e4 : nI b / 14 = nI (b / 14) := pk_div (a := b) (d := 14) (by omega) (by omega) (by omega)
  unfold sNear aNear
  rw [e1, e2, e3, e4, abs14 ⟨a % 14, by omega⟩ ⟨b % 14, by omega⟩, abs14 ⟨a / 14, by omega⟩ ⟨b / 14, by omega⟩, sq14b ⟨a % 14, by omega⟩ ⟨b % 14, by omega⟩, sq14b ⟨a / 14, by omega⟩ ⟨b / 14, by omega⟩]
  have m := max14 ⟨if a % 14 ≤ b % 14 then b % 14 - a % 14 else a % 14 - b % 14, by split <;> omega⟩ ⟨if a / 14 ≤ b / 14 then b / 14 - a / 14 else a / 14 - b / 14, by split <;> omega⟩
  simp only at m
  simp only []
  rw [m]
  by_cases q : nI a = nI b
  · simp [q]
  · have q2 : a ≠ b := fun z => q (by rw [z])
    have n0 : ¬ ((if a % 14 ≤ b % 14 then b % 14 - a % 14 else a % 14 - b % 14) = 0 ∧ (if a / 14 ≤ b / 14 then b / 14 - a / 14 else a / 14 - b / 14) = 0) := by
      rintro ⟨x, y⟩
      apply q2
      split at x <;> split at y <;> omega
    rw [decide_eq_true q, Bool.true_and, Bool.true_and]
    exact near_dec n0
theorem sPump_same {f : Nat → Int32} (h : 0 ≤ f 5) : sPump f = ePump f := by
  unfold sPump ePump eStands
  by_cases q : f 5 = 0
  · rw [if_neg (by rw [q]; decide), if_pos (decide_eq_true q)]
  · rw [if_pos (show 0 < f 5 by rw [sw_lt]; rw [sw_le] at h; rw [sw_eq] at q; omega), if_neg (by rw [decide_eq_false q]; decide)]
theorem sSrc_same {U T : fTn} {f f2 : Nat → Int32} (hn : tPn U = tPn T) (hP : ∀ p, p < tPn T → tP U p 0 = tP T p 0) (hO : ∀ p, p < tPn T → isC0 (tP T p 0)) (h0 : f 0 = f2 0) (h5 : f 5 = f2 5) (hc : isC0 (f2 0)) (hp : 0 ≤ f2 5) : sSrc U f = pondOf T f2 := by
  obtain ⟨c, hc1, hc2⟩ := hc
  unfold sSrc pondOf eStands
  rw [hn, h5]
  by_cases q : f2 5 = 0
  · rw [if_neg (by rw [q]; decide), if_pos (decide_eq_true q)]
    refine jFirst_cong (fun i hi => ?_)
    obtain ⟨d, hd1, hd2⟩ := hO i hi
    rw [hP i hi, h0, hd2, hc2, sNear_same hd1 hc1]
  · rw [if_pos (show 0 < f2 5 by rw [sw_lt]; rw [sw_le] at hp; rw [sw_eq] at q; omega), if_neg (by rw [decide_eq_false q]; decide)]
/-! a turn -/
abbrev Pd (T : fTn) (p s : Nat) : fTn := sP T p (upd (tP T p) 1 (tP T p 1 - nI s))
theorem Pd_0 {T : fTn} {p : Nat} : Pd T p 0 = T := by
  obtain ⟨m, ⟨a, f⟩, ⟨b, f2⟩, c, f3⟩ := T
  show (m, (a, f), (b, fun j => if j = p then upd (f2 p) 1 (f2 p 1 - nI 0) else f2 j), (c, f3)) = _
  congr 3
  congr 1
  funext j
  by_cases h : j = p
  · rw [h, if_pos rfl]
    funext k
    by_cases q : k = 1
    · rw [q, upd_at]; show f2 p 1 - 0 = _; rw [Int32.sub_zero]
    · rw [upd_ne q]
  · rw [if_neg h]
theorem pond_or (T : fTn) (f : Nat → Int32) : pondOf T f = -1 ∨ ∃ p, p < tPn T ∧ pondOf T f = nI p := by
  unfold pondOf
  split
  · rcases jFirst_or (fun i => aNear (tP T i 0) (f 0)) (tPn T) with h | ⟨k, h1, h2, -⟩
    · exact Or.inl h
    · exact Or.inr ⟨k, h1, h2⟩
  · exact Or.inl rfl
/-- where it sucks from, and how much -/
def suck (T : fTn) (f : Nat → Int32) (m c : Nat) (q : Nat → Nat) (p s : Nat) : Prop := (pondOf T f = -1 ∧ s = 0) ∨ (p < tPn T ∧ pondOf T f = nI p ∧ s = min (m - c) (q p))
theorem ask_nat {T : fTn} {e m c : Nat} {q : Nat → Nat} (h7 : ¬ tE T e 7 = -1) (hm : ePump (tE T e) = nI m) (hm1 : m ≤ 1000) (hc : tE T e 8 = nI c) (hc1 : c ≤ 1000) (hq : ∀ p, p < tPn T → tP T p 1 = nI (q p) ∧ q p ≤ 5000) (h6 : tPn T ≤ 6) :
    ∃ p s, suck T (tE T e) m c q p s ∧ askT T e = sE (Pd T p s) e (upd (upd (tE T e) 10 1) 9 (nI (min m (c + s)))) := by
  rcases pond_or T (tE T e) with h | ⟨p, hp, h⟩
  · refine ⟨0, 0, Or.inl ⟨h, rfl⟩, ?_⟩
    rw [askT_0 h7 h, Pd_0, hc, hm, iMin_nI (by omega) (by omega), Nat.add_zero, Nat.min_comm]
  · obtain ⟨q1, q2⟩ := hq p hp
    refine ⟨p, min (m - c) (q p), Or.inr ⟨hp, h, rfl⟩, ?_⟩
    have g : pGive (tP T p) (ePump (tE T e) - tE T e 8) = nI (min (m - c) (q p)) := by
      unfold pGive
      rw [hm, hc, q1, give_nI (by omega) (by omega) (by omega)]
    rw [askT_P h7 h hp h6, g, hc, hm, nI_add, iMin_nI (by omega) (by omega), Nat.min_comm (c + min (m - c) (q p)) m]
theorem suck_b {T : fTn} {f : Nat → Int32} {m c p s : Nat} {q : Nat → Nat} (h : suck T f m c q p s) : s ≤ m - c ∧ (s = 0 ∨ (p < tPn T ∧ s ≤ q p)) := by
  rcases h with ⟨-, h⟩ | ⟨h1, -, h⟩
  · exact ⟨by omega, Or.inl h⟩
  · exact ⟨by omega, Or.inr ⟨h1, by omega⟩⟩
abbrev tnX (T : fTn) (e p s g : Nat) : fTn := sE (Pd T p s) e (upd (upd (tE T e) 10 1) 9 (nI g))
abbrev tnE (T : fTn) (e p s g i a : Nat) : fTn := sE (tnX T e p s g) i (upd (tE (tnX T e p s g) i) 8 (tE T i 8 + nI a))
abbrev tnH (T : fTn) (e p s g h a : Nat) : fTn := sH (tnX T e p s g) h (upd (upd (tH T h) 5 (tH T h 5 + nI a)) 6 (tH T h 6 + nI a))
/-- the hoses are good: their goals, and not too long -/
def hsOk (T : fTn) : Prop := ∀ j, j < tEn T → tE T j 7 = -1 ∨ (∃ i L, i < tEn T ∧ i ≠ j ∧ tE T j 7 = nI i ∧ aDist (tE T j 0) (tE T i 0) = nI L ∧ L ≤ 6) ∨ (∃ h L, h < tHn T ∧ tE T j 7 = nI (100 + h) ∧ aDist (tE T j 0) (tH T h 0) = nI L ∧ L ≤ 6)
theorem turn_form {T : fTn} {e m c : Nat} {q : Nat → Nat} (he : e < tEn T) (hx : nextE T = nI e) (ho : hsOk T) (hm : ePump (tE T e) = nI m) (hm1 : m ≤ 1000) (hc : tE T e 8 = nI c) (hc1 : c ≤ 1000) (hq : ∀ p, p < tPn T → tP T p 1 = nI (q p) ∧ q p ≤ 5000) (n1 : tHn T ≤ 30) (n2 : tPn T ≤ 6) (n3 : tEn T ≤ 6) :
    (tE T e 7 = -1 ∧ turnT T = sE T e (upd (tE T e) 10 1)) ∨
    (∃ i L p s, i < tEn T ∧ i ≠ e ∧ tE T e 7 = nI i ∧ aDist (tE T e 0) (tE T i 0) = nI L ∧ L ≤ 6 ∧ suck T (tE T e) m c q p s ∧ turnT T = tnE T e p s (min m (c + s)) i (arrN (min m (c + s)) L)) ∨
    (∃ h L p s, h < tHn T ∧ tE T e 7 = nI (100 + h) ∧ aDist (tE T e 0) (tH T h 0) = nI L ∧ L ≤ 6 ∧ suck T (tE T e) m c q p s ∧ turnT T = tnH T e p s (min m (c + s)) h (arrN (min m (c + s)) L)) := by
  have e1 : turnT T = sendT (askT T e) e := by
    unfold turnT
    rw [hx, if_pos (isIx_nI he (by omega)), nI_clamp (by omega)]
  rw [e1]
  have fr := askT_fr T e
  have an := askT_n T e
  rcases ho e he with h | ⟨i, L, hi, hne, h, hd, hL⟩ | ⟨hh, L, hi, h, hd, hL⟩
  · refine Or.inl ⟨h, ?_⟩
    rw [askT_N h]
    exact sendT_N ((sE_col (by omega)).trans h)
  · have h7 : ¬ tE T e 7 = -1 := by rw [h]; exact nI_m1 (by omega)
    obtain ⟨p, s, hs, ea⟩ := ask_nat h7 hm hm1 hc hc1 hq n2
    refine Or.inr (Or.inl ⟨i, L, p, s, hi, hne, h, hd, hL, hs, ?_⟩)
    have z7 : tE (askT T e) e 7 = nI i := (fr.2.2.2 e 7 (by omega)).trans h
    rw [sendT_E z7 (by rw [an.2.2.1]; exact hi) (by rw [an.2.2.1]; exact n3), fr.2.2.2 e 0 (by omega), fr.2.2.2 i 0 (by omega), hd, ea]
    have g9 : tE (tnX T e p s (min m (c + s))) e 9 = nI (min m (c + s)) := by
      show (if e = e then upd (upd (tE T e) 10 1) 9 (nI (min m (c + s))) else tE T e) 9 = _
      rw [if_pos rfl, upd_at]
    have g8 : tE (tnX T e p s (min m (c + s))) i 8 = tE T i 8 := by
      show (if i = e then upd (upd (tE T e) 10 1) 9 (nI (min m (c + s))) else tE T i) 8 = _
      rw [if_neg hne]
    rw [g9, g8, arr_nI (by omega) hL]
  · have h7 : ¬ tE T e 7 = -1 := by rw [h]; exact nI_m1 (by omega)
    obtain ⟨p, s, hs, ea⟩ := ask_nat h7 hm hm1 hc hc1 hq n2
    refine Or.inr (Or.inr ⟨hh, L, p, s, hi, h, hd, hL, hs, ?_⟩)
    have z7 : tE (askT T e) e 7 = nI (100 + hh) := (fr.2.2.2 e 7 (by omega)).trans h
    rw [sendT_H z7 (by rw [an.1]; exact hi) (by rw [an.2.2.1]; exact n3) (by rw [an.1]; exact n1), fr.2.2.2 e 0 (by omega), fr.2.1 hh 0 (by omega) (by omega), hd, ea]
    have g9 : tE (tnX T e p s (min m (c + s))) e 9 = nI (min m (c + s)) := by
      show (if e = e then upd (upd (tE T e) 10 1) 9 (nI (min m (c + s))) else tE T e) 9 = _
      rw [if_pos rfl, upd_at]
    rw [g9, arr_nI (by omega) hL]
