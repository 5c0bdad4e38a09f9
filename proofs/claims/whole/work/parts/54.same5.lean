/-! what is on the cells, and the ways -/
def gOk (kf nf : Nat → Int32) (T : fTn) : Prop := (∀ h, h < tHn T → ∃ c, c < 140 ∧ tH T h 0 = nI c ∧ kf c = 1 ∧ nf c = nI h) ∧ (∀ p, p < tPn T → ∃ c, c < 140 ∧ tP T p 0 = nI c ∧ kf c = 2 ∧ nf c = nI p) ∧
  ∀ c, c < 140 → kf c = 0 ∨ (kf c = 1 ∧ ∃ h, h < tHn T ∧ tH T h 0 = nI c) ∨ (kf c = 2 ∧ ∃ p, p < tPn T ∧ tP T p 0 = nI c)
theorem hAt_1 {kf nf : Nat → Int32} {T : fTn} {c : Nat} (g : gOk kf nf T) (hn : tHn T ≤ 30) (hc : c < 140) (h : kf c = 1) : hAt T (nI c) = nf c ∧ ¬ nf c = -1 := by
  obtain ⟨g1, g2, g3⟩ := g
  rcases g3 c hc with z | ⟨-, i, hi, e⟩ | ⟨z, -⟩
  · rw [h] at z; exact absurd z (by decide)
  · obtain ⟨c2, hc2, e2, -, e3⟩ := g1 i hi
    have ec : c2 = c := nI_eq' (e2.symm.trans e) (by omega) (by omega)
    rw [ec] at e3
    refine ⟨?_, by rw [e3]; exact nI_m1 (by omega)⟩
    rw [e3]
    refine (jFirst_at hi (by rw [e]; exact decide_eq_true rfl) (fun j hj => ?_)).symm
    refine decide_eq_false (fun z => ?_)
    obtain ⟨c4, hc4, e4, -, e5⟩ := g1 j (by omega)
    have ec4 : c4 = c := nI_eq' (e4.symm.trans z) (by omega) (by omega)
    rw [ec4, e3] at e5
    have := nI_eq' e5 (by omega) (by omega)
    omega
  · rw [h] at z; exact absurd z (by decide)
theorem hAt_n {kf nf : Nat → Int32} {T : fTn} {c : Nat} (g : gOk kf nf T) (hc : c < 140) (h : ¬ kf c = 1) : hAt T (nI c) = -1 := by
  refine (jFirst_none (fun j hj => decide_eq_false (fun z => ?_))).symm
  obtain ⟨c2, hc2, e2, e3, -⟩ := g.1 j hj
  have ec : c2 = c := nI_eq' (e2.symm.trans z) (by omega) (by omega)
  rw [ec] at e3
  exact h e3
theorem pAt_2 {kf nf : Nat → Int32} {T : fTn} {c : Nat} (g : gOk kf nf T) (hn : tPn T ≤ 6) (hc : c < 140) (h : kf c = 2) : pAt T (nI c) = nf c ∧ ¬ nf c = -1 := by
  obtain ⟨g1, g2, g3⟩ := g
  rcases g3 c hc with z | ⟨z, -⟩ | ⟨-, i, hi, e⟩
  · rw [h] at z; exact absurd z (by decide)
  · rw [h] at z; exact absurd z (by decide)
  · obtain ⟨c2, hc2, e2, -, e3⟩ := g2 i hi
    have ec : c2 = c := nI_eq' (e2.symm.trans e) (by omega) (by omega)
    rw [ec] at e3
    refine ⟨?_, by rw [e3]; exact nI_m1 (by omega)⟩
    rw [e3]
    refine (jFirst_at hi (by rw [e]; exact decide_eq_true rfl) (fun j hj => ?_)).symm
    refine decide_eq_false (fun z => ?_)
    obtain ⟨c4, hc4, e4, -, e5⟩ := g2 j (by omega)
    have ec4 : c4 = c := nI_eq' (e4.symm.trans z) (by omega) (by omega)
    rw [ec4, e3] at e5
    have := nI_eq' e5 (by omega) (by omega)
    omega
theorem pAt_n {kf nf : Nat → Int32} {T : fTn} {c : Nat} (g : gOk kf nf T) (hc : c < 140) (h : ¬ kf c = 2) : pAt T (nI c) = -1 := by
  refine (jFirst_none (fun j hj => decide_eq_false (fun z => ?_))).symm
  obtain ⟨c2, hc2, e2, e3, -⟩ := g.2.1 j hj
  have ec : c2 = c := nI_eq' (e2.symm.trans z) (by omega) (by omega)
  rw [ec] at e3
  exact h e3
theorem hAt_same {U T : fTn} {x : Int32} (h : simT U T) : hAt U x = hAt T x := by
  obtain ⟨⟨n0, n1, n2, n3⟩, hP, hH, hE⟩ := h
  unfold hAt
  rw [n1]
  exact jFirst_cong (fun i hi => by rw [hH i hi 0 (by omega)])
theorem pAt_same {U T : fTn} {x : Int32} (h : simT U T) : pAt U x = pAt T x := by
  obtain ⟨⟨n0, n1, n2, n3⟩, hP, hH, hE⟩ := h
  unfold pAt
  rw [n2]
  exact jFirst_cong (fun i hi => by rw [(hP i hi).1])
theorem kOf_nI {kf : Nat → Int32} {c : Nat} (hc : c < 140) : kOf kf (nI c) = kf c := by
  unfold kOf
  rw [if_neg (nI_pos (by omega)), if_neg (show ¬ (140 : Int32) ≤ nI c from fun z => absurd (nI_le' (a := 140) (b := c) z (by omega) (by omega)) (by omega)), nI_clamp (by omega)]
theorem nOf_nI {kf nf : Nat → Int32} {c : Nat} (hc : c < 140) : nOf kf nf (nI c) = if kf c = 0 then -1 else nf c := by
  unfold nOf
  rw [if_neg (nI_pos (by omega)), if_neg (show ¬ (140 : Int32) ≤ nI c from fun z => absurd (nI_le' (a := 140) (b := c) z (by omega) (by omega)) (by omega)), nI_clamp (by omega)]
theorem kSt_nI {kf : Nat → Int32} {c : Nat} (hc : c < 140) : kSt kf (nI c) = decide (kf c = 0) := by
  unfold kSt
  rw [kOf_nI hc]
theorem kinds {kf nf : Nat → Int32} {T : fTn} {c : Nat} (g : gOk kf nf T) (hc : c < 140) : kf c = 0 ∨ kf c = 1 ∨ kf c = 2 := by
  rcases g.2.2 c hc with a | ⟨a, -⟩ | ⟨a, -⟩
  · exact Or.inl a
  · exact Or.inr (Or.inl a)
  · exact Or.inr (Or.inr a)
theorem street_same {kf nf : Nat → Int32} {U T : fTn} {c : Nat} (s : simT U T) (g : gOk kf nf T) (hn : tHn T ≤ 30) (hn2 : tPn T ≤ 6) (hc : c < 140) : mSt U (nI c) = kSt kf (nI c) := by
  unfold mSt
  rw [hAt_same s, pAt_same s, kSt_nI hc]
  rcases kinds g hc with z | z | z
  · rw [hAt_n g hc (by rw [z]; decide), pAt_n g hc (by rw [z]; decide), z]; rfl
  · rw [(hAt_1 g hn hc z).1, decide_eq_false (hAt_1 g hn hc z).2, z]; rfl
  · rw [hAt_n g hc (by rw [z]; decide), (pAt_2 g hn2 hc z).1, decide_eq_false (pAt_2 g hn2 hc z).2, z]; rfl
theorem cntE_cong {f f2 : Nat → Nat → Int32} {w : Int32} {n : Nat} (h : ∀ j, j < n → f j 0 = f2 j 0) : cntE f w n = cntE f2 w n := by
  induction n with
  | zero => rfl
  | succ n ih => unfold cntE; rw [ih (fun j hj => h j (by omega)), h n (by omega)]
theorem cntE_nat (f : Nat → Nat → Int32) (w : Int32) (n : Nat) : ∃ m, m ≤ n ∧ cntE f w n = nI m := by
  induction n with
  | zero => exact ⟨0, Nat.le_refl 0, rfl⟩
  | succ n ih =>
    obtain ⟨m, hm, e⟩ := ih
    unfold cntE
    rw [e]
    split
    · exact ⟨m + 1, by omega, nI_1 m⟩
    · exact ⟨m, by omega, rfl⟩
theorem cell_same {kf nf : Nat → Int32} {U T : fTn} {c : Nat} {w : Int32} (s : simT U T) (g : gOk kf nf T) (ho : okHs T) (hn : tHn T ≤ 30) (hn2 : tPn T ≤ 6) (hc : c < 140) : mCell U (nI c) w = cellR kf nf T (nI c) w := by
  obtain ⟨⟨n0, n1, n2, n3⟩, hP, hH, hE⟩ := id s
  unfold mCell cellR mKind
  rw [hAt_same s, pAt_same s, kOf_nI hc, nOf_nI hc, n3, n1, cntE_cong (f := tE U) (f2 := tE T) (fun j hj => (hE j hj).1.1 0 (by omega)), heat_same hc (tHn T) (Nat.le_refl _) (fun i hi => ⟨fun k hk => hH i hi k hk, (ho i hi).1, (ho i hi).2⟩)]
  rcases kinds g hc with z | z | z
  · rw [hAt_n g hc (by rw [z]; decide), pAt_n g hc (by rw [z]; decide), z]; rfl
  · rw [(hAt_1 g hn hc z).1, if_neg (hAt_1 g hn hc z).2, if_neg (hAt_1 g hn hc z).2, z]; rfl
  · rw [hAt_n g hc (by rw [z]; decide), (pAt_2 g hn2 hc z).1, if_neg (pAt_2 g hn2 hc z).2, z]; rfl
theorem free_same {kf nf : Nat → Int32} {U T : fTn} {c : Nat} (s : simT U T) (g : gOk kf nf T) (ho : okEs kf T) (hn : tHn T ≤ 30) (hn2 : tPn T ≤ 6) (hn3 : tEn T ≤ 6) (hc : c < 140) : frF U (nI c) (tEn U) = freeB kf T (nI c) := by
  obtain ⟨⟨n0, n1, n2, n3⟩, hP, hH, hE⟩ := id s
  have z : ∀ n, n ≤ tEn T → frF U (nI c) n = (kSt kf (nI c) && (decide (cntE (tE T) (nI c) n = 0) && !(anyGoal (tE T) (nI c) n))) := by
    intro n
    induction n with
    | zero =>
      intro _
      show mSt U (nI c) = _
      rw [street_same s g hn hn2 hc]
      show _ = (kSt kf (nI c) && true)
      rw [Bool.and_true]
    | succ n ih =>
      intro h
      obtain ⟨m, hm, em⟩ := cntE_nat (tE T) (nI c) n
      obtain ⟨⟨a, -, b⟩, -⟩ := hE n (by omega)
      obtain ⟨-, -, -, o⟩ := ho n (by omega)
      show (frF U (nI c) n && (decide (¬ tE U n 0 = nI c) && (decide (tE U n 5 = 0) || decide (¬ tE U n 6 = nI c)))) = (kSt kf (nI c) && (decide ((if tE T n 0 = nI c then cntE (tE T) (nI c) n + 1 else cntE (tE T) (nI c) n) = 0) && !(anyGoal (tE T) (nI c) n || decide (tE T n 6 = nI c))))
      rw [ih (by omega), a 0 (by omega), a 5 (by omega)]
      have e6 : (decide (tE T n 5 = 0) || decide (¬ tE U n 6 = nI c)) = !decide (tE T n 6 = nI c) := by
        rcases o with ⟨o1, o2⟩ | ⟨o1, -⟩
        · rw [o1, o2, decide_eq_false (show ¬ (-1 : Int32) = nI c from fun z => nI_m1 (by omega) z.symm)]; rfl
        · have o3 : tE T n 5 ≠ 0 := fun z => by rw [z] at o1; exact absurd o1 (by decide)
          rw [b o3, decide_eq_false o3, Bool.false_or]
          exact decide_not
      rw [e6]
      by_cases q : tE T n 0 = nI c
      · have e1 : decide (cntE (tE T) (nI c) n + 1 = 0) = false := decide_eq_false (by rw [em, nI_1]; exact nI_ne0 (by omega) (by omega))
        rw [if_pos q, e1, decide_eq_false (show ¬ ¬ tE T n 0 = nI c from fun z => z q)]
        simp
      · rw [if_neg q, decide_eq_true q, Bool.true_and, Bool.not_or]
        cases kSt kf (nI c) <;> cases decide (cntE (tE T) (nI c) n = 0) <;> simp
  rw [n3]
  exact z (tEn T) (Nat.le_refl _)
/-! the waves -/
def nbP (d c : Nat) : Prop := (c + 1 = d ∧ 0 < d % 14) ∨ (c = d + 1 ∧ d % 14 < 13) ∨ c + 14 = d ∨ (c = d + 14 ∧ d + 14 < 140)
def pushC (kf : Nat → Int32) (q : (Nat → Int32) × Int32) (w : Int32) (b : Bool) (c : Nat) : (Nat → Int32) × Int32 := if (b && (kSt kf (nI c) && decide (q.1 c = -1))) = true then (upd q.1 c w, q.2 + 1) else q
theorem ent_push {kf : Nat → Int32} {q : (Nat → Int32) × Int32} {x y w : Int32} {b : Bool} {c : Nat} (hb : aOn x y = b) (hxy : b = true → x + 14 * y = nI c) (hc : c < 1000) : entF kf q x y w = pushC kf q w b c := by
  unfold entF entS entC pushC
  rw [hb]
  cases b with
  | false =>
    rw [Bool.false_and, Bool.false_and, if_neg Bool.false_ne_true, if_neg Bool.false_ne_true]
    show (q.1, q.2 + 0) = q
    rw [Int32.add_zero]
  | true =>
    rw [hxy rfl, nI_clamp (by omega), Bool.true_and]
    rcases hz : (kSt kf (nI c) && decide (q.1 c = -1)) with - | -
    · rw [if_neg Bool.false_ne_true, if_neg Bool.false_ne_true]
      show (q.1, q.2 + 0) = q
      rw [Int32.add_zero]
    · rw [if_pos rfl, if_pos rfl]; rfl
theorem aOn_nI {a b : Nat} (ha : a < 1000) (hb : b < 1000) : aOn (nI a) (nI b) = (decide (a < 14) && decide (b < 10)) := by
  unfold aOn
  rw [decide_eq_true (nI_pos (n := a) (by omega)), decide_eq_true (nI_pos (n := b) (by omega)), Bool.true_and, Bool.true_and]
  congr 1
  · apply decide_eq_decide.mpr
    exact ⟨fun z => Nat.lt_of_not_le fun y => z (nI_le (a := 14) (b := a) y (by omega)), fun z y => absurd (nI_le' (a := 14) (b := a) y (by omega) (by omega)) (by omega)⟩
  · apply decide_eq_decide.mpr
    exact ⟨fun z => Nat.lt_of_not_le fun y => z (nI_le (a := 10) (b := b) y (by omega)), fun z y => absurd (nI_le' (a := 10) (b := b) y (by omega) (by omega)) (by omega)⟩
theorem aOn_x1 {y : Int32} : aOn (-1) y = false := rfl
theorem aOn_y1 {x : Int32} : aOn x (-1) = false := by
  unfold aOn
  rw [show decide (¬ (-1 : Int32) < 0) = false from rfl, Bool.false_and, Bool.and_false, Bool.and_false]
theorem xy_nI {a b : Nat} : nI a + 14 * nI b = nI (a + 14 * b) := by rw [show (14 : Int32) = nI 14 from rfl, pk_mul, nI_add]
theorem dir1 {kf : Nat → Int32} {q : (Nat → Int32) × Int32} {w : Int32} {k : Nat} (hk : k < 140) : entF kf q (iMod (nI k) - 1) (nI k / 14) w = pushC kf q w (decide (0 < k % 14)) (k - 1) := by
  have e1 : iMod (nI k) = nI (k % 14) := pk_rem (a := k) (d := 14) (by omega) (by omega) (by omega)
  have e3 : nI k / 14 = nI (k / 14) := pk_div (a := k) (d := 14) (by omega) (by omega) (by omega)
  rw [e1, e3]
  by_cases z : 0 < k % 14
  · have e : nI (k % 14) - 1 = nI (k % 14 - 1) := pk_sub (a := k % 14) (b := 1) (by omega)
    refine ent_push ?_ (fun _ => ?_) (by omega)
    · rw [e, aOn_nI (by omega) (by omega), decide_eq_true (show k % 14 - 1 < 14 by omega), decide_eq_true (show k / 14 < 10 by omega), decide_eq_true z]; rfl
    · rw [e, xy_nI]; congr 1; omega
  · refine ent_push ?_ (fun y => ?_) (by omega)
    · rw [show k % 14 = 0 by omega]; exact aOn_x1
    · exact absurd (of_decide_eq_true y) z
theorem dir2 {kf : Nat → Int32} {q : (Nat → Int32) × Int32} {w : Int32} {k : Nat} (hk : k < 140) : entF kf q (iMod (nI k) + 1) (nI k / 14) w = pushC kf q w (decide (k % 14 < 13)) (k + 1) := by
  have e1 : iMod (nI k) = nI (k % 14) := pk_rem (a := k) (d := 14) (by omega) (by omega) (by omega)
  have e3 : nI k / 14 = nI (k / 14) := pk_div (a := k) (d := 14) (by omega) (by omega) (by omega)
  rw [e1, e3, nI_1]
  refine ent_push ?_ (fun _ => ?_) (by omega)
  · rw [aOn_nI (by omega) (by omega), decide_eq_true (show k / 14 < 10 by omega), Bool.and_true]
    apply decide_eq_decide.mpr
    omega
  · rw [xy_nI]; congr 1; omega
theorem dir3 {kf : Nat → Int32} {q : (Nat → Int32) × Int32} {w : Int32} {k : Nat} (hk : k < 140) : entF kf q (iMod (nI k)) (nI k / 14 - 1) w = pushC kf q w (decide (14 ≤ k)) (k - 14) := by
  have e1 : iMod (nI k) = nI (k % 14) := pk_rem (a := k) (d := 14) (by omega) (by omega) (by omega)
  have e3 : nI k / 14 = nI (k / 14) := pk_div (a := k) (d := 14) (by omega) (by omega) (by omega)
  rw [e1, e3]
  by_cases z : 14 ≤ k
  · have e : nI (k / 14) - 1 = nI (k / 14 - 1) := pk_sub (a := k / 14) (b := 1) (by omega)
    refine ent_push ?_ (fun _ => ?_) (by omega)
    · rw [e, aOn_nI (by omega) (by omega), decide_eq_true (show k % 14 < 14 by omega), decide_eq_true (show k / 14 - 1 < 10 by omega), decide_eq_true z]; rfl
    · rw [e, xy_nI]; congr 1; omega
  · refine ent_push ?_ (fun y => ?_) (by omega)
    · rw [show k / 14 = 0 by omega, decide_eq_false z]; exact aOn_y1
    · exact absurd (of_decide_eq_true y) z
theorem dir4 {kf : Nat → Int32} {q : (Nat → Int32) × Int32} {w : Int32} {k : Nat} (hk : k < 140) : entF kf q (iMod (nI k)) (nI k / 14 + 1) w = pushC kf q w (decide (k + 14 < 140)) (k + 14) := by
  have e1 : iMod (nI k) = nI (k % 14) := pk_rem (a := k) (d := 14) (by omega) (by omega) (by omega)
  have e3 : nI k / 14 = nI (k / 14) := pk_div (a := k) (d := 14) (by omega) (by omega) (by omega)
  rw [e1, e3, nI_1]
  refine ent_push ?_ (fun _ => ?_) (by omega)
  · rw [aOn_nI (by omega) (by omega), decide_eq_true (show k % 14 < 14 by omega), Bool.true_and]
    apply decide_eq_decide.mpr
    omega
  · rw [xy_nI]; congr 1; omega
def Acc9 (kf s : Nat → Int32) (w : Int32) (P : Nat → Prop) (q : Nat → Int32) : Prop := ∀ j, ((s j = -1 ∧ kSt kf (nI j) = true ∧ P j) → q j = w) ∧ (¬ (s j = -1 ∧ kSt kf (nI j) = true ∧ P j) → q j = s j)
theorem acc_iff {kf s : Nat → Int32} {w : Int32} {P P2 : Nat → Prop} {q : Nat → Int32} (h : Acc9 kf s w P q) (e : ∀ j, P j ↔ P2 j) : Acc9 kf s w P2 q := fun j => by rw [← e j]; exact h j
theorem acc_push {kf s : Nat → Int32} {w : Int32} {P : Nat → Prop} {q : (Nat → Int32) × Int32} {b : Bool} {c : Nat} (h : Acc9 kf s w P q.1) (hw : w ≠ -1) : Acc9 kf s w (fun j => P j ∨ (b = true ∧ j = c)) (pushC kf q w b c).1 := by
  intro j
  unfold pushC
  by_cases z : (b && (kSt kf (nI c) && decide (q.1 c = -1))) = true
  · rw [if_pos z]
    simp only [Bool.and_eq_true, decide_eq_true_eq] at z
    obtain ⟨z1, z2, z3⟩ := z
    show (_ → upd q.1 c w j = w) ∧ (_ → upd q.1 c w j = s j)
    by_cases e : j = c
    · rw [e, upd_at]
      refine ⟨fun _ => rfl, fun y => ?_⟩
      have hs : s c = -1 := by
        by_cases x : s c = -1 ∧ kSt kf (nI c) = true ∧ P c
        · exact x.1
        · exact ((h c).2 x).symm.trans z3
      exact absurd ⟨hs, z2, Or.inr ⟨z1, rfl⟩⟩ y
    · rw [upd_ne e]
      refine ⟨fun y => (h j).1 ⟨y.1, y.2.1, ?_⟩, fun y => (h j).2 (fun x => y ⟨x.1, x.2.1, Or.inl x.2.2⟩)⟩
      rcases y.2.2 with x | ⟨-, x⟩
      · exact x
      · exact absurd x e
  · rw [if_neg z]
    refine ⟨fun y => ?_, fun y => (h j).2 (fun x => y ⟨x.1, x.2.1, Or.inl x.2.2⟩)⟩
    by_cases x : P j
    · exact (h j).1 ⟨y.1, y.2.1, x⟩
    · rcases y.2.2 with x2 | ⟨x2, x3⟩
      · exact absurd x2 x
      · have e1 : q.1 j = s j := (h j).2 (fun v => x v.2.2)
        refine absurd ?_ z
        rw [← x3, x2, y.2.1, e1, y.1]
        rfl
theorem push_n {kf s : Nat → Int32} {q : (Nat → Int32) × Int32} {w : Int32} {b : Bool} {c m : Nat} (h : q.2 = nI m ∧ (m = 0 → q.1 = s)) : ∃ m2, m2 ≤ m + 1 ∧ (pushC kf q w b c).2 = nI m2 ∧ (m2 = 0 → (pushC kf q w b c).1 = s) := by
  unfold pushC
  split
  · exact ⟨m + 1, Nat.le_refl _, by show q.2 + 1 = _; rw [h.1, nI_1], fun z => by omega⟩
  · exact ⟨m, by omega, h.1, h.2⟩
def rch (s : Nat → Int32) (n k c : Nat) : Prop := ∃ d, d < k ∧ s d = nI n ∧ nbP d c
theorem spr_acc {kf s : Nat → Int32} {n : Nat} (hn : n < 1000) : ∀ k, k ≤ 140 → Acc9 kf s (nI (n + 1)) (rch s n k) (sprF kf s (nI n) k).1 ∧ ∃ m, m ≤ 4 * k ∧ (sprF kf s (nI n) k).2 = nI m ∧ (m = 0 → (sprF kf s (nI n) k).1 = s) := by
  intro k
  induction k with
  | zero =>
    intro _
    refine ⟨fun j => ⟨fun z => ?_, fun _ => rfl⟩, 0, Nat.le_refl 0, rfl, fun _ => rfl⟩
    obtain ⟨-, -, d, hd, -⟩ := z
    exact absurd hd (Nat.not_lt_zero _)
  | succ k ih =>
    intro hk
    obtain ⟨hA, m, hm, e2, e3⟩ := ih (by omega)
    have hw : nI (n + 1) ≠ -1 := nI_m1 (by omega)
    have hS : (sprF kf s (nI n) k).1 k = nI n ↔ s k = nI n := by
      by_cases z : s k = -1 ∧ kSt kf (nI k) = true ∧ rch s n k k
      · rw [(hA k).1 z, z.1]
        exact ⟨fun y => absurd (nI_eq' y (by omega) (by omega)) (by omega), fun y => absurd y.symm (nI_m1 (by omega))⟩
      · rw [(hA k).2 z]
    unfold sprF
    by_cases q : s k = nI n
    · rw [if_pos (hS.mpr q), nI_1, dir1 (by omega), dir2 (by omega), dir3 (by omega), dir4 (by omega)]
      refine ⟨acc_iff (acc_push (acc_push (acc_push (acc_push hA hw) hw) hw) hw) (fun j => ?_), ?_⟩
      · constructor
        · rintro ((((⟨d, h1, h2, h3⟩ | ⟨h1, h2⟩) | ⟨h1, h2⟩) | ⟨h1, h2⟩) | ⟨h1, h2⟩)
          · exact ⟨d, by omega, h2, h3⟩
          · have h1 := of_decide_eq_true h1
            exact ⟨k, by omega, q, Or.inl ⟨by omega, by omega⟩⟩
          · have h1 := of_decide_eq_true h1
            exact ⟨k, by omega, q, Or.inr (Or.inl ⟨by omega, by omega⟩)⟩
          · have h1 := of_decide_eq_true h1
            exact ⟨k, by omega, q, Or.inr (Or.inr (Or.inl (by omega)))⟩
          · have h1 := of_decide_eq_true h1
            exact ⟨k, by omega, q, Or.inr (Or.inr (Or.inr ⟨by omega, by omega⟩))⟩
        · rintro ⟨d, h1, h2, h3⟩
          by_cases y : d < k
          · exact Or.inl (Or.inl (Or.inl (Or.inl ⟨d, y, h2, h3⟩)))
          · have ed : d = k := by omega
            subst ed
            rcases h3 with ⟨a, b⟩ | ⟨a, b⟩ | a | ⟨a, b⟩
            · exact Or.inl (Or.inl (Or.inl (Or.inr ⟨decide_eq_true b, by omega⟩)))
            · exact Or.inl (Or.inl (Or.inr ⟨decide_eq_true b, by omega⟩))
            · exact Or.inl (Or.inr ⟨decide_eq_true (by omega), by omega⟩)
            · exact Or.inr ⟨decide_eq_true b, by omega⟩
      · obtain ⟨m1, l1, p1⟩ := push_n (kf := kf) (w := nI (n + 1)) (b := decide (0 < k % 14)) (c := k - 1) ⟨e2, e3⟩
        obtain ⟨m2, l2, p2⟩ := push_n (kf := kf) (w := nI (n + 1)) (b := decide (k % 14 < 13)) (c := k + 1) p1
        obtain ⟨m3, l3, p3⟩ := push_n (kf := kf) (w := nI (n + 1)) (b := decide (14 ≤ k)) (c := k - 14) p2
        obtain ⟨m4, l4, p4⟩ := push_n (kf := kf) (w := nI (n + 1)) (b := decide (k + 14 < 140)) (c := k + 14) p3
        exact ⟨m4, by omega, p4⟩
    · rw [if_neg (fun y => q (hS.mp y))]
      refine ⟨acc_iff hA (fun j => ?_), m, by omega, e2, e3⟩
      constructor
      · rintro ⟨d, h1, h2, h3⟩; exact ⟨d, by omega, h2, h3⟩
      · rintro ⟨d, h1, h2, h3⟩
        refine ⟨d, ?_, h2, h3⟩
        rcases Nat.lt_or_ge d k with y | y
        · exact y
        · have ed : d = k := by omega
          rw [ed] at h2
          exact absurd h2 q
