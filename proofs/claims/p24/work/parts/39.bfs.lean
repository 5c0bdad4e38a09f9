/-! THE WAYS: waves and lines -/
theorem toInt_nI {n : Nat} (h : n < 2 ^ 31) : (nI n).toInt = (n : Int) := by
  unfold nI
  rw [Int32.toInt_ofNat_of_lt h]
theorem nI_m1 {n : Nat} (h : n < 2 ^ 31) : ¬ nI n = -1 := by
  intro z
  have e := congrArg Int32.toInt z
  rw [toInt_nI h, show (-1 : Int32).toInt = -1 from rfl] at e
  omega
/-! an engine's turn, as the reference does it -/
theorem kOf_nI {kf : Nat → Int32} {c : Nat} (hc : c < 140) : kOf kf (nI c) = kf c := by
  unfold kOf
  rw [if_neg (nI_pos (by omega)), if_neg (show ¬ (140 : Int32) ≤ nI c from fun z => absurd (nI_le' (a := 140) (b := c) z (by omega) (by omega)) (by omega)), nI_clamp (by omega)]
theorem kSt_nI {kf : Nat → Int32} {c : Nat} (hc : c < 140) : kSt kf (nI c) = decide (kf c = 0) := by
  unfold kSt
  rw [kOf_nI hc]
/-! the waves -/
def nbP (d c : Nat) : Prop := (c + 1 = d ∧ 0 < d % 14) ∨ (c = d + 1 ∧ d % 14 < 13) ∨ c + 14 = d ∨ (c = d + 14 ∧ d + 14 < 140)
def pushC (kf : Nat → Int32) (q : (Nat → Int32) × Int32) (w : Int32) (b : Bool) (c : Nat) : (Nat → Int32) × Int32 := if (b && (kSt kf (nI c) && decide (q.1 c = -1))) = true then (upd q.1 c w, q.2 + 1) else q
theorem ent_push {kf : Nat → Int32} {q : (Nat → Int32) × Int32} {x y w : Int32} {b : Bool} {c : Nat} (hb : aOn x y = b) (hxy : b = true → x + 14 * y = nI c) (hc : c < 1000) : entF kf q x y w = pushC kf q w b c := by
  unfold entF entS entC pushC
  rw [hb]
  cases b with
  | false =>
    rw [Bool.false_and, Bool.false_and, if_neg Bool.false_ne_true, if_neg Bool.false_ne_true]
    show (q.1, q.2 + 0) = q
    rw [Int32.add_zero]
  | true =>
    rw [hxy rfl, nI_clamp (by omega), Bool.true_and]
    rcases hz : (kSt kf (nI c) && decide (q.1 c = -1)) with - | -
    · rw [if_neg Bool.false_ne_true, if_neg Bool.false_ne_true]
      show (q.1, q.2 + 0) = q
      rw [Int32.add_zero]
    · rw [if_pos rfl, if_pos rfl]; rfl
theorem aOn_nI {a b : Nat} (ha : a < 1000) (hb : b < 1000) : aOn (nI a) (nI b) = (decide (a < 14) && decide (b < 10)) := by
  unfold aOn
  rw [decide_eq_true (nI_pos (n := a) (by omega)), decide_eq_true (nI_pos (n := b) (by omega)), Bool.true_and, Bool.true_and]
  congr 1
  · apply decide_eq_decide.mpr
    exact ⟨fun z => Nat.lt_of_not_le fun y => z (nI_le (a := 14) (b := a) y (by omega)), fun z y => absurd (nI_le' (a := 14) (b := a) y (by omega) (by omega)) (by omega)⟩
  · apply decide_eq_decide.mpr
    exact ⟨fun z => Nat.lt_of_not_le fun y => z (nI_le (a := 10) (b := b) y (by omega)), fun z y => absurd (nI_le' (a := 10) (b := b) y (by omega) (by omega)) (by omega)⟩
theorem aOn_x1 {y : Int32} : aOn (-1) y = false := rfl
theorem aOn_y1 {x : Int32} : aOn x (-1) = false := by
  unfold aOn
  rw [show decide (¬ (-1 : Int32) < 0) = false from rfl, Bool.false_and, Bool.and_false, Bool.and_false]
theorem xy_nI {a b : Nat} : nI a + 14 * nI b = nI (a + 14 * b) := by rw [show (14 : Int32) = nI 14 from rfl, pk_mul, nI_add]
theorem dir1 {kf : Nat → Int32} {q : (Nat → Int32) × Int32} {w : Int32} {k : Nat} (hk : k < 140) : entF kf q (iMod (nI k) - 1) (nI k / 14) w = pushC kf q w (decide (0 < k % 14)) (k - 1) := by
  have e1 : iMod (nI k) = nI (k % 14) := pk_rem (a := k) (d := 14) (by omega) (by omega) (by omega)
  have e3 : nI k / 14 = nI (k / 14) := pk_div (a := k) (d := 14) (by omega) (by omega) (by omega)
  rw [e1, e3]
  by_cases z : 0 < k % 14
  · have e : nI (k % 14) - 1 = nI (k % 14 - 1) := pk_sub (a := k % 14) (b := 1) (by omega)
    refine ent_push ?_ (fun _ => ?_) (by omega)
    · rw [e, aOn_nI (by omega) (by omega), decide_eq_true (show k % 14 - 1 < 14 by omega), decide_eq_true (show k / 14 < 10 by omega), decide_eq_true z]; rfl
    · rw [e, xy_nI]; congr 1; omega
  · refine ent_push ?_ (fun y => ?_) (by omega)
    · rw [show k % 14 = 0 by omega]; exact aOn_x1
    · exact absurd (of_decide_eq_true y) z
theorem dir2 {kf : Nat → Int32} {q : (Nat → Int32) × Int32} {w : Int32} {k : Nat} (hk : k < 140) : entF kf q (iMod (nI k) + 1) (nI k / 14) w = pushC kf q w (decide (k % 14 < 13)) (k + 1) := by
  have e1 : iMod (nI k) = nI (k % 14) := pk_rem (a := k) (d := 14) (by omega) (by omega) (by omega)
  have e3 : nI k / 14 = nI (k / 14) := pk_div (a := k) (d := 14) (by omega) (by omega) (by omega)
  rw [e1, e3, nI_1]
  refine ent_push ?_ (fun _ => ?_) (by omega)
  · rw [aOn_nI (by omega) (by omega), decide_eq_true (show k / 14 < 10 by omega), Bool.and_true]
    apply decide_eq_decide.mpr
    omega
  · rw [xy_nI]; congr 1; omega
theorem dir3 {kf : Nat → Int32} {q : (Nat → Int32) × Int32} {w : Int32} {k : Nat} (hk : k < 140) : entF kf q (iMod (nI k)) (nI k / 14 - 1) w = pushC kf q w (decide (14 ≤ k)) (k - 14) := by
  have e1 : iMod (nI k) = nI (k % 14) := pk_rem (a := k) (d := 14) (by omega) (by omega) (by omega)
  have e3 : nI k / 14 = nI (k / 14) := pk_div (a := k) (d := 14) (by omega) (by omega) (by omega)
  rw [e1, e3]
  by_cases z : 14 ≤ k
  · have e : nI (k / 14) - 1 = nI (k / 14 - 1) := pk_sub (a := k / 14) (b := 1) (by omega)
    refine ent_push ?_ (fun _ => ?_) (by omega)
    · rw [e, aOn_nI (by omega) (by omega), decide_eq_true (show k % 14 < 14 by omega), decide_eq_true (show k / 14 - 1 < 10 by omega), decide_eq_true z]; rfl
    · rw [e, xy_nI]; congr 1; omega
  · refine ent_push ?_ (fun y => ?_) (by omega)
    · rw [show k / 14 = 0 by omega, decide_eq_false z]; exact aOn_y1
    · exact absurd (of_decide_eq_true y) z
theorem dir4 {kf : Nat → Int32} {q : (Nat → Int32) × Int32} {w : Int32} {k : Nat} (hk : k < 140) : entF kf q (iMod (nI k)) (nI k / 14 + 1) w = pushC kf q w (decide (k + 14 < 140)) (k + 14) := by
  have e1 : iMod (nI k) = nI (k % 14) := pk_rem (a := k) (d := 14) (by omega) (by omega) (by omega)
  have e3 : nI k / 14 = nI (k / 14) := pk_div (a := k) (d := 14) (by omega) (by omega) (by omega)
  rw [e1, e3, nI_1]
  refine ent_push ?_ (fun _ => ?_) (by omega)
  · rw [aOn_nI (by omega) (by omega), decide_eq_true (show k % 14 < 14 by omega), Bool.true_and]
    apply decide_eq_decide.mpr
    omega
  · rw [xy_nI]; congr 1; omega
def Acc9 (kf s : Nat → Int32) (w : Int32) (P : Nat → Prop) (q : Nat → Int32) : Prop := ∀ j, ((s j = -1 ∧ kSt kf (nI j) = true ∧ P j) → q j = w) ∧ (¬ (s j = -1 ∧ kSt kf (nI j) = true ∧ P j) → q j = s j)
theorem acc_iff {kf s : Nat → Int32} {w : Int32} {P P2 : Nat → Prop} {q : Nat → Int32} (h : Acc9 kf s w P q) (e : ∀ j, P j ↔ P2 j) : Acc9 kf s w P2 q := fun j => by rw [← e j]; exact h j
theorem acc_push {kf s : Nat → Int32} {w : Int32} {P : Nat → Prop} {q : (Nat → Int32) × Int32} {b : Bool} {c : Nat} (h : Acc9 kf s w P q.1) (hw : w ≠ -1) : Acc9 kf s w (fun j => P j ∨ (b = true ∧ j = c)) (pushC kf q w b c).1 := by
  intro j
  unfold pushC
  by_cases z : (b && (kSt kf (nI c) && decide (q.1 c = -1))) = true
  · rw [if_pos z]
    simp only [Bool.and_eq_true, decide_eq_true_eq] at z
    obtain ⟨z1, z2, z3⟩ := z
    show (_ → upd q.1 c w j = w) ∧ (_ → upd q.1 c w j = s j)
    by_cases e : j = c
    · rw [e, upd_at]
      refine ⟨fun _ => rfl, fun y => ?_⟩
      have hs : s c = -1 := by
        by_cases x : s c = -1 ∧ kSt kf (nI c) = true ∧ P c
        · exact x.1
        · exact ((h c).2 x).symm.trans z3
      exact absurd ⟨hs, z2, Or.inr ⟨z1, rfl⟩⟩ y
    · rw [upd_ne e]
      refine ⟨fun y => (h j).1 ⟨y.1, y.2.1, ?_⟩, fun y => (h j).2 (fun x => y ⟨x.1, x.2.1, Or.inl x.2.2⟩)⟩
      rcases y.2.2 with x | ⟨-, x⟩
      · exact x
      · exact absurd x e
  · rw [if_neg z]
    refine ⟨fun y => ?_, fun y => (h j).2 (fun x => y ⟨x.1, x.2.1, Or.inl x.2.2⟩)⟩
    by_cases x : P j
    · exact (h j).1 ⟨y.1, y.2.1, x⟩
    · rcases y.2.2 with x2 | ⟨x2, x3⟩
      · exact absurd x2 x
      · have e1 : q.1 j = s j := (h j).2 (fun v => x v.2.2)
        refine absurd ?_ z
        rw [← x3, x2, y.2.1, e1, y.1]
        rfl
theorem push_n {kf s : Nat → Int32} {q : (Nat → Int32) × Int32} {w : Int32} {b : Bool} {c m : Nat} (h : q.2 = nI m ∧ (m = 0 → q.1 = s)) : ∃ m2, m2 ≤ m + 1 ∧ (pushC kf q w b c).2 = nI m2 ∧ (m2 = 0 → (pushC kf q w b c).1 = s) := by
  unfold pushC
  split
  · exact ⟨m + 1, Nat.le_refl _, by show q.2 + 1 = _; rw [h.1, nI_1], fun z => by omega⟩
  · exact ⟨m, by omega, h.1, h.2⟩
def rch (s : Nat → Int32) (n k c : Nat) : Prop := ∃ d, d < k ∧ s d = nI n ∧ nbP d c
theorem spr_acc {kf s : Nat → Int32} {n : Nat} (hn : n < 1000) : ∀ k, k ≤ 140 → Acc9 kf s (nI (n + 1)) (rch s n k) (sprF kf s (nI n) k).1 ∧ ∃ m, m ≤ 4 * k ∧ (sprF kf s (nI n) k).2 = nI m ∧ (m = 0 → (sprF kf s (nI n) k).1 = s) := by
  intro k
  induction k with
  | zero =>
    intro _
    refine ⟨fun j => ⟨fun z => ?_, fun _ => rfl⟩, 0, Nat.le_refl 0, rfl, fun _ => rfl⟩
    obtain ⟨-, -, d, hd, -⟩ := z
    exact absurd hd (Nat.not_lt_zero _)
  | succ k ih =>
    intro hk
    obtain ⟨hA, m, hm, e2, e3⟩ := ih (by omega)
    have hw : nI (n + 1) ≠ -1 := nI_m1 (by omega)
    have hS : (sprF kf s (nI n) k).1 k = nI n ↔ s k = nI n := by
      by_cases z : s k = -1 ∧ kSt kf (nI k) = true ∧ rch s n k k
      · rw [(hA k).1 z, z.1]
        exact ⟨fun y => absurd (nI_eq' y (by omega) (by omega)) (by omega), fun y => absurd y.symm (nI_m1 (by omega))⟩
      · rw [(hA k).2 z]
    unfold sprF
    by_cases q : s k = nI n
    · rw [if_pos (hS.mpr q), nI_1, dir1 (by omega), dir2 (by omega), dir3 (by omega), dir4 (by omega)]
      refine ⟨acc_iff (acc_push (acc_push (acc_push (acc_push hA hw) hw) hw) hw) (fun j => ?_), ?_⟩
      · constructor
        · rintro ((((⟨d, h1, h2, h3⟩ | ⟨h1, h2⟩) | ⟨h1, h2⟩) | ⟨h1, h2⟩) | ⟨h1, h2⟩)
          · exact ⟨d, by omega, h2, h3⟩
          · have h1 := of_decide_eq_true h1
            exact ⟨k, by omega, q, Or.inl ⟨by omega, by omega⟩⟩
          · have h1 := of_decide_eq_true h1
            exact ⟨k, by omega, q, Or.inr (Or.inl ⟨by omega, by omega⟩)⟩
          · have h1 := of_decide_eq_true h1
            exact ⟨k, by omega, q, Or.inr (Or.inr (Or.inl (by omega)))⟩
          · have h1 := of_decide_eq_true h1
            exact ⟨k, by omega, q, Or.inr (Or.inr (Or.inr ⟨by omega, by omega⟩))⟩
        · rintro ⟨d, h1, h2, h3⟩
          by_cases y : d < k
          · exact Or.inl (Or.inl (Or.inl (Or.inl ⟨d, y, h2, h3⟩)))
          · have ed : d = k := by omega
            subst ed
            rcases h3 with ⟨a, b⟩ | ⟨a, b⟩ | a | ⟨a, b⟩
            · exact Or.inl (Or.inl (Or.inl (Or.inr ⟨decide_eq_true b, by omega⟩)))
            · exact Or.inl (Or.inl (Or.inr ⟨decide_eq_true b, by omega⟩))
            · exact Or.inl (Or.inr ⟨decide_eq_true (by omega), by omega⟩)
            · exact Or.inr ⟨decide_eq_true b, by omega⟩
      · obtain ⟨m1, l1, p1⟩ := push_n (kf := kf) (w := nI (n + 1)) (b := decide (0 < k % 14)) (c := k - 1) ⟨e2, e3⟩
        obtain ⟨m2, l2, p2⟩ := push_n (kf := kf) (w := nI (n + 1)) (b := decide (k % 14 < 13)) (c := k + 1) p1
        obtain ⟨m3, l3, p3⟩ := push_n (kf := kf) (w := nI (n + 1)) (b := decide (14 ≤ k)) (c := k - 14) p2
        obtain ⟨m4, l4, p4⟩ := push_n (kf := kf) (w := nI (n + 1)) (b := decide (k + 14 < 140)) (c := k + 14) p3
        exact ⟨m4, by omega, p4⟩
    · rw [if_neg (fun y => q (hS.mp y))]
      refine ⟨acc_iff hA (fun j => ?_), m, by omega, e2, e3⟩
      constructor
      · rintro ⟨d, h1, h2, h3⟩; exact ⟨d, by omega, h2, h3⟩
      · rintro ⟨d, h1, h2, h3⟩
        refine ⟨d, ?_, h2, h3⟩
        rcases Nat.lt_or_ge d k with y | y
        · exact y
        · have ed : d = k := by omega
          rw [ed] at h2
          exact absurd h2 q

/-! the fewest steps, told without waves -/
def rchS (kf : Nat → Int32) (a : Nat) : Nat → Nat → Prop
  | 0, c => c = a
  | n + 1, c => c < 140 ∧ kf c = 0 ∧ ∃ d, rchS kf a n d ∧ nbP d c
def mind (kf : Nat → Int32) (a m c : Nat) : Prop := rchS kf a m c ∧ ∀ m2, m2 < m → ¬ rchS kf a m2 c
theorem rchS_lt {kf : Nat → Int32} {a n c : Nat} (ha : a < 140) (h : rchS kf a n c) : c < 140 := by
  cases n with
  | zero => rw [show c = a from h]; exact ha
  | succ n => exact h.1
def wvF (kf : Nat → Int32) (a n : Nat) (s : Nat → Int32) : Prop := ∀ c, c < 140 → (∃ m, m ≤ n ∧ s c = nI m ∧ mind kf a m c) ∨ (s c = -1 ∧ ∀ m, m ≤ n → ¬ rchS kf a m c)
theorem wv_step {kf : Nat → Int32} {a n : Nat} {s : Nat → Int32} (ha : a < 140) (hn : n < 1000) (h : wvF kf a n s) : wvF kf a (n + 1) (sprF kf s (nI n) 140).1 := by
  obtain ⟨hA, -⟩ := spr_acc (kf := kf) (s := s) (n := n) hn 140 (Nat.le_refl _)
  intro c hc
  rcases h c hc with ⟨m, h1, h2, h3⟩ | ⟨h1, h2⟩
  · refine Or.inl ⟨m, by omega, ?_, h3⟩
    rw [(hA c).2 (fun z => nI_m1 (n := m) (by omega) (h2.symm.trans z.1))]
    exact h2
  · by_cases z : s c = -1 ∧ kSt kf (nI c) = true ∧ rch s n 140 c
    · refine Or.inl ⟨n + 1, Nat.le_refl _, (hA c).1 z, ?_, fun m2 hm => h2 m2 (by omega)⟩
      obtain ⟨-, z2, d, hd, ed, nb⟩ := z
      rw [kSt_nI hc] at z2
      refine ⟨hc, of_decide_eq_true z2, d, ?_, nb⟩
      rcases h d hd with ⟨m, g1, g2, g3⟩ | ⟨g1, -⟩
      · have e : m = n := nI_eq' (g2.symm.trans ed) (by omega) (by omega)
        rw [e] at g3; exact g3.1
      · exact absurd (ed.symm.trans g1) (nI_m1 (by omega))
    · refine Or.inr ⟨by rw [(hA c).2 z]; exact h1, fun m hm hr => ?_⟩
      by_cases e : m ≤ n
      · exact h2 m e hr
      · have em : m = n + 1 := by omega
        subst em
        obtain ⟨-, hk, d, hd, nb⟩ := hr
        have hd4 := rchS_lt ha hd
        rcases h d hd4 with ⟨m, g1, g2, g3⟩ | ⟨g1, g2⟩
        · by_cases e2 : m = n
          · rw [e2] at g2
            exact z ⟨h1, by rw [kSt_nI hc]; exact decide_eq_true hk, d, hd4, g2, nb⟩
          · exact h2 (m + 1) (by omega) ⟨hc, hk, d, g3.1, nb⟩
        · exact g2 n (Nat.le_refl _) hd
theorem wv_end {kf : Nat → Int32} {a n : Nat} {s : Nat → Int32} (ha : a < 140) (hn : n < 1000) (h : wvF kf a n s) (h2 : wvF kf a (n + 1) s) : ∀ m c, rchS kf a m c → ∃ m2, m2 ≤ n ∧ rchS kf a m2 c := by
  intro m
  induction m with
  | zero => intro c hc; exact ⟨0, Nat.zero_le _, hc⟩
  | succ m ih =>
    intro c hc
    obtain ⟨hc4, hk, d, hd, nb⟩ := hc
    obtain ⟨m2, l2, r2⟩ := ih d hd
    have r3 : rchS kf a (m2 + 1) c := ⟨hc4, hk, d, r2, nb⟩
    rcases h2 c hc4 with ⟨m3, g1, g2, g3⟩ | ⟨-, g2⟩
    · rcases h c hc4 with ⟨m4, k1, k2, k3⟩ | ⟨k1, -⟩
      · exact ⟨m4, k1, k3.1⟩
      · exact absurd (g2.symm.trans k1) (nI_m1 (by omega))
    · exact absurd r3 (g2 (m2 + 1) (by omega))
theorem wv_fin {kf sf : Nat → Int32} {a b : Nat} (ha : a < 140) (hb : b < 140) (hab : b ≠ a) : ∀ n, n ≤ 140 → (∃ m, m ≤ n ∧ (wavG kf sf a b n).1 b = nI m ∧ mind kf a m b) ∨ ((wavG kf sf a b n).1 b = -1 ∧ ¬ 0 < (wavG kf sf a b n).2 ∧ ∀ m, ¬ rchS kf a m b) ∨ (wvF kf a n (wavG kf sf a b n).1 ∧ (wavG kf sf a b n).1 b = -1 ∧ 0 < (wavG kf sf a b n).2) := by
  intro n
  induction n with
  | zero =>
    intro _
    refine Or.inr (Or.inr ⟨fun c hc => ?_, ?_, by show (0 : Int32) < 1; decide⟩)
    · by_cases e : c = a
      · refine Or.inl ⟨0, Nat.le_refl _, ?_, e, fun m2 hm => absurd hm (Nat.not_lt_zero _)⟩
        show upd (fillF sf (-1) 140) a 0 c = 0
        rw [e, upd_at]
      · refine Or.inr ⟨?_, fun m hm hr => ?_⟩
        · show upd (fillF sf (-1) 140) a 0 c = -1
          rw [upd_ne e]; exact if_pos hc
        · rw [show m = 0 by omega] at hr; exact e hr
    · show upd (fillF sf (-1) 140) a 0 b = -1
      rw [upd_ne hab]; exact if_pos hb
  | succ n ih =>
    intro hn
    rcases ih (by omega) with ⟨m, h0, h1, h2⟩ | ⟨h1, h2, h3⟩ | ⟨h1, h2, h3⟩
    · have e : wavG kf sf a b (n + 1) = wavG kf sf a b n := by
        show (if 0 < (wavG kf sf a b n).2 then (if (wavG kf sf a b n).1 b = -1 then sprF kf (wavG kf sf a b n).1 (nI n) 140 else wavG kf sf a b n) else wavG kf sf a b n) = _
        rw [if_neg (show ¬ (wavG kf sf a b n).1 b = -1 from fun z => nI_m1 (n := m) (by omega) (h1.symm.trans z))]
        split <;> rfl
      rw [e]
      exact Or.inl ⟨m, by omega, h1, h2⟩
    · have e : wavG kf sf a b (n + 1) = wavG kf sf a b n := if_neg h2
      rw [e]
      exact Or.inr (Or.inl ⟨h1, h2, h3⟩)
    · have e : wavG kf sf a b (n + 1) = sprF kf (wavG kf sf a b n).1 (nI n) 140 := (if_pos h3).trans (if_pos h2)
      rw [e]
      have hs := wv_step ha (by omega) h1
      obtain ⟨-, m, hm, em, e0⟩ := spr_acc (kf := kf) (s := (wavG kf sf a b n).1) (n := n) (by omega) 140 (Nat.le_refl _)
      rcases hs b hb with ⟨m2, g1, g2, g3⟩ | ⟨g1, g2⟩
      · exact Or.inl ⟨m2, g1, g2, g3⟩
      · by_cases q : 0 < (sprF kf (wavG kf sf a b n).1 (nI n) 140).2
        · exact Or.inr (Or.inr ⟨hs, g1, q⟩)
        · refine Or.inr (Or.inl ⟨g1, q, fun m3 hr => ?_⟩)
          have m0 : m = 0 := by
            rcases Nat.eq_zero_or_pos m with y | y
            · exact y
            · refine absurd ?_ q
              rw [em]
              exact nI_lt (a := 0) (b := m) y (by omega)
          rw [e0 m0] at hs
          obtain ⟨m4, l4, r4⟩ := wv_end ha (by omega) h1 hs m3 b hr
          exact g2 m4 (by omega) r4
/-! the line of cells -/
def cntF (fr : Nat → Int32) : Nat → Nat
  | 0 => 0
  | k + 1 => cntF fr k + (if fr k = -1 then 0 else 1)
theorem cntF_le {fr : Nat → Int32} {n : Nat} : cntF fr n ≤ n := by
  induction n with
  | zero => exact Nat.le_refl _
  | succ n ih => unfold cntF; split <;> omega
theorem cntF_lt {fr : Nat → Int32} {n c : Nat} (hc : c < n) (h : fr c = -1) : cntF fr n < n := by
  induction n with
  | zero => exact absurd hc (Nat.not_lt_zero _)
  | succ n ih =>
    unfold cntF
    by_cases e : c = n
    · rw [← e, if_pos h]; have := cntF_le (fr := fr) (n := c); omega
    · have := ih (by omega); split <;> omega
theorem cntF_upd {fr : Nat → Int32} {n c : Nat} {v : Int32} (h : fr c = -1) (hv : v ≠ -1) : cntF (upd fr c v) n = cntF fr n + (if c < n then 1 else 0) := by
  induction n with
  | zero => rfl
  | succ n ih =>
    unfold cntF
    rw [ih]
    by_cases e : n = c
    · rw [← e, upd_at, if_neg hv, e, h, if_pos rfl, if_neg (Nat.lt_irrefl _), if_pos (Nat.lt_succ_self _)]
    · rw [upd_ne e]
      by_cases q : c < n
      · rw [if_pos q, if_pos (show c < n + 1 by omega)]; split <;> omega
      · rw [if_neg q, if_neg (show ¬ c < n + 1 by omega)]; omega
def nbi (d i c : Nat) : Prop := (i = 0 ∧ c + 14 = d) ∨ (i = 1 ∧ c + 1 = d ∧ 0 < d % 14) ∨ (i = 2 ∧ c = d + 1 ∧ d % 14 < 13) ∨ (i = 3 ∧ c = d + 14 ∧ d + 14 < 140)
theorem nbi_P {d c : Nat} : nbP d c ↔ ∃ i, i < 4 ∧ nbi d i c := by
  unfold nbP nbi
  constructor
  · rintro (⟨a, b⟩ | ⟨a, b⟩ | a | ⟨a, b⟩)
    · exact ⟨1, by omega, by omega⟩
    · exact ⟨2, by omega, by omega⟩
    · exact ⟨0, by omega, by omega⟩
    · exact ⟨3, by omega, by omega⟩
  · rintro ⟨i, hi, h⟩
    omega
/-- the four cells beside d as the law lays them: -1 or beyond the map where there is none -/
def nxA (d : Nat) : Nat → Int32 := upd (upd (upd (upd (fun _ => 0) 0 (nI d - 14)) 1 (if d % 14 = 0 then -1 else nI d - 1)) 2 (if d % 14 = 13 then -1 else nI d + 1)) 3 (nI d + 14)
theorem nx_of {d i c : Nat} (hd : d < 140) (h : nbi d i c) : nxA d i = nI c := by
  unfold nxA
  rcases h with ⟨rfl, h⟩ | ⟨rfl, h, h2⟩ | ⟨rfl, h, h2⟩ | ⟨rfl, h, h2⟩
  · rw [upd_ne (by omega), upd_ne (by omega), upd_ne (by omega), upd_at]
    rw [show nI d - 14 = nI (d - 14) from pk_sub (a := d) (b := 14) (by omega), show d - 14 = c by omega]
  · rw [upd_ne (by omega), upd_ne (by omega), upd_at, if_neg (by omega)]
    rw [show nI d - 1 = nI (d - 1) from pk_sub (a := d) (b := 1) (by omega), show d - 1 = c by omega]
  · rw [upd_ne (by omega), upd_at, if_neg (by omega), nI_1, h]
  · rw [upd_at, show nI d + 14 = nI (d + 14) from nI_add d 14, h]
theorem nx_to {d i c : Nat} (hd : d < 140) (hc : c < 140) (hi : i < 4) (h : nxA d i = nI c) : nbi d i c := by
  unfold nxA at h
  rcases (show i = 0 ∨ i = 1 ∨ i = 2 ∨ i = 3 by omega) with rfl | rfl | rfl | rfl
  · rw [upd_ne (by omega), upd_ne (by omega), upd_ne (by omega), upd_at] at h
    by_cases q : 14 ≤ d
    · rw [show nI d - 14 = nI (d - 14) from pk_sub (a := d) (b := 14) (by omega)] at h
      have := nI_eq' h (by omega) (by omega)
      exact Or.inl ⟨rfl, by omega⟩
    · have e := congrArg Int32.toInt h
      rw [toInt_nI (by omega), Int32.toInt_sub, toInt_nI (by omega), show (14 : Int32).toInt = 14 from rfl, Int.bmod_eq_of_le (by omega) (by omega)] at e
      omega
  · rw [upd_ne (by omega), upd_ne (by omega), upd_at] at h
    by_cases q : d % 14 = 0
    · rw [if_pos q] at h; exact absurd h.symm (nI_m1 (by omega))
    · rw [if_neg q, show nI d - 1 = nI (d - 1) from pk_sub (a := d) (b := 1) (by omega)] at h
      have := nI_eq' h (by omega) (by omega)
      exact Or.inr (Or.inl ⟨rfl, by omega, by omega⟩)
  · rw [upd_ne (by omega), upd_at] at h
    by_cases q : d % 14 = 13
    · rw [if_pos q] at h; exact absurd h.symm (nI_m1 (by omega))
    · rw [if_neg q, nI_1] at h
      have := nI_eq' h (by omega) (by omega)
      exact Or.inr (Or.inr (Or.inl ⟨rfl, by omega, by omega⟩))
  · rw [upd_at, show nI d + 14 = nI (d + 14) from nI_add d 14] at h
    have := nI_eq' h (by omega) (by omega)
    exact Or.inr (Or.inr (Or.inr ⟨rfl, by omega, by omega⟩))
/-- while cells are gone through: k are done, and of the next one i sides; n stand in the line -/
def bfI (kf : Nat → Int32) (a k i n : Nat) (fr ln : Nat → Int32) : Prop := ∃ (cl dv : Nat → Nat), k ≤ n ∧ n = cntF fr 140 ∧
  (∀ j, j < n → cl j < 140 ∧ ln j = nI (cl j) ∧ kf (cl j) = 0 ∧ fr (cl j) = nI (dv j) ∧ dv j ≤ j ∧ rchS kf a (dv j) (cl j)) ∧
  (∀ c, c < 140 → fr c = -1 ∨ ∃ j, j < n ∧ cl j = c) ∧ (∀ j j2, j ≤ j2 → j2 < n → dv j ≤ dv j2) ∧ (k < n → ∀ j, j < n → dv j ≤ dv k + 1) ∧
  (∀ j c, j < k → nbP (cl j) c → kf c = 0 → c < 140 → ∃ j2, j2 < n ∧ cl j2 = c ∧ dv j2 ≤ dv j + 1) ∧
  (∀ i2 c, i2 < i → k < n → nbi (cl k) i2 c → kf c = 0 → c < 140 → ∃ j2, j2 < n ∧ cl j2 = c ∧ dv j2 ≤ dv k + 1) ∧ (∃ j, j < n ∧ cl j = a ∧ dv j = 0)
theorem bf_0 {kf : Nat → Int32} {a : Nat} (ha : a < 140) (hk : kf a = 0) {f1 f2 : Nat → Int32} (h1 : ∀ j, j < 140 → f1 j = -1) : bfI kf a 0 0 1 (upd f1 a 0) (upd f2 0 (nI a)) := by
  have c0 : ∀ n, n ≤ 140 → cntF f1 n = 0 := by
    intro n
    induction n with
    | zero => intro _; rfl
    | succ n ih => intro hn; unfold cntF; rw [ih (by omega), h1 n (by omega), if_pos rfl]
  refine ⟨fun _ => a, fun _ => 0, by omega, ?_, fun j hj => ⟨ha, ?_, hk, upd_at, Nat.zero_le _, rfl⟩, fun c hc => ?_, fun _ _ _ _ => Nat.le_refl _, fun _ _ _ => Nat.zero_le _, fun j c hj => absurd hj (Nat.not_lt_zero _), fun i c hi => absurd hi (Nat.not_lt_zero _), 0, by omega, rfl, rfl⟩
  · rw [cntF_upd (h1 a ha) (by decide), c0 140 (Nat.le_refl _), if_pos ha]
  · rw [show j = 0 by omega, upd_at]
  · by_cases e : c = a
    · exact Or.inr ⟨0, by omega, e.symm⟩
    · exact Or.inl (by rw [upd_ne e]; exact h1 c hc)
theorem bf_n {kf : Nat → Int32} {a k i n : Nat} {fr ln : Nat → Int32} (h : bfI kf a k i n fr ln) : k ≤ n ∧ n ≤ 140 := by
  obtain ⟨cl, dv, h1, h2, -⟩ := h
  have := cntF_le (fr := fr) (n := 140)
  exact ⟨h1, by omega⟩
theorem bf_lt {kf : Nat → Int32} {a k i n c : Nat} {fr ln : Nat → Int32} (h : bfI kf a k i n fr ln) (hc : c < 140) (e : fr c = -1) : n < 140 := by
  obtain ⟨cl, dv, h1, h2, -⟩ := h
  have := cntF_lt hc e
  omega
theorem bf_at {kf : Nat → Int32} {a k i n : Nat} {fr ln : Nat → Int32} (h : bfI kf a k i n fr ln) (hk : k < n) : ∃ c, c < 140 ∧ ln k = nI c := by
  obtain ⟨cl, dv, h1, h2, h3, -⟩ := h
  exact ⟨cl k, (h3 k hk).1, (h3 k hk).2.1⟩
theorem bf_val {kf : Nat → Int32} {a k i n c : Nat} {fr ln : Nat → Int32} (h : bfI kf a k i n fr ln) (hc : c < 140) (e : ¬ 0 ≤ fr c) : fr c = -1 := by
  obtain ⟨cl, dv, h1, h2, h3, h4, -⟩ := h
  rcases h4 c hc with z | ⟨j, hj, ej⟩
  · exact z
  · refine absurd ?_ e
    have hb := cntF_le (fr := fr) (n := 140)
    rw [← ej, (h3 j hj).2.2.2.1]
    have := (h3 j hj).2.2.2.2.1
    exact Int32.not_lt.mp (nI_pos (by omega))
/-- a side that needs nothing -/
theorem bf_skip {kf : Nat → Int32} {a k i n d : Nat} {fr ln : Nat → Int32} (h : bfI kf a k i n fr ln) (hk : k < n) (hd : d < 140) (ed : ln k = nI d) (hs : ∀ c, c < 140 → nxA d i = nI c → kf c = 0 → 0 ≤ fr c) : bfI kf a k (i + 1) n fr ln := by
  obtain ⟨cl, dv, h1, h2, h3, h4, h5, h6, h7, h8, h9⟩ := h
  refine ⟨cl, dv, h1, h2, h3, h4, h5, h6, h7, fun i2 c hi hk2 hn hf hc => ?_, h9⟩
  by_cases e : i2 < i
  · exact h8 i2 c e hk2 hn hf hc
  · have ei : i2 = i := by omega
    rw [ei] at hn
    have ec : cl k = d := nI_eq' ((h3 k hk).2.1.symm.trans ed) (by have := (h3 k hk).1; omega) (by omega)
    rw [ec] at hn
    have z := hs c hc (nx_of hd hn) hf
    rcases h4 c hc with y | ⟨j, hj, ej⟩
    · rw [y] at z; exact absurd z (by decide)
    · exact ⟨j, hj, ej, h6 hk j hj⟩
theorem bf_push {kf : Nat → Int32} {a k i n d c : Nat} {fr ln : Nat → Int32} (h : bfI kf a k i n fr ln) (hk : k < n) (hi : i < 4) (hd : d < 140) (ed : ln k = nI d) (hc : c < 140) (ec : nxA d i = nI c) (hf : kf c = 0) (e1 : fr c = -1) : bfI kf a k (i + 1) (n + 1) (upd fr c (fr d + 1)) (upd ln n (nI c)) := by
  have hn4 := bf_lt h hc e1
  obtain ⟨cl, dv, h1, h2, h3, h4, h5, h6, h7, h8, h9⟩ := h
  have ecl : cl k = d := nI_eq' ((h3 k hk).2.1.symm.trans ed) (by have := (h3 k hk).1; omega) (by omega)
  have fd : fr d + 1 = nI (dv k + 1) := by rw [← ecl, (h3 k hk).2.2.2.1, nI_1]
  have dk := (h3 k hk).2.2.2.2.1
  have nb : nbi d i c := nx_to hd hc hi ec
  have hnb : nbP (cl k) c := by rw [ecl]; exact nbi_P.mpr ⟨i, hi, nb⟩
  have old : ∀ j, j < n → cl j ≠ c := fun j hj z => by
    have := (h3 j hj).2.2.2.1
    rw [z, e1] at this
    have l := (h3 j hj).2.2.2.2.1
    exact nI_m1 (n := dv j) (by omega) this.symm
  rw [fd]
  refine ⟨fun j => if j = n then c else cl j, fun j => if j = n then dv k + 1 else dv j, by omega, ?_, fun j hj => ?_, fun c2 hc2 => ?_, fun j j2 hj hj2 => ?_, fun _ j hj => ?_, fun j c2 hj hp hf2 hc2 => ?_, fun i2 c2 hi2 _ hp hf2 hc2 => ?_, ?_⟩
  · rw [cntF_upd e1 (fun z => nI_m1 (n := dv k + 1) (by omega) z), if_pos hc, ← h2]
  · by_cases e : j = n
    · simp only [e, if_true]
      refine ⟨hc, upd_at, hf, upd_at, by omega, hc, hf, cl k, (h3 k hk).2.2.2.2.2, hnb⟩
    · simp only [e, if_false]
      obtain ⟨g1, g2, g3, g4, g5, g6⟩ := h3 j (by omega)
      exact ⟨g1, by rw [upd_ne e]; exact g2, g3, by rw [upd_ne (old j (by omega))]; exact g4, g5, g6⟩
  · by_cases e : c2 = c
    · exact Or.inr ⟨n, by omega, (if_pos rfl).trans e.symm⟩
    · rw [upd_ne e]
      rcases h4 c2 hc2 with z | ⟨j, hj, ej⟩
      · exact Or.inl z
      · exact Or.inr ⟨j, by omega, (if_neg (by omega)).trans ej⟩
  · show (if j = n then dv k + 1 else dv j) ≤ (if j2 = n then dv k + 1 else dv j2)
    by_cases e2 : j2 = n
    · rw [if_pos e2]
      by_cases e : j = n
      · rw [if_pos e]; exact Nat.le_refl _
      · rw [if_neg e]; exact h6 hk j (by omega)
    · rw [if_neg e2, if_neg (by omega)]; exact h5 j j2 hj (by omega)
  · show (if j = n then dv k + 1 else dv j) ≤ (if k = n then dv k + 1 else dv k) + 1
    rw [if_neg (show ¬ k = n by omega)]
    by_cases e : j = n
    · rw [if_pos e]; exact Nat.le_refl _
    · rw [if_neg e]; exact h6 hk j (by omega)
  · rw [show (fun j => if j = n then c else cl j) j = cl j from if_neg (by omega)] at hp
    obtain ⟨j2, g1, g2, g3⟩ := h7 j c2 hj hp hf2 hc2
    refine ⟨j2, by omega, (if_neg (by omega)).trans g2, ?_⟩
    show (if j2 = n then dv k + 1 else dv j2) ≤ (if j = n then dv k + 1 else dv j) + 1
    rw [if_neg (show ¬ j2 = n by omega), if_neg (show ¬ j = n by omega)]; exact g3
  · rw [show (fun j => if j = n then c else cl j) k = cl k from if_neg (by omega)] at hp
    by_cases e : i2 < i
    · obtain ⟨j2, g1, g2, g3⟩ := h8 i2 c2 e hk hp hf2 hc2
      refine ⟨j2, by omega, (if_neg (by omega)).trans g2, ?_⟩
      show (if j2 = n then dv k + 1 else dv j2) ≤ (if k = n then dv k + 1 else dv k) + 1
      rw [if_neg (show ¬ j2 = n by omega), if_neg (show ¬ k = n by omega)]; exact g3
    · have ei : i2 = i := by omega
      rw [ei, ecl] at hp
      have z : c2 = c := nI_eq' ((nx_of hd hp).symm.trans ec) (by omega) (by omega)
      refine ⟨n, by omega, (if_pos rfl).trans z.symm, ?_⟩
      show (if n = n then dv k + 1 else dv n) ≤ (if k = n then dv k + 1 else dv k) + 1
      rw [if_pos rfl, if_neg (show ¬ k = n by omega)]; exact Nat.le_refl _
  · obtain ⟨j, g1, g2, g3⟩ := h9
    refine ⟨j, by omega, ?_, ?_⟩
    · show (if j = n then c else cl j) = a
      rw [if_neg (by omega)]; exact g2
    · show (if j = n then dv k + 1 else dv j) = 0
      rw [if_neg (by omega)]; exact g3
theorem bf_next {kf : Nat → Int32} {a k n : Nat} {fr ln : Nat → Int32} (h : bfI kf a k 4 n fr ln) (hk : k < n) : bfI kf a (k + 1) 0 n fr ln := by
  obtain ⟨cl, dv, h1, h2, h3, h4, h5, h6, h7, h8, h9⟩ := h
  refine ⟨cl, dv, hk, h2, h3, h4, h5, fun hk2 j hj => ?_, fun j c hj hp hf hc => ?_, fun i c hi => absurd hi (Nat.not_lt_zero _), h9⟩
  · have a1 := h6 hk j hj
    have a2 := h5 k (k + 1) (by omega) hk2
    omega
  · by_cases e : j < k
    · exact h7 j c e hp hf hc
    · have ej : j = k := by omega
      rw [ej] at hp ⊢
      obtain ⟨i, hi, nb⟩ := nbi_P.mp hp
      exact h8 i c hi hk nb hf hc
theorem bf_end {kf sf : Nat → Int32} {a b n : Nat} {fr ln : Nat → Int32} (h : bfI kf a n 0 n fr ln) (ha : a < 140) (hb : b < 140) (hab : b ≠ a) (hka : kf a = 0) : fr b = stepsR kf sf a b := by
  have hn4 := (bf_n h).2
  obtain ⟨cl, dv, h1, h2, h3, h4, h5, h6, h7, h8, h9⟩ := h
  have all : ∀ m c, rchS kf a m c → ∃ j, j < n ∧ cl j = c ∧ dv j ≤ m := by
    intro m
    induction m with
    | zero =>
      intro c hc
      obtain ⟨j, g1, g2, g3⟩ := h9
      exact ⟨j, g1, by rw [g2]; exact hc.symm, by omega⟩
    | succ m ih =>
      rintro c ⟨hc, hf, d, hd, nb⟩
      obtain ⟨j, g1, g2, g3⟩ := ih d hd
      rw [← g2] at nb
      obtain ⟨j2, k1, k2, k3⟩ := h7 j c g1 nb hf hc
      exact ⟨j2, k1, k2, by omega⟩
  have W := wv_fin (kf := kf) (sf := sf) ha hb hab 140 (Nat.le_refl _)
  have eR : kf b = 0 → stepsR kf sf a b = (wavG kf sf a b 140).1 b := fun z => stepsR_yes (by rw [kSt_nI ha, kSt_nI hb, hka, z]; rfl)
  have eN : ¬ kf b = 0 → stepsR kf sf a b = -1 := fun z => stepsR_no (by rw [kSt_nI ha, kSt_nI hb, decide_eq_false z, Bool.and_false])
  rcases h4 b hb with z | ⟨j, hj, ej⟩
  · have no : ∀ m, ¬ rchS kf a m b := fun m hr => by
      obtain ⟨j, g1, g2, g3⟩ := all m b hr
      have := (h3 j g1).2.2.2.1
      rw [g2, z] at this
      have l := (h3 j g1).2.2.2.2.1
      exact nI_m1 (n := dv j) (by omega) this.symm
    rw [z]
    by_cases hk : kf b = 0
    · rw [eR hk]
      rcases W with ⟨m, -, -, g⟩ | ⟨g, -, -⟩ | ⟨-, g, -⟩
      · exact absurd g.1 (no m)
      · exact g.symm
      · exact g.symm
    · rw [eN hk]
  · obtain ⟨g1, g2, g3, g4, g5, g6⟩ := h3 j hj
    rw [ej] at g3 g4 g6
    rw [g4, eR g3]
    rcases W with ⟨m, l, g, q⟩ | ⟨-, -, q⟩ | ⟨w, g, -⟩
    · rw [g]
      refine congrArg nI ?_
      rcases Nat.lt_trichotomy (dv j) m with y | y | y
      · exact absurd g6 (q.2 _ y)
      · exact y
      · obtain ⟨j2, k1, k2, k3⟩ := all m b q.1
        have e := (h3 j2 k1).2.2.2.1
        rw [k2, g4] at e
        have l2 := (h3 j2 k1).2.2.2.2.1
        have := nI_eq' e (by omega) (by omega)
        omega
    · exact absurd g6 (q _)
    · rcases w b hb with ⟨m, l, q, -⟩ | ⟨-, q⟩
      · exact absurd (q.symm.trans g) (nI_m1 (by omega))
      · exact absurd g6 (q _ (by omega))
/-- what the ways need of a way's length -/
theorem steps_ok {kf sf : Nat → Int32} {a b : Nat} (ha : a < 140) (hb : b < 140) (hab : b ≠ a) (h : stepsR kf sf a b ≠ -1) : kf b = 0 ∧ ∃ m, 1 ≤ m ∧ m ≤ 140 ∧ stepsR kf sf a b = nI m := by
  rcases hz : (kSt kf (nI a) && kSt kf (nI b)) with - | -
  · exact absurd (stepsR_no hz) h
  · have hk : kf b = 0 := by
      simp only [Bool.and_eq_true] at hz
      have := hz.2
      rw [kSt_nI hb] at this
      exact of_decide_eq_true this
    refine ⟨hk, ?_⟩
    rw [stepsR_yes hz] at h ⊢
    rcases wv_fin (kf := kf) (sf := sf) ha hb hab 140 (Nat.le_refl _) with ⟨m, l, g, q⟩ | ⟨g, -, -⟩ | ⟨-, g, -⟩
    · refine ⟨m, ?_, l, g⟩
      rcases Nat.eq_zero_or_pos m with y | y
      · rw [y] at q; exact absurd q.1 hab
      · exact y
    · exact absurd g h
    · exact absurd g h
