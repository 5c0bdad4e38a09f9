/-! the reference's waves, and that both find the same way -/
theorem wyN_iff {s : Nat → Int32} {n k : Nat} (hk : k < 140) : wyN s n k = true ↔ rch s n 140 k := by
  simp only [wyN, Bool.and_eq_true, Bool.or_eq_true, decide_eq_true_eq]
  constructor
  · rintro (⟨a, b⟩ | ⟨a, b⟩ | ⟨a, b⟩ | ⟨a, b⟩)
    · exact ⟨k - 14, by omega, b, Or.inr (Or.inr (Or.inr ⟨by omega, by omega⟩))⟩
    · exact ⟨k + 14, by omega, b, Or.inr (Or.inr (Or.inl rfl))⟩
    · exact ⟨k - 1, by omega, b, Or.inr (Or.inl ⟨by omega, by omega⟩)⟩
    · exact ⟨k + 1, by omega, b, Or.inl ⟨rfl, by omega⟩⟩
  · rintro ⟨d, h1, h2, (⟨a, b⟩ | ⟨a, b⟩ | a | ⟨a, b⟩)⟩
    · exact Or.inr (Or.inr (Or.inr ⟨by omega, by rw [show k + 1 = d by omega]; exact h2⟩))
    · exact Or.inr (Or.inr (Or.inl ⟨by omega, by rw [show k - 1 = d by omega]; exact h2⟩))
    · exact Or.inr (Or.inl ⟨by omega, by rw [show k + 14 = d by omega]; exact h2⟩)
    · exact Or.inl ⟨by omega, by rw [show k - 14 = d by omega]; exact h2⟩
theorem rch_cong {s s2 : Nat → Int32} {n k c : Nat} (h : ∀ d, d < k → (s d = nI n ↔ s2 d = nI n)) : rch s n k c ↔ rch s2 n k c :=
  ⟨fun ⟨d, h1, h2, h3⟩ => ⟨d, h1, (h d h1).mp h2, h3⟩, fun ⟨d, h1, h2, h3⟩ => ⟨d, h1, (h d h1).mpr h2, h3⟩⟩
theorem wyI_spec {kf s : Nat → Int32} {U : fTn} {n : Nat} (hn : n < 1000) (hSt : ∀ c, c < 140 → mSt U (nI c) = kSt kf (nI c)) : ∀ k, k ≤ 140 → ∀ j, j < 140 → ((j < k ∧ s j = -1 ∧ kSt kf (nI j) = true ∧ rch s n 140 j) → wyI U n s k j = nI (n + 1)) ∧ (¬ (j < k ∧ s j = -1 ∧ kSt kf (nI j) = true ∧ rch s n 140 j) → wyI U n s k j = s j) := by
  intro k
  induction k with
  | zero => intro _ j hj; exact ⟨fun z => absurd z.1 (Nat.not_lt_zero _), fun _ => rfl⟩
  | succ k ih =>
    intro hk j hj
    have I := ih (by omega)
    have hd : ∀ d, d < 140 → (wyI U n s k d = nI n ↔ s d = nI n) := fun d hd0 => by
      by_cases z : d < k ∧ s d = -1 ∧ kSt kf (nI d) = true ∧ rch s n 140 d
      · rw [(I d hd0).1 z, z.2.1]
        exact ⟨fun y => absurd (nI_eq' y (by omega) (by omega)) (by omega), fun y => absurd y.symm (nI_m1 (by omega))⟩
      · rw [(I d hd0).2 z]
    have ek : wyI U n s k k = s k := (I k (by omega)).2 (fun z => absurd z.1 (Nat.lt_irrefl k))
    have hB : wyB U (wyI U n s k) n k = true ↔ (s k = -1 ∧ kSt kf (nI k) = true ∧ rch s n 140 k) := by
      unfold wyB
      rw [ek, hSt k (by omega)]
      simp only [Bool.and_eq_true, decide_eq_true_eq]
      rw [wyN_iff (by omega), rch_cong hd]
    show (_ → (if wyB U (wyI U n s k) n k = true then upd (wyI U n s k) k (nI (n + 1)) else wyI U n s k) j = nI (n + 1)) ∧ (_ → (if wyB U (wyI U n s k) n k = true then upd (wyI U n s k) k (nI (n + 1)) else wyI U n s k) j = s j)
    by_cases q : wyB U (wyI U n s k) n k = true
    · rw [if_pos q]
      by_cases e : j = k
      · rw [e, upd_at]
        have y := hB.mp q
        exact ⟨fun _ => rfl, fun z => absurd ⟨by omega, y⟩ z⟩
      · rw [upd_ne e]
        exact ⟨fun z => (I j hj).1 ⟨by omega, z.2⟩, fun z => (I j hj).2 (fun y => z ⟨by omega, y.2⟩)⟩
    · rw [if_neg q]
      refine ⟨fun z => ?_, fun z => (I j hj).2 (fun y => z ⟨by omega, y.2⟩)⟩
      by_cases e : j = k
      · rw [e] at z
        exact absurd (hB.mpr z.2) q
      · exact (I j hj).1 ⟨by omega, z.2⟩
/-- what holds of both behind n waves -/
def wvI (kf : Nat → Int32) (a n : Nat) (sT : Nat → Int32) (en : Int32) (sU : Nat → Int32) : Prop :=
  (∀ c, c < 140 → sT c = sU c) ∧ (∀ c, c < 140 → sU c = -1 ∨ ∃ m, m ≤ n ∧ sU c = nI m) ∧ (¬ 0 < en → ∀ c, c < 140 → sU c ≠ nI n) ∧ (∀ c, c < 140 → sU c = nI 0 → c = a) ∧ (∀ c, c < 140 → c ≠ a → sU c ≠ -1 → kSt kf (nI c) = true)
theorem if_same9 {α : Type} {P : Prop} (h : Decidable P) (x : α) : (if P then x else x) = x := by split <;> rfl
theorem wv_all {kf sf sp : Nat → Int32} {U : fTn} {a b : Nat} (hSt : ∀ c, c < 140 → mSt U (nI c) = kSt kf (nI c)) (ha : a < 140) (hb : b < 140) : ∀ n, n ≤ 140 → wvI kf a n (wavG kf sf a b n).1 (wavG kf sf a b n).2 (wyO U sp a b n) := by
  intro n
  induction n with
  | zero =>
    intro _
    have e : ∀ c, c < 140 → wyO U sp a b 0 c = if c = a then 0 else -1 := fun c hc => if_pos hc
    refine ⟨fun c hc => ?_, fun c hc => ?_, fun z => absurd (show (0 : Int32) < 1 by decide) z, fun c hc => ?_, fun c hc z1 => ?_⟩
    · rw [e c hc]
      show upd (fillF sf (-1) 140) a 0 c = _
      by_cases q : c = a
      · rw [q, upd_at, if_pos rfl]
      · rw [upd_ne q, if_neg q]; exact if_pos hc
    · rw [e c hc]
      split
      · exact Or.inr ⟨0, Nat.le_refl 0, rfl⟩
      · exact Or.inl rfl
    · rw [e c hc]
      split
      · intro _; assumption
      · intro z; exact absurd z (by decide)
    · rw [e c hc, if_neg z1]
      intro z; exact absurd rfl z
  | succ n ih =>
    intro hn
    obtain ⟨A, B, C, D, E⟩ := ih (by omega)
    obtain ⟨sT, hsT⟩ : ∃ z, z = (wavG kf sf a b n).1 := ⟨_, rfl⟩
    obtain ⟨en, hen⟩ : ∃ z, z = (wavG kf sf a b n).2 := ⟨_, rfl⟩
    obtain ⟨sU, hsU⟩ : ∃ z, z = wyO U sp a b n := ⟨_, rfl⟩
    have eT : wavG kf sf a b (n + 1) = if 0 < en then (if sT b = -1 then sprF kf sT (nI n) 140 else wavG kf sf a b n) else wavG kf sf a b n := by rw [hsT, hen]; rfl
    have eU : wyO U sp a b (n + 1) = if sU b = -1 then wyI U n sU 140 else sU := by rw [hsU]; rfl
    rw [← hsT, ← hsU] at A
    rw [← hsU] at B C D E
    rw [← hen] at C
    have B2 : ∀ c, c < 140 → sU c = -1 ∨ ∃ m, m ≤ n + 1 ∧ sU c = nI m := fun c hc => by
      rcases B c hc with z | ⟨m, hm, z⟩
      · exact Or.inl z
      · exact Or.inr ⟨m, by omega, z⟩
    have Bn : ∀ c, c < 140 → sU c ≠ nI (n + 1) := fun c hc z => by
      rcases B c hc with y | ⟨m, hm, y⟩
      · rw [y] at z; exact nI_m1 (n := n + 1) (by omega) z.symm
      · rw [y] at z
        have := nI_eq' z (by omega) (by omega)
        omega
    rw [eT, eU]
    by_cases q : sU b = -1
    · have I := wyI_spec (kf := kf) (s := sU) (U := U) (n := n) (by omega) hSt 140 (Nat.le_refl _)
      rw [if_pos q, if_pos (show sT b = -1 by rw [A b hb]; exact q)]
      have D2 : ∀ c, c < 140 → wyI U n sU 140 c = nI 0 → c = a := fun c hc => by
        by_cases z : c < 140 ∧ sU c = -1 ∧ kSt kf (nI c) = true ∧ rch sU n 140 c
        · rw [(I c hc).1 z]
          intro y
          have := nI_eq' y (by omega) (by omega)
          omega
        · rw [(I c hc).2 z]; exact D c hc
      have E2 : ∀ c, c < 140 → c ≠ a → wyI U n sU 140 c ≠ -1 → kSt kf (nI c) = true := fun c hc z1 => by
        by_cases z : c < 140 ∧ sU c = -1 ∧ kSt kf (nI c) = true ∧ rch sU n 140 c
        · intro _; exact z.2.2.1
        · rw [(I c hc).2 z]; exact E c hc z1
      have B3 : ∀ c, c < 140 → wyI U n sU 140 c = -1 ∨ ∃ m, m ≤ n + 1 ∧ wyI U n sU 140 c = nI m := fun c hc => by
        by_cases z : c < 140 ∧ sU c = -1 ∧ kSt kf (nI c) = true ∧ rch sU n 140 c
        · exact Or.inr ⟨n + 1, Nat.le_refl _, (I c hc).1 z⟩
        · rw [(I c hc).2 z]; exact B2 c hc
      by_cases q2 : 0 < en
      · rw [if_pos q2]
        obtain ⟨hA, m, hm9, em, e0⟩ := spr_acc (kf := kf) (s := sT) (n := n) (by omega) 140 (Nat.le_refl _)
        have hr : ∀ c, rch sT n 140 c ↔ rch sU n 140 c := fun c => rch_cong (fun d hd => by rw [A d hd])
        have A2 : ∀ c, c < 140 → (sprF kf sT (nI n) 140).1 c = wyI U n sU 140 c := fun c hc => by
          by_cases z : sT c = -1 ∧ kSt kf (nI c) = true ∧ rch sT n 140 c
          · rw [(hA c).1 z, (I c hc).1 ⟨hc, by rw [← A c hc]; exact z.1, z.2.1, (hr c).mp z.2.2⟩]
          · rw [(hA c).2 z, (I c hc).2 (fun y => z ⟨by rw [A c hc]; exact y.2.1, y.2.2.1, (hr c).mpr y.2.2.2⟩), A c hc]
        refine ⟨A2, B3, fun z c hc => ?_, D2, E2⟩
        have m0 : m = 0 := by
          rcases Nat.eq_zero_or_pos m with y | y
          · exact y
          · refine absurd ?_ z
            rw [em]
            exact nI_lt (a := 0) (b := m) y (by omega)
        rw [← A2 c hc, e0 m0, A c hc]
        exact Bn c hc
      · rw [if_neg q2]
        have nr : ∀ c, c < 140 → wyI U n sU 140 c = sU c := fun c hc => (I c hc).2 (fun z => by
          obtain ⟨-, -, -, d, hd, e, -⟩ := z
          exact C q2 d hd e)
        refine ⟨fun c hc => ?_, B3, fun _ c hc => ?_, D2, E2⟩
        · rw [← hsT, nr c hc]; exact A c hc
        · rw [nr c hc]; exact Bn c hc
    · rw [if_neg q, if_neg (show ¬ sT b = -1 by rw [A b hb]; exact q), if_same9 _ (wavG kf sf a b n)]
      exact ⟨by rw [← hsT]; exact A, B2, fun _ => Bn, D, E⟩
theorem way_same {kf sf sp : Nat → Int32} {U : fTn} {a b : Nat} (hSt : ∀ c, c < 140 → mSt U (nI c) = kSt kf (nI c)) (ha : a < 140) (hb : b < 140) (hk : kSt kf (nI a) = true) (hab : b ≠ a) : stepsR kf sf a b = wyO U sp a b 140 b ∧ (wyO U sp a b 140 b ≠ -1 → kSt kf (nI b) = true ∧ ∃ m, 1 ≤ m ∧ m ≤ 140 ∧ wyO U sp a b 140 b = nI m) := by
  obtain ⟨A, B, -, D, E⟩ := wv_all (sf := sf) (sp := sp) hSt ha hb 140 (Nat.le_refl _)
  refine ⟨?_, fun z => ⟨E b hb hab z, ?_⟩⟩
  · rcases hz : kSt kf (nI b) with - | -
    · rw [stepsR_no (by rw [hz, Bool.and_false])]
      by_cases y : wyO U sp a b 140 b = -1
      · exact y.symm
      · have := E b hb hab y
        rw [hz] at this
        exact absurd this Bool.false_ne_true
    · rw [stepsR_yes (by rw [hk, hz]; rfl)]
      exact A b hb
  · rcases B b hb with y | ⟨m, hm, y⟩
    · exact absurd y z
    · refine ⟨m, ?_, hm, y⟩
      rcases Nat.eq_zero_or_pos m with x | x
      · rw [x] at y
        exact absurd (D b hb y) hab
      · exact x
