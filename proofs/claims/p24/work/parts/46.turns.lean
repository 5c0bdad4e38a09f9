/-! THE TURNS: what they keep, told in natural numbers; the law's town beside the class's -/
section TNCOL
variable {T : fTn} {e p s g i h a j : Nat}
theorem tnX_8 : tE (tnX T e p s g) j 8 = tE T j 8 := by
  show (if j = e then upd (upd (tE T e) 10 1) 9 (nI g) else tE T j) 8 = _
  by_cases q : j = e
  · rw [if_pos q, upd_ne (by omega), upd_ne (by omega), q]
  · rw [if_neg q]
theorem tnX_9 : tE (tnX T e p s g) j 9 = if j = e then nI g else tE T j 9 := by
  show (if j = e then upd (upd (tE T e) 10 1) 9 (nI g) else tE T j) 9 = _
  by_cases q : j = e
  · rw [if_pos q, if_pos q, upd_at]
  · rw [if_neg q, if_neg q]
theorem tnX_10 : tE (tnX T e p s g) j 10 = if j = e then 1 else tE T j 10 := by
  show (if j = e then upd (upd (tE T e) 10 1) 9 (nI g) else tE T j) 10 = _
  by_cases q : j = e
  · rw [if_pos q, if_pos q, upd_ne (by omega), upd_at]
  · rw [if_neg q, if_neg q]
theorem tnE_8 : tE (tnE T e p s g i a) j 8 = if j = i then tE T i 8 + nI a else tE T j 8 := by
  show (if j = i then upd (tE (tnX T e p s g) i) 8 (tE T i 8 + nI a) else tE (tnX T e p s g) j) 8 = _
  by_cases q : j = i
  · rw [if_pos q, if_pos q, upd_at]
  · rw [if_neg q, if_neg q, tnX_8]
theorem tnE_9 : tE (tnE T e p s g i a) j 9 = if j = e then nI g else tE T j 9 := by
  show (if j = i then upd (tE (tnX T e p s g) i) 8 (tE T i 8 + nI a) else tE (tnX T e p s g) j) 9 = _
  by_cases q : j = i
  · rw [if_pos q, upd_ne (by omega), tnX_9, q]
  · rw [if_neg q, tnX_9]
theorem tnE_10 : tE (tnE T e p s g i a) j 10 = if j = e then 1 else tE T j 10 := by
  show (if j = i then upd (tE (tnX T e p s g) i) 8 (tE T i 8 + nI a) else tE (tnX T e p s g) j) 10 = _
  by_cases q : j = i
  · rw [if_pos q, upd_ne (by omega), tnX_10, q]
  · rw [if_neg q, tnX_10]
theorem tnP_1 : tP (Pd T p s) j 1 = if j = p then tP T p 1 - nI s else tP T j 1 := by
  show (if j = p then upd (tP T p) 1 (tP T p 1 - nI s) else tP T j) 1 = _
  by_cases q : j = p
  · rw [if_pos q, if_pos q, upd_at]
  · rw [if_neg q, if_neg q]
theorem tnP_0 : tP (Pd T p s) j 0 = tP T j 0 := by
  show (if j = p then upd (tP T p) 1 (tP T p 1 - nI s) else tP T j) 0 = _
  by_cases q : j = p
  · rw [if_pos q, upd_ne (by omega), q]
  · rw [if_neg q]
theorem tnH_5 : tH (tnH T e p s g h a) j 5 = if j = h then tH T h 5 + nI a else tH T j 5 := by
  show (if j = h then upd (upd (tH T h) 5 (tH T h 5 + nI a)) 6 (tH T h 6 + nI a) else tH T j) 5 = _
  by_cases q : j = h
  · rw [if_pos q, if_pos q, upd_ne (by omega), upd_at]
  · rw [if_neg q, if_neg q]
theorem tnH_6 : tH (tnH T e p s g h a) j 6 = if j = h then tH T h 6 + nI a else tH T j 6 := by
  show (if j = h then upd (upd (tH T h) 5 (tH T h 5 + nI a)) 6 (tH T h 6 + nI a) else tH T j) 6 = _
  by_cases q : j = h
  · rw [if_pos q, if_pos q, upd_at]
  · rw [if_neg q, if_neg q]
theorem tnH_k {k : Nat} (h5 : k ≠ 5) (h6 : k ≠ 6) : tH (tnH T e p s g h a) j k = tH T j k := by
  show (if j = h then upd (upd (tH T h) 5 (tH T h 5 + nI a)) 6 (tH T h 6 + nI a) else tH T j) k = _
  by_cases q : j = h
  · rw [if_pos q, upd_ne h6, upd_ne h5, q]
  · rw [if_neg q]
end TNCOL
def uN (T : fTn) (c : Nat → Nat) : Nat → Nat := fun j => if tE T j 10 = 0 then c j else 0
def gvN (T : fTn) (v : Nat → Nat) : Nat → Nat := fun j => if 100 ≤ tE T j 7 then v j else 0
def ntW (T : fTn) (c w q v : Nat → Nat) : Prop := (∀ j, j < tEn T → tE T j 8 = nI (c j)) ∧ (∀ h, h < tHn T → tH T h 5 = nI (w h)) ∧ (∀ p, p < tPn T → tP T p 1 = nI (q p)) ∧ ∀ j, j < tEn T → tE T j 9 = nI (v j)
/-- while the engines get their turns -/
def ntI (T : fTn) (mx q0 : Nat → Nat) (k : Nat) (c w q v : Nat → Nat) : Prop :=
  ntW T c w q v ∧ ((∀ j, j < tEn T → c j ≤ 100 * k) ∧ (∀ h, h < tHn T → w h ≤ 100 * k) ∧ (∀ p, p < tPn T → q p ≤ q0 p) ∧ (∀ j, j < tEn T → v j ≤ mx j)) ∧
  sumN w (tHn T) + sumN (uN T c) (tEn T) + sumN q (tPn T) ≤ sumN q0 (tPn T) ∧ sumN w (tHn T) ≤ sumN (gvN T v) (tEn T) ∧ (0 < sumN (gvN T v) (tEn T) → 0 < sumN w (tHn T)) ∧ ∀ j, j < tEn T → (tE T j 7 = -1 ∨ tE T j 10 = 0) → v j = 0
/-- what no turn changes -/
def ntS (T : fTn) (mx q0 : Nat → Nat) : Prop := hsOk T ∧ (∀ j, j < tEn T → ePump (tE T j) = nI (mx j) ∧ mx j ≤ 100) ∧ (∀ p, p < tPn T → q0 p ≤ 5000) ∧ tHn T ≤ 30 ∧ tPn T ≤ 6 ∧ tEn T ≤ 6
theorem hsOk_fr {T T2 : fTn} (h : hsOk T) (f : frW T2 T) : hsOk T2 := by
  obtain ⟨⟨-, n1, n2, n3⟩, fH, -, fE⟩ := f
  intro j hj
  rw [n3] at hj
  rw [fE j 7 (by omega), fE j 0 (by omega), n1, n3]
  rcases h j hj with z | ⟨i, L, a, b, c, d, e⟩ | ⟨i, L, a, c, d, e⟩
  · exact Or.inl z
  · exact Or.inr (Or.inl ⟨i, L, a, b, c, by rw [fE i 0 (by omega)]; exact d, e⟩)
  · exact Or.inr (Or.inr ⟨i, L, a, c, by rw [fH i 0 (by omega) (by omega)]; exact d, e⟩)
theorem ntS_fr {T T2 : fTn} {mx q0 : Nat → Nat} (h : ntS T mx q0) (f : frW T2 T) : ntS T2 mx q0 := by
  obtain ⟨h1, h2, h3, h4, h5, h6⟩ := h
  have h1' := hsOk_fr h1 f
  obtain ⟨⟨-, n1, n2, n3⟩, fH, -, fE⟩ := f
  refine ⟨h1', fun j hj => ?_, fun p hp => h3 p (by omega), by omega, by omega, by omega⟩
  rw [n3] at hj
  rw [ePump_cong (fE j 2 (by omega)) (fE j 4 (by omega)) (fE j 5 (by omega))]
  exact h2 j hj
theorem big100 {x : Nat} (h : x < 100) : ¬ (100 : Int32) ≤ nI x := fun z => absurd (nI_le' (a := 100) (b := x) z (by omega) (by omega)) (by omega)
theorem big100b {x : Nat} (h : x < 1000) : (100 : Int32) ≤ nI (100 + x) := nI_le (a := 100) (b := 100 + x) (by omega) (by omega)
theorem suckQ {T : fTn} {f : Nat → Int32} {m c p s : Nat} {q q0 : Nat → Nat} (h : suck T f m c q p s) (hW : ∀ p, p < tPn T → tP T p 1 = nI (q p)) (hq : ∀ p, p < tPn T → q p ≤ q0 p) (hq0 : ∀ p, p < tPn T → q0 p ≤ 5000) :
    (∀ p2, p2 < tPn T → tP (Pd T p s) p2 1 = nI (updN q p (q p - s) p2)) ∧ sumN (updN q p (q p - s)) (tPn T) + s = sumN q (tPn T) ∧ ∀ p2, p2 < tPn T → updN q p (q p - s) p2 ≤ q0 p2 := by
  obtain ⟨-, hs⟩ := suck_b h
  refine ⟨fun p2 hp2 => ?_, ?_, fun p2 hp2 => ?_⟩
  · rw [tnP_1]
    by_cases e : p2 = p
    · rw [if_pos e, ← e, updN_at, hW p2 hp2]
      refine pk_sub ?_
      rcases hs with z | ⟨-, z⟩
      · rw [z]; exact Nat.zero_le _
      · rw [e]; exact z
    · rw [if_neg e, updN_ne e]; exact hW p2 hp2
  · rcases hs with z | ⟨z1, z2⟩
    · rw [z, Nat.sub_zero, Nat.add_zero]
      exact sumN_cong (fun i _ => by by_cases e : i = p; · rw [e, updN_at]
                                     · rw [updN_ne e])
    · have := sumN_upd (f := q) (v := q p - s) z1
      omega
  · by_cases e : p2 = p
    · rw [e, updN_at]; have := hq p (by omega); omega
    · rw [updN_ne e]; exact hq p2 hp2
theorem turn_nt {T : fTn} {mx q0 c w q v : Nat → Nat} {k e : Nat} (hI : ntI T mx q0 k c w q v) (hS : ntS T mx q0) (hk : k ≤ 9) (he : e < tEn T) (hx : nextE T = nI e) (h10 : tE T e 10 = 0) : ∃ c2 w2 q2 v2, ntI (turnT T) mx q0 (k + 1) c2 w2 q2 v2 := by
  obtain ⟨⟨w8, w5, wp, w9⟩, ⟨b1, b2, b3, b4⟩, s1, s2, s3, s4⟩ := hI
  obtain ⟨t1, t2, t3, n1, n2, n3⟩ := hS
  obtain ⟨pm, pm1⟩ := t2 e he
  have bce := b1 e he
  have ue : uN T c e = c e := if_pos h10
  have F := turn_form he hx t1 pm (by omega) (w8 e he) (by omega) (q := q) (fun p hp => ⟨wp p hp, by have := b3 p hp; have := t3 p hp; omega⟩) n1 n2 n3
  rcases F with ⟨h7, eT⟩ | ⟨i, L, p, s, hi, hne, h7, -, hL, hs, eT⟩ | ⟨h, L, p, s, hi, h7, -, hL, hs, eT⟩
  · rw [eT]
    refine ⟨c, w, q, v, ⟨fun j hj => (sE_col (by omega)).trans (w8 j hj), w5, wp, fun j hj => (sE_col (by omega)).trans (w9 j hj)⟩, ⟨fun j hj => by have := b1 j hj; omega, fun j hj => by have := b2 j hj; omega, b3, b4⟩, ?_, ?_, ?_, fun j hj hz => ?_⟩
    · have : sumN (uN (sE T e (upd (tE T e) 10 1)) c) (tEn T) ≤ sumN (uN T c) (tEn T) := sumN_le (fun j hj => by
        unfold uN
        rw [tE_at]
        by_cases z : j = e
        · rw [if_pos z, if_neg (by decide)]; exact Nat.zero_le _
        · rw [if_neg z]; exact Nat.le_refl _)
      show sumN w (tHn T) + sumN (uN (sE T e (upd (tE T e) 10 1)) c) (tEn T) + sumN q (tPn T) ≤ sumN q0 (tPn T)
      omega
    · have : sumN (gvN (sE T e (upd (tE T e) 10 1)) v) (tEn T) = sumN (gvN T v) (tEn T) := sumN_cong (fun j hj => by unfold gvN; rw [sE_col (by omega)])
      show sumN w (tHn T) ≤ sumN (gvN (sE T e (upd (tE T e) 10 1)) v) (tEn T)
      omega
    · have : sumN (gvN (sE T e (upd (tE T e) 10 1)) v) (tEn T) = sumN (gvN T v) (tEn T) := sumN_cong (fun j hj => by unfold gvN; rw [sE_col (by omega)])
      show 0 < sumN (gvN (sE T e (upd (tE T e) 10 1)) v) (tEn T) → 0 < sumN w (tHn T)
      omega
    · rw [sE_col (by omega), tE_at] at hz
      by_cases z : j = e
      · rw [z]; exact s4 e he (Or.inr h10)
      · rw [if_neg z] at hz; exact s4 j hj hz
  · obtain ⟨g, hg⟩ : ∃ g, g = min (mx e) (c e + s) := ⟨_, rfl⟩
    rw [← hg] at eT
    obtain ⟨a, ha⟩ : ∃ a, a = arrN g L := ⟨_, rfl⟩
    rw [← ha] at eT
    have al : a ≤ g := by rw [ha]; exact arrN_le g L
    obtain ⟨sp1, sp2, sp3⟩ := suckQ hs wp b3 t3
    rw [eT]
    refine ⟨updN c i (c i + a), w, updN q p (q p - s), updN v e g, ⟨fun j hj => ?_, w5, sp1, fun j hj => ?_⟩, ⟨fun j hj => ?_, fun j hj => by have := b2 j hj; omega, sp3, fun j hj => ?_⟩, ?_, ?_, ?_, fun j hj hz => ?_⟩
    · rw [tnE_8]
      by_cases z : j = i
      · rw [if_pos z, z, updN_at, w8 i hi, nI_add]
      · rw [if_neg z, updN_ne z]; exact w8 j hj
    · rw [tnE_9]
      by_cases z : j = e
      · rw [if_pos z, z, updN_at]
      · rw [if_neg z, updN_ne z]; exact w9 j hj
    · by_cases z : j = i
      · rw [z, updN_at]; have := b1 i hi; omega
      · rw [updN_ne z]; have := b1 j hj; omega
    · by_cases z : j = e
      · rw [z, updN_at]; omega
      · rw [updN_ne z]; exact b4 j hj
    · have u1 : sumN (uN (tnE T e p s g i a) (updN c i (c i + a))) (tEn T) ≤ sumN (updN (updN (uN T c) i (uN T c i + a)) e 0) (tEn T) := sumN_le (fun j hj => by
        show (if tE (tnE T e p s g i a) j 10 = 0 then updN c i (c i + a) j else 0) ≤ _
        rw [tnE_10]
        by_cases z : j = e
        · rw [if_pos z, if_neg (by decide)]; exact Nat.zero_le _
        · rw [if_neg z, updN_ne z]
          by_cases y : j = i
          · rw [y, updN_at, updN_at]
            unfold uN
            split <;> omega
          · rw [updN_ne y, updN_ne y]; exact Nat.le_refl _)
      have u2 := sumN_upd (f := updN (uN T c) i (uN T c i + a)) (v := 0) he
      rw [updN_ne (show e ≠ i from fun z => hne z.symm), ue] at u2
      have u3 := sumN_upd (f := uN T c) (v := uN T c i + a) hi
      show sumN w (tHn T) + sumN (uN (tnE T e p s g i a) (updN c i (c i + a))) (tEn T) + sumN (updN q p (q p - s)) (tPn T) ≤ sumN q0 (tPn T)
      omega
    · have : sumN (gvN (tnE T e p s g i a) (updN v e g)) (tEn T) = sumN (gvN T v) (tEn T) := sumN_cong (fun j hj => by
        have f7 : tE (tnE T e p s g i a) j 7 = tE T j 7 := by rw [← eT]; exact (turnT_fr T).2.2.2 j 7 (by omega)
        unfold gvN
        rw [f7]
        by_cases z : j = e
        · rw [z, h7, if_neg (big100 (by omega)), if_neg (big100 (by omega))]
        · rw [updN_ne z])
      show sumN w (tHn T) ≤ sumN (gvN (tnE T e p s g i a) (updN v e g)) (tEn T)
      omega
    · have : sumN (gvN (tnE T e p s g i a) (updN v e g)) (tEn T) = sumN (gvN T v) (tEn T) := sumN_cong (fun j hj => by
        have f7 : tE (tnE T e p s g i a) j 7 = tE T j 7 := by rw [← eT]; exact (turnT_fr T).2.2.2 j 7 (by omega)
        unfold gvN
        rw [f7]
        by_cases z : j = e
        · rw [z, h7, if_neg (big100 (by omega)), if_neg (big100 (by omega))]
        · rw [updN_ne z])
      show 0 < sumN (gvN (tnE T e p s g i a) (updN v e g)) (tEn T) → 0 < sumN w (tHn T)
      omega
    · have f7 : tE (tnE T e p s g i a) j 7 = tE T j 7 := by rw [← eT]; exact (turnT_fr T).2.2.2 j 7 (by omega)
      rw [f7, tnE_10] at hz
      by_cases z : j = e
      · rw [z, h7, if_pos rfl] at hz
        rcases hz with z2 | z2
        · exact absurd z2 (nI_m1 (by omega))
        · exact absurd z2 (by decide)
      · rw [if_neg z] at hz
        rw [updN_ne z]; exact s4 j hj hz
  · obtain ⟨g, hg⟩ : ∃ g, g = min (mx e) (c e + s) := ⟨_, rfl⟩
    rw [← hg] at eT
    obtain ⟨a, ha⟩ : ∃ a, a = arrN g L := ⟨_, rfl⟩
    rw [← ha] at eT
    have al : a ≤ g := by rw [ha]; exact arrN_le g L
    have ap : 0 < g → 0 < a := by rw [ha]; exact arrN_pos hL
    obtain ⟨sp1, sp2, sp3⟩ := suckQ hs wp b3 t3
    have ve : v e = 0 := s4 e he (Or.inr h10)
    have G : sumN (gvN (tnH T e p s g h a) (updN v e g)) (tEn T) = sumN (gvN T v) (tEn T) + g := by
      have : sumN (gvN (tnH T e p s g h a) (updN v e g)) (tEn T) = sumN (updN (gvN T v) e g) (tEn T) := sumN_cong (fun j hj => by
        have f7 : tE (tnH T e p s g h a) j 7 = tE T j 7 := by rw [← eT]; exact (turnT_fr T).2.2.2 j 7 (by omega)
        unfold gvN
        rw [f7]
        by_cases z : j = e
        · rw [z, h7, if_pos (big100b (by omega)), updN_at, updN_at]
        · rw [updN_ne z, updN_ne z])
      have u := sumN_upd (f := gvN T v) (v := g) he
      have u0 : gvN T v e = 0 := by unfold gvN; rw [ve]; split <;> rfl
      omega
    have Wn := sumN_upd (f := w) (v := w h + a) hi
    rw [eT]
    refine ⟨c, updN w h (w h + a), updN q p (q p - s), updN v e g, ⟨fun j hj => (show tE (tnX T e p s g) j 8 = _ from tnX_8).trans (w8 j hj), fun j hj => ?_, sp1, fun j hj => ?_⟩, ⟨fun j hj => by have := b1 j hj; omega, fun j hj => ?_, sp3, fun j hj => ?_⟩, ?_, ?_, ?_, fun j hj hz => ?_⟩
    · rw [tnH_5]
      by_cases z : j = h
      · rw [if_pos z, z, updN_at, w5 h hi, nI_add]
      · rw [if_neg z, updN_ne z]; exact w5 j hj
    · rw [show tE (tnH T e p s g h a) j 9 = tE (tnX T e p s g) j 9 from rfl, tnX_9]
      by_cases z : j = e
      · rw [if_pos z, z, updN_at]
      · rw [if_neg z, updN_ne z]; exact w9 j hj
    · by_cases z : j = h
      · rw [z, updN_at]; have := b2 h hi; omega
      · rw [updN_ne z]; have := b2 j hj; omega
    · by_cases z : j = e
      · rw [z, updN_at]; omega
      · rw [updN_ne z]; exact b4 j hj
    · have u1 : sumN (uN (tnH T e p s g h a) c) (tEn T) ≤ sumN (updN (uN T c) e 0) (tEn T) := sumN_le (fun j hj => by
        show (if tE (tnX T e p s g) j 10 = 0 then c j else 0) ≤ _
        rw [tnX_10]
        by_cases z : j = e
        · rw [if_pos z, if_neg (by decide)]; exact Nat.zero_le _
        · rw [if_neg z, updN_ne z]; exact Nat.le_refl _)
      have u2 := sumN_upd (f := uN T c) (v := 0) he
      rw [ue] at u2
      show sumN (updN w h (w h + a)) (tHn T) + sumN (uN (tnH T e p s g h a) c) (tEn T) + sumN (updN q p (q p - s)) (tPn T) ≤ sumN q0 (tPn T)
      omega
    · show sumN (updN w h (w h + a)) (tHn T) ≤ sumN (gvN (tnH T e p s g h a) (updN v e g)) (tEn T)
      omega
    · show 0 < sumN (gvN (tnH T e p s g h a) (updN v e g)) (tEn T) → 0 < sumN (updN w h (w h + a)) (tHn T)
      intro z
      rcases Nat.eq_zero_or_pos g with y | y
      · have := s3 (by omega); omega
      · have := ap y; omega
    · have f7 : tE (tnH T e p s g h a) j 7 = tE T j 7 := by rw [← eT]; exact (turnT_fr T).2.2.2 j 7 (by omega)
      rw [f7, show tE (tnH T e p s g h a) j 10 = tE (tnX T e p s g) j 10 from rfl, tnX_10] at hz
      by_cases z : j = e
      · rw [z, h7, if_pos rfl] at hz
        rcases hz with z2 | z2
        · exact absurd z2 (nI_m1 (by omega))
        · exact absurd z2 (by decide)
      · rw [if_neg z] at hz
        rw [updN_ne z]; exact s4 j hj hz
