/-! what each call does to both towns -/
theorem okHz_U {U T : fTn} (s : simT U T) (h : okHz T) : okHz U := by
  obtain ⟨⟨n0, n1, n2, n3⟩, sP, sH, sE0⟩ := s
  exact okHz_of h n3 n1 (fun j hj => (sE0 j hj).1.2.1)
theorem okH_U {U T : fTn} {rk : Nat → Nat} (s : simT U T) (h : okH T rk) : okH U rk := by
  obtain ⟨⟨n0, n1, n2, n3⟩, sP, sH, sE0⟩ := s
  exact okH_of h n3 (fun j hj => (sE0 j hj).1.2.1)
theorem inR_ex {x a c : Int32} {n m : Nat} (h : inR x a c = true) (ha : a = nI n) (hc : c = nI m) (hm : m < 100000) (hn : n ≤ m) : ∃ N, n ≤ N ∧ N ≤ m ∧ x = nI N := by
  have h1 := inR_1 h
  have h2 := inR_2 h
  rw [ha] at h1
  rw [hc] at h2
  have h0 : ¬ x < 0 := fun z => h1 (by
    rw [sw_lt] at z ⊢
    rw [nI_toInt (by omega)]
    rw [z0] at z
    omega)
  obtain ⟨j, hj, e⟩ := nI_of h0
  rw [e] at h1 h2
  exact ⟨j, nI_nlt' h1 hj (by omega), nI_le' h2 hj (by omega), e⟩
theorem sim_sE {U T : fTn} {j c0 : Nat} {v : Int32} (s : simT U T) (hc : c0 ≠ 9) (h6 : c0 ≠ 5) : simT (sE U j (upd (tE U j) c0 v)) (sE T j (upd (tE T j) c0 v)) := by
  obtain ⟨n, sP, sH, sE0⟩ := s
  refine ⟨n, sP, sH, fun e (he : e < tEn T) => ?_⟩
  obtain ⟨⟨a, b, c⟩, d⟩ := sE0 e he
  have key : ∀ k, tE U e k = tE T e k → tE (sE U j (upd (tE U j) c0 v)) e k = tE (sE T j (upd (tE T j) c0 v)) e k := fun k hk => by
    by_cases q : k = c0
    · rw [q, tE_at, tE_at]
      rw [q] at hk
      rw [hk]
    · rw [sE_col q, sE_col q, hk]
  refine ⟨⟨fun k hk => key k (a k hk), key 7 b, fun z => ?_⟩, by rw [sE_col (by omega), sE_col (by omega)]; exact d⟩
  rw [sE_col (by omega)] at z
  exact key 6 (c z)
theorem sim_sH {U T : fTn} {j : Nat} {f f2 : Nat → Int32} (s : simT U T) (h : ∀ k, k < 7 → f k = f2 k) : simT (sH U j f) (sH T j f2) := by
  obtain ⟨n, sP, sH0, sE0⟩ := s
  refine ⟨n, sP, fun e (he : e < tHn T) k hk => ?_, sE0⟩
  show (if e = j then f else tH U e) k = (if e = j then f2 else tH T e) k
  by_cases q : e = j
  · rw [if_pos q, if_pos q]; exact h k hk
  · rw [if_neg q, if_neg q]; exact sH0 e he k hk
theorem sim_addH {U T : fTn} {f : Nat → Int32} (s : simT U T) : simT (addH U f) (addH T f) := by
  obtain ⟨⟨n0, n1, n2, n3⟩, sP, sH, sE0⟩ := s
  refine ⟨⟨n0, by show tHn U + 1 = tHn T + 1; rw [n1], n2, n3⟩, sP, fun j (hj : j < tHn T + 1) k hk => ?_, sE0⟩
  show (if j = tHn U then f else tH U j) k = (if j = tHn T then f else tH T j) k
  rw [n1]
  by_cases q : j = tHn T
  · rw [if_pos q, if_pos q]
  · rw [if_neg q, if_neg q]; exact sH j (by omega) k hk
theorem sim_addP {U T : fTn} {f : Nat → Int32} (s : simT U T) : simT (addP U f) (addP T f) := by
  obtain ⟨⟨n0, n1, n2, n3⟩, sP, sH, sE0⟩ := s
  refine ⟨⟨n0, n1, by show tPn U + 1 = tPn T + 1; rw [n2], n3⟩, fun j (hj : j < tPn T + 1) => ?_, sH, sE0⟩
  show (if j = tPn U then f else tP U j) 0 = (if j = tPn T then f else tP T j) 0 ∧ (if j = tPn U then f else tP U j) 1 = (if j = tPn T then f else tP T j) 1
  rw [n2]
  by_cases q : j = tPn T
  · rw [if_pos q, if_pos q]; exact ⟨rfl, rfl⟩
  · rw [if_neg q, if_neg q]; exact sP j (by omega)
theorem sim_addE {U T : fTn} {f f2 : Nat → Int32} (s : simT U T) (h : ∀ k, k ≠ 8 → k ≠ 10 → f k = f2 k) : simT (addE U f) (addE T f2) := by
  obtain ⟨⟨n0, n1, n2, n3⟩, sP, sH, sE0⟩ := s
  refine ⟨⟨n0, n1, n2, by show tEn U + 1 = tEn T + 1; rw [n3]⟩, sP, sH, fun j (hj : j < tEn T + 1) => ?_⟩
  show eSim (if j = tEn U then f else tE U j) (if j = tEn T then f2 else tE T j) ∧ (if j = tEn U then f else tE U j) 9 = (if j = tEn T then f2 else tE T j) 9
  rw [n3]
  by_cases q : j = tEn T
  · rw [if_pos q, if_pos q]
    exact ⟨⟨fun k hk => h k (by omega) (by omega), h 7 (by omega) (by omega), fun _ => h 6 (by omega) (by omega)⟩, h 9 (by omega) (by omega)⟩
  · rw [if_neg q, if_neg q]; exact sE0 j (by omega)
theorem sim_back {X U T : fTn} (s : simT U T) (e1 : tHn X = tHn U) (e2 : tPn X = tPn U) (e3 : tEn X = tEn U) (hp : ∀ p, p < tPn U → tP X p 0 = tP U p 0) : simT (backT X U) T := by
  obtain ⟨⟨n0, n1, n2, n3⟩, sP, sH, sE0⟩ := s
  refine ⟨⟨n0, e1.trans n1, e2.trans n2, e3.trans n3⟩, fun p h => ?_, sH, fun e he => ?_⟩
  · refine ⟨?_, (sP p h).2⟩
    show tP X p 0 = tP T p 0
    rw [hp p (by omega)]
    exact (sP p h).1
  · obtain ⟨⟨a, b, c⟩, d⟩ := sE0 e he
    exact ⟨⟨fun k hk => by
      show (if k = 8 then tE X e 8 else if k = 10 then tE X e 10 else tE U e k) = _
      rw [if_neg (by omega), if_neg (by omega)]
      exact a k hk, b, c⟩, d⟩
theorem go_p0 {kf : Nat → Int32} {U T : fTn} (s : simT U T) (ho : okT kf T) (N : Nat) : ∀ p, p < tPn U → tP (goU U N).1 p 0 = tP U p 0 := fun p h => by
  obtain ⟨a, -, -, d⟩ := go_same s ho N
  have hp : p < tPn (goT T N).1 := by
    rw [(goT_n T N).2.1, ← s.1.2.2.1]; exact h
  rw [(a.2.1 p hp).1, d p]
  exact ((s.2.1 p (by rw [← s.1.2.2.1]; exact h)).1).symm
theorem sim_goback {kf : Nat → Int32} {U T : fTn} (s : simT U T) (ho : okT kf T) (N : Nat) : simT (backT (goU U N).1 U) T :=
  sim_back s (goU_n U N).1 (goU_n U N).2.1 (goU_n U N).2.2 (go_p0 s ho N)
/-! houses stay where they are -/
theorem catch1_0 (S : fTn) (j k : Nat) : tH (catch1 S k).1 j 0 = tH S j 0 := by
  induction k with
  | zero => rfl
  | succ k ih =>
    unfold catch1
    split
    · split
      · exact ih
      · exact (sH_col (U := (catch1 S k).1) (by decide)).trans ih
    · exact ih
theorem hCatch_0 (f : Nat → Int32) : hCatch f 0 = f 0 := by
  unfold hCatch
  repeat' split
  all_goals rfl
theorem hBurn_0 (f : Nat → Int32) : hBurn f 0 = f 0 := by
  unfold hBurn
  repeat' split
  all_goals rfl
theorem mH_0c {F : (Nat → Int32) → Nat → Int32} {n j : Nat} {T : fTn} (h : ∀ f, F f 0 = f 0) : tH (mH F n T) j 0 = tH T j 0 := by
  show (if j < n then F (tH T j) else tH T j) 0 = _
  split
  · exact h _
  · rfl
theorem min_h0 (T : fTn) (j : Nat) : tH (minT T).1 j 0 = tH T j 0 := by
  show tH (mH hCatch _ (catch1 (mH hBurn (tHn T) (moveT (mE eGo (tEn T) T))) _).1) j 0 = _
  rw [mH_0c hCatch_0, catch1_0, mH_0c hBurn_0]
  exact ((turnsT_fr (tEn T) (mE eReset (tEn T) (mH hReset (tHn T) (mE eGo (tEn T) T)))).2.1 j 0 (by decide) (by decide)).trans (mH_0c (T := mE eGo (tEn T) T) (F := hReset) (fun _ => rfl))
theorem go_h0 (T : fTn) (j n : Nat) : tH (goT T n).1 j 0 = tH T j 0 := by
  induction n with
  | zero => rfl
  | succ n ih => exact (min_h0 _ _).trans ih
theorem gOk_of {kf nf : Nat → Int32} {T T2 : fTn} (h : gOk kf nf T) (e1 : tHn T2 = tHn T) (e2 : tPn T2 = tPn T) (h1 : ∀ j, j < tHn T → tH T2 j 0 = tH T j 0) (h2 : ∀ j, j < tPn T → tP T2 j 0 = tP T j 0) : gOk kf nf T2 := by
  obtain ⟨g1, g2, g3⟩ := h
  refine ⟨fun j hj => ?_, fun j hj => ?_, fun c hc => ?_⟩
  · rw [e1] at hj; rw [h1 j hj]; exact g1 j hj
  · rw [e2] at hj; rw [h2 j hj]; exact g2 j hj
  · rcases g3 c hc with z | ⟨z, j, hj, e⟩ | ⟨z, j, hj, e⟩
    · exact Or.inl z
    · exact Or.inr (Or.inl ⟨z, j, by rw [e1]; exact hj, by rw [h1 j hj]; exact e⟩)
    · exact Or.inr (Or.inr ⟨z, j, by rw [e2]; exact hj, by rw [h2 j hj]; exact e⟩)
/-! what is built keeps the order of things -/
theorem isCl_upd {kf : Nat → Int32} {x : Int32} {jc : Nat} {v : Int32} (h : isCl kf x) (hj : jc < 140) (hx : ¬ x = nI jc) : isCl (upd kf jc v) x := by
  obtain ⟨c, hc, e, z⟩ := h
  refine ⟨c, hc, e, ?_⟩
  rw [upd_ne (fun y => hx (by rw [e, y]))]
  exact z
theorem eOk_upd {kf f : Nat → Int32} {jc : Nat} {v : Int32} (h : eOk kf f) (hj : jc < 140) (h0 : ¬ f 0 = nI jc) (h6 : ¬ f 6 = nI jc) : eOk (upd kf jc v) f := by
  obtain ⟨a, b, c, d⟩ := h
  refine ⟨isCl_upd a hj h0, b, c, ?_⟩
  rcases d with d | ⟨d1, d2⟩
  · exact Or.inl d
  · exact Or.inr ⟨d1, isCl_upd d2 hj h6⟩
theorem cntE_0 {f : Nat → Nat → Int32} {w : Int32} {n : Nat} (hn : n < 1000) (h : cntE f w n = 0) : ∀ j, j < n → ¬ f j 0 = w := by
  induction n with
  | zero => intro j hj; exact absurd hj (Nat.not_lt_zero _)
  | succ n ih =>
    intro j hj z
    unfold cntE at h
    obtain ⟨m, hm, e⟩ := cntE_nat f w n
    by_cases q : f n 0 = w
    · rw [if_pos q, e, nI_1] at h
      exact nI_ne0 (by omega) (by omega) h
    · rw [if_neg q] at h
      rcases Nat.lt_or_ge j n with y | y
      · exact ih (by omega) h j y z
      · rw [show j = n by omega] at z; exact q z
theorem free_un {kf : Nat → Int32} {T : fTn} {jc : Nat} (hj : jc < 140) (h6 : tEn T ≤ 6) (h : freeB kf T (nI jc) = true) : kf jc = 0 ∧ ∀ e, e < tEn T → ¬ tE T e 0 = nI jc ∧ ¬ tE T e 6 = nI jc := by
  unfold freeB at h
  simp only [Bool.and_eq_true, decide_eq_true_eq, Bool.not_eq_true'] at h
  obtain ⟨a, b, c⟩ := h
  rw [kSt_nI hj] at a
  refine ⟨of_decide_eq_true a, fun e he => ⟨cntE_0 (by omega) b e he, fun z => ?_⟩⟩
  rw [anyGoal_t he z] at c
  exact absurd c (by decide)
theorem ok_addH {kf : Nat → Int32} {T : fTn} {jc : Nat} {w z : Int32} (ho : okT kf T) (hj : jc < 140) (hf : freeB kf T (nI jc) = true) (hn : tHn T < 30) : okT (upd kf jc 1) (addH T (newH (nI jc) w z)) := by
  obtain ⟨oH, oP, oE, oZ, ⟨rk, oR⟩, o1, o2, o3⟩ := ho
  obtain ⟨-, hu⟩ := free_un hj o3 hf
  refine ⟨fun j (hjj : j < tHn T + 1) => ?_, oP, fun e he => eOk_upd (oE e he) hj (hu e he).1 (hu e he).2, fun j hjj => ?_, ⟨rk, oR⟩, ?_, o2, o3⟩
  · show isC0 ((if j = tHn T then newH (nI jc) w z else tH T j) 0) ∧ ((if j = tHn T then newH (nI jc) w z else tH T j) 3 ≠ 1 → (if j = tHn T then newH (nI jc) w z else tH T j) 4 = 0)
    by_cases q : j = tHn T
    · rw [if_pos q]; exact ⟨⟨jc, hj, rfl⟩, fun _ => rfl⟩
    · rw [if_neg q]; exact oH j (by omega)
  · rcases oZ j hjj with a | a | ⟨q, a, b⟩
    · exact Or.inl a
    · exact Or.inr (Or.inl a)
    · exact Or.inr (Or.inr ⟨q, Nat.lt_succ_of_lt a, b⟩)
  · show tHn T + 1 ≤ 30
    omega
theorem g_addH {kf nf : Nat → Int32} {T : fTn} {jc : Nat} {w z : Int32} (h : gOk kf nf T) (hj : jc < 140) (h0 : kf jc = 0) : gOk (upd kf jc 1) (upd nf jc (nI (tHn T))) (addH T (newH (nI jc) w z)) := by
  obtain ⟨g1, g2, g3⟩ := h
  refine ⟨fun i (hi : i < tHn T + 1) => ?_, fun i hi => ?_, fun c hc => ?_⟩
  · show ∃ c, c < 140 ∧ (if i = tHn T then newH (nI jc) w z else tH T i) 0 = nI c ∧ upd kf jc 1 c = 1 ∧ upd nf jc (nI (tHn T)) c = nI i
    by_cases q : i = tHn T
    · rw [if_pos q]
      exact ⟨jc, hj, rfl, upd_at, by rw [upd_at, q]⟩
    · rw [if_neg q]
      obtain ⟨c, hc, a, b, d⟩ := g1 i (by omega)
      have e : c ≠ jc := fun y => by rw [y, h0] at b; exact absurd b (by decide)
      exact ⟨c, hc, a, by rw [upd_ne e]; exact b, by rw [upd_ne e]; exact d⟩
  · obtain ⟨c, hc, a, b, d⟩ := g2 i hi
    have e : c ≠ jc := fun y => by rw [y, h0] at b; exact absurd b (by decide)
    exact ⟨c, hc, a, by rw [upd_ne e]; exact b, by rw [upd_ne e]; exact d⟩
  · by_cases q : c = jc
    · rw [q, upd_at]
      exact Or.inr (Or.inl ⟨rfl, tHn T, Nat.lt_succ_self _, by show (if tHn T = tHn T then newH (nI jc) w z else tH T (tHn T)) 0 = nI jc; rw [if_pos rfl]; rfl⟩)
    · rw [upd_ne q]
      rcases g3 c hc with y | ⟨y, i, hi, e⟩ | ⟨y, i, hi, e⟩
      · exact Or.inl y
      · refine Or.inr (Or.inl ⟨y, i, Nat.lt_succ_of_lt hi, ?_⟩)
        show (if i = tHn T then newH (nI jc) w z else tH T i) 0 = nI c
        rw [if_neg (by omega)]; exact e
      · exact Or.inr (Or.inr ⟨y, i, hi, e⟩)
theorem ok_addP {kf : Nat → Int32} {T : fTn} {jc : Nat} {w : Int32} (ho : okT kf T) (hj : jc < 140) (hf : freeB kf T (nI jc) = true) (hn : tPn T < 6) (hw : 0 ≤ w) : okT (upd kf jc 2) (addP T (newP (nI jc) w)) := by
  obtain ⟨oH, oP, oE, oZ, ⟨rk, oR⟩, o1, o2, o3⟩ := ho
  obtain ⟨-, hu⟩ := free_un hj o3 hf
  refine ⟨oH, fun j (hjj : j < tPn T + 1) => ?_, fun e he => eOk_upd (oE e he) hj (hu e he).1 (hu e he).2, oZ, ⟨rk, oR⟩, o1, ?_, o3⟩
  · show isC0 ((if j = tPn T then newP (nI jc) w else tP T j) 0) ∧ 0 ≤ (if j = tPn T then newP (nI jc) w else tP T j) 1
    by_cases q : j = tPn T
    · rw [if_pos q]; exact ⟨⟨jc, hj, rfl⟩, hw⟩
    · rw [if_neg q]; exact oP j (by omega)
  · show tPn T + 1 ≤ 6
    omega
theorem g_addP {kf nf : Nat → Int32} {T : fTn} {jc : Nat} {w : Int32} (h : gOk kf nf T) (hj : jc < 140) (h0 : kf jc = 0) : gOk (upd kf jc 2) (upd nf jc (nI (tPn T))) (addP T (newP (nI jc) w)) := by
  obtain ⟨g1, g2, g3⟩ := h
  refine ⟨fun i hi => ?_, fun i (hi : i < tPn T + 1) => ?_, fun c hc => ?_⟩
  · obtain ⟨c, hc, a, b, d⟩ := g1 i hi
    have e : c ≠ jc := fun y => by rw [y, h0] at b; exact absurd b (by decide)
    exact ⟨c, hc, a, by rw [upd_ne e]; exact b, by rw [upd_ne e]; exact d⟩
  · show ∃ c, c < 140 ∧ (if i = tPn T then newP (nI jc) w else tP T i) 0 = nI c ∧ upd kf jc 2 c = 2 ∧ upd nf jc (nI (tPn T)) c = nI i
    by_cases q : i = tPn T
    · rw [if_pos q]
      exact ⟨jc, hj, rfl, upd_at, by rw [upd_at, q]⟩
    · rw [if_neg q]
      obtain ⟨c, hc, a, b, d⟩ := g2 i (by omega)
      have e : c ≠ jc := fun y => by rw [y, h0] at b; exact absurd b (by decide)
      exact ⟨c, hc, a, by rw [upd_ne e]; exact b, by rw [upd_ne e]; exact d⟩
  · by_cases q : c = jc
    · rw [q, upd_at]
      exact Or.inr (Or.inr ⟨rfl, tPn T, Nat.lt_succ_self _, by show (if tPn T = tPn T then newP (nI jc) w else tP T (tPn T)) 0 = nI jc; rw [if_pos rfl]; rfl⟩)
    · rw [upd_ne q]
      rcases g3 c hc with y | ⟨y, i, hi, e⟩ | ⟨y, i, hi, e⟩
      · exact Or.inl y
      · exact Or.inr (Or.inl ⟨y, i, hi, e⟩)
      · refine Or.inr (Or.inr ⟨y, i, Nat.lt_succ_of_lt hi, ?_⟩)
        show (if i = tPn T then newP (nI jc) w else tP T i) 0 = nI c
        rw [if_neg (by omega)]; exact e
theorem ok_addE {kf : Nat → Int32} {T : fTn} {jc r : Nat} {w z : Int32} (ho : okT kf T) (hj : jc < 140) (hf : kf jc = 0) (hn : tEn T < 6) (hw : w = nI r) (hr : 1 ≤ r) (hr2 : r ≤ 4) : okT kf (addE T (newE (nI jc) w z)) := by
  obtain ⟨oH, oP, oE, oZ, ⟨rk, oR⟩, o1, o2, o3⟩ := ho
  refine ⟨oH, oP, fun e (he : e < tEn T + 1) => ?_, fun e (he : e < tEn T + 1) => ?_, ⟨fun e => if e = tEn T then 0 else rk e, fun e (he : e < tEn T + 1) => ?_⟩, o1, o2, ?_⟩
  · show eOk kf (if e = tEn T then newE (nI jc) w z else tE T e)
    by_cases q : e = tEn T
    · rw [if_pos q]
      exact ⟨⟨jc, hj, rfl, hf⟩, ⟨by show (0 : Int32) ≤ 60; decide, by show (60 : Int32) ≤ 200; decide⟩, ⟨r, hr, hr2, hw⟩, Or.inl ⟨rfl, rfl⟩⟩
    · rw [if_neg q]; exact oE e (by omega)
  · show (if e = tEn T then newE (nI jc) w z else tE T e) 7 = -1 ∨ (∃ i, i < tEn T + 1 ∧ (if e = tEn T then newE (nI jc) w z else tE T e) 7 = nI i) ∨ (∃ h, h < tHn T ∧ (if e = tEn T then newE (nI jc) w z else tE T e) 7 = nI (100 + h))
    by_cases q : e = tEn T
    · rw [if_pos q]; exact Or.inl rfl
    · rw [if_neg q]
      rcases oZ e (by omega) with a | ⟨i, a, b⟩ | a
      · exact Or.inl a
      · exact Or.inr (Or.inl ⟨i, by omega, b⟩)
      · exact Or.inr (Or.inr a)
  · show (if e = tEn T then 0 else rk e) < 6 ∧ (inR ((if e = tEn T then newE (nI jc) w z else tE T e) 7) 0 5 = true → ∃ i, i < tEn T + 1 ∧ (if e = tEn T then newE (nI jc) w z else tE T e) 7 = nI i ∧ (if i = tEn T then 0 else rk i) < (if e = tEn T then 0 else rk e))
    by_cases q : e = tEn T
    · rw [if_pos q, if_pos q]
      exact ⟨by omega, fun y => absurd y (by show ¬ inR (-1) 0 5 = true; decide)⟩
    · rw [if_neg q, if_neg q]
      obtain ⟨a, b⟩ := oR e (by omega)
      refine ⟨a, fun y => ?_⟩
      obtain ⟨i, hi, e1, lt⟩ := b y
      exact ⟨i, by omega, e1, by rw [if_neg (by omega)]; exact lt⟩
  · show tEn T + 1 ≤ 6
    omega
/-- an engine's row changed, its cell, horses, coal and drive as before -/
theorem ok_row {kf : Nat → Int32} {T : fTn} {j : Nat} {f : Nat → Int32} (ho : okT kf T) (h1 : eOk kf f) (h7 : f 7 = tE T j 7) : okT kf (sE T j f) := by
  obtain ⟨oH, oP, oE, oZ, ⟨rk, oR⟩, o1, o2, o3⟩ := ho
  have e7 : ∀ e, e < tEn T → tE (sE T j f) e 7 = tE T e 7 := fun e _ => by
    show (if e = j then f else tE T e) 7 = _
    by_cases q : e = j
    · rw [if_pos q, q]; exact h7
    · rw [if_neg q]
  refine ⟨oH, oP, fun e (he : e < tEn T) => ?_, okHz_of oZ rfl rfl e7, ⟨rk, okH_of oR rfl e7⟩, o1, o2, o3⟩
  show eOk kf (if e = j then f else tE T e)
  by_cases q : e = j
  · rw [if_pos q]; exact h1
  · rw [if_neg q]; exact oE e he
theorem ok_hose {kf : Nat → Int32} {T : fTn} {j : Nat} {x : Int32} (ho : okT kf T) (hz : x = -1 ∨ (∃ i, i < tEn T ∧ x = nI i) ∨ (∃ h, h < tHn T ∧ x = nI (100 + h))) (hr : ∃ rk, okH (sE T j (upd (tE T j) 7 x)) rk) : okT kf (sE T j (upd (tE T j) 7 x)) := by
  obtain ⟨oH, oP, oE, oZ, -, o1, o2, o3⟩ := ho
  refine ⟨oH, oP, fun e (he : e < tEn T) => ?_, fun e (he : e < tEn T) => ?_, hr, o1, o2, o3⟩
  · exact eOk_of (oE e he) (sE_col (by decide)) (sE_col (by decide)) (sE_col (by decide)) (sE_col (by decide)) (sE_col (by decide))
  · rw [tE_at]
    by_cases q : e = j
    · rw [if_pos q]; exact hz
    · rw [if_neg q]; exact oZ e he
theorem ok_light {kf : Nat → Int32} {T : fTn} {j : Nat} {x : Int32} (ho : okT kf T) : okT kf (sH T j (upd (upd (tH T j) 3 1) 4 x)) := by
  obtain ⟨oH, oP, oE, oZ, oR, o1, o2, o3⟩ := ho
  refine ⟨fun e (he : e < tHn T) => ?_, oP, oE, oZ, oR, o1, o2, o3⟩
  show isC0 ((if e = j then upd (upd (tH T j) 3 1) 4 x else tH T e) 0) ∧ ((if e = j then upd (upd (tH T j) 3 1) 4 x else tH T e) 3 ≠ 1 → (if e = j then upd (upd (tH T j) 3 1) 4 x else tH T e) 4 = 0)
  by_cases q : e = j
  · rw [if_pos q]
    refine ⟨?_, fun z => absurd rfl z⟩
    show isC0 (tH T j 0)
    rw [← q]; exact (oH e he).1
  · rw [if_neg q]; exact oH e he
