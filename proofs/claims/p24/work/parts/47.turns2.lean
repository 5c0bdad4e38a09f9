/-! THE TURNS, on both sides -/
theorem askT_10 {T : fTn} {e j : Nat} : tE (askT T e) j 10 = if j = e then 1 else tE T j 10 := by
  have key : ∀ x : Int32, (if j = e then upd (upd (tE T e) 10 1) 9 x else tE T j) 10 = if j = e then 1 else tE T j 10 := fun x => by
    by_cases z : j = e
    · rw [if_pos z, if_pos z, upd_ne (by omega), upd_at]
    · rw [if_neg z, if_neg z]
  unfold askT
  split
  · exact tE_at
  · split
    · exact key _
    · exact key _
theorem sendT_10 {T : fTn} {e j : Nat} : tE (sendT T e) j 10 = tE T j 10 := by
  unfold sendT
  split
  · exact sE_col (by omega)
  · split <;> rfl
theorem turnT_no {T : fTn} (h : nextE T = -1) : turnT T = T := by
  unfold turnT
  rw [h, if_neg (by rw [isIx_m1]; decide)]
theorem turnT_e {T : fTn} {e : Nat} (h : nextE T = nI e) (he : e < tEn T) (h6 : tEn T ≤ 6) : turnT T = sendT (askT T e) e := by
  unfold turnT
  rw [h, if_pos (isIx_nI he (by omega)), nI_clamp (by omega)]
theorem turn_un {T : fTn} (h6 : tEn T ≤ 6) : unask (tE T) (tEn T) ≤ unask (tE (turnT T)) (tEn T) + 1 := by
  rcases nextE_or T with h | ⟨e, he, h, h0⟩
  · rw [turnT_no h]; omega
  · have := unask_set (f := tE T) (f2 := tE (turnT T)) he h0 (by rw [turnT_e h he h6, sendT_10, askT_10, if_pos rfl]) (fun j hj => by rw [turnT_e h he h6, sendT_10, askT_10, if_neg hj])
    omega
theorem turns_un (T : fTn) (h6 : tEn T ≤ 6) : ∀ k, unask (tE T) (tEn T) ≤ unask (tE (turnsT k T)) (tEn T) + k := by
  intro k
  induction k with
  | zero => exact Nat.le_refl _
  | succ k ih =>
    have n := turnsT_n k T
    have := turn_un (T := turnsT k T) (by rw [n.2.2.1]; exact h6)
    rw [n.2.2.1] at this
    show _ ≤ unask (tE (turnT (turnsT k T))) (tEn T) + (k + 1)
    omega
theorem unask_all {f : Nat → Nat → Int32} {n : Nat} (h : ∀ j, j < n → f j 10 = 0) : unask f n = n := by
  induction n with
  | zero => rfl
  | succ n ih => unfold unask; rw [ih (fun j hj => h j (by omega)), if_pos (h n (by omega))]
theorem unask_none {f : Nat → Nat → Int32} {n : Nat} (h : ∀ j, j < n → f j 10 ≠ 0) : unask f n = 0 := by
  induction n with
  | zero => rfl
  | succ n ih => unfold unask; rw [ih (fun j hj => h j (by omega)), if_neg (h n (by omega))]
/-- as long as not all have had their turn there is a next one -/
theorem next_ex {T : fTn} {rk : Nat → Nat} (hR : okH T rk) (h6 : tEn T ≤ 6) (h0 : ∀ j, j < tEn T → tE T j 10 = 0) {k : Nat} (hk : k < tEn T) : ∃ e, e < tEn T ∧ nextE (turnsT k T) = nI e ∧ tE (turnsT k T) e 10 = 0 := by
  have n := turnsT_n k T
  have f := turnsT_fr k T
  rcases nextE_or (turnsT k T) with h | ⟨e, he, h, z⟩
  · have a := all_asked (okH_of hR n.2.2.1 (fun j hj => f.2.2.2 j 7 (by omega))) (by rw [n.2.2.1]; exact h6) h
    rw [n.2.2.1] at a
    have u := turns_un T h6 k
    rw [unask_all h0, unask_none a] at u
    omega
  · rw [n.2.2.1] at he
    exact ⟨e, he, h, z⟩
theorem turns_nt {T : fTn} {mx q0 c w q v : Nat → Nat} (hI : ntI T mx q0 0 c w q v) (hS : ntS T mx q0) : ∀ k, k ≤ 9 → (∃ c2 w2 q2 v2, ntI (turnsT k T) mx q0 k c2 w2 q2 v2) ∧ ntS (turnsT k T) mx q0 := by
  intro k
  induction k with
  | zero => intro _; exact ⟨⟨c, w, q, v, hI⟩, hS⟩
  | succ k ih =>
    intro hk
    obtain ⟨⟨c2, w2, q2, v2, h1⟩, h2⟩ := ih (by omega)
    refine ⟨?_, ntS_fr h2 (turnT_fr _)⟩
    rcases nextE_or (turnsT k T) with h | ⟨e, he, h, z⟩
    · obtain ⟨a1, ⟨b1, b2, b3, b4⟩, a3⟩ := h1
      show ∃ c2 w2 q2 v2, ntI (turnT (turnsT k T)) mx q0 (k + 1) c2 w2 q2 v2
      rw [turnT_no h]
      exact ⟨c2, w2, q2, v2, a1, ⟨fun j hj => by have := b1 j hj; omega, fun j hj => by have := b2 j hj; omega, b3, b4⟩, a3⟩
    · exact turn_nt h1 h2 (by omega) he h z
/-! the law's turns beside the class's -/
def relQ (q : fGs) (T : fTn) : Prop := simN (qV q) T ∧ simP (qV q) T ∧ (∀ h, h < tHn T → wH (tH (qV q) h) (tH T h)) ∧ ∀ e, e < tEn T → eSim (tE (qV q) e) (tE T e) ∧ qC q e = tE T e 8 ∧ qD q e = tE T e 10 ∧ qG q e = tE T e 9
/-- cells that are on the map, minutes that aren't below 0 -/
def clOk (T : fTn) : Prop := (∀ p, p < tPn T → isC0 (tP T p 0)) ∧ ∀ e, e < tEn T → isC0 (tE T e 0) ∧ 0 ≤ tE T e 5
theorem clOk_fr {T T2 : fTn} (h : clOk T) (f : frW T2 T) : clOk T2 := by
  obtain ⟨⟨-, n1, n2, n3⟩, fH, fP, fE⟩ := f
  refine ⟨fun p hp => by rw [fP p]; exact h.1 p (by omega), fun e he => ?_⟩
  rw [fE e 0 (by omega), fE e 5 (by omega)]
  exact h.2 e (by omega)
theorem eSim_fr {f f2 f3 : Nat → Int32} (h : eSim f f2) (hk : ∀ k, k < 8 → f3 k = f2 k) : eSim f f3 :=
  ⟨fun k h6 => (h.1 k h6).trans (hk k (by omega)).symm, h.2.1.trans (hk 7 (by omega)).symm, fun z => (h.2.2 (by rwa [hk 5 (by omega)] at z)).trans (hk 6 (by omega)).symm⟩
theorem sWts_same {V T : fTn} {dn : Nat → Int32} {x : Int32} {n : Nat} (h : ∀ j, j < n → dn j = tE T j 10 ∧ tE V j 7 = tE T j 7) : sWts (tE V) dn x n = waits (tE T) x n := by
  induction n with
  | zero => rfl
  | succ n ih => unfold sWts waits; rw [ih (fun j hj => h j (by omega)), (h n (by omega)).1, (h n (by omega)).2]
theorem sNxt_same {q : fGs} {T : fTn} (h : relQ q T) : sNxt q = nextE T := by
  obtain ⟨⟨-, -, -, n3⟩, -, -, hE⟩ := h
  unfold sNxt nextE
  rw [n3]
  refine jFirst_cong (fun i hi => ?_)
  unfold sOpn
  rw [n3, (hE i hi).2.2.1, sWts_same (T := T) (fun j hj => ⟨(hE j hj).2.2.1, (hE j hj).1.2.1⟩)]
theorem sSk_nat {q : fGs} {T : fTn} {e m c p s : Nat} {qq : Nat → Nat} (h : relQ q T) (hc : clOk T) (he : e < tEn T) (hm : ePump (tE T e) = nI m) (hm1 : m ≤ 1000) (h8 : tE T e 8 = nI c) (hc1 : c ≤ 1000) (hq : ∀ p, p < tPn T → tP T p 1 = nI (qq p) ∧ qq p ≤ 5000) (h6 : tPn T ≤ 6) (hs : suck T (tE T e) m c qq p s) : sSk q e = nI s ∧ sVp q e = Pd (qV q) p s ∧ sPump (tE (qV q) e) = nI m ∧ qC q e = nI c := by
  obtain ⟨⟨n0, n1, n2, n3⟩, hP, -, hE⟩ := h
  obtain ⟨a1, a2, -, -⟩ := hE e he
  have p5 : 0 ≤ tE (qV q) e 5 := by rw [a1.1 5 (by omega)]; exact (hc.2 e he).2
  have hp : sPump (tE (qV q) e) = nI m := by rw [sPump_same p5, eSim_pump a1]; exact hm
  have hsrc : sSrc (qV q) (tE (qV q) e) = pondOf T (tE T e) := sSrc_same n2 (fun p hp => (hP p hp).1) hc.1 (a1.1 0 (by omega)) (a1.1 5 (by omega)) (hc.2 e he).1 (hc.2 e he).2
  have hcc : qC q e = nI c := a2.trans h8
  have hsk : sSk q e = nI s := by
    unfold sSk
    rw [hsrc, hp, hcc]
    rcases hs with ⟨z, z2⟩ | ⟨z1, z2, z3⟩
    · rw [z, if_pos (by decide), z2]; rfl
    · obtain ⟨g1, g2⟩ := hq p z1
      rw [z2, if_neg (nI_pos (by omega)), nI_clamp (by omega), (hP p z1).2, g1]
      by_cases y : m ≤ c
      · rw [if_pos (nI_le y (by omega)), z3, show min (m - c) (qq p) = 0 by omega]; rfl
      · rw [if_neg (fun x => y (nI_le' x (by omega) (by omega))), min_nI (by omega) (by omega) (by omega) (by omega), z3]
  refine ⟨hsk, ?_, hp, hcc⟩
  unfold sVp
  rw [hsk, hsrc]
  rcases hs with ⟨z, z2⟩ | ⟨z1, z2, z3⟩
  · rw [z2, if_neg (by decide)]; exact Pd_0.symm
  · rw [z2, nI_clamp (by omega)]
    by_cases y : s = 0
    · rw [y, if_neg (by decide)]; exact Pd_0.symm
    · have sb : s ≤ 5000 := by have := (hq p z1).2; omega
      exact if_pos (show (0 : Int32) < nI s from nI_lt (a := 0) (b := s) (by omega) (by omega))
theorem turn_rel {q : fGs} {T : fTn} {mx q0 c w qq v : Nat → Nat} {k e : Nat} (h : relQ q T) (hI : ntI T mx q0 k c w qq v) (hS : ntS T mx q0) (hk : k ≤ 9) (hc : clOk T) (he : e < tEn T) (hx : nextE T = nI e) : relQ (sTurn q e) (turnT T) := by
  obtain ⟨⟨w8, w5, wp, w9⟩, ⟨b1, b2, b3, b4⟩, -⟩ := hI
  obtain ⟨t1, t2, t3, o1, o2, o3⟩ := hS
  obtain ⟨pm, pm1⟩ := t2 e he
  have bce := b1 e he
  have fr := turnT_fr T
  have hqq : ∀ p, p < tPn T → tP T p 1 = nI (qq p) ∧ qq p ≤ 5000 := fun p hp => ⟨wp p hp, by have := b3 p hp; have := t3 p hp; omega⟩
  have F := turn_form he hx t1 pm (by omega) (w8 e he) (by omega) hqq o1 o2 o3
  obtain ⟨⟨n0, n1, n2, n3⟩, hP, hH, hE⟩ := id h
  have sn := sTurn_n q e
  have SN : simN (qV (sTurn q e)) (turnT T) := ⟨sn.2.2.2.2.trans (n0.trans fr.1.1.symm), sn.2.2.1.trans (n1.trans fr.1.2.1.symm), sn.2.2.2.1.trans (n2.trans fr.1.2.2.1.symm), sn.2.1.trans (n3.trans fr.1.2.2.2.symm)⟩
  have SE : ∀ j, j < tEn T → eSim (tE (qV (sTurn q e)) j) (tE (turnT T) j) := fun j hj => by
    rw [sn.1]
    exact eSim_fr (hE j hj).1 (fun k hk => fr.2.2.2 j k hk)
  have e7 : tE (qV q) e 7 = tE T e 7 := (hE e he).1.2.1
  refine ⟨SN, ?_⟩
  rw [fr.1.2.1, fr.1.2.2.2]
  rcases F with ⟨h7, eT⟩ | ⟨i, L, p, s, hi, hne, h7, hd, hL, hs, eT⟩ | ⟨h0, L, p, s, hi, h7, hd, hL, hs, eT⟩
  · have es : sTurn q e = (qV q, qC q, upd (qD q) e (1 &&& 1), qG q) := if_pos (by rw [e7, h7]; decide)
    refine ⟨?_, ?_, fun j hj => ⟨SE j hj, ?_⟩⟩
    · rw [es, eT]; exact fun p hp => hP p hp
    · rw [es, eT]; exact hH
    · rw [es, eT]
      obtain ⟨-, a2, a3, a4⟩ := hE j hj
      refine ⟨a2.trans (sE_col (by omega)).symm, ?_, a4.trans (sE_col (by omega)).symm⟩
      show upd (qD q) e (1 &&& 1) j = _
      rw [tE_at]
      by_cases z : j = e
      · rw [if_pos z, z, upd_at]; rfl
      · rw [if_neg z, upd_ne z]; exact a3
  · obtain ⟨g, hg⟩ : ∃ g, g = min (mx e) (c e + s) := ⟨_, rfl⟩
    rw [← hg] at eT
    obtain ⟨a, ha⟩ : ∃ a, a = arrN g L := ⟨_, rfl⟩
    rw [← ha] at eT
    obtain ⟨k1, k2, k3, k4⟩ := sSk_nat h hc he pm (by omega) (w8 e he) (by omega) hqq o2 hs
    have sb := (suck_b hs).1
    have kg : sGi q e = nI g := by unfold sGi; rw [k1, k3, k4, nI_add, iMin_nI (by omega) (by omega), hg]
    have ka : sLf (sGi q e) (tE (qV q) e 0) (tE (qV q) i 0) = nI a := by
      rw [kg, ha]
      exact lf_nI (by omega) hL (by rw [(hE e he).1.1 0 (by omega), (hE i hi).1.1 0 (by omega)]; exact hd)
    have es : sTurn q e = (Pd (qV q) p s, upd (qC q) i (qC q i + nI a), upd (qD q) e (1 &&& 1), upd (qG q) e (nI g)) := by
      unfold sTurn
      rw [e7, h7, if_neg (nI_pos (by omega)), if_pos (lt100 (by omega)), nI_clamp (by omega), ka, kg, k2]
    refine ⟨?_, ?_, fun j hj => ⟨SE j hj, ?_⟩⟩
    · rw [es, eT]
      intro p2 hp2
      have hp2 : p2 < tPn T := hp2
      obtain ⟨u1, u2⟩ := hP p2 hp2
      show tP (Pd (qV q) p s) p2 0 = tP (Pd T p s) p2 0 ∧ tP (Pd (qV q) p s) p2 1 = tP (Pd T p s) p2 1
      refine ⟨by rw [tnP_0, tnP_0]; exact u1, ?_⟩
      rw [tnP_1, tnP_1]
      by_cases z : p2 = p
      · rw [if_pos z, if_pos z, ← z, u2]
      · rw [if_neg z, if_neg z]; exact u2
    · rw [es, eT]; exact hH
    · rw [es, eT]
      obtain ⟨-, a2, a3, a4⟩ := hE j hj
      refine ⟨?_, ?_, ?_⟩
      · show upd (qC q) i (qC q i + nI a) j = _
        rw [tnE_8]
        by_cases z : j = i
        · rw [if_pos z, z, upd_at, (hE i hi).2.1]
        · rw [if_neg z, upd_ne z]; exact a2
      · show upd (qD q) e (1 &&& 1) j = _
        rw [tnE_10]
        by_cases z : j = e
        · rw [if_pos z, z, upd_at]; rfl
        · rw [if_neg z, upd_ne z]; exact a3
      · show upd (qG q) e (nI g) j = _
        rw [tnE_9]
        by_cases z : j = e
        · rw [if_pos z, z, upd_at]
        · rw [if_neg z, upd_ne z]; exact a4
  · obtain ⟨g, hg⟩ : ∃ g, g = min (mx e) (c e + s) := ⟨_, rfl⟩
    rw [← hg] at eT
    obtain ⟨a, ha⟩ : ∃ a, a = arrN g L := ⟨_, rfl⟩
    rw [← ha] at eT
    obtain ⟨k1, k2, k3, k4⟩ := sSk_nat h hc he pm (by omega) (w8 e he) (by omega) hqq o2 hs
    have sb := (suck_b hs).1
    have kg : sGi q e = nI g := by unfold sGi; rw [k1, k3, k4, nI_add, iMin_nI (by omega) (by omega), hg]
    have ka : sLf (sGi q e) (tE (qV q) e 0) (tH (qV q) h0 0) = nI a := by
      rw [kg, ha]
      exact lf_nI (by omega) hL (by rw [(hE e he).1.1 0 (by omega), (hH h0 hi).1 0 (by omega)]; exact hd)
    have es : sTurn q e = (sH (Pd (qV q) p s) h0 (upd (tH (qV q) h0) 5 (tH (qV q) h0 5 + nI a)), qC q, upd (qD q) e (1 &&& 1), upd (qG q) e (nI g)) := by
      unfold sTurn
      rw [e7, h7, if_neg (nI_pos (by omega)), if_neg (nlt100 (by omega)), sub100, nI_clamp (by omega), ka, kg, k2]
    refine ⟨?_, ?_, fun j hj => ⟨SE j hj, ?_⟩⟩
    · rw [es, eT]
      intro p2 hp2
      have hp2 : p2 < tPn T := hp2
      obtain ⟨u1, u2⟩ := hP p2 hp2
      show tP (Pd (qV q) p s) p2 0 = tP (Pd T p s) p2 0 ∧ tP (Pd (qV q) p s) p2 1 = tP (Pd T p s) p2 1
      refine ⟨by rw [tnP_0, tnP_0]; exact u1, ?_⟩
      rw [tnP_1, tnP_1]
      by_cases z : p2 = p
      · rw [if_pos z, if_pos z, ← z, u2]
      · rw [if_neg z, if_neg z]; exact u2
    · rw [es, eT]
      intro j hj
      obtain ⟨u1, u2⟩ := hH j hj
      show wH (if j = h0 then upd (tH (qV q) h0) 5 (tH (qV q) h0 5 + nI a) else tH (qV q) j) (tH (tnH T e p s g h0 a) j)
      by_cases z : j = h0
      · rw [if_pos z]
        subst z
        refine ⟨fun k hk6 => ?_, ?_⟩
        · by_cases y : k = 5
          · rw [y, upd_at, tnH_5, if_pos rfl, u1 5 (by omega)]
          · rw [upd_ne y, tnH_k y (by omega)]; exact u1 k hk6
        · rw [tnH_6, if_pos rfl, upd_at, upd_ne (by omega), u2, Int32.add_assoc]
      · rw [if_neg z]
        refine ⟨fun k hk6 => ?_, ?_⟩
        · by_cases y : k = 5
          · rw [y, tnH_5, if_neg z]; exact u1 5 (by omega)
          · rw [tnH_k y (by omega)]; exact u1 k hk6
        · rw [tnH_6, if_neg z]; exact u2
    · rw [es, eT]
      obtain ⟨-, a2, a3, a4⟩ := hE j hj
      refine ⟨?_, ?_, ?_⟩
      · show qC q j = tE (tnX T e p s g) j 8
        rw [tnX_8]; exact a2
      · show upd (qD q) e (1 &&& 1) j = tE (tnX T e p s g) j 10
        rw [tnX_10]
        by_cases z : j = e
        · rw [if_pos z, z, upd_at]; rfl
        · rw [if_neg z, upd_ne z]; exact a3
      · show upd (qG q) e (nI g) j = tE (tnX T e p s g) j 9
        rw [tnX_9]
        by_cases z : j = e
        · rw [if_pos z, z, upd_at]
        · rw [if_neg z, upd_ne z]; exact a4
theorem turns_rel {q : fGs} {T : fTn} {rk mx q0 c w qq v : Nat → Nat} (h : relQ q T) (hI : ntI T mx q0 0 c w qq v) (hS : ntS T mx q0) (hc : clOk T) (hR : okH T rk) (h0 : ∀ j, j < tEn T → tE T j 10 = 0) : ∀ k, k ≤ tEn T → relQ (sTurns q k) (turnsT k T) ∧ (k < tEn T → ∃ e, e < tEn T ∧ sNxt (sTurns q k) = nI e) := by
  obtain ⟨-, -, -, -, -, h6⟩ := id hS
  intro k
  induction k with
  | zero =>
    intro _
    refine ⟨h, fun hk => ?_⟩
    obtain ⟨e, he, hx, -⟩ := next_ex hR h6 h0 hk
    exact ⟨e, he, (sNxt_same h).trans hx⟩
  | succ k ih =>
    intro hk
    obtain ⟨g1, g2⟩ := ih (by omega)
    obtain ⟨⟨c2, w2, q2, v2, i1⟩, i2⟩ := turns_nt hI hS k (by omega)
    obtain ⟨e, he, hx, -⟩ := next_ex hR h6 h0 (show k < tEn T by omega)
    have nn := turnsT_n k T
    have es : sTurns q (k + 1) = sTurn (sTurns q k) e := by
      show sTurn (sTurns q k) (sNxt (sTurns q k)).toNatClampNeg = _
      rw [sNxt_same g1, hx, nI_clamp (by omega)]
    have r := turn_rel g1 i1 i2 (by omega) (clOk_fr hc (turnsT_fr k T)) (by rw [nn.2.2.1]; exact he) hx
    rw [← es] at r
    refine ⟨r, fun hk2 => ?_⟩
    obtain ⟨e2, he2, hx2, -⟩ := next_ex hR h6 h0 hk2
    exact ⟨e2, he2, (sNxt_same r).trans hx2⟩
