/-! one turn; all turns -/
def tOk (T : fTn) : Prop := okPs T ∧ okHz T ∧ (∀ e, e < tEn T → isC0 (tE T e 0)) ∧ tHn T ≤ 30 ∧ tPn T ≤ 6 ∧ tEn T ≤ 6
theorem tOk_fr {T T2 : fTn} (h : tOk T) (f : frW T2 T) (hp : okPs T2) : tOk T2 := by
  obtain ⟨-, h2, h3, h4, h5, h6⟩ := h
  obtain ⟨⟨-, n1, n2, n3⟩, -, -, fE⟩ := f
  refine ⟨hp, fun j hj => ?_, fun j hj => ?_, by rw [n1]; exact h4, by rw [n2]; exact h5, by rw [n3]; exact h6⟩
  · rw [n3] at hj ⊢
    rw [n1, fE j 7 (by omega)]
    exact h2 j hj
  · rw [n3] at hj
    rw [fE j 0 (by omega)]
    exact h3 j hj
theorem fin_E {U V T T1 : fTn} {e i : Nat} {gv : Int32} (h2 : simW (askd (pm3 V e gv) e) T1) (fr : frW T1 T) (hV : ∀ j, tE V j 0 = tE U j 0) (hU : ∀ j, j < tEn T → tE U j 0 = tE T j 0) (h9 : tE T1 e 9 = gv) (hz : tE T e 7 = nI i) (he : e < tEn T) (hi : i < tEn T) (o3 : tEn T ≤ 6) : simW (askd (pmE V e i gv) e) (sendT T1 e) := by
  have n3 := fr.1.2.2.2
  rw [askd_E, sendT_E ((fr.2.2.2 e 7 (by omega)).trans hz) (by rw [n3]; exact hi) (by rw [n3]; exact o3), h9, fr.2.2.2 e 0 (by omega), fr.2.2.2 i 0 (by omega), hV, hV, hU e he, hU i hi]
  exact simW_8 h2
theorem fin_H {U V T T1 : fTn} {e i : Nat} {gv : Int32} (h2 : simW (askd (pm3 V e gv) e) T1) (fr : frW T1 T) (hV : tE V e 0 = tE U e 0) (hVH : tH V = tH U) (hU : tE U e 0 = tE T e 0) (hUH : tH U i 0 = tH T i 0) (h9 : tE T1 e 9 = gv) (hz : tE T e 7 = nI (100 + i)) (hi : i < tHn T) (o3 : tEn T ≤ 6) (o1 : tHn T ≤ 30) : simW (askd (pmH V e i gv) e) (sendT T1 e) := by
  have n3 := fr.1.2.2.2
  have n1 := fr.1.2.1
  rw [sendT_H ((fr.2.2.2 e 7 (by omega)).trans hz) (by rw [n1]; exact hi) (by rw [n3]; exact o3) (by rw [n1]; exact o1), h9, fr.2.2.2 e 0 (by omega), fr.2.1 i 0 (by omega) (by omega), ← hU, ← hV, ← hUH, ← hVH]
  exact simW_h (h0 := i) (x := arrivesI gv (aDist (tE V e 0) (tH V i 0))) h2
theorem okPs_sE {T : fTn} {e : Nat} (h : okPs T) (hz : ∀ x : Nat, x < 1 → True) : okPs (sendT T e) := by
  unfold sendT
  split
  · exact h
  · split
    · exact h
    · exact h
theorem turn_same {U T : fTn} (h : simW U T) (ho : tOk T) : simW (mTurn U) (turnT T) ∧ tOk (turnT T) := by
  have hN := next_same h
  obtain ⟨oP, oZ, oC, o1, o2, o3⟩ := id ho
  rcases nextE_or T with q | ⟨e, he, q, q0⟩
  · have e1 : mTurn U = U := by unfold mTurn; rw [hN, q, if_pos rfl]
    have e2 : turnT T = T := by unfold turnT; rw [q, isIx_m1, if_neg Bool.false_ne_true]
    rw [e1, e2]; exact ⟨h, ho⟩
  have e1 : mTurn U = askd (pumpU U e) e := mTurn_at (by rw [hN]; exact q) (by omega)
  have e2 : turnT T = sendT (askT T e) e := by unfold turnT; rw [q, isIx_nI he (by omega), if_pos rfl, nI_clamp (by omega)]
  have hfr := turnT_fr T
  obtain ⟨⟨n0, n1, n2, n3⟩, hP, hH, hE⟩ := id h
  obtain ⟨sE1, s8, s10, -, -⟩ := hE e he
  have s7 : tE U e 7 = tE T e 7 := sE1.2.1
  have sS : pumpS U e = pondOf T (tE T e) := by
    unfold pumpS
    refine (src_same (U := pm1 U e) (f := tE (pm1 U e) e) n2 (fun p hp => (hP p hp).1) (fun p hp => (oP p hp).1) ?_ ?_ (oC e he))
    · rw [sE_col (by omega)]; exact sE1.1 0 (by omega)
    · rw [sE_col (by omega)]; exact sE1.1 5 (by omega)
  have sM : ePump (tE (pm1 U e) e) = ePump (tE T e) := by
    rw [← eSim_pump sE1]
    exact ePump_cong (sE_col (by omega)) (sE_col (by omega)) (sE_col (by omega))
  have s8b : tE (pm1 U e) e 8 = tE T e 8 := (sE_col (by omega)).trans s8
  rcases oZ e he with hz | ⟨i, hi, hz⟩ | ⟨i, hi, hz⟩
  · rw [e2, askT_N hz, sendT_N (by rw [sE_col (by omega)]; exact hz)] at hfr ⊢
    rw [e1, pumpU_N (s7.trans hz)]
    exact ⟨simW_none h q0, tOk_fr ho hfr oP⟩
  · have hz2 : ¬ tE T e 7 = -1 := by rw [hz]; exact nI_m1 (by omega)
    have s70 := s7.trans hz
    rcases jFirst_or (fun i => aNear (tP T i 0) (tE T e 0)) (tPn T) with z | ⟨p, hp, z, -⟩
    · have hp : pondOf T (tE T e) = -1 := by unfold pondOf; split; exact z; rfl
      have gE : pmG U e 0 = iMin (tE T e 8) (ePump (tE T e)) := by
        show iMin (ePump (tE (pm1 U e) e)) (tE (pm1 U e) e 8 + 0) = _
        rw [sM, s8b, Int32.add_zero, iMin_comm]
      have hk := okPs_sE (e := e) (T := askT T e) (by rw [askT_0 hz2 hp]; exact oP) (fun _ _ => trivial)
      have hf1 := askT_fr T e
      rw [e2] at hfr ⊢
      rw [e1, pumpU_E0 s70 (by omega) (sS.trans hp), gE]
      refine ⟨?_, tOk_fr ho hfr hk⟩
      refine fin_E (U := U) ?_ hf1 (fun j => sE_col (by omega)) (fun j hj => (hE j hj).1.1 0 (by omega)) ?_ hz he hi o3
      · rw [askT_0 hz2 hp]; exact simW_ask h
      · rw [askT_0 hz2 hp, tE_sE, upd_at]
    · have hpo : pondOf T (tE T e) = -1 ∨ pondOf T (tE T e) = nI p := by unfold pondOf; split; exact Or.inr z; exact Or.inl rfl
      rcases hpo with hpo | hpo
      · have gE : pmG U e 0 = iMin (tE T e 8) (ePump (tE T e)) := by
          show iMin (ePump (tE (pm1 U e) e)) (tE (pm1 U e) e 8 + 0) = _
          rw [sM, s8b, Int32.add_zero, iMin_comm]
        have hk := okPs_sE (e := e) (T := askT T e) (by rw [askT_0 hz2 hpo]; exact oP) (fun _ _ => trivial)
        have hf1 := askT_fr T e
        rw [e2] at hfr ⊢
        rw [e1, pumpU_E0 s70 (by omega) (sS.trans hpo), gE]
        refine ⟨?_, tOk_fr ho hfr hk⟩
        refine fin_E (U := U) ?_ hf1 (fun j => sE_col (by omega)) (fun j hj => (hE j hj).1.1 0 (by omega)) ?_ hz he hi o3
        · rw [askT_0 hz2 hpo]; exact simW_ask h
        · rw [askT_0 hz2 hpo, tE_sE, upd_at]
      · obtain ⟨gT, hgT⟩ : ∃ y, y = pGive (tP T p) (ePump (tE T e) - tE T e 8) := ⟨_, rfl⟩
        have gS : pmS U e p = gT := by
          show iMin (tP U p 1) (iMax 0 (ePump (tE (pm1 U e) e) - tE (pm1 U e) e 8)) = _
          rw [sM, s8b, (hP p hp).2, hgT, ← give_same (oP p hp).2]
          rfl
        have gE : pmG U e (pmS U e p) = iMin (tE T e 8 + gT) (ePump (tE T e)) := by
          show iMin (ePump (tE (pm1 U e) e)) (tE (pm1 U e) e 8 + pmS U e p) = _
          rw [sM, s8b, gS, iMin_comm]
        have gle := give_le (w := ePump (tE T e) - tE T e 8) (oP p hp).2
        have hA := askT_P hz2 hpo hp o2
        rw [← hgT] at hA
        have hk := okPs_sE (e := e) (T := askT T e) (by rw [hA]; exact okPs_E (okPs_P oP (sub_pos (by rw [hgT]; exact gle.1) (by rw [hgT]; exact gle.2)))) (fun _ _ => trivial)
        have hf1 := askT_fr T e
        rw [e2] at hfr ⊢
        rw [e1, pumpU_EP s70 (by omega) (sS.trans hpo) (by omega), gE]
        refine ⟨?_, tOk_fr ho hfr hk⟩
        refine fin_E (U := U) ?_ hf1 (fun j => sE_col (by omega)) (fun j hj => (hE j hj).1.1 0 (by omega)) ?_ hz he hi o3
        · rw [hA, ← gS, ← (hP p hp).2]
          exact simW_ask (e := e) (simW_p (p := p) (x := tP U p 1 - pmS U e p) h)
        · rw [hA, tE_sE, upd_at]
  · have hz2 : ¬ tE T e 7 = -1 := by rw [hz]; exact nI_m1 (by omega)
    have s70 := s7.trans hz
    rcases jFirst_or (fun i => aNear (tP T i 0) (tE T e 0)) (tPn T) with z | ⟨p, hp, z, -⟩
    · have hp : pondOf T (tE T e) = -1 := by unfold pondOf; split; exact z; rfl
      have gE : pmG U e 0 = iMin (tE T e 8) (ePump (tE T e)) := by
        show iMin (ePump (tE (pm1 U e) e)) (tE (pm1 U e) e 8 + 0) = _
        rw [sM, s8b, Int32.add_zero, iMin_comm]
      have hk := okPs_sE (e := e) (T := askT T e) (by rw [askT_0 hz2 hp]; exact oP) (fun _ _ => trivial)
      have hf1 := askT_fr T e
      rw [e2] at hfr ⊢
      rw [e1, pumpU_H0 s70 (by omega) (sS.trans hp), gE]
      refine ⟨?_, tOk_fr ho hfr hk⟩
      refine fin_H (U := U) ?_ hf1 (sE_col (by omega)) rfl (sE1.1 0 (by omega)) ((hH i hi).1 0 (by omega)) ?_ hz hi o3 o1
      · rw [askT_0 hz2 hp]; exact simW_ask h
      · rw [askT_0 hz2 hp, tE_sE, upd_at]
    · have hpo : pondOf T (tE T e) = -1 ∨ pondOf T (tE T e) = nI p := by unfold pondOf; split; exact Or.inr z; exact Or.inl rfl
      rcases hpo with hpo | hpo
      · have gE : pmG U e 0 = iMin (tE T e 8) (ePump (tE T e)) := by
          show iMin (ePump (tE (pm1 U e) e)) (tE (pm1 U e) e 8 + 0) = _
          rw [sM, s8b, Int32.add_zero, iMin_comm]
        have hk := okPs_sE (e := e) (T := askT T e) (by rw [askT_0 hz2 hpo]; exact oP) (fun _ _ => trivial)
        have hf1 := askT_fr T e
        rw [e2] at hfr ⊢
        rw [e1, pumpU_H0 s70 (by omega) (sS.trans hpo), gE]
        refine ⟨?_, tOk_fr ho hfr hk⟩
        refine fin_H (U := U) ?_ hf1 (sE_col (by omega)) rfl (sE1.1 0 (by omega)) ((hH i hi).1 0 (by omega)) ?_ hz hi o3 o1
        · rw [askT_0 hz2 hpo]; exact simW_ask h
        · rw [askT_0 hz2 hpo, tE_sE, upd_at]
      · obtain ⟨gT, hgT⟩ : ∃ y, y = pGive (tP T p) (ePump (tE T e) - tE T e 8) := ⟨_, rfl⟩
        have gS : pmS U e p = gT := by
          show iMin (tP U p 1) (iMax 0 (ePump (tE (pm1 U e) e) - tE (pm1 U e) e 8)) = _
          rw [sM, s8b, (hP p hp).2, hgT, ← give_same (oP p hp).2]
          rfl
        have gE : pmG U e (pmS U e p) = iMin (tE T e 8 + gT) (ePump (tE T e)) := by
          show iMin (ePump (tE (pm1 U e) e)) (tE (pm1 U e) e 8 + pmS U e p) = _
          rw [sM, s8b, gS, iMin_comm]
        have gle := give_le (w := ePump (tE T e) - tE T e 8) (oP p hp).2
        have hA := askT_P hz2 hpo hp o2
        rw [← hgT] at hA
        have hk := okPs_sE (e := e) (T := askT T e) (by rw [hA]; exact okPs_E (okPs_P oP (sub_pos (by rw [hgT]; exact gle.1) (by rw [hgT]; exact gle.2)))) (fun _ _ => trivial)
        have hf1 := askT_fr T e
        rw [e2] at hfr ⊢
        rw [e1, pumpU_HP s70 (by omega) (sS.trans hpo) (by omega), gE]
        refine ⟨?_, tOk_fr ho hfr hk⟩
        refine fin_H (U := U) ?_ hf1 (sE_col (by omega)) rfl (sE1.1 0 (by omega)) ((hH i hi).1 0 (by omega)) ?_ hz hi o3 o1
        · rw [hA, ← gS, ← (hP p hp).2]
          exact simW_ask (e := e) (simW_p (p := p) (x := tP U p 1 - pmS U e p) h)
        · rw [hA, tE_sE, upd_at]
theorem turnsT_comm (n : Nat) (T : fTn) : turnsT n (turnT T) = turnT (turnsT n T) := by
  induction n with
  | zero => rfl
  | succ n ih => show turnT (turnsT n (turnT T)) = _; rw [ih]; rfl
theorem mTurns_s {n : Nat} {U : fTn} : mTurns (n + 1) U = mTurns n (mTurn U) := rfl
theorem mTurns_comm (n : Nat) (U : fTn) : mTurns n (mTurn U) = mTurn (mTurns n U) := by
  induction n generalizing U with
  | zero => show mTurn U = mTurn U; rfl
  | succ n ih => rw [mTurns_s, ih, mTurns_s]
theorem turns_same (n : Nat) {U T : fTn} (h : simW U T) (ho : tOk T) : simW (mTurns n U) (turnsT n T) ∧ tOk (turnsT n T) := by
  induction n with
  | zero => exact ⟨h, ho⟩
  | succ n ih =>
    have e1 : mTurns (n + 1) U = mTurn (mTurns n U) := mTurns_comm n U
    rw [e1]
    exact turn_same ih.1 ih.2
theorem unask_0 {f : Nat → Nat → Int32} {n e : Nat} (h : unask f n = 0) (he : e < n) : f e 10 ≠ 0 := by
  induction n with
  | zero => exact absurd he (Nat.not_lt_zero _)
  | succ n ih =>
    unfold unask at h
    rcases Nat.lt_or_ge e n with q | q
    · exact ih (by omega) q
    · rw [show e = n by omega]
      intro z
      rw [if_pos z] at h
      omega
theorem next_end (n : Nat) : ∀ U : fTn, tEn U ≤ 6 → unask (tE U) (tEn U) ≤ n → nextE (mTurns n U) = -1 := by
  induction n with
  | zero =>
    intro U h6 h
    rcases nextE_or U with q | ⟨e, he, -, q0⟩
    · exact q
    · exact absurd q0 (unask_0 (by omega) he)
  | succ n ih =>
    intro U h6 h
    rcases nextE_or U with q | ⟨e, he, q, q0⟩
    · rw [mTurns_stop q]; exact q
    · have e1 := mTurn_at q (by omega)
      refine ih (mTurn U) (by rw [(mTurn_n U).2.2.1]; exact h6) ?_
      rw [(mTurn_n U).2.2.1]
      have e2 := unask_set (f := tE U) (f2 := tE (mTurn U)) he q0 (by rw [e1, tE_at, if_pos rfl]) (fun j hj => by rw [e1, tE_at, if_neg hj]; exact (pumpU_7 U e j).2)
      omega
theorem turns_more {U : fTn} (h6 : tEn U ≤ 6) : mTurns (tEn U + 1) U = mTurns (tEn U) U := by
  have e1 : mTurns (tEn U + 1) U = mTurn (mTurns (tEn U) U) := mTurns_comm _ U
  rw [e1]
  unfold mTurn
  rw [next_end (tEn U) U h6 unask_le, if_pos rfl]
/-- no hose's ring: who isn't asked yet is asked some time -/
theorem maxRk (rk : Nat → Nat) (P : Nat → Prop) : ∀ n, (∃ e, e < n ∧ P e) → ∃ e, e < n ∧ P e ∧ ∀ j, j < n → P j → rk j ≤ rk e := by
  intro n
  induction n with
  | zero => rintro ⟨e, he, -⟩; exact absurd he (Nat.not_lt_zero _)
  | succ n ih =>
    rintro ⟨e, he, hp⟩
    by_cases q : ∃ e, e < n ∧ P e
    · obtain ⟨a, ha, pa, hm⟩ := ih q
      by_cases q2 : P n ∧ rk a < rk n
      · refine ⟨n, by omega, q2.1, fun j hj pj => ?_⟩
        rcases Nat.lt_or_ge j n with z | z
        · have := hm j z pj; omega
        · rw [show j = n by omega]; exact Nat.le_refl _
      · refine ⟨a, by omega, pa, fun j hj pj => ?_⟩
        rcases Nat.lt_or_ge j n with z | z
        · exact hm j z pj
        · rw [show j = n by omega] at pj ⊢
          exact Nat.le_of_not_lt fun w => q2 ⟨pj, w⟩
    · refine ⟨e, he, hp, fun j hj pj => ?_⟩
      have e1 : ∀ x, x < n + 1 → P x → x = n := fun x hx px => by
        rcases Nat.lt_or_ge x n with z | z
        · exact absurd ⟨x, z, px⟩ q
        · omega
      rw [e1 j hj pj, e1 e he hp]; exact Nat.le_refl _
theorem waits_ex {f : Nat → Nat → Int32} {x : Int32} {n : Nat} (h : waits f x n = true) : ∃ j, j < n ∧ f j 10 = 0 ∧ f j 7 = x := by
  induction n with
  | zero => exact absurd h Bool.false_ne_true
  | succ n ih =>
    unfold waits at h
    simp only [Bool.or_eq_true, Bool.and_eq_true, decide_eq_true_eq] at h
    rcases h with h | ⟨a, b⟩
    · obtain ⟨j, hj, q⟩ := ih h
      exact ⟨j, by omega, q⟩
    · exact ⟨n, by omega, a, b⟩
theorem inR_nI {i : Nat} (h : i < 6) : inR (nI i) 0 5 = true :=
  inR_mk (nI_pos (by omega)) (nI_le (a := i) (b := 5) (by omega) (by omega))
theorem all_asked {T : fTn} {rk : Nat → Nat} (hR : okH T rk) (h6 : tEn T ≤ 6) (hN : nextE T = -1) : ∀ e, e < tEn T → tE T e 10 ≠ 0 := by
  intro e he q
  obtain ⟨a, ha, pa, hm⟩ := maxRk rk (fun e => tE T e 10 = 0) (tEn T) ⟨e, he, q⟩
  have hw : waits (tE T) (nI a) (tEn T) = false := by
    rcases hb : waits (tE T) (nI a) (tEn T) with - | -
    · rfl
    · obtain ⟨j, hj, q0, q7⟩ := waits_ex hb
      obtain ⟨-, h2⟩ := hR j hj
      obtain ⟨i, hi, e1, lt⟩ := h2 (by rw [q7]; exact inR_nI (by omega))
      rw [q7] at e1
      have ea : a = i := nI_eq' e1 (by omega) (by omega)
      have := hm j hj q0
      rw [← ea] at lt
      omega
  rcases jFirst_or (fun i => decide (tE T i 10 = 0) && !(waits (tE T) (nI i) (tEn T))) (tEn T) with z | ⟨k, hk, z, -⟩
  · unfold jFirst at z
    have f1 : firstN (fun i => decide (tE T i 10 = 0) && !(waits (tE T) (nI i) (tEn T))) (tEn T) = tEn T := by
      rcases Nat.lt_or_ge (firstN (fun i => decide (tE T i 10 = 0) && !(waits (tE T) (nI i) (tEn T))) (tEn T)) (tEn T) with y | y
      · rw [if_pos y] at z; exact absurd z (nI_m1 (by omega))
      · exact Nat.le_antisymm (firstN_le _ _) y
    have f2 := firstN_no (p := fun i => decide (tE T i 10 = 0) && !(waits (tE T) (nI i) (tEn T))) (n := tEn T) (k := a) (by rw [f1]; exact ha)
    simp only [pa, hw, decide_true, Bool.not_false, Bool.and_true] at f2
    exact absurd f2 (by decide)
  · unfold nextE at hN
    rw [z] at hN
    exact absurd hN (nI_m1 (by omega))
