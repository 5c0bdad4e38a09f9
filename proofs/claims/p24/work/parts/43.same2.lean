def tOk (T : fTn) : Prop := okPs T ∧ okHz T ∧ (∀ e, e < tEn T → isC0 (tE T e 0)) ∧ tHn T ≤ 30 ∧ tPn T ≤ 6 ∧ tEn T ≤ 6
theorem tOk_fr {T T2 : fTn} (h : tOk T) (f : frW T2 T) (hp : okPs T2) : tOk T2 := by
  obtain ⟨-, h2, h3, h4, h5, h6⟩ := h
  obtain ⟨⟨-, n1, n2, n3⟩, -, -, fE⟩ := f
  refine ⟨hp, fun j hj => ?_, fun j hj => ?_, by rw [n1]; exact h4, by rw [n2]; exact h5, by rw [n3]; exact h6⟩
  · rw [n3] at hj ⊢
    rw [n1, fE j 7 (by omega)]
    exact h2 j hj
  · rw [n3] at hj
    rw [fE j 0 (by omega)]
    exact h3 j hj
theorem fin_E {U V T T1 : fTn} {e i : Nat} {gv : Int32} (h2 : simW (askd (pm3 V e gv) e) T1) (fr : frW T1 T) (hV : ∀ j, tE V j 0 = tE U j 0) (hU : ∀ j, j < tEn T → tE U j 0 = tE T j 0) (h9 : tE T1 e 9 = gv) (hz : tE T e 7 = nI i) (he : e < tEn T) (hi : i < tEn T) (o3 : tEn T ≤ 6) : simW (askd (pmE V e i gv) e) (sendT T1 e) := by
  have n3 := fr.1.2.2.2
  rw [askd_E, sendT_E ((fr.2.2.2 e 7 (by omega)).trans hz) (by rw [n3]; exact hi) (by rw [n3]; exact o3), h9, fr.2.2.2 e 0 (by omega), fr.2.2.2 i 0 (by omega), hV, hV, hU e he, hU i hi]
  exact simW_8 h2
theorem fin_H {U V T T1 : fTn} {e i : Nat} {gv : Int32} (h2 : simW (askd (pm3 V e gv) e) T1) (fr : frW T1 T) (hV : tE V e 0 = tE U e 0) (hVH : tH V = tH U) (hU : tE U e 0 = tE T e 0) (hUH : tH U i 0 = tH T i 0) (h9 : tE T1 e 9 = gv) (hz : tE T e 7 = nI (100 + i)) (hi : i < tHn T) (o3 : tEn T ≤ 6) (o1 : tHn T ≤ 30) : simW (askd (pmH V e i gv) e) (sendT T1 e) := by
  have n3 := fr.1.2.2.2
  have n1 := fr.1.2.1
  rw [sendT_H ((fr.2.2.2 e 7 (by omega)).trans hz) (by rw [n1]; exact hi) (by rw [n3]; exact o3) (by rw [n1]; exact o1), h9, fr.2.2.2 e 0 (by omega), fr.2.1 i 0 (by omega) (by omega), ← hU, ← hV, ← hUH, ← hVH]
  exact simW_h (h0 := i) (x := arrivesI gv (aDist (tE V e 0) (tH V i 0))) h2
theorem okPs_sE {T : fTn} {e : Nat} (h : okPs T) (hz : ∀ x : Nat, x < 1 → True) : okPs (sendT T e) := by
  unfold sendT
  split
  · exact h
  · split
    · exact h
    · exact h
theorem turn_same {U T : fTn} (h : simW U T) (ho : tOk T) : simW (mTurn U) (turnT T) ∧ tOk (turnT T) := by
  have hN := next_same h
  obtain ⟨oP, oZ, oC, o1, o2, o3⟩ := id ho
  rcases nextE_or T with q | ⟨e, he, q, q0⟩
  · have e1 : mTurn U = U := by unfold mTurn; rw [hN, q, if_pos rfl]
    have e2 : turnT T = T := by unfold turnT; rw [q, isIx_m1, if_neg Bool.false_ne_true]
    rw [e1, e2]; exact ⟨h, ho⟩
  have e1 : mTurn U = askd (pumpU U e) e := mTurn_at (by rw [hN]; exact q) (by omega)
  have e2 : turnT T = sendT (askT T e) e := by unfold turnT; rw [q, isIx_nI he (by omega), if_pos rfl, nI_clamp (by omega)]
  have hfr := turnT_fr T
  obtain ⟨⟨n0, n1, n2, n3⟩, hP, hH, hE⟩ := id h
  obtain ⟨sE1, s8, s10, -, -⟩ := hE e he
  have s7 : tE U e 7 = tE T e 7 := sE1.2.1
  have sS : pumpS U e = pondOf T (tE T e) := by
    unfold pumpS
    refine (src_same (U := pm1 U e) (f := tE (pm1 U e) e) n2 (fun p hp => (hP p hp).1) (fun p hp => (oP p hp).1) ?_ ?_ (oC e he))
    · rw [sE_col (by omega)]; exact sE1.1 0 (by omega)
    · rw [sE_col (by omega)]; exact sE1.1 5 (by omega)
  have sM : ePump (tE (pm1 U e) e) = ePump (tE T e) := by
    rw [← eSim_pump sE1]
    exact ePump_cong (sE_col (by omega)) (sE_col (by omega)) (sE_col (by omega))
  have s8b : tE (pm1 U e) e 8 = tE T e 8 := (sE_col (by omega)).trans s8
  rcases oZ e he with hz | ⟨i, hi, hz⟩ | ⟨i, hi, hz⟩
  · rw [e2, askT_N hz, sendT_N (by rw [sE_col (by omega)]; exact hz)] at hfr ⊢
    rw [e1, pumpU_N (s7.trans hz)]
    exact ⟨simW_none h q0, tOk_fr ho hfr oP⟩
  · have hz2 : ¬ tE T e 7 = -1 := by rw [hz]; exact nI_m1 (by omega)
    have s70 := s7.trans hz
    rcases jFirst_or (fun i => aNear (tP T i 0) (tE T e 0)) (tPn T) with z | ⟨p, hp, z, -⟩
    · have hp : pondOf T (tE T e) = -1 := by unfold pondOf; split; exact z; rfl
      have gE : pmG U e 0 = iMin (tE T e 8) (ePump (tE T e)) := by
        show iMin (ePump (tE (pm1 U e) e)) (tE (pm1 U e) e 8 + 0) = _
        rw [sM, s8b, Int32.add_zero, iMin_comm]
      have hk := okPs_sE (e := e) (T := askT T e) (by rw [askT_0 hz2 hp]; exact oP) (fun _ _ => trivial)
      have hf1 := askT_fr T e
      rw [e2] at hfr ⊢
      rw [e1, pumpU_E0 s70 (by omega) (sS.trans hp), gE]
      refine ⟨?_, tOk_fr ho hfr hk⟩
      refine fin_E (U := U) ?_ hf1 (fun j => sE_col (by omega)) (fun j hj => (hE j hj).1.1 0 (by omega)) ?_ hz he hi o3
      · rw [askT_0 hz2 hp]; exact simW_ask h
      · rw [askT_0 hz2 hp, tE_sE, upd_at]
    · have hpo : pondOf T (tE T e) = -1 ∨ pondOf T (tE T e) = nI p := by unfold pondOf; split; exact Or.inr z; exact Or.inl rfl
      rcases hpo with hpo | hpo
      · have gE : pmG U e 0 = iMin (tE T e 8) (ePump (tE T e)) := by
          show iMin (ePump (tE (pm1 U e) e)) (tE (pm1 U e) e 8 + 0) = _
          rw [sM, s8b, Int32.add_zero, iMin_comm]
        have hk := okPs_sE (e := e) (T := askT T e) (by rw [askT_0 hz2 hpo]; exact oP) (fun _ _ => trivial)
        have hf1 := askT_fr T e
        rw [e2] at hfr ⊢
        rw [e1, pumpU_E0 s70 (by omega) (sS.trans hpo), gE]
        refine ⟨?_, tOk_fr ho hfr hk⟩
        refine fin_E (U := U) ?_ hf1 (fun j => sE_col (by omega)) (fun j hj => (hE j hj).1.1 0 (by omega)) ?_ hz he hi o3
        · rw [askT_0 hz2 hpo]; exact simW_ask h
        · rw [askT_0 hz2 hpo, tE_sE, upd_at]
      · obtain ⟨gT, hgT⟩ : ∃ y, y = pGive (tP T p) (ePump (tE T e) - tE T e 8) := ⟨_, rfl⟩
        have gS : pmS U e p = gT := by
          show iMin (tP U p 1) (iMax 0 (ePump (tE (pm1 U e) e) - tE (pm1 U e) e 8)) = _
          rw [sM, s8b, (hP p hp).2, hgT, ← give_same (oP p hp).2]
          rfl
        have gE : pmG U e (pmS U e p) = iMin (tE T e 8 + gT) (ePump (tE T e)) := by
          show iMin (ePump (tE (pm1 U e) e)) (tE (pm1 U e) e 8 + pmS U e p) = _
          rw [sM, s8b, gS, iMin_comm]
        have gle := give_le (w := ePump (tE T e) - tE T e 8) (oP p hp).2
        have hA := askT_P hz2 hpo hp o2
        rw [← hgT] at hA
        have hk := okPs_sE (e := e) (T := askT T e) (by rw [hA]; exact okPs_E (okPs_P oP (sub_pos (by rw [hgT]; exact gle.1) (by rw [hgT]; exact gle.2)))) (fun _ _ => trivial)
        have hf1 := askT_fr T e
        rw [e2] at hfr ⊢
        rw [e1, pumpU_EP s70 (by omega) (sS.trans hpo) (by omega), gE]
        refine ⟨?_, tOk_fr ho hfr hk⟩
        refine fin_E (U := U) ?_ hf1 (fun j => sE_col (by omega)) (fun j hj => (hE j hj).1.1 0 (by omega)) ?_ hz he hi o3
        · rw [hA, ← gS, ← (hP p hp).2]
          exact simW_ask (e := e) (simW_p (p := p) (x := tP U p 1 - pmS U e p) h)
        · rw [hA, tE_sE, upd_at]
  · have hz2 : ¬ tE T e 7 = -1 := by rw [hz]; exact nI_m1 (by omega)
    have s70 := s7.trans hz
    rcases jFirst_or (fun i => aNear (tP T i 0) (tE T e 0)) (tPn T) with z | ⟨p, hp, z, -⟩
    · have hp : pondOf T (tE T e) = -1 := by unfold pondOf; split; exact z; rfl
      have gE : pmG U e 0 = iMin (tE T e 8) (ePump (tE T e)) := by
        show iMin (ePump (tE (pm1 U e) e)) (tE (pm1 U e) e 8 + 0) = _
        rw [sM, s8b, Int32.add_zero, iMin_comm]
      have hk := okPs_sE (e := e) (T := askT T e) (by rw [askT_0 hz2 hp]; exact oP) (fun _ _ => trivial)
      have hf1 := askT_fr T e
      rw [e2] at hfr ⊢
      rw [e1, pumpU_H0 s70 (by omega) (sS.trans hp), gE]
      refine ⟨?_, tOk_fr ho hfr hk⟩
      refine fin_H (U := U) ?_ hf1 (sE_col (by omega)) rfl (sE1.1 0 (by omega)) ((hH i hi).1 0 (by omega)) ?_ hz hi o3 o1
      · rw [askT_0 hz2 hp]; exact simW_ask h
      · rw [askT_0 hz2 hp, tE_sE, upd_at]
    · have hpo : pondOf T (tE T e) = -1 ∨ pondOf T (tE T e) = nI p := by unfold pondOf; split; exact Or.inr z; exact Or.inl rfl
      rcases hpo with hpo | hpo
      · have gE : pmG U e 0 = iMin (tE T e 8) (ePump (tE T e)) := by
          show iMin (ePump (tE (pm1 U e) e)) (tE (pm1 U e) e 8 + 0) = _
          rw [sM, s8b, Int32.add_zero, iMin_comm]
        have hk := okPs_sE (e := e) (T := askT T e) (by rw [askT_0 hz2 hpo]; exact oP) (fun _ _ => trivial)
        have hf1 := askT_fr T e
        rw [e2] at hfr ⊢
        rw [e1, pumpU_H0 s70 (by omega) (sS.trans hpo), gE]
        refine ⟨?_, tOk_fr ho hfr hk⟩
        refine fin_H (U := U) ?_ hf1 (sE_col (by omega)) rfl (sE1.1 0 (by omega)) ((hH i hi).1 0 (by omega)) ?_ hz hi o3 o1
        · rw [askT_0 hz2 hpo]; exact simW_ask h
        · rw [askT_0 hz2 hpo, tE_sE, upd_at]
      · obtain ⟨gT, hgT⟩ : ∃ y, y = pGive (tP T p) (ePump (tE T e) - tE T e 8) := ⟨_, rfl⟩
        have gS : pmS U e p = gT := by
          show iMin (tP U p 1) (iMax 0 (ePump (tE (pm1 U e) e) - tE (pm1 U e) e 8)) = _
          rw [sM, s8b, (hP p hp).2, hgT, ← give_same (oP p hp).2]
          rfl
        have gE : pmG U e (pmS U e p) = iMin (tE T e 8 + gT) (ePump (tE T e)) := by
          show iMin (ePump (tE (pm1 U e) e)) (tE (pm1 U e) e 8 + pmS U e p) = _
          rw [sM, s8b, gS, iMin_comm]
        have gle := give_le (w := ePump (tE T e) - tE T e 8) (oP p hp).2
        have hA := askT_P hz2 hpo hp o2
        rw [← hgT] at hA
        have hk := okPs_sE (e := e) (T := askT T e) (by rw [hA]; exact okPs_E (okPs_P oP (sub_pos (by rw [hgT]; exact gle.1) (by rw [hgT]; exact gle.2)))) (fun _ _ => trivial)
        have hf1 := askT_fr T e
        rw [e2] at hfr ⊢
        rw [e1, pumpU_HP s70 (by omega) (sS.trans hpo) (by omega), gE]
        refine ⟨?_, tOk_fr ho hfr hk⟩
        refine fin_H (U := U) ?_ hf1 (sE_col (by omega)) rfl (sE1.1 0 (by omega)) ((hH i hi).1 0 (by omega)) ?_ hz hi o3 o1
        · rw [hA, ← gS, ← (hP p hp).2]
          exact simW_ask (e := e) (simW_p (p := p) (x := tP U p 1 - pmS U e p) h)
        · rw [hA, tE_sE, upd_at]
theorem turnsT_comm (n : Nat) (T : fTn) : turnsT n (turnT T) = turnT (turnsT n T) := by
  induction n with
  | zero => rfl
  | succ n ih => show turnT (turnsT n (turnT T)) = _; rw [ih]; rfl
theorem mTurns_s {n : Nat} {U : fTn} : mTurns (n + 1) U = mTurns n (mTurn U) := rfl
theorem mTurns_comm (n : Nat) (U : fTn) : mTurns n (mTurn U) = mTurn (mTurns n U) := by
  induction n generalizing U with
  | zero => show mTurn U = mTurn U; rfl
  | succ n ih => rw [mTurns_s, ih, mTurns_s]
theorem turns_same (n : Nat) {U T : fTn} (h : simW U T) (ho : tOk T) : simW (mTurns n U) (turnsT n T) ∧ tOk (turnsT n T) := by
  induction n with
  | zero => exact ⟨h, ho⟩
  | succ n ih =>
    have e1 : mTurns (n + 1) U = mTurn (mTurns n U) := mTurns_comm n U
    rw [e1]
    exact turn_same ih.1 ih.2
theorem unask_0 {f : Nat → Nat → Int32} {n e : Nat} (h : unask f n = 0) (he : e < n) : f e 10 ≠ 0 := by
  induction n with
  | zero => exact absurd he (Nat.not_lt_zero _)
  | succ n ih =>
    unfold unask at h
    rcases Nat.lt_or_ge e n with q | q
    · exact ih (by omega) q
    · rw [show e = n by omega]
      intro z
      rw [if_pos z] at h
      omega
theorem next_end (n : Nat) : ∀ U : fTn, tEn U ≤ 6 → unask (tE U) (tEn U) ≤ n → nextE (mTurns n U) = -1 := by
  induction n with
  | zero =>
    intro U h6 h
    rcases nextE_or U with q | ⟨e, he, -, q0⟩
    · exact q
    · exact absurd q0 (unask_0 (by omega) he)
  | succ n ih =>
    intro U h6 h
    rcases nextE_or U with q | ⟨e, he, q, q0⟩
    · rw [mTurns_stop q]; exact q
    · have e1 := mTurn_at q (by omega)
      refine ih (mTurn U) (by rw [(mTurn_n U).2.2.1]; exact h6) ?_
      rw [(mTurn_n U).2.2.1]
      have e2 := unask_set (f := tE U) (f2 := tE (mTurn U)) he q0 (by rw [e1, tE_at, if_pos rfl]) (fun j hj => by rw [e1, tE_at, if_neg hj]; exact (pumpU_7 U e j).2)
      omega
theorem turns_more {U : fTn} (h6 : tEn U ≤ 6) : mTurns (tEn U + 1) U = mTurns (tEn U) U := by
  have e1 : mTurns (tEn U + 1) U = mTurn (mTurns (tEn U) U) := mTurns_comm _ U
  rw [e1]
  unfold mTurn
  rw [next_end (tEn U) U h6 unask_le, if_pos rfl]
/-- no hose's ring: who isn't asked yet is asked some time -/
theorem maxRk (rk : Nat → Nat) (P : Nat → Prop) : ∀ n, (∃ e, e < n ∧ P e) → ∃ e, e < n ∧ P e ∧ ∀ j, j < n → P j → rk j ≤ rk e := by
  intro n
  induction n with
  | zero => rintro ⟨e, he, -⟩; exact absurd he (Nat.not_lt_zero _)
  | succ n ih =>
    rintro ⟨e, he, hp⟩
    by_cases q : ∃ e, e < n ∧ P e
    · obtain ⟨a, ha, pa, hm⟩ := ih q
      by_cases q2 : P n ∧ rk a < rk n
      · refine ⟨n, by omega, q2.1, fun j hj pj => ?_⟩
        rcases Nat.lt_or_ge j n with z | z
        · have := hm j z pj; omega
        · rw [show j = n by omega]; exact Nat.le_refl _
      · refine ⟨a, by omega, pa, fun j hj pj => ?_⟩
        rcases Nat.lt_or_ge j n with z | z
        · exact hm j z pj
        · rw [show j = n by omega] at pj ⊢
          exact Nat.le_of_not_lt fun w => q2 ⟨pj, w⟩
    · refine ⟨e, he, hp, fun j hj pj => ?_⟩
      have e1 : ∀ x, x < n + 1 → P x → x = n := fun x hx px => by
        rcases Nat.lt_or_ge x n with z | z
        · exact absurd ⟨x, z, px⟩ q
        · omega
      rw [e1 j hj pj, e1 e he hp]; exact Nat.le_refl _
theorem waits_ex {f : Nat → Nat → Int32} {x : Int32} {n : Nat} (h : waits f x n = true) : ∃ j, j < n ∧ f j 10 = 0 ∧ f j 7 = x := by
  induction n with
  | zero => exact absurd h Bool.false_ne_true
  | succ n ih =>
    unfold waits at h
    simp only [Bool.or_eq_true, Bool.and_eq_true, decide_eq_true_eq] at h
    rcases h with h | ⟨a, b⟩
    · obtain ⟨j, hj, q⟩ := ih h
      exact ⟨j, by omega, q⟩
    · exact ⟨n, by omega, a, b⟩
theorem inR_nI {i : Nat} (h : i < 6) : inR (nI i) 0 5 = true :=
  inR_mk (nI_pos (by omega)) (nI_le (a := i) (b := 5) (by omega) (by omega))
theorem all_asked {T : fTn} {rk : Nat → Nat} (hR : okH T rk) (h6 : tEn T ≤ 6) (hN : nextE T = -1) : ∀ e, e < tEn T → tE T e 10 ≠ 0 := by
  intro e he q
  obtain ⟨a, ha, pa, hm⟩ := maxRk rk (fun e => tE T e 10 = 0) (tEn T) ⟨e, he, q⟩
  have hw : waits (tE T) (nI a) (tEn T) = false := by
    rcases hb : waits (tE T) (nI a) (tEn T) with - | -
    · rfl
    · obtain ⟨j, hj, q0, q7⟩ := waits_ex hb
      obtain ⟨-, h2⟩ := hR j hj
      obtain ⟨i, hi, e1, lt⟩ := h2 (by rw [q7]; exact inR_nI (by omega))
      rw [q7] at e1
      have ea : a = i := nI_eq' e1 (by omega) (by omega)
      have := hm j hj q0
      rw [← ea] at lt
      omega
  rcases jFirst_or (fun i => decide (tE T i 10 = 0) && !(waits (tE T) (nI i) (tEn T))) (tEn T) with z | ⟨k, hk, z, -⟩
  · unfold jFirst at z
    have f1 : firstN (fun i => decide (tE T i 10 = 0) && !(waits (tE T) (nI i) (tEn T))) (tEn T) = tEn T := by
      rcases Nat.lt_or_ge (firstN (fun i => decide (tE T i 10 = 0) && !(waits (tE T) (nI i) (tEn T))) (tEn T)) (tEn T) with y | y
      · rw [if_pos y] at z; exact absurd z (nI_m1 (by omega))
      · exact Nat.le_antisymm (firstN_le _ _) y
    have f2 := firstN_no (p := fun i => decide (tE T i 10 = 0) && !(waits (tE T) (nI i) (tEn T))) (n := tEn T) (k := a) (by rw [f1]; exact ha)
    simp only [pa, hw, decide_true, Bool.not_false, Bool.and_true] at f2
    exact absurd f2 (by decide)
  · unfold nextE at hN
    rw [z] at hN
    exact absurd hN (nI_m1 (by omega))

theorem row_mE {F : (Nat → Int32) → Nat → Int32} {n j : Nat} {T : fTn} (h : j < n) : tE (mE F n T) j = F (tE T j) := if_pos h
theorem row_mH {F : (Nat → Int32) → Nat → Int32} {n j : Nat} {T : fTn} (h : j < n) : tH (mH F n T) j = F (tH T j) := if_pos h
theorem eSpend_row {f f2 : Nat → Int32} (h : eSim f f2) (h9 : f 9 = f2 9) : eSim (eSpend f) (eSpend f2) ∧ eSpend f 9 = eSpend f2 9 := by
  unfold eSpend
  rw [h9]
  by_cases q : f2 9 ≤ 0
  · rw [if_pos q, if_pos q]; exact ⟨h, h9⟩
  · rw [if_neg q, if_neg q]
    refine ⟨⟨fun k hk => ?_, h.2.1, h.2.2⟩, h9⟩
    by_cases q2 : k = 4
    · rw [q2, upd_at, upd_at, h.1 4 (by omega)]
    · rw [upd_ne q2, upd_ne q2]; exact h.1 k hk
theorem eSpend_ne {f : Nat → Int32} {k : Nat} (h : k ≠ 4) : eSpend f k = f k := by
  unfold eSpend
  split
  · rfl
  · exact upd_ne h
theorem eOk_of {kf f f2 : Nat → Int32} (h : eOk kf f) (e0 : f2 0 = f 0) (e1 : f2 1 = f 1) (e3 : f2 3 = f 3) (e5 : f2 5 = f 5) (e6 : f2 6 = f 6) : eOk kf f2 := by
  unfold eOk at h ⊢
  rw [e0, e1, e3, e5, e6]
  exact h
theorem okH_of {T T2 : fTn} {rk : Nat → Nat} (h : okH T rk) (hn : tEn T2 = tEn T) (h7 : ∀ j, j < tEn T → tE T2 j 7 = tE T j 7) : okH T2 rk := by
  intro j hj
  rw [hn] at hj
  rw [h7 j hj, hn]
  exact h j hj
theorem okHz_of {T T2 : fTn} (h : okHz T) (hn : tEn T2 = tEn T) (hm : tHn T2 = tHn T) (h7 : ∀ j, j < tEn T → tE T2 j 7 = tE T j 7) : okHz T2 := by
  intro j hj
  rw [hn] at hj
  rw [h7 j hj, hn, hm]
  exact h j hj
theorem reset_same {U T : fTn} (h : simT U T) : simW (mE mReset (tEn U) (mH hReset (tHn U) U)) (mE eReset (tEn T) (mH hReset (tHn T) T)) := by
  obtain ⟨⟨n0, n1, n2, n3⟩, hP, hH, hE⟩ := h
  refine ⟨⟨n0, n1, n2, n3⟩, hP, fun j (hj : j < tHn T) => ?_, fun j (hj : j < tEn T) => ?_⟩
  · show wH (tH (mH hReset (tHn U) U) j) (tH (mH hReset (tHn T) T) j)
    rw [row_mH hj, row_mH (by rw [n1]; exact hj)]
    refine ⟨fun k hk => ?_, ?_⟩
    · show upd (tH U j) 5 0 k = upd (tH T j) 5 0 k
      by_cases q : k = 5
      · rw [q, upd_at, upd_at]
      · rw [upd_ne q, upd_ne q]; exact hH j hj k (by omega)
    · show upd (tH T j) 5 0 6 = upd (tH U j) 5 0 6 + upd (tH U j) 5 0 5
      rw [upd_at, upd_ne (by omega), upd_ne (by omega), Int32.add_zero]
      exact (hH j hj 6 (by omega)).symm
  · rw [row_mE (T := mH hReset (tHn T) T) hj, row_mE (T := mH hReset (tHn U) U) (by rw [n3]; exact hj)]
    exact ⟨eSim_u (eSim_u (eSim_t (eSim_t (eSim_t (hE j hj).1 (by omega)) (by omega)) (by omega)) (by omega)) (by omega), rfl, rfl, fun z => absurd rfl z, fun _ => rfl⟩
theorem turnsT_fr (n : Nat) (T : fTn) : frW (turnsT n T) T := by
  induction n with
  | zero => exact frW_rf
  | succ n ih => exact frW_tr ih (turnT_fr _)
theorem move_same {kf : Nat → Int32} {U T : fTn} (h : simT U T) (ho : okT kf T) : simT (mPumpAll U) (moveT T) ∧ okT kf (moveT T) ∧ ∀ p, tP (moveT T) p 0 = tP T p 0 := by
  obtain ⟨oH, oP, oE, oZ, ⟨rk, oR⟩, o1, o2, o3⟩ := ho
  have hW := reset_same h
  obtain ⟨⟨n0, n1, n2, n3⟩, -, -, -⟩ := h
  have r7 : ∀ j, j < tEn T → tE (mE eReset (tEn T) (mH hReset (tHn T) T)) j 7 = tE T j 7 := fun j hj => by rw [row_mE (T := mH hReset (tHn T) T) hj]; rfl
  have hk : tOk (mE eReset (tEn T) (mH hReset (tHn T) T)) := ⟨oP, okHz_of oZ rfl rfl r7, fun j (hj : j < tEn T) => by
    rw [row_mE (T := mH hReset (tHn T) T) hj]
    obtain ⟨c, hc, e, -⟩ := (oE j hj).1
    exact ⟨c, hc, e⟩, o1, o2, o3⟩
  obtain ⟨hW1, hk1⟩ := turns_same (tEn T) hW hk
  have hf := turnsT_fr (tEn T) (mE eReset (tEn T) (mH hReset (tHn T) T))
  have hN : nextE (turnsT (tEn T) (mE eReset (tEn T) (mH hReset (tHn T) T))) = -1 := by
    rw [← next_same hW1]
    exact next_end (tEn T) _ (show tEn U ≤ 6 by omega) (by rw [show tEn (mE mReset (tEn U) (mH hReset (tHn U) U)) = tEn T from n3]; exact unask_le)
  have eP : pumpedT U = mTurns (tEn T) (mE mReset (tEn U) (mH hReset (tHn U) U)) := by
    have z := turns_more (U := mE mReset (tEn U) (mH hReset (tHn U) U)) (show tEn U ≤ 6 by omega)
    unfold pumpedT
    rw [← n3]
    exact z
  obtain ⟨Y, hY⟩ : ∃ z, z = turnsT (tEn T) (mE eReset (tEn T) (mH hReset (tHn T) T)) := ⟨_, rfl⟩
  obtain ⟨X, hX⟩ : ∃ z, z = mTurns (tEn T) (mE mReset (tEn U) (mH hReset (tHn U) U)) := ⟨_, rfl⟩
  have eM : moveT T = mE eSpend (tEn T) Y := by rw [hY]; rfl
  have eM2 : mPumpAll U = mE eSpend (tEn U) (mH mAll (tHn U) X) := by unfold mPumpAll; rw [eP, ← hX]
  rw [← hY] at hW1 hk1 hf hN
  rw [← hX] at hW1
  obtain ⟨⟨f0, f1, f2, f3⟩, fH, fP, fE⟩ := hf
  have f0 : tM Y = tM T := f0
  have f1 : tHn Y = tHn T := f1
  have f2 : tPn Y = tPn T := f2
  have f3 : tEn Y = tEn T := f3
  have y7 : ∀ j, j < tEn T → tE Y j 7 = tE T j 7 := fun j hj => (fE j 7 (by omega)).trans (r7 j hj)
  have hA := all_asked (T := Y) (rk := rk) (okH_of oR f3 y7) (by omega) hN
  obtain ⟨⟨m0, m1, m2, m3⟩, wP, wH0, wE0⟩ := hW1
  rw [eM, eM2]
  refine ⟨⟨⟨m0, m1, m2, m3⟩, wP, fun j (hj : j < tHn Y) k hk0 => ?_, fun j (hj : j < tEn Y) => ?_⟩, ⟨fun j (hj : j < tHn Y) => ?_, hk1.1, fun j (hj : j < tEn Y) => ?_, ?_, ⟨rk, ?_⟩, hk1.2.2.2⟩, fun p => fP p⟩
  · show tH (mH mAll (tHn U) X) j k = tH Y j k
    rw [row_mH (by omega)]
    obtain ⟨a, b⟩ := wH0 j hj
    show upd (tH X j) 6 (tH X j 6 + tH X j 5) k = _
    by_cases q : k = 6
    · rw [q, upd_at, b]
    · rw [upd_ne q]; exact a k (by omega)
  · rw [row_mE (T := Y) (by omega), row_mE (T := mH mAll (tHn U) X) (by omega)]
    obtain ⟨a, -, -, b, -⟩ := wE0 j hj
    exact eSpend_row a (b (hA j hj))
  · obtain ⟨a, b⟩ := oH j (by omega)
    show isC0 (tH Y j 0) ∧ (tH Y j 3 ≠ 1 → tH Y j 4 = 0)
    have e : ∀ k, k ≠ 5 → k ≠ 6 → tH Y j k = tH T j k := fun k q q2 => (fH j k q q2).trans (by
      show tH (mH hReset (tHn T) T) j k = _
      rw [row_mH (by omega)]
      exact upd_ne q)
    rw [e 0 (by omega) (by omega), e 3 (by omega) (by omega), e 4 (by omega) (by omega)]
    exact ⟨a, b⟩
  · rw [row_mE (T := Y) (by omega)]
    have e : ∀ k, k < 8 → tE Y j k = tE T j k := fun k hk0 => (fE j k hk0).trans (by
      rw [row_mE (T := mH hReset (tHn T) T) (by omega)]
      show upd (upd (upd (tE T j) 8 0) 9 0) 10 0 k = _
      rw [upd_ne (by omega), upd_ne (by omega), upd_ne (by omega)])
    exact eOk_of (oE j (by omega)) ((eSpend_ne (by omega)).trans (e 0 (by omega))) ((eSpend_ne (by omega)).trans (e 1 (by omega))) ((eSpend_ne (by omega)).trans (e 3 (by omega))) ((eSpend_ne (by omega)).trans (e 5 (by omega))) ((eSpend_ne (by omega)).trans (e 6 (by omega)))
  · refine okHz_of oZ f3 f1 (fun j hj => ?_)
    rw [row_mE (T := Y) hj, eSpend_ne (by omega)]
    exact y7 j hj
  · refine okH_of oR f3 (fun j hj => ?_)
    rw [row_mE (T := Y) hj, eSpend_ne (by omega)]
    exact y7 j hj
theorem burn_eq (f : Nat → Int32) : mBurn f = hBurn f := by
  unfold mBurn hBurn mHt
  by_cases c1 : f 3 = 1
  · rw [if_pos c1, if_pos c1]
    obtain ⟨x, hx⟩ : ∃ z, z = iMin 99 (f 4 + f 1 - f 5 / 4) := ⟨_, rfl⟩
    rw [← hx]
    by_cases c2 : 0 < x
    · rw [if_pos c2, if_pos c2, max_p c2]
      obtain ⟨y, hy⟩ : ∃ z, z = iMax 0 (f 2 - 1 - x / 25) := ⟨_, rfl⟩
      have y0 : 0 ≤ y := by rw [hy]; exact max_nn
      rw [← hy]
      by_cases c3 : y = 0
      · rw [if_pos c3, if_pos (by rw [c3]; decide)]
      · rw [if_neg c3, if_neg (fun z => c3 (eq0_of y0 z))]
    · rw [if_neg c2, if_neg c2, max_0 (Int32.not_lt.mp c2)]
      funext k
      by_cases q : k = 4
      · rw [q, upd_ne (by omega), upd_at, upd_at]
      · by_cases q2 : k = 3
        · rw [q2, upd_at, upd_ne (by omega), upd_at]
        · rw [upd_ne q2, upd_ne q, upd_ne q, upd_ne q2, upd_ne q]
  · rw [if_neg c1, if_neg c1]
theorem upd_cong {f f2 : Nat → Int32} {i n : Nat} {x : Int32} (h : ∀ k, k < n → f k = f2 k) : ∀ k, k < n → upd f i x k = upd f2 i x k := fun k hk => by
  by_cases q : k = i
  · rw [q, upd_at, upd_at]
  · rw [upd_ne q, upd_ne q]; exact h k hk
theorem burn_cong {f f2 : Nat → Int32} (h : ∀ k, k < 7 → f k = f2 k) : ∀ k, k < 7 → hBurn f k = hBurn f2 k := by
  unfold hBurn
  rw [h 3 (by omega), h 4 (by omega), h 1 (by omega), h 5 (by omega), h 2 (by omega)]
  split
  · split
    · split
      · exact upd_cong (upd_cong (upd_cong (upd_cong h)))
      · exact upd_cong (upd_cong h)
    · exact upd_cong (upd_cong (upd_cong h))
  · exact h
theorem burn_ok {f : Nat → Int32} (h : f 3 ≠ 1 → f 4 = 0) : hBurn f 0 = f 0 ∧ (hBurn f 3 ≠ 1 → hBurn f 4 = 0) ∧ (hBurn f 3 = 1 → hBurn f 4 ≠ 0) := by
  unfold hBurn
  by_cases c1 : f 3 = 1
  · rw [if_pos c1]
    obtain ⟨x, hx⟩ : ∃ z, z = iMin 99 (f 4 + f 1 - f 5 / 4) := ⟨_, rfl⟩
    rw [← hx]
    by_cases c2 : 0 < x
    · rw [if_pos c2]
      split
      · exact ⟨rfl, fun _ => rfl, fun z => absurd z (by rw [upd_ne (by omega), upd_at]; decide)⟩
      · refine ⟨rfl, fun z => absurd (show upd (upd f 4 x) 2 _ 3 = 1 from c1) z, fun _ => ?_⟩
        rw [upd_ne (by omega), upd_at]
        intro z
        rw [z] at c2
        exact absurd c2 (by decide)
    · rw [if_neg c2]
      exact ⟨rfl, fun _ => rfl, fun z => absurd z (by rw [upd_ne (by omega), upd_at]; decide)⟩
  · rw [if_neg c1]
    exact ⟨rfl, h, fun z => absurd z c1⟩
theorem heat_same {f f2 : Nat → Nat → Int32} {c n : Nat} (hc : c < 140) : ∀ m, m ≤ n → (∀ j, j < n → (∀ k, k < 7 → f j k = f2 j k) ∧ isC0 (f2 j 0) ∧ (f2 j 3 ≠ 1 → f2 j 4 = 0)) → mHeat f (nI c) m = heatN f2 (nI c) m := by
  intro m
  induction m with
  | zero => intro _ _; rfl
  | succ m ih =>
    intro hm h
    obtain ⟨a, ⟨d, hd, e⟩, b⟩ := h m (by omega)
    show mHeat f (nI c) m + (if mNear (f m 0) (nI c) = true then f m 4 else 0) = (if f2 m 3 = 1 then (if aNear (f2 m 0) (nI c) = true then heatN f2 (nI c) m + f2 m 4 else heatN f2 (nI c) m) else heatN f2 (nI c) m)
    rw [ih (by omega) h, a 0 (by omega), e, near_same hd hc, a 4 (by omega)]
    by_cases q : f2 m 3 = 1
    · rw [if_pos q]
      split
      · rfl
      · exact Int32.add_zero _
    · rw [if_neg q, b q]
      split <;> exact Int32.add_zero _
def catBT (S : fTn) (k : Nat) : Bool := decide (tH S k 3 = 0) && decide (¬ heatN (tH S) (tH S k 0) (tHn S) - tH S k 5 < 40)
def litF (S : fTn) (j : Nat) (f : Nat → Int32) : Nat → Int32 := if catBT S j = true then upd f 3 1 else f
def litN (S : fTn) : Nat → Int32
  | 0 => 0
  | k + 1 => if catBT S k = true then litN S k + 1 else litN S k
theorem lit_heat {S : fTn} {w : Int32} {k : Nat} (h : ∀ j, j < tHn S → tH S j 3 ≠ 1 → tH S j 4 = 0) : ∀ m, m ≤ tHn S → heatN (tH (mHi (litF S) k S)) w m = heatN (tH S) w m := by
  intro m
  induction m with
  | zero => intro _; rfl
  | succ m ih =>
    intro hm
    have e : tH (mHi (litF S) k S) m = if m < k then litF S m (tH S m) else tH S m := rfl
    show (if tH (mHi (litF S) k S) m 3 = 1 then (if aNear (tH (mHi (litF S) k S) m 0) w = true then heatN (tH (mHi (litF S) k S)) w m + tH (mHi (litF S) k S) m 4 else heatN (tH (mHi (litF S) k S)) w m) else heatN (tH (mHi (litF S) k S)) w m) = (if tH S m 3 = 1 then (if aNear (tH S m 0) w = true then heatN (tH S) w m + tH S m 4 else heatN (tH S) w m) else heatN (tH S) w m)
    rw [ih (by omega), e]
    by_cases q : m < k
    · rw [if_pos q]
      unfold litF
      by_cases q2 : catBT S m = true
      · have q3 : tH S m 3 = 0 := by
          unfold catBT at q2
          simp only [Bool.and_eq_true, decide_eq_true_eq] at q2
          exact q2.1
        have q4 : tH S m 4 = 0 := h m (by omega) (by rw [q3]; decide)
        rw [if_pos q2, upd_at, if_pos rfl, upd_ne (show 0 ≠ 3 by omega), upd_ne (show 4 ≠ 3 by omega), q4, q3, if_neg (show ¬ (0 : Int32) = 1 by decide)]
        split
        · exact Int32.add_zero _
        · rfl
      · rw [if_neg q2]
    · rw [if_neg q]
theorem catch1_eq {S : fTn} (h : ∀ j, j < tHn S → tH S j 3 ≠ 1 → tH S j 4 = 0) : ∀ k, k ≤ tHn S → catch1 S k = (mHi (litF S) k S, litN S k) := by
  intro k
  induction k with
  | zero => intro _; rw [mHi_0]; rfl
  | succ k ih =>
    intro hk
    have e : tH (mHi (litF S) k S) k = tH S k := mHi_ge (Nat.le_refl k)
    unfold catch1
    rw [ih (by omega)]
    show (if tH (mHi (litF S) k S) k 3 = 0 then (if heatN (tH (mHi (litF S) k S)) (tH (mHi (litF S) k S) k 0) (tHn S) - tH (mHi (litF S) k S) k 5 < 40 then (mHi (litF S) k S, litN S k) else (sH (mHi (litF S) k S) k (upd (tH (mHi (litF S) k S) k) 3 1), litN S k + 1)) else (mHi (litF S) k S, litN S k)) = (mHi (litF S) (k + 1) S, (if catBT S k = true then litN S k + 1 else litN S k))
    rw [e, lit_heat h _ (Nat.le_refl _), ← mHi_step]
    have n1 : ¬ catBT S k = true → sH (mHi (litF S) k S) k (litF S k (tH S k)) = mHi (litF S) k S := fun z => by
      unfold litF
      rw [if_neg z]
      exact (congrArg (sH (mHi (litF S) k S) k) e.symm).trans sH_same
    by_cases q : tH S k 3 = 0
    · rw [if_pos q]
      by_cases q2 : heatN (tH S) (tH S k 0) (tHn S) - tH S k 5 < 40
      · have z : ¬ catBT S k = true := by unfold catBT; simp [q2]
        rw [if_pos q2, if_neg z, n1 z]
      · have z : catBT S k = true := by unfold catBT; simp [q, q2]
        rw [if_neg q2, if_pos z]
        unfold litF
        rw [if_pos z]
    · have z : ¬ catBT S k = true := by unfold catBT; simp [q]
      rw [if_neg q, if_neg z, n1 z]
theorem catchRow {S : fTn} {j : Nat} {f f2 : Nat → Int32} {b : Bool} (hb : b = catBT S j) (hf2 : f2 = tH S j) (h : ∀ k, k < 7 → f k = f2 k) (h0 : f2 3 ≠ 1 → f2 4 = 0) (h1 : f2 3 = 1 → f2 4 ≠ 0) : (∀ k, k < 7 → (if b = true then upd (upd f 3 1) 4 5 else f) k = hCatch (litF S j f2) k) ∧ hCatch (litF S j f2) 0 = f2 0 ∧ (hCatch (litF S j f2) 3 ≠ 1 → hCatch (litF S j f2) 4 = 0) := by
  unfold litF
  rw [← hb]
  by_cases q : b = true
  · have q3 : f2 3 = 0 := by
      rw [hb] at q
      unfold catBT at q
      simp only [Bool.and_eq_true, decide_eq_true_eq] at q
      rw [hf2]; exact q.1
    have q4 : f2 4 = 0 := h0 (by rw [q3]; decide)
    have e : hCatch (upd f2 3 1) = upd (upd f2 3 1) 4 5 := by
      unfold hCatch
      rw [upd_at, if_pos rfl, upd_ne (show 4 ≠ 3 by omega), if_pos q4]
    rw [if_pos q, if_pos q, e]
    exact ⟨upd_cong (upd_cong h), rfl, fun z => absurd rfl z⟩
  · have e : hCatch f2 = f2 := by
      unfold hCatch
      by_cases z : f2 3 = 1
      · rw [if_pos z, if_neg (h1 z)]
      · rw [if_neg z]
    rw [if_neg q, if_neg q, e]
    exact ⟨h, rfl, h0⟩
theorem min_same {kf : Nat → Int32} {U T : fTn} (h : simT U T) (ho : okT kf T) : simT (minU U).1 (minT T).1 ∧ okT kf (minT T).1 ∧ (minU U).2 = (minT T).2 ∧ ∀ p, tP (minT T).1 p 0 = tP T p 0 := by
  obtain ⟨⟨n0, n1, n2, n3⟩, hP, hH, hE⟩ := id h
  obtain ⟨oH, oP, oE, oZ, ⟨rk, oR⟩, o1, o2, o3⟩ := id ho
  have g : simT (mE mDrive (tEn U) (mE mFire (tEn U) U)) (mE eGo (tEn T) T) ∧ okT kf (mE eGo (tEn T) T) := by
    have r : ∀ j, j < tEn T → tE (mE mDrive (tEn U) (mE mFire (tEn U) U)) j = mDrive (mFire (tE U j)) := fun j hj => by
      rw [row_mE (T := mE mFire (tEn U) U) (by omega), row_mE (by omega)]
    have r7 : ∀ j, j < tEn T → tE (mE eGo (tEn T) T) j 7 = tE T j 7 := fun j hj => by rw [row_mE hj]; exact eGo_7
    refine ⟨⟨⟨n0, n1, n2, n3⟩, hP, hH, fun j (hj : j < tEn T) => ?_⟩, oH, oP, fun j (hj : j < tEn T) => ?_, okHz_of oZ rfl rfl r7, ⟨rk, okH_of oR rfl r7⟩, o1, o2, o3⟩
    · rw [r j hj, row_mE hj]
      obtain ⟨a, -, b, c⟩ := go_row (hE j hj).1 (oE j hj)
      exact ⟨a, by rw [b, c]; exact (hE j hj).2⟩
    · rw [row_mE hj]
      exact (go_row (hE j hj).1 (oE j hj)).2.1
  obtain ⟨s1, k1, p1⟩ := move_same g.1 g.2
  have hn := moveT_n (mE eGo (tEn T) T)
  have hnU := mPumpAll_n (mE mDrive (tEn U) (mE mFire (tEn U) U))
  unfold minT minU catchT mBurnt
  obtain ⟨Y, hY⟩ : ∃ z, z = moveT (mE eGo (tEn T) T) := ⟨_, rfl⟩
  obtain ⟨X, hX⟩ : ∃ z, z = mPumpAll (mE mDrive (tEn U) (mE mFire (tEn U) U)) := ⟨_, rfl⟩
  rw [← hY] at s1 k1 p1 hn ⊢
  rw [← hX] at s1 hnU ⊢
  have y1 : tHn Y = tHn T := hn.1
  have x1 : tHn X = tHn U := hnU.1
  obtain ⟨⟨m0, m1, m2, m3⟩, sP0, sH0, sE0⟩ := s1
  obtain ⟨qH, qP, qE, qZ, qR, q1, q2, q3⟩ := k1
  have bR : ∀ j, j < tHn Y → (∀ k, k < 7 → mBurn (tH X j) k = hBurn (tH Y j) k) ∧ isC0 (hBurn (tH Y j) 0) ∧ (hBurn (tH Y j) 3 ≠ 1 → hBurn (tH Y j) 4 = 0) ∧ (hBurn (tH Y j) 3 = 1 → hBurn (tH Y j) 4 ≠ 0) := fun j hj => by
    obtain ⟨a, b, c⟩ := burn_ok (qH j hj).2
    refine ⟨fun k hk => ?_, by rw [a]; exact (qH j hj).1, b, c⟩
    rw [burn_eq]
    exact burn_cong (sH0 j hj) k hk
  obtain ⟨S, hS⟩ : ∃ z, z = mH hBurn (tHn T) Y := ⟨_, rfl⟩
  obtain ⟨V, hV⟩ : ∃ z, z = mH mBurn (tHn U) X := ⟨_, rfl⟩
  rw [← hS, ← hV]
  have vS : ∀ j, j < tHn Y → tH S j = hBurn (tH Y j) := fun j hj => by rw [hS, row_mH (by omega)]
  have vV : ∀ j, j < tHn Y → tH V j = mBurn (tH X j) := fun j hj => by rw [hV, row_mH (by omega)]
  have nS : tHn S = tHn Y := by rw [hS]
  have nV : tHn V = tHn Y := by rw [hV]; omega
  have rows : ∀ j, j < tHn Y → (∀ k, k < 7 → tH V j k = tH S j k) ∧ isC0 (tH S j 0) ∧ (tH S j 3 ≠ 1 → tH S j 4 = 0) ∧ (tH S j 3 = 1 → tH S j 4 ≠ 0) := fun j hj => by
    rw [vS j hj, vV j hj]; exact bR j hj
  have cB : ∀ j, j < tHn Y → catB V j = catBT S j := fun j hj => by
    obtain ⟨a, ⟨c, hc, e⟩, -, -⟩ := rows j hj
    unfold catB catBT
    rw [a 3 (by omega), a 0 (by omega), a 5 (by omega), e, nV, nS, heat_same hc (tHn Y) (Nat.le_refl _) (fun i hi => ⟨(rows i hi).1, (rows i hi).2.1, (rows i hi).2.2.1⟩)]
  have c1 := catch1_eq (S := S) (fun j hj => (rows j (by omega)).2.2.1) (tHn S) (Nat.le_refl _)
  rw [c1]
  have cN : ∀ n, n ≤ tHn Y → catN V n = litN S n := by
    intro n
    induction n with
    | zero => intro _; rfl
    | succ n ih =>
      intro hn0
      unfold catN litN
      rw [cB n (by omega), ih (by omega)]
  have eS : ∀ j, j < tHn Y → tH (mH hCatch (tHn S) (mHi (litF S) (tHn S) S)) j = hCatch (litF S j (tH S j)) := fun j hj => by
    rw [row_mH (by omega)]
    exact congrArg hCatch (if_pos (by omega))
  have eV : ∀ j, j < tHn Y → tH (mHi (catH V) (tHn U) V) j = catH V j (tH V j) := fun j hj => if_pos (by omega)
  have sPn : tPn S = tPn Y := by rw [hS]
  have sEn : tEn S = tEn Y := by rw [hS]
  have sPp : tP S = tP Y := by rw [hS]
  have sEe : tE S = tE Y := by rw [hS]
  have vPn : tPn V = tPn X := by rw [hV]
  have vEn : tEn V = tEn X := by rw [hV]
  have vPp : tP V = tP X := by rw [hV]
  have vEe : tE V = tE X := by rw [hV]
  refine ⟨⟨⟨?_, ?_, ?_, ?_⟩, ?_, ?_, ?_⟩, ⟨?_, ?_, ?_, ?_, ?_, ?_, ?_, ?_⟩, ?_, ?_⟩
  · show tM U + 1 = tM T + 1
    rw [n0]
  · show tHn V = tHn S
    omega
  · show tPn V = tPn S
    omega
  · show tEn V = tEn S
    omega
  · intro p (hp : p < tPn S)
    show tP V p 0 = tP S p 0 ∧ tP V p 1 = tP S p 1
    rw [vPp, sPp]
    exact sP0 p (by omega)
  · intro j (hj : j < tHn S) k hk
    show tH (mHi (catH V) (tHn U) V) j k = tH (mH hCatch (tHn S) (mHi (litF S) (tHn S) S)) j k
    rw [eS j (by omega), eV j (by omega)]
    obtain ⟨a, -, b, c⟩ := rows j (by omega)
    exact (catchRow (cB j (by omega)) rfl a b c).1 k hk
  · intro j (hj : j < tEn S)
    show eSim (tE V j) (tE S j) ∧ tE V j 9 = tE S j 9
    rw [vEe, sEe]
    exact sE0 j (by omega)
  · intro j (hj : j < tHn S)
    show isC0 (tH (mH hCatch (tHn S) (mHi (litF S) (tHn S) S)) j 0) ∧ (tH (mH hCatch (tHn S) (mHi (litF S) (tHn S) S)) j 3 ≠ 1 → tH (mH hCatch (tHn S) (mHi (litF S) (tHn S) S)) j 4 = 0)
    rw [eS j (by omega)]
    obtain ⟨a, a2, b, c⟩ := rows j (by omega)
    obtain ⟨-, d, e⟩ := catchRow (cB j (by omega)) rfl a b c
    rw [d]
    exact ⟨a2, e⟩
  · intro p (hp : p < tPn S)
    show isC0 (tP S p 0) ∧ 0 ≤ tP S p 1
    rw [sPp]
    exact qP p (by omega)
  · intro j (hj : j < tEn S)
    show eOk kf (tE S j)
    rw [sEe]
    exact qE j (by omega)
  · refine okHz_of qZ sEn nS (fun j hj => ?_)
    show tE S j 7 = _
    rw [sEe]
  · obtain ⟨rk2, qR⟩ := qR
    refine ⟨rk2, okH_of qR sEn (fun j hj => ?_)⟩
    show tE S j 7 = _
    rw [sEe]
  · show tHn S ≤ 30
    omega
  · show tPn S ≤ 6
    omega
  · show tEn S ≤ 6
    omega
  · show catN V (tHn U) = litN S (tHn S)
    rw [nS, ← cN _ (Nat.le_refl _)]
    congr 1
    omega
  · intro p
    show tP S p 0 = tP T p 0
    rw [sPp]
    exact p1 p
theorem go_same {kf : Nat → Int32} {U T : fTn} (h : simT U T) (ho : okT kf T) (n : Nat) : simT (goU U n).1 (goT T n).1 ∧ okT kf (goT T n).1 ∧ (goU U n).2 = (goT T n).2 ∧ ∀ p, tP (goT T n).1 p 0 = tP T p 0 := by
  induction n with
  | zero => exact ⟨h, ho, rfl, fun _ => rfl⟩
  | succ n ih =>
    obtain ⟨a, b, c, d⟩ := ih
    obtain ⟨a1, b1, c1, d1⟩ := min_same a b
    exact ⟨a1, b1, by show (goU U n).2 + (minU (goU U n).1).2 = (goT T n).2 + (minT (goT T n).1).2; rw [c, c1], fun p => (d1 p).trans (d p)⟩

