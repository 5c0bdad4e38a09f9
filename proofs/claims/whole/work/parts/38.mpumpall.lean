/-! the hoses are good: none, an engine's, a house's -/
def okHz (U : fTn) : Prop := ∀ j, j < tEn U → tE U j 7 = -1 ∨ (∃ i, i < tEn U ∧ tE U j 7 = nI i) ∨ (∃ h, h < tHn U ∧ tE U j 7 = nI (100 + h))
theorem jFirst_or (q : Nat → Bool) (n : Nat) : jFirst q n = -1 ∨ ∃ k, k < n ∧ jFirst q n = nI k ∧ q k = true := by
  unfold jFirst
  by_cases h : firstN q n < n
  · rw [if_pos h]; exact Or.inr ⟨_, h, rfl, firstN_yes h⟩
  · rw [if_neg h]; exact Or.inl rfl
def pumpS (U : fTn) (e : Nat) : Int32 := mSrc (pm1 U e) (tE (pm1 U e) e)
def pumpT (U V : fTn) (e : Nat) (gv : Int32) : fTn := if tE U e 7 < 100 then pmE V e (tE U e 7).toNatClampNeg gv else pmH V e (tE U e 7 - 100).toNatClampNeg gv
def pumpU (U : fTn) (e : Nat) : fTn :=
  if tE U e 7 = -1 then pm1 U e else if pumpS U e = -1 then pumpT U (pm1 U e) e (pmG U e 0) else pumpT U (pmW U e (pumpS U e).toNatClampNeg) e (pmG U e (pmS U e (pumpS U e).toNatClampNeg))
theorem pumpT_n (U V : fTn) (e : Nat) (gv : Int32) : tHn (pumpT U V e gv) = tHn V ∧ tPn (pumpT U V e gv) = tPn V ∧ tEn (pumpT U V e gv) = tEn V ∧ tM (pumpT U V e gv) = tM V := by unfold pumpT; split <;> exact ⟨rfl, rfl, rfl, rfl⟩
theorem pumpU_n (U : fTn) (e : Nat) : tHn (pumpU U e) = tHn U ∧ tPn (pumpU U e) = tPn U ∧ tEn (pumpU U e) = tEn U ∧ tM (pumpU U e) = tM U := by
  unfold pumpU
  split
  · exact ⟨rfl, rfl, rfl, rfl⟩
  · split
    · exact pumpT_n _ _ _ _
    · exact pumpT_n U (pmW U e (pumpS U e).toNatClampNeg) e _
theorem sE_col {U : fTn} {e j c0 k : Nat} {v : Int32} (h : k ≠ c0) : tE (sE U e (upd (tE U e) c0 v)) j k = tE U j k := by
  show (if j = e then upd (tE U e) c0 v else tE U j) k = _
  by_cases q : j = e
  · rw [if_pos q, upd_ne h, q]
  · rw [if_neg q]
theorem pumpT_7 (U V : fTn) (e j : Nat) (gv : Int32) : tE (pumpT U V e gv) j 7 = tE V j 7 ∧ tE (pumpT U V e gv) j 10 = tE V j 10 := by
  unfold pumpT
  split
  · exact ⟨(sE_col (by decide)).trans (sE_col (by decide)), (sE_col (by decide)).trans (sE_col (by decide))⟩
  · exact ⟨sE_col (by decide), sE_col (by decide)⟩
theorem pumpU_7 (U : fTn) (e j : Nat) : tE (pumpU U e) j 7 = tE U j 7 ∧ tE (pumpU U e) j 10 = tE U j 10 := by
  unfold pumpU
  split
  · exact ⟨sE_col (by decide), sE_col (by decide)⟩
  · split
    · exact ⟨(pumpT_7 _ _ _ _ _).1.trans (sE_col (by decide)), (pumpT_7 _ _ _ _ _).2.trans (sE_col (by decide))⟩
    · exact ⟨(pumpT_7 U (pmW U e (pumpS U e).toNatClampNeg) e j _).1.trans (sE_col (by decide)), (pumpT_7 U (pmW U e (pumpS U e).toNatClampNeg) e j _).2.trans (sE_col (by decide))⟩
theorem lt100 {i : Nat} (h : i < 100) : nI i < (100 : Int32) := nI_lt (a := i) (b := 100) h (by omega)
theorem nlt100 {i : Nat} (h : i ≤ 1000) : ¬ nI (100 + i) < (100 : Int32) := fun z => absurd (nI_lt' (a := 100 + i) (b := 100) z (by omega) (by omega)) (by omega)
theorem c_m_pump (l : Launch) (g : fG) (ad : Nat → Nat) (M : fM) {th : Int32} {U : fTn} {sp ca : Nat → Int32} (hM : isMo g ad M th U sp ca) {e0 : Nat} (he : e0 < tEn U) (hH : okHz U) : fCv l g yX6_pump cX6_pump 10 4 90 0 0 ad M [.ref (ad 5), .int (nI e0)] (fMw g ad M th (pumpU U e0) sp ca) := by
  obtain ⟨pcs, wa, ht, et, mi, co, as, -, -, -, hn1, hn2, hn3⟩ := id hM
  rcases hH e0 he with hz | ⟨i, hi, hz⟩ | ⟨h, hh, hz⟩
  · rw [show pumpU U e0 = pm1 U e0 from if_pos hz]
    exact c_m_pump_N l g ad M hM he hz
  · have a1 : ¬ tE U e0 7 = -1 := by rw [hz]; exact nI_m1 (by omega)
    have a2 : ∀ V gv, pumpT U V e0 gv = pmE V e0 i gv := fun V gv => by unfold pumpT; rw [hz, if_pos (lt100 (by omega)), nI_clamp (n := i) (by omega)]
    rcases jFirst_or (fun k => eStands (tE (pm1 U e0) e0) && mNear (tP (pm1 U e0) k 0) (tE (pm1 U e0) e0 0)) (tPn (pm1 U e0)) with q | ⟨k, hk, q, -⟩
    · have q : pumpS U e0 = -1 := q
      rw [show pumpU U e0 = pmE (pm1 U e0) e0 i (pmG U e0 0) from by unfold pumpU; rw [if_neg a1, if_pos q, a2]]
      exact c_m_pump_EN l g ad M hM he hz hi q
    · have q : pumpS U e0 = nI k := q
      have hk : k < tPn U := hk
      rw [show pumpU U e0 = pmE (pmW U e0 k) e0 i (pmG U e0 (pmS U e0 k)) from by unfold pumpU; rw [if_neg a1, if_neg (by rw [q]; exact nI_m1 (by omega)), a2, q, nI_clamp (n := k) (by omega)]]
      exact c_m_pump_EP l g ad M hM he hz hi q hk
  · have a1 : ¬ tE U e0 7 = -1 := by rw [hz]; exact nI_m1 (by omega)
    have a2 : ∀ V gv, pumpT U V e0 gv = pmH V e0 h gv := fun V gv => by unfold pumpT; rw [hz, if_neg (nlt100 (by omega)), sub100, nI_clamp (n := h) (by omega)]
    rcases jFirst_or (fun k => eStands (tE (pm1 U e0) e0) && mNear (tP (pm1 U e0) k 0) (tE (pm1 U e0) e0 0)) (tPn (pm1 U e0)) with q | ⟨k, hk, q, -⟩
    · have q : pumpS U e0 = -1 := q
      rw [show pumpU U e0 = pmH (pm1 U e0) e0 h (pmG U e0 0) from by unfold pumpU; rw [if_neg a1, if_pos q, a2]]
      exact c_m_pump_HN l g ad M hM he hz hh q
    · have q : pumpS U e0 = nI k := q
      have hk : k < tPn U := hk
      rw [show pumpU U e0 = pmH (pmW U e0 k) e0 h (pmG U e0 (pmS U e0 k)) from by unfold pumpU; rw [if_neg a1, if_neg (by rw [q]; exact nI_m1 (by omega)), a2, q, nI_clamp (n := k) (by omega)]]
      exact c_m_pump_HP l g ad M hM he hz hh q hk
def mReset (f : Nat → Int32) : Nat → Int32 := upd (upd f 8 0) 10 0
def mAll (f : Nat → Int32) : Nat → Int32 := upd f 6 (f 6 + f 5)
abbrev askd (U : fTn) (e : Nat) : fTn := sE U e (upd (tE U e) 10 1)
def mTurn (U : fTn) : fTn := if nextE U = -1 then U else askd (pumpU U (nextE U).toNatClampNeg) (nextE U).toNatClampNeg
def mTurns : Nat → fTn → fTn
  | 0, U => U
  | n + 1, U => mTurns n (mTurn U)
theorem mTurns_stop {U : fTn} (h : nextE U = -1) (n : Nat) : mTurns n U = U := by
  induction n with
  | zero => rfl
  | succ n ih => show mTurns n (mTurn U) = U; rw [show mTurn U = U from if_pos h]; exact ih
def unask (f : Nat → Nat → Int32) : Nat → Nat
  | 0 => 0
  | k + 1 => unask f k + (if f k 10 = 0 then 1 else 0)
theorem unask_cong {f f2 : Nat → Nat → Int32} {n : Nat} (h : ∀ j, j < n → f j 10 = f2 j 10) : unask f n = unask f2 n := by
  induction n with
  | zero => rfl
  | succ n ih => unfold unask; rw [ih (fun j hj => h j (by omega)), h n (by omega)]
theorem unask_set {f f2 : Nat → Nat → Int32} {n e : Nat} (he : e < n) (h0 : f e 10 = 0) (h1 : f2 e 10 = 1) (h : ∀ j, j ≠ e → f2 j 10 = f j 10) : unask f2 n + 1 = unask f n := by
  induction n with
  | zero => exact absurd he (Nat.not_lt_zero _)
  | succ n ih =>
    unfold unask
    rcases Nat.lt_or_ge e n with q | q
    · rw [← ih q, h n (by omega)]; omega
    · rw [show e = n by omega] at h0 h1 h
      rw [unask_cong (f := f2) (f2 := f) (fun j hj => h j (by omega)), h0, h1, if_pos rfl, if_neg (by decide)]
theorem unask_le {f : Nat → Nat → Int32} {n : Nat} : unask f n ≤ n := by
  induction n with
  | zero => exact Nat.le_refl 0
  | succ n ih => unfold unask; split <;> omega
theorem nextE_or (U : fTn) : nextE U = -1 ∨ ∃ e, e < tEn U ∧ nextE U = nI e ∧ tE U e 10 = 0 := by
  rcases jFirst_or (fun i => decide (tE U i 10 = 0) && !(waits (tE U) (nI i) (tEn U))) (tEn U) with h | ⟨k, hk, h, q⟩
  · exact Or.inl h
  · simp only [Bool.and_eq_true, decide_eq_true_eq] at q
    exact Or.inr ⟨k, hk, h, q.1⟩
theorem mTurn_at {U : fTn} {e : Nat} (h : nextE U = nI e) (he : e < 1000) : mTurn U = askd (pumpU U e) e := by
  unfold mTurn
  rw [h, if_neg (nI_m1 (by omega)), nI_clamp (n := e) (by omega)]
theorem mTurn_n (U : fTn) : tHn (mTurn U) = tHn U ∧ tPn (mTurn U) = tPn U ∧ tEn (mTurn U) = tEn U ∧ tM (mTurn U) = tM U := by
  unfold mTurn
  split
  · exact ⟨rfl, rfl, rfl, rfl⟩
  · exact pumpU_n U (nextE U).toNatClampNeg
theorem mTurn_7 (U : fTn) (j : Nat) : tE (mTurn U) j 7 = tE U j 7 := by
  unfold mTurn
  split
  · rfl
  · exact (sE_col (by decide)).trans (pumpU_7 _ _ _).1
theorem okHz_turn {U : fTn} (h : okHz U) : okHz (mTurn U) := by
  intro j hj
  rw [(mTurn_n U).2.2.1] at hj
  rw [(mTurn_n U).2.2.1, (mTurn_n U).1, mTurn_7]
  exact h j hj
def pumpedT (U : fTn) : fTn := mTurns (tEn U + 1) (mE mReset (tEn U) (mH hReset (tHn U) U))
def mPumpAll (U : fTn) : fTn := mE eSpend (tEn U) (mH mAll (tHn U) (pumpedT U))
theorem mTurns_n (n : Nat) (U : fTn) : tHn (mTurns n U) = tHn U ∧ tPn (mTurns n U) = tPn U ∧ tEn (mTurns n U) = tEn U ∧ tM (mTurns n U) = tM U := by
  induction n generalizing U with
  | zero => exact ⟨rfl, rfl, rfl, rfl⟩
  | succ n ih =>
    obtain ⟨a1, a2, a3, a4⟩ := ih (mTurn U)
    obtain ⟨b1, b2, b3, b4⟩ := mTurn_n U
    exact ⟨a1.trans b1, a2.trans b2, a3.trans b3, a4.trans b4⟩
theorem okHz_reset {U : fTn} (h : okHz U) : okHz (mE mReset (tEn U) (mH hReset (tHn U) U)) := by
  intro j hj
  rw [show tE (mE mReset (tEn U) (mH hReset (tHn U) U)) j 7 = tE U j 7 from by show (if j < tEn U then mReset (tE U j) else tE U j) 7 = _; split <;> rfl]
  exact h j hj
theorem pumpedT_n (U : fTn) : tHn (pumpedT U) = tHn U ∧ tPn (pumpedT U) = tPn U ∧ tEn (pumpedT U) = tEn U ∧ tM (pumpedT U) = tM U := mTurns_n (tEn U + 1) (mE mReset (tEn U) (mH hReset (tHn U) U))
set_option maxHeartbeats 4000000 in
set_option maxRecDepth 100000 in
theorem c_m_pumpAll (l : Launch) (g : fG) (ad : Nat → Nat) (M : fM) {th : Int32} {U : fTn} {sp ca : Nat → Int32} (hM : isMo g ad M th U sp ca) (hOk : okHz U) : fCv l g yX6_pumpAll cX6_pumpAll 2 5 125 0 0 ad M [.ref (ad 5)] (fMw g ad M th (mPumpAll U) sp ca) := by
  refine f_body (own := RX6) (by decide +kernel) rfl (Nat.le_of_ble_eq_true rfl) ?_
  intro p e s m args below meth c ls X hw hin hl
  have hx := X.1
  have hb := X.2.1
  have hl : lv_has ls 2 [(0, .ref (ad 5))] := hl
  obtain ⟨pcs, wa, ht, et, mi, co, as, hMo, ⟨hm6, hm7, hm8, hm9, hm10, hm11, hm12, hm13, hm14⟩, hRel, hCnt⟩ := id hM
  obtain ⟨hn1, hn2, hn3⟩ := id hCnt
  have hn1 : tHn U ≤ 30 := hn1
  have hn2 : tPn U ≤ 6 := hn2
  have hn3 : tEn U ≤ 6 := hn3
  have hMo : M 5 = some (.inr (7, [.int th, .int (nI (tHn U)), .int (nI (tPn U)), .int (nI (tEn U)), .ref (ad 6), .ref (ad 7), .ref (ad 8), .ref (ad 9), .ref (ad 10), .ref (ad 11), .ref (ad 12), .ref (ad 13), .ref (ad 14)])) := hMo
  obtain ⟨rH, rP, rE, rM⟩ := id hRel
  obtain ⟨Mo, hMq⟩ : ∃ z, z = M := ⟨_, rfl⟩
  have hrA : fReg 5 15 ad Mo ad M := by rw [hMq]; exact fReg_rf
  obtain ⟨Q9, hQ9⟩ : ∃ z, z = MQ below (fQv g (fMw g ad M th (mPumpAll U) sp ca)) args s 0 0 (fA g) := ⟨_, rfl⟩
  show W p l e (fR 5 125 0 0) s m args below meth c _ _ 0 0 (MQ below (fQv g (fMw g ad M th (mPumpAll U) sp ca)) args s 0 0 (fA g)) (F0 m 0 ls [])
  rw [← hQ9]
  refine lv_iconst (v := 0) hx hb dX6_pumpAll_0 (by decide) ?_
  refine lv_istore_n (lv' := [(1, .int 0), (0, .ref (ad 5))]) hx hb dX6_pumpAll_1 rfl hl (by decide) rfl (fun ls hl => ?_)
  have loop2 : ∀ (n2 k : Nat), k ≤ tHn U → tHn U < k + n2 → ∀ (M : fM) (hM : isMo g ad M th (mH hReset k U) sp ca) (hrA : fReg 5 15 ad Mo ad M) (ls : Array Slot) (H : Heap) (locs : List Loc), fw g ad M s H locs → lv_has ls 2 [(1, .int (nI k)), (0, .ref (ad 5))] → W p l e (fR 5 125 0 0) s m args below meth c H locs 0 0 Q9 (F0 m 2 ls []) := by
    intro n2
    induction n2 with
    | zero => intro k h1 h2; omega
    | succ n2 ih2 =>
      intro k hk_k hn_k M hM hrA ls H locs hw hl
      obtain ⟨pcs, wa, ht, et, mi, co, as, hMo, ⟨hm6, hm7, hm8, hm9, hm10, hm11, hm12, hm13, hm14⟩, hRel, hCnt⟩ := id hM
      obtain ⟨hn1, hn2, hn3⟩ := id hCnt
      have hn1 : tHn U ≤ 30 := hn1
      have hn2 : tPn U ≤ 6 := hn2
      have hn3 : tEn U ≤ 6 := hn3
      have hMo : M 5 = some (.inr (7, [.int th, .int (nI (tHn U)), .int (nI (tPn U)), .int (nI (tEn U)), .ref (ad 6), .ref (ad 7), .ref (ad 8), .ref (ad 9), .ref (ad 10), .ref (ad 11), .ref (ad 12), .ref (ad 13), .ref (ad 14)])) := hMo
      obtain ⟨rH, rP, rE, rM⟩ := id hRel
      refine lv_iload_n hx hb dX6_pumpAll_2 rfl (lv_at hl 0 rfl) ?_
      refine lv_aload_n hx hb dX6_pumpAll_3 rfl (lv_at hl 1 rfl) ?_
      refine f_get X hw hMo fc7 1 (by decide) wq795 rfl (v := .int (nI (tHn U))) rfl dX6_pumpAll_4 ?_
      refine lv_icmp_ge (tgt := 23) hx hb dX6_pumpAll_7 (by decide) (fun c_1 => ?_) (fun c_1 => ?_)
      · have c_1 := nI_le' (a := (tHn U)) (b := k) c_1 (by omega) (by omega)
        refine lv_iconst (v := 0) hx hb dX6_pumpAll_23 (by decide) ?_
        refine lv_istore_n (lv' := [(1, .int 0), (0, .ref (ad 5))]) hx hb dX6_pumpAll_24 rfl hl (by decide) rfl (fun ls hl => ?_)
        have loop25 : ∀ (n25 k : Nat), k ≤ tEn U → tEn U < k + n25 → ∀ (M : fM) (hM : isMo g ad M th (mE mReset k (mH hReset (tHn U) U)) sp ca) (hrA : fReg 5 15 ad Mo ad M) (ls : Array Slot) (H : Heap) (locs : List Loc), fw g ad M s H locs → lv_has ls 2 [(1, .int (nI k)), (0, .ref (ad 5))] → W p l e (fR 5 125 0 0) s m args below meth c H locs 0 0 Q9 (F0 m 25 ls []) := by
          intro n25
          induction n25 with
          | zero => intro k h1 h2; omega
          | succ n25 ih25 =>
            intro k hk_k hn_k M hM hrA ls H locs hw hl
            obtain ⟨pcs, wa, ht, et, mi, co, as, hMo, ⟨hm6, hm7, hm8, hm9, hm10, hm11, hm12, hm13, hm14⟩, hRel, hCnt⟩ := id hM
            obtain ⟨hn1, hn2, hn3⟩ := id hCnt
            have hn1 : tHn U ≤ 30 := hn1
            have hn2 : tPn U ≤ 6 := hn2
            have hn3 : tEn U ≤ 6 := hn3
            have hMo : M 5 = some (.inr (7, [.int th, .int (nI (tHn U)), .int (nI (tPn U)), .int (nI (tEn U)), .ref (ad 6), .ref (ad 7), .ref (ad 8), .ref (ad 9), .ref (ad 10), .ref (ad 11), .ref (ad 12), .ref (ad 13), .ref (ad 14)])) := hMo
            obtain ⟨rH, rP, rE, rM⟩ := id hRel
            refine lv_iload_n hx hb dX6_pumpAll_25 rfl (lv_at hl 0 rfl) ?_
            refine lv_aload_n hx hb dX6_pumpAll_26 rfl (lv_at hl 1 rfl) ?_
            refine f_get X hw hMo fc7 3 (by decide) wq797 rfl (v := .int (nI (tEn U))) rfl dX6_pumpAll_27 ?_
            refine lv_icmp_ge (tgt := 53) hx hb dX6_pumpAll_30 (by decide) (fun c_2 => ?_) (fun c_2 => ?_)
            · have c_2 := nI_le' (a := (tEn U)) (b := k) c_2 (by omega) (by omega)
              refine lv_aload_n hx hb dX6_pumpAll_53 rfl (lv_at hl 1 rfl) ?_
              rw [show k = tEn U by omega] at hM
              refine fk_di (fcV X hw (c_m_next l g ad M hM) hMo rfl wq1001 kVX6_next ⟨(Nat.le_of_ble_eq_true rfl), (Nat.le_of_ble_eq_true rfl)⟩ rfl hl.1 rfl (Nat.le_of_ble_eq_true rfl) dX6_pumpAll_54 ⟨Nat.le_refl _, Nat.le_refl _⟩) hw (fun H locs hw => ?_)
              refine lv_istore_n (lv' := [(1, .int (nextE (mE mReset (tEn U) (mH hReset (tHn U) U)))), (0, .ref (ad 5))]) hx hb dX6_pumpAll_57 rfl hl (by decide) rfl (fun ls hl => ?_)
              have hOk2 := okHz_reset hOk
              obtain ⟨W9, hW9⟩ : ∃ z, z = pumpedT U := ⟨_, rfl⟩
              have nW1 : tHn W9 = tHn U := by rw [hW9]; exact (pumpedT_n U).1
              have nW2 : tPn W9 = tPn U := by rw [hW9]; exact (pumpedT_n U).2.1
              have nW3 : tEn W9 = tEn U := by rw [hW9]; exact (pumpedT_n U).2.2.1
              have loop58 : ∀ (n : Nat) (V : fTn), unask (tE V) (tEn V) < n → okHz V → mTurns n V = W9 → ∀ (M : fM) (hM : isMo g ad M th V sp ca) (hrA : fReg 5 15 ad Mo ad M) (ls : Array Slot) (H : Heap) (locs : List Loc), fw g ad M s H locs → lv_has ls 2 [(1, .int (nextE V)), (0, .ref (ad 5))] → W p l e (fR 5 125 0 0) s m args below meth c H locs 0 0 Q9 (F0 m 58 ls []) := by
                intro n
                induction n with
                | zero => intro V h1; omega
                | succ n ih =>
                  intro V hV1 hOk hV9 M hM hrA ls H locs hw hl
                  obtain ⟨pcs, wa, ht, et, mi, co, as, hMo, ⟨hm6, hm7, hm8, hm9, hm10, hm11, hm12, hm13, hm14⟩, hRel, hCnt⟩ := id hM
                  obtain ⟨hn1, hn2, hn3⟩ := id hCnt
                  have hn1 : tHn V ≤ 30 := hn1
                  have hn2 : tPn V ≤ 6 := hn2
                  have hn3 : tEn V ≤ 6 := hn3
                  have hMo : M 5 = some (.inr (7, [.int th, .int (nI (tHn V)), .int (nI (tPn V)), .int (nI (tEn V)), .ref (ad 6), .ref (ad 7), .ref (ad 8), .ref (ad 9), .ref (ad 10), .ref (ad 11), .ref (ad 12), .ref (ad 13), .ref (ad 14)])) := hMo
                  obtain ⟨rH, rP, rE, rM⟩ := id hRel
                  refine lv_iload_n hx hb dX6_pumpAll_58 rfl (lv_at hl 0 rfl) ?_
                  refine lv_iconst (v := (-1)) hx hb dX6_pumpAll_59 (by decide) ?_
                  refine lv_icmp_eq (tgt := 83) hx hb dX6_pumpAll_60 (by decide) (fun c_3 => ?_) (fun c_3 => ?_)
                  · refine lv_iconst (v := 0) hx hb dX6_pumpAll_83 (by decide) ?_
                    refine lv_istore_n (lv' := [(1, .int 0), (0, .ref (ad 5))]) hx hb dX6_pumpAll_84 rfl hl (by decide) rfl (fun ls hl => ?_)
                    have loop85 : ∀ (n85 k : Nat), k ≤ tHn W9 → tHn W9 < k + n85 → ∀ (M : fM) (hM : isMo g ad M th (mH mAll k W9) sp ca) (hrA : fReg 5 15 ad Mo ad M) (ls : Array Slot) (H : Heap) (locs : List Loc), fw g ad M s H locs → lv_has ls 2 [(1, .int (nI k)), (0, .ref (ad 5))] → W p l e (fR 5 125 0 0) s m args below meth c H locs 0 0 Q9 (F0 m 85 ls []) := by
                      intro n85
                      induction n85 with
                      | zero => intro k h1 h2; omega
                      | succ n85 ih85 =>
                        intro k hk_k hn_k M hM hrA ls H locs hw hl
                        obtain ⟨pcs, wa, ht, et, mi, co, as, hMo, ⟨hm6, hm7, hm8, hm9, hm10, hm11, hm12, hm13, hm14⟩, hRel, hCnt⟩ := id hM
                        obtain ⟨hn1, hn2, hn3⟩ := id hCnt
                        have hn1 : tHn W9 ≤ 30 := hn1
                        have hn2 : tPn W9 ≤ 6 := hn2
                        have hn3 : tEn W9 ≤ 6 := hn3
                        have hMo : M 5 = some (.inr (7, [.int th, .int (nI (tHn W9)), .int (nI (tPn W9)), .int (nI (tEn W9)), .ref (ad 6), .ref (ad 7), .ref (ad 8), .ref (ad 9), .ref (ad 10), .ref (ad 11), .ref (ad 12), .ref (ad 13), .ref (ad 14)])) := hMo
                        obtain ⟨rH, rP, rE, rM⟩ := id hRel
                        refine lv_iload_n hx hb dX6_pumpAll_85 rfl (lv_at hl 0 rfl) ?_
                        refine lv_aload_n hx hb dX6_pumpAll_86 rfl (lv_at hl 1 rfl) ?_
                        refine f_get X hw hMo fc7 1 (by decide) wq795 rfl (v := .int (nI (tHn W9))) rfl dX6_pumpAll_87 ?_
                        refine lv_icmp_ge (tgt := 120) hx hb dX6_pumpAll_90 (by decide) (fun c_4 => ?_) (fun c_4 => ?_)
                        · have c_4 := nI_le' (a := (tHn W9)) (b := k) c_4 (by omega) (by omega)
                          refine lv_iconst (v := 0) hx hb dX6_pumpAll_120 (by decide) ?_
                          refine lv_istore_n (lv' := [(1, .int 0), (0, .ref (ad 5))]) hx hb dX6_pumpAll_121 rfl hl (by decide) rfl (fun ls hl => ?_)
                          have loop122 : ∀ (n122 k : Nat), k ≤ tEn W9 → tEn W9 < k + n122 → ∀ (M : fM) (hM : isMo g ad M th (mE eSpend k (mH mAll (tHn W9) W9)) sp ca) (hrA : fReg 5 15 ad Mo ad M) (ls : Array Slot) (H : Heap) (locs : List Loc), fw g ad M s H locs → lv_has ls 2 [(1, .int (nI k)), (0, .ref (ad 5))] → W p l e (fR 5 125 0 0) s m args below meth c H locs 0 0 Q9 (F0 m 122 ls []) := by
                            intro n122
                            induction n122 with
                            | zero => intro k h1 h2; omega
                            | succ n122 ih122 =>
                              intro k hk_k hn_k M hM hrA ls H locs hw hl
                              obtain ⟨pcs, wa, ht, et, mi, co, as, hMo, ⟨hm6, hm7, hm8, hm9, hm10, hm11, hm12, hm13, hm14⟩, hRel, hCnt⟩ := id hM
                              obtain ⟨hn1, hn2, hn3⟩ := id hCnt
                              have hn1 : tHn W9 ≤ 30 := hn1
                              have hn2 : tPn W9 ≤ 6 := hn2
                              have hn3 : tEn W9 ≤ 6 := hn3
                              have hMo : M 5 = some (.inr (7, [.int th, .int (nI (tHn W9)), .int (nI (tPn W9)), .int (nI (tEn W9)), .ref (ad 6), .ref (ad 7), .ref (ad 8), .ref (ad 9), .ref (ad 10), .ref (ad 11), .ref (ad 12), .ref (ad 13), .ref (ad 14)])) := hMo
                              obtain ⟨rH, rP, rE, rM⟩ := id hRel
                              refine lv_iload_n hx hb dX6_pumpAll_122 rfl (lv_at hl 0 rfl) ?_
                              refine lv_aload_n hx hb dX6_pumpAll_123 rfl (lv_at hl 1 rfl) ?_
                              refine f_get X hw hMo fc7 3 (by decide) wq797 rfl (v := .int (nI (tEn W9))) rfl dX6_pumpAll_124 ?_
                              refine lv_icmp_ge (tgt := 164) hx hb dX6_pumpAll_127 (by decide) (fun c_5 => ?_) (fun c_5 => ?_)
                              · have c_5 := nI_le' (a := (tEn W9)) (b := k) c_5 (by omega) (by omega)
                                rw [hQ9, ← hMq]
                                exact f_vret X hw ⟨rfl, by rw [show k = tEn W9 by omega, nW1, nW3, hW9] at hM; exact hM, hrA⟩ (Nat.le_refl _) (Nat.le_refl _) dX6_pumpAll_164
                              · have c_5 := nI_nle' (a := (tEn W9)) (b := k) c_5 (by omega) (by omega)
                                refine lv_aload_n hx hb dX6_pumpAll_130 rfl (lv_at hl 1 rfl) ?_
                                refine lv_iload_n hx hb dX6_pumpAll_131 rfl (lv_at hl 0 rfl) ?_
                                refine lv_bipush (v := 8) hx hb dX6_pumpAll_132 (by decide) ?_
                                refine fk_di (fcV X hw (c_en8 l g ad M hM (e0 := k) (show k < tEn W9 by omega)) hMo rfl wq873 kVX6_en ⟨(Nat.le_of_ble_eq_true rfl), (Nat.le_of_ble_eq_true rfl)⟩ rfl hl.1 rfl (Nat.le_of_ble_eq_true rfl) dX6_pumpAll_134 ⟨Nat.le_refl _, Nat.le_refl _⟩) hw (fun H locs hw => ?_)
                                refine lv_if_le (tgt := 158) hx hb dX6_pumpAll_137 (by decide) (fun c_6 => ?_) (fun c_6 => ?_)
                                · refine lv_iinc (v := nI (k + 1)) (lv' := [(1, .int (nI (k + 1))), (0, .ref (ad 5))]) hx hb dX6_pumpAll_158 hl (k := 0) rfl (nI_1 k) (by decide) rfl (fun ls hl => ?_)
                                  refine lv_goto (tgt := 122) hx hb dX6_pumpAll_161 (by decide) ?_
                                  have hM : isMo g ad M th (mE eSpend (k + 1) (mH mAll (tHn W9) W9)) sp ca := by rw [← mE_step (F := eSpend), show eSpend (tE (mH mAll (tHn W9) W9) k) = tE (mH mAll (tHn W9) W9) k from if_pos (by rw [mE_ge (Nat.le_refl k)] at c_6; exact c_6), show sE (mE eSpend k (mH mAll (tHn W9) W9)) k (tE (mH mAll (tHn W9) W9) k) = mE eSpend k (mH mAll (tHn W9) W9) from by rw [← mE_ge (F := eSpend) (T := mH mAll (tHn W9) W9) (Nat.le_refl k)]; exact sE_same]; exact hM
                                  exact ih122 (k + 1) (by omega) (by omega) M hM hrA ls _ _ hw (lv_sub hl [0, 1] rfl)
                                · refine lv_aload_n hx hb dX6_pumpAll_140 rfl (lv_at hl 1 rfl) ?_
                                  refine lv_iload_n hx hb dX6_pumpAll_141 rfl (lv_at hl 0 rfl) ?_
                                  refine lv_iconst (v := 4) hx hb dX6_pumpAll_142 (by decide) ?_
                                  refine lv_iconst (v := 0) hx hb dX6_pumpAll_143 (by decide) ?_
                                  refine lv_aload_n hx hb dX6_pumpAll_144 rfl (lv_at hl 1 rfl) ?_
                                  refine lv_iload_n hx hb dX6_pumpAll_145 rfl (lv_at hl 0 rfl) ?_
                                  refine lv_iconst (v := 4) hx hb dX6_pumpAll_146 (by decide) ?_
                                  refine fk_di (fcV X hw (c_en l g ad M hM (e0 := k) (k := 4) (show k < tEn W9 by omega) rfl (by omega)) hMo rfl wq873 kVX6_en ⟨(Nat.le_of_ble_eq_true rfl), (Nat.le_of_ble_eq_true rfl)⟩ rfl hl.1 rfl (Nat.le_of_ble_eq_true rfl) dX6_pumpAll_147 ⟨Nat.le_refl _, Nat.le_refl _⟩) hw (fun H locs hw => ?_)
                                  refine lv_iconst (v := 2) hx hb dX6_pumpAll_150 (by decide) ?_
                                  refine lv_isub hx hb dX6_pumpAll_151 ?_
                                  refine va_mmax hx hb (X.2.2.1.trans hl.1.symm) X.2.2.2.1 (X.2.2.2.2.1 _ wq995) (X.2.2.2.2.1 _ wq173) (X.2.2.2.2.1 _ wq18) (X.2.2.2.2.1 _ wq174) (Nat.le_of_ble_eq_true rfl) (Nat.le_of_ble_eq_true rfl) (Nat.zero_le _) (Nat.zero_le _) dX6_pumpAll_152 ?_
                                  refine fk_mv (fcV X hw (c_setEn l g ad M hM (e0 := k) (k := 4) (show k < tEn W9 by omega) rfl (by omega) (iMax 0 (tE (mE eSpend k (mH mAll (tHn W9) W9)) k 4 - 2))) hMo rfl wq932 kVX6_setEn ⟨(Nat.le_of_ble_eq_true rfl), (Nat.le_of_ble_eq_true rfl)⟩ rfl hl.1 rfl (Nat.le_of_ble_eq_true rfl) dX6_pumpAll_155 ⟨Nat.le_refl _, Nat.le_refl _⟩) hw (fun M1 H locs hM hr1 hw => ?_)
                                  have hrA := fReg_tr hrA hr1
                                  obtain ⟨pcs, wa, ht, et, mi, co, as, hMo, ⟨hm6, hm7, hm8, hm9, hm10, hm11, hm12, hm13, hm14⟩, hRel, hCnt⟩ := id hM
                                  obtain ⟨hn1, hn2, hn3⟩ := id hCnt
                                  have hn1 : tHn W9 ≤ 30 := hn1
                                  have hn2 : tPn W9 ≤ 6 := hn2
                                  have hn3 : tEn W9 ≤ 6 := hn3
                                  have hMo : M1 5 = some (.inr (7, [.int th, .int (nI (tHn W9)), .int (nI (tPn W9)), .int (nI (tEn W9)), .ref (ad 6), .ref (ad 7), .ref (ad 8), .ref (ad 9), .ref (ad 10), .ref (ad 11), .ref (ad 12), .ref (ad 13), .ref (ad 14)])) := hMo
                                  obtain ⟨rH, rP, rE, rM⟩ := id hRel
                                  refine lv_iinc (v := nI (k + 1)) (lv' := [(1, .int (nI (k + 1))), (0, .ref (ad 5))]) hx hb dX6_pumpAll_158 hl (k := 0) rfl (nI_1 k) (by decide) rfl (fun ls hl => ?_)
                                  refine lv_goto (tgt := 122) hx hb dX6_pumpAll_161 (by decide) ?_
                                  rw [show sE (mE eSpend k (mH mAll (tHn W9) W9)) k (upd (tE (mE eSpend k (mH mAll (tHn W9) W9)) k) 4 (iMax 0 (tE (mE eSpend k (mH mAll (tHn W9) W9)) k 4 - 2))) = mE eSpend (k + 1) (mH mAll (tHn W9) W9) from by rw [mE_ge (Nat.le_refl k)] at c_6 ⊢; rw [show upd (tE (mH mAll (tHn W9) W9) k) 4 (iMax 0 (tE (mH mAll (tHn W9) W9) k 4 - 2)) = eSpend (tE (mH mAll (tHn W9) W9) k) from (if_neg c_6).symm]; exact mE_step (F := eSpend)] at hM
                                  exact ih122 (k + 1) (by omega) (by omega) M1 hM hrA ls _ _ hw (lv_sub hl [0, 1] rfl)
                          rw [show k = tHn W9 by omega] at hM
                          have hM : isMo g ad M th (mE eSpend 0 (mH mAll (tHn W9) W9)) sp ca := by rw [mE_0]; exact hM
                          exact loop122 (tEn W9 + 1) 0 (by omega) (by omega) M hM hrA ls _ _ hw (lv_sub hl [0, 1] rfl)
                        · have c_4 := nI_nle' (a := (tHn W9)) (b := k) c_4 (by omega) (by omega)
                          refine lv_aload_n hx hb dX6_pumpAll_93 rfl (lv_at hl 1 rfl) ?_
                          refine lv_iload_n hx hb dX6_pumpAll_94 rfl (lv_at hl 0 rfl) ?_
                          refine lv_bipush (v := 6) hx hb dX6_pumpAll_95 (by decide) ?_
                          refine lv_aload_n hx hb dX6_pumpAll_97 rfl (lv_at hl 1 rfl) ?_
                          refine lv_iload_n hx hb dX6_pumpAll_98 rfl (lv_at hl 0 rfl) ?_
                          refine lv_bipush (v := 6) hx hb dX6_pumpAll_99 (by decide) ?_
                          refine fk_di (fcV X hw (c_ho l g ad M hM (h0 := k) (k := 6) (show k < tHn W9 by omega) rfl (by omega)) hMo rfl wq865 kVX6_ho ⟨(Nat.le_of_ble_eq_true rfl), (Nat.le_of_ble_eq_true rfl)⟩ rfl hl.1 rfl (Nat.le_of_ble_eq_true rfl) dX6_pumpAll_101 ⟨Nat.le_refl _, Nat.le_refl _⟩) hw (fun H locs hw => ?_)
                          refine lv_aload_n hx hb dX6_pumpAll_104 rfl (lv_at hl 1 rfl) ?_
                          refine lv_iload_n hx hb dX6_pumpAll_105 rfl (lv_at hl 0 rfl) ?_
                          refine lv_iconst (v := 5) hx hb dX6_pumpAll_106 (by decide) ?_
                          refine fk_di (fcV X hw (c_ho l g ad M hM (h0 := k) (k := 5) (show k < tHn W9 by omega) rfl (by omega)) hMo rfl wq865 kVX6_ho ⟨(Nat.le_of_ble_eq_true rfl), (Nat.le_of_ble_eq_true rfl)⟩ rfl hl.1 rfl (Nat.le_of_ble_eq_true rfl) dX6_pumpAll_107 ⟨Nat.le_refl _, Nat.le_refl _⟩) hw (fun H locs hw => ?_)
                          refine lv_iadd hx hb dX6_pumpAll_110 ?_
                          refine fk_mv (fcV X hw (c_setHo l g ad M hM (h0 := k) (k := 6) (show k < tHn W9 by omega) rfl (by omega) (tH (mH mAll k W9) k 6 + tH (mH mAll k W9) k 5)) hMo rfl wq890 kVX6_setHo ⟨(Nat.le_of_ble_eq_true rfl), (Nat.le_of_ble_eq_true rfl)⟩ rfl hl.1 rfl (Nat.le_of_ble_eq_true rfl) dX6_pumpAll_111 ⟨Nat.le_refl _, Nat.le_refl _⟩) hw (fun M2 H locs hM hr2 hw => ?_)
                          have hrA := fReg_tr hrA hr2
                          obtain ⟨pcs, wa, ht, et, mi, co, as, hMo, ⟨hm6, hm7, hm8, hm9, hm10, hm11, hm12, hm13, hm14⟩, hRel, hCnt⟩ := id hM
                          obtain ⟨hn1, hn2, hn3⟩ := id hCnt
                          have hn1 : tHn W9 ≤ 30 := hn1
                          have hn2 : tPn W9 ≤ 6 := hn2
                          have hn3 : tEn W9 ≤ 6 := hn3
                          have hMo : M2 5 = some (.inr (7, [.int th, .int (nI (tHn W9)), .int (nI (tPn W9)), .int (nI (tEn W9)), .ref (ad 6), .ref (ad 7), .ref (ad 8), .ref (ad 9), .ref (ad 10), .ref (ad 11), .ref (ad 12), .ref (ad 13), .ref (ad 14)])) := hMo
                          obtain ⟨rH, rP, rE, rM⟩ := id hRel
                          refine lv_iinc (v := nI (k + 1)) (lv' := [(1, .int (nI (k + 1))), (0, .ref (ad 5))]) hx hb dX6_pumpAll_114 hl (k := 0) rfl (nI_1 k) (by decide) rfl (fun ls hl => ?_)
                          refine lv_goto (tgt := 85) hx hb dX6_pumpAll_117 (by decide) ?_
                          rw [show sH (mH mAll k W9) k (upd (tH (mH mAll k W9) k) 6 (tH (mH mAll k W9) k 6 + tH (mH mAll k W9) k 5)) = mH mAll (k + 1) W9 from by rw [mH_ge (Nat.le_refl k)]; exact mH_step (F := mAll)] at hM
                          exact ih85 (k + 1) (by omega) (by omega) M2 hM hrA ls _ _ hw (lv_sub hl [0, 1] rfl)
                    have e9 : V = W9 := by rw [← hV9]; exact (mTurns_stop c_3 (n + 1)).symm
                    rw [e9] at hM
                    have hM : isMo g ad M th (mH mAll 0 W9) sp ca := by rw [mH_0]; exact hM
                    exact loop85 (tHn W9 + 1) 0 (by omega) (by omega) M hM hrA ls _ _ hw (lv_sub hl [0, 1] rfl)
                  · obtain ⟨e9, he9, ee, ha9⟩ := (nextE_or V).resolve_left c_3
                    rw [ee] at hl
                    refine lv_aload_n hx hb dX6_pumpAll_63 rfl (lv_at hl 1 rfl) ?_
                    refine lv_iload_n hx hb dX6_pumpAll_64 rfl (lv_at hl 0 rfl) ?_
                    refine fk_mv (fcV X hw (c_m_pump l g ad M hM (e0 := e9) he9 hOk) hMo rfl wq1005 kVX6_pump ⟨(Nat.le_of_ble_eq_true rfl), (Nat.le_of_ble_eq_true rfl)⟩ rfl hl.1 rfl (Nat.le_of_ble_eq_true rfl) dX6_pumpAll_65 ⟨Nat.le_refl _, Nat.le_refl _⟩) hw (fun M3 H locs hM hr3 hw => ?_)
                    have hrA := fReg_tr hrA hr3
                    obtain ⟨pcs, wa, ht, et, mi, co, as, hMo, ⟨hm6, hm7, hm8, hm9, hm10, hm11, hm12, hm13, hm14⟩, hRel, hCnt⟩ := id hM
                    obtain ⟨hn1, hn2, hn3⟩ := id hCnt
                    have hn1 : tHn (pumpU V e9) ≤ 30 := hn1
                    have hn2 : tPn (pumpU V e9) ≤ 6 := hn2
                    have hn3 : tEn (pumpU V e9) ≤ 6 := hn3
                    have hMo : M3 5 = some (.inr (7, [.int th, .int (nI (tHn (pumpU V e9))), .int (nI (tPn (pumpU V e9))), .int (nI (tEn (pumpU V e9))), .ref (ad 6), .ref (ad 7), .ref (ad 8), .ref (ad 9), .ref (ad 10), .ref (ad 11), .ref (ad 12), .ref (ad 13), .ref (ad 14)])) := hMo
                    obtain ⟨rH, rP, rE, rM⟩ := id hRel
                    refine lv_aload_n hx hb dX6_pumpAll_68 rfl (lv_at hl 1 rfl) ?_
                    refine f_get X hw hMo fc7 10 (by decide) wq804 rfl (v := .ref (ad 12)) rfl dX6_pumpAll_69 ?_
                    refine lv_iload_n hx hb dX6_pumpAll_72 rfl (lv_at hl 0 rfl) ?_
                    refine lv_iconst (v := 1) hx hb dX6_pumpAll_73 (by decide) ?_
                    refine f_zast X hw hm12 (vp_in_nI (n := e9) (by omega) (by omega)) dX6_pumpAll_74 (fun H locs hw => ?_)
                    rw [nI_clamp (n := e9) (by omega)] at hw
                    have hw : fw g ad (fU M3 12 (.inl (gZ g, 6, .inl (upd as e9 (1 &&& 1))))) s H locs := hw
                    have hMo : (fU M3 12 (.inl (gZ g, 6, .inl (upd as e9 (1 &&& 1))))) 5 = some (.inr (7, [.int th, .int (nI (tHn (pumpU V e9))), .int (nI (tPn (pumpU V e9))), .int (nI (tEn (pumpU V e9))), .ref (ad 6), .ref (ad 7), .ref (ad 8), .ref (ad 9), .ref (ad 10), .ref (ad 11), .ref (ad 12), .ref (ad 13), .ref (ad 14)])) := (fU_n (by omega)).trans hMo
                    have hm6 : (fU M3 12 (.inl (gZ g, 6, .inl (upd as e9 (1 &&& 1))))) 6 = some (.inl (gI g, 6, .inl pcs)) := (fU_n (by omega)).trans hm6
                    have hm7 : (fU M3 12 (.inl (gZ g, 6, .inl (upd as e9 (1 &&& 1))))) 7 = some (.inl (gI g, 6, .inl wa)) := (fU_n (by omega)).trans hm7
                    have hm8 : (fU M3 12 (.inl (gZ g, 6, .inl (upd as e9 (1 &&& 1))))) 8 = some (.inl (gI g, 210, .inl ht)) := (fU_n (by omega)).trans hm8
                    have hm9 : (fU M3 12 (.inl (gZ g, 6, .inl (upd as e9 (1 &&& 1))))) 9 = some (.inl (gI g, 54, .inl et)) := (fU_n (by omega)).trans hm9
                    have hm10 : (fU M3 12 (.inl (gZ g, 6, .inl (upd as e9 (1 &&& 1))))) 10 = some (.inl (gI g, 1, .inl mi)) := (fU_n (by omega)).trans hm10
                    have hm11 : (fU M3 12 (.inl (gZ g, 6, .inl (upd as e9 (1 &&& 1))))) 11 = some (.inl (gI g, 6, .inl co)) := (fU_n (by omega)).trans hm11
                    have hm13 : (fU M3 12 (.inl (gZ g, 6, .inl (upd as e9 (1 &&& 1))))) 13 = some (.inl (gI g, 140, .inl sp)) := (fU_n (by omega)).trans hm13
                    have hm14 : (fU M3 12 (.inl (gZ g, 6, .inl (upd as e9 (1 &&& 1))))) 14 = some (.inl (gZ g, 30, .inl ca)) := (fU_n (by omega)).trans hm14
                    have hm12 : (fU M3 12 (.inl (gZ g, 6, .inl (upd as e9 (1 &&& 1))))) 12 = some (.inl (gZ g, 6, .inl (upd as e9 (1 &&& 1)))) := fU_s
                    have hM : isMo g ad (fU M3 12 (.inl (gZ g, 6, .inl (upd as e9 (1 &&& 1))))) th (askd (pumpU V e9) e9) sp ca := ⟨_, _, _, _, _, _, _, (fU_n (by omega)).trans (hMo), ⟨(fU_n (by omega)).trans (hm6), (fU_n (by omega)).trans (hm7), (fU_n (by omega)).trans (hm8), (fU_n (by omega)).trans (hm9), (fU_n (by omega)).trans (hm10), (fU_n (by omega)).trans (hm11), fU_s, (fU_n (by omega)).trans (hm13), (fU_n (by omega)).trans (hm14)⟩, mRel_A hRel (by rw [(pumpU_n V e9).2.2.1]; exact he9) (Or.inr rfl), hCnt⟩
                    have hrA : fReg 5 15 ad Mo ad (fU M3 12 (.inl (gZ g, 6, .inl (upd as e9 (1 &&& 1))))) := fReg_U hrA (by omega)
                    obtain ⟨M4, eM4⟩ : ∃ z, z = (fU M3 12 (.inl (gZ g, 6, .inl (upd as e9 (1 &&& 1))))) := ⟨_, rfl⟩
                    rw [← eM4] at hM hw hrA
                    obtain ⟨pcs, wa, ht, et, mi, co, as, hMo, ⟨hm6, hm7, hm8, hm9, hm10, hm11, hm12, hm13, hm14⟩, hRel, hCnt⟩ := id hM
                    obtain ⟨hn1, hn2, hn3⟩ := id hCnt
                    have hn1 : tHn (pumpU V e9) ≤ 30 := hn1
                    have hn2 : tPn (pumpU V e9) ≤ 6 := hn2
                    have hn3 : tEn (pumpU V e9) ≤ 6 := hn3
                    have hMo : M4 5 = some (.inr (7, [.int th, .int (nI (tHn (pumpU V e9))), .int (nI (tPn (pumpU V e9))), .int (nI (tEn (pumpU V e9))), .ref (ad 6), .ref (ad 7), .ref (ad 8), .ref (ad 9), .ref (ad 10), .ref (ad 11), .ref (ad 12), .ref (ad 13), .ref (ad 14)])) := hMo
                    obtain ⟨rH, rP, rE, rM⟩ := id hRel
                    refine lv_aload_n hx hb dX6_pumpAll_75 rfl (lv_at hl 1 rfl) ?_
                    refine fk_di (fcV X hw (c_m_next l g ad M4 hM) hMo rfl wq1001 kVX6_next ⟨(Nat.le_of_ble_eq_true rfl), (Nat.le_of_ble_eq_true rfl)⟩ rfl hl.1 rfl (Nat.le_of_ble_eq_true rfl) dX6_pumpAll_76 ⟨Nat.le_refl _, Nat.le_refl _⟩) hw (fun H locs hw => ?_)
                    refine lv_istore_n (lv' := [(1, .int (nextE (askd (pumpU V e9) e9))), (0, .ref (ad 5))]) hx hb dX6_pumpAll_79 rfl hl (by decide) rfl (fun ls hl => ?_)
                    refine lv_goto (tgt := 58) hx hb dX6_pumpAll_80 (by decide) ?_
                    have hT := mTurn_at ee (by omega)
                    have hih := ih (mTurn V) ?_ (okHz_turn hOk) hV9 M4 (by rw [hT]; exact hM) hrA ls _ _ hw (by rw [hT]; exact (lv_sub hl [0, 1] rfl))
                    · exact hih
                    · rw [(mTurn_n V).2.2.1, hT]
                      have := unask_set (f := tE V) (f2 := tE (askd (pumpU V e9) e9)) he9 ha9 (by rw [tE_sE, upd_at]) (fun j hj => by rw [show tE (askd (pumpU V e9) e9) j = tE (pumpU V e9) j from if_neg hj]; exact (pumpU_7 V e9 j).2)
                      omega
              exact loop58 (tEn U + 1) (mE mReset (tEn U) (mH hReset (tHn U) U)) (Nat.lt_succ_of_le unask_le) hOk2 (by rw [hW9]; rfl) M hM hrA ls _ _ hw (lv_sub hl [0, 1] rfl)
            · have c_2 := nI_nle' (a := (tEn U)) (b := k) c_2 (by omega) (by omega)
              refine lv_aload_n hx hb dX6_pumpAll_33 rfl (lv_at hl 1 rfl) ?_
              refine f_get X hw hMo fc7 9 (by decide) wq803 rfl (v := .ref (ad 11)) rfl dX6_pumpAll_34 ?_
              refine lv_iload_n hx hb dX6_pumpAll_37 rfl (lv_at hl 0 rfl) ?_
              refine lv_iconst (v := 0) hx hb dX6_pumpAll_38 (by decide) ?_
              refine f_iast X hw hm11 (vp_in_nI (n := k) (by omega) (by omega)) dX6_pumpAll_39 (fun H locs hw => ?_)
              rw [nI_clamp (n := k) (by omega)] at hw
              have hw : fw g ad (fU M 11 (.inl (gI g, 6, .inl (upd co k 0)))) s H locs := hw
              have hMo : (fU M 11 (.inl (gI g, 6, .inl (upd co k 0)))) 5 = some (.inr (7, [.int th, .int (nI (tHn U)), .int (nI (tPn U)), .int (nI (tEn U)), .ref (ad 6), .ref (ad 7), .ref (ad 8), .ref (ad 9), .ref (ad 10), .ref (ad 11), .ref (ad 12), .ref (ad 13), .ref (ad 14)])) := (fU_n (by omega)).trans hMo
              have hm6 : (fU M 11 (.inl (gI g, 6, .inl (upd co k 0)))) 6 = some (.inl (gI g, 6, .inl pcs)) := (fU_n (by omega)).trans hm6
              have hm7 : (fU M 11 (.inl (gI g, 6, .inl (upd co k 0)))) 7 = some (.inl (gI g, 6, .inl wa)) := (fU_n (by omega)).trans hm7
              have hm8 : (fU M 11 (.inl (gI g, 6, .inl (upd co k 0)))) 8 = some (.inl (gI g, 210, .inl ht)) := (fU_n (by omega)).trans hm8
              have hm9 : (fU M 11 (.inl (gI g, 6, .inl (upd co k 0)))) 9 = some (.inl (gI g, 54, .inl et)) := (fU_n (by omega)).trans hm9
              have hm10 : (fU M 11 (.inl (gI g, 6, .inl (upd co k 0)))) 10 = some (.inl (gI g, 1, .inl mi)) := (fU_n (by omega)).trans hm10
              have hm12 : (fU M 11 (.inl (gI g, 6, .inl (upd co k 0)))) 12 = some (.inl (gZ g, 6, .inl as)) := (fU_n (by omega)).trans hm12
              have hm13 : (fU M 11 (.inl (gI g, 6, .inl (upd co k 0)))) 13 = some (.inl (gI g, 140, .inl sp)) := (fU_n (by omega)).trans hm13
              have hm14 : (fU M 11 (.inl (gI g, 6, .inl (upd co k 0)))) 14 = some (.inl (gZ g, 30, .inl ca)) := (fU_n (by omega)).trans hm14
              have hm11 : (fU M 11 (.inl (gI g, 6, .inl (upd co k 0)))) 11 = some (.inl (gI g, 6, .inl (upd co k 0))) := fU_s
              refine lv_aload_n hx hb dX6_pumpAll_40 rfl (lv_at hl 1 rfl) ?_
              refine f_get X hw hMo fc7 10 (by decide) wq804 rfl (v := .ref (ad 12)) rfl dX6_pumpAll_41 ?_
              refine lv_iload_n hx hb dX6_pumpAll_44 rfl (lv_at hl 0 rfl) ?_
              refine lv_iconst (v := 0) hx hb dX6_pumpAll_45 (by decide) ?_
              refine f_zast X hw hm12 (vp_in_nI (n := k) (by omega) (by omega)) dX6_pumpAll_46 (fun H locs hw => ?_)
              rw [nI_clamp (n := k) (by omega)] at hw
              have hw : fw g ad (fU (fU M 11 (.inl (gI g, 6, .inl (upd co k 0)))) 12 (.inl (gZ g, 6, .inl (upd as k (0 &&& 1))))) s H locs := hw
              have hMo : (fU (fU M 11 (.inl (gI g, 6, .inl (upd co k 0)))) 12 (.inl (gZ g, 6, .inl (upd as k (0 &&& 1))))) 5 = some (.inr (7, [.int th, .int (nI (tHn U)), .int (nI (tPn U)), .int (nI (tEn U)), .ref (ad 6), .ref (ad 7), .ref (ad 8), .ref (ad 9), .ref (ad 10), .ref (ad 11), .ref (ad 12), .ref (ad 13), .ref (ad 14)])) := (fU_n (by omega)).trans hMo
              have hm6 : (fU (fU M 11 (.inl (gI g, 6, .inl (upd co k 0)))) 12 (.inl (gZ g, 6, .inl (upd as k (0 &&& 1))))) 6 = some (.inl (gI g, 6, .inl pcs)) := (fU_n (by omega)).trans hm6
              have hm7 : (fU (fU M 11 (.inl (gI g, 6, .inl (upd co k 0)))) 12 (.inl (gZ g, 6, .inl (upd as k (0 &&& 1))))) 7 = some (.inl (gI g, 6, .inl wa)) := (fU_n (by omega)).trans hm7
              have hm8 : (fU (fU M 11 (.inl (gI g, 6, .inl (upd co k 0)))) 12 (.inl (gZ g, 6, .inl (upd as k (0 &&& 1))))) 8 = some (.inl (gI g, 210, .inl ht)) := (fU_n (by omega)).trans hm8
              have hm9 : (fU (fU M 11 (.inl (gI g, 6, .inl (upd co k 0)))) 12 (.inl (gZ g, 6, .inl (upd as k (0 &&& 1))))) 9 = some (.inl (gI g, 54, .inl et)) := (fU_n (by omega)).trans hm9
              have hm10 : (fU (fU M 11 (.inl (gI g, 6, .inl (upd co k 0)))) 12 (.inl (gZ g, 6, .inl (upd as k (0 &&& 1))))) 10 = some (.inl (gI g, 1, .inl mi)) := (fU_n (by omega)).trans hm10
              have hm11 : (fU (fU M 11 (.inl (gI g, 6, .inl (upd co k 0)))) 12 (.inl (gZ g, 6, .inl (upd as k (0 &&& 1))))) 11 = some (.inl (gI g, 6, .inl (upd co k 0))) := (fU_n (by omega)).trans hm11
              have hm13 : (fU (fU M 11 (.inl (gI g, 6, .inl (upd co k 0)))) 12 (.inl (gZ g, 6, .inl (upd as k (0 &&& 1))))) 13 = some (.inl (gI g, 140, .inl sp)) := (fU_n (by omega)).trans hm13
              have hm14 : (fU (fU M 11 (.inl (gI g, 6, .inl (upd co k 0)))) 12 (.inl (gZ g, 6, .inl (upd as k (0 &&& 1))))) 14 = some (.inl (gZ g, 30, .inl ca)) := (fU_n (by omega)).trans hm14
              have hm12 : (fU (fU M 11 (.inl (gI g, 6, .inl (upd co k 0)))) 12 (.inl (gZ g, 6, .inl (upd as k (0 &&& 1))))) 12 = some (.inl (gZ g, 6, .inl (upd as k (0 &&& 1)))) := fU_s
              refine lv_iinc (v := nI (k + 1)) (lv' := [(1, .int (nI (k + 1))), (0, .ref (ad 5))]) hx hb dX6_pumpAll_47 hl (k := 0) rfl (nI_1 k) (by decide) rfl (fun ls hl => ?_)
              refine lv_goto (tgt := 25) hx hb dX6_pumpAll_50 (by decide) ?_
              have hM : isMo g ad (fU (fU M 11 (.inl (gI g, 6, .inl (upd co k 0)))) 12 (.inl (gZ g, 6, .inl (upd as k (0 &&& 1))))) th (sE (sE (mE mReset k (mH hReset (tHn U) U)) k (upd (tE (mE mReset k (mH hReset (tHn U) U)) k) 8 0)) k (upd (tE (sE (mE mReset k (mH hReset (tHn U) U)) k (upd (tE (mE mReset k (mH hReset (tHn U) U)) k) 8 0)) k) 10 0)) sp ca := ⟨_, _, _, _, _, _, _, (fU_n (by omega)).trans ((fU_n (by omega)).trans (hMo)), ⟨(fU_n (by omega)).trans ((fU_n (by omega)).trans (hm6)), (fU_n (by omega)).trans ((fU_n (by omega)).trans (hm7)), (fU_n (by omega)).trans ((fU_n (by omega)).trans (hm8)), (fU_n (by omega)).trans ((fU_n (by omega)).trans (hm9)), (fU_n (by omega)).trans ((fU_n (by omega)).trans (hm10)), (fU_n (by omega)).trans (fU_s), fU_s, (fU_n (by omega)).trans ((fU_n (by omega)).trans (hm13)), (fU_n (by omega)).trans ((fU_n (by omega)).trans (hm14))⟩, mRel_A (mRel_C hRel (show k < tEn U by omega)) (show k < tEn U by omega) (Or.inl rfl), hCnt⟩
              have hrA : fReg 5 15 ad Mo ad (fU (fU M 11 (.inl (gI g, 6, .inl (upd co k 0)))) 12 (.inl (gZ g, 6, .inl (upd as k (0 &&& 1))))) := fReg_U (fReg_U hrA (by omega)) (by omega)
              obtain ⟨M5, eM5⟩ : ∃ z, z = (fU (fU M 11 (.inl (gI g, 6, .inl (upd co k 0)))) 12 (.inl (gZ g, 6, .inl (upd as k (0 &&& 1))))) := ⟨_, rfl⟩
              rw [← eM5] at hM hw hrA
              obtain ⟨pcs, wa, ht, et, mi, co, as, hMo, ⟨hm6, hm7, hm8, hm9, hm10, hm11, hm12, hm13, hm14⟩, hRel, hCnt⟩ := id hM
              obtain ⟨hn1, hn2, hn3⟩ := id hCnt
              have hn1 : tHn U ≤ 30 := hn1
              have hn2 : tPn U ≤ 6 := hn2
              have hn3 : tEn U ≤ 6 := hn3
              have hMo : M5 5 = some (.inr (7, [.int th, .int (nI (tHn U)), .int (nI (tPn U)), .int (nI (tEn U)), .ref (ad 6), .ref (ad 7), .ref (ad 8), .ref (ad 9), .ref (ad 10), .ref (ad 11), .ref (ad 12), .ref (ad 13), .ref (ad 14)])) := hMo
              obtain ⟨rH, rP, rE, rM⟩ := id hRel
              rw [show sE (sE (mE mReset k (mH hReset (tHn U) U)) k (upd (tE (mE mReset k (mH hReset (tHn U) U)) k) 8 0)) k (upd (tE (sE (mE mReset k (mH hReset (tHn U) U)) k (upd (tE (mE mReset k (mH hReset (tHn U) U)) k) 8 0)) k) 10 0) = mE mReset (k + 1) (mH hReset (tHn U) U) from by rw [tE_sE, sE_sE, mE_ge (Nat.le_refl k)]; exact mE_step (F := mReset)] at hM
              exact ih25 (k + 1) (by omega) (by omega) M5 hM hrA ls _ _ hw (lv_sub hl [0, 1] rfl)
        rw [show k = tHn U by omega] at hM
        have hM : isMo g ad M th (mE mReset 0 (mH hReset (tHn U) U)) sp ca := by rw [mE_0]; exact hM
        exact loop25 (tEn U + 1) 0 (by omega) (by omega) M hM hrA ls _ _ hw (lv_sub hl [0, 1] rfl)
      · have c_1 := nI_nle' (a := (tHn U)) (b := k) c_1 (by omega) (by omega)
        refine lv_aload_n hx hb dX6_pumpAll_10 rfl (lv_at hl 1 rfl) ?_
        refine lv_iload_n hx hb dX6_pumpAll_11 rfl (lv_at hl 0 rfl) ?_
        refine lv_iconst (v := 5) hx hb dX6_pumpAll_12 (by decide) ?_
        refine lv_iconst (v := 0) hx hb dX6_pumpAll_13 (by decide) ?_
        refine fk_mv (fcV X hw (c_setHo l g ad M hM (h0 := k) (k := 5) (show k < tHn U by omega) rfl (by omega) 0) hMo rfl wq890 kVX6_setHo ⟨(Nat.le_of_ble_eq_true rfl), (Nat.le_of_ble_eq_true rfl)⟩ rfl hl.1 rfl (Nat.le_of_ble_eq_true rfl) dX6_pumpAll_14 ⟨Nat.le_refl _, Nat.le_refl _⟩) hw (fun M6 H locs hM hr6 hw => ?_)
        have hrA := fReg_tr hrA hr6
        obtain ⟨pcs, wa, ht, et, mi, co, as, hMo, ⟨hm6, hm7, hm8, hm9, hm10, hm11, hm12, hm13, hm14⟩, hRel, hCnt⟩ := id hM
        obtain ⟨hn1, hn2, hn3⟩ := id hCnt
        have hn1 : tHn U ≤ 30 := hn1
        have hn2 : tPn U ≤ 6 := hn2
        have hn3 : tEn U ≤ 6 := hn3
        have hMo : M6 5 = some (.inr (7, [.int th, .int (nI (tHn U)), .int (nI (tPn U)), .int (nI (tEn U)), .ref (ad 6), .ref (ad 7), .ref (ad 8), .ref (ad 9), .ref (ad 10), .ref (ad 11), .ref (ad 12), .ref (ad 13), .ref (ad 14)])) := hMo
        obtain ⟨rH, rP, rE, rM⟩ := id hRel
        refine lv_iinc (v := nI (k + 1)) (lv' := [(1, .int (nI (k + 1))), (0, .ref (ad 5))]) hx hb dX6_pumpAll_17 hl (k := 0) rfl (nI_1 k) (by decide) rfl (fun ls hl => ?_)
        refine lv_goto (tgt := 2) hx hb dX6_pumpAll_20 (by decide) ?_
        rw [show sH (mH hReset k U) k (upd (tH (mH hReset k U) k) 5 0) = mH hReset (k + 1) U from by rw [mH_ge (Nat.le_refl k)]; exact mH_step] at hM
        exact ih2 (k + 1) (by omega) (by omega) M6 hM hrA ls _ _ hw (lv_sub hl [0, 1] rfl)
  have hM : isMo g ad M th (mH hReset 0 U) sp ca := by rw [mH_0]; exact hM
  exact loop2 (tHn U + 1) 0 (by omega) (by omega) M hM hrA ls _ _ hw (lv_sub hl [0, 1] rfl)
