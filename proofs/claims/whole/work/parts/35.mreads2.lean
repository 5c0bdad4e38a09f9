/-- the hoses have no ring: a rank under 6 that falls along each -/
def okH (U : fTn) (rk : Nat → Nat) : Prop := ∀ j, j < tEn U → rk j < 6 ∧ (inR (tE U j 7) 0 5 = true → ∃ i, i < tEn U ∧ tE U j 7 = nI i ∧ rk i < rk j)
theorem inR_no {x : Int32} {n : Nat} (h : inR x 0 5 = false) (hn : n ≤ 6) : isIx n x = false := by
  rw [← inR_ix (n := n) (by omega)]
  simp only [inR, Bool.and_eq_false_iff, decide_eq_false_iff_not, Classical.not_not] at h ⊢
  rcases h with h | h
  · exact Or.inl h
  · refine Or.inr ?_
    have e : (nI n - 1).toInt = (n : Int) - 1 := by
      rw [Int32.toInt_sub, toInt_nI (by omega)]
      show ((n : Int) - 1).bmod (2 ^ 32) = _
      rw [Int.bmod_eq_of_le] <;> omega
    rw [Int32.lt_iff_toInt_lt] at h ⊢
    rw [e]
    rw [show (5 : Int32).toInt = 5 from rfl] at h
    omega
def isF (U : fTn) (k n : Nat) : Bool := decide (tE U k 10 = 0) && !(waits (tE U) (nI k) n)
theorem isF_step {U : fTn} {k n : Nat} : isF U k (n + 1) = (isF U k n && !(decide (tE U n 10 = 0) && decide (tE U n 7 = nI k))) := by
  show (decide (tE U k 10 = 0) && !(waits (tE U) (nI k) n || (decide (tE U n 10 = 0) && decide (tE U n 7 = nI k)))) = _
  rw [Bool.not_or, ← Bool.and_assoc]
  rfl
theorem isF_0 {U : fTn} {k : Nat} : isF U k 0 = decide (tE U k 10 = 0) := by
  show (decide (tE U k 10 = 0) && !false) = _
  rw [Bool.not_false, Bool.and_true]
theorem leadsN_no {U : fTn} {to x : Int32} (h : isIx (tEn U) x = false) : ∀ n, leadsN U to n x = false := by
  intro n
  cases n with
  | zero => rfl
  | succ n => show (isIx (tEn U) x && _) = false; rw [h]; rfl
set_option maxHeartbeats 4000000 in
set_option maxRecDepth 100000 in
theorem c_m_told (l : Launch) (g : fG) (ad : Nat → Nat) (M : fM) {th : Int32} {U : fTn} {sp ca : Nat → Int32} (hM : isMo g ad M th U sp ca) {e0 k : Nat} (he : e0 < tEn U) (hk : k < 10) : fCi l g yX6_engineTold cX6_engineTold 3 ((some .int)) 4 84 0 0 ad M [.ref (ad 5), .int (nI e0), .int (nI k)] (fDi ad M (mTell U (tE U e0) k)) := by
  refine f_body (own := RX6) (by decide +kernel) rfl (Nat.le_of_ble_eq_true rfl) ?_
  intro p e s m args below meth c ls X hw hin hl
  have hx := X.1
  have hb := X.2.1
  have hl : lv_has ls 3 [(0, .ref (ad 5)), (1, .int (nI e0)), (2, .int (nI k))] := hl
  obtain ⟨pcs, wa, ht, et, mi, co, as, hMo, ⟨hm6, hm7, hm8, hm9, hm10, hm11, hm12, hm13, hm14⟩, hRel, hCnt⟩ := id hM
  obtain ⟨hn1, hn2, hn3⟩ := id hCnt
  have hn1 : tHn U ≤ 30 := hn1
  have hn2 : tPn U ≤ 6 := hn2
  have hn3 : tEn U ≤ 6 := hn3
  have hMo : M 5 = some (.inr (7, [.int th, .int (nI (tHn U)), .int (nI (tPn U)), .int (nI (tEn U)), .ref (ad 6), .ref (ad 7), .ref (ad 8), .ref (ad 9), .ref (ad 10), .ref (ad 11), .ref (ad 12), .ref (ad 13), .ref (ad 14)])) := hMo
  obtain ⟨rH, rP, rE, rM⟩ := id hRel
  refine lv_iload_n hx hb dX6_engineTold_0 rfl (lv_at hl 2 rfl) ?_
  by_cases k_1 : (nI k) = 6
  · refine lv_tableIn (off := 31) (tgt := 32) hx hb dX6_engineTold_1 (by rw [k_1]; decide) (by rw [k_1]; decide) (by rw [k_1]; rfl) (by decide) ?_
    refine lv_aload_n hx hb dX6_engineTold_32 rfl (lv_at hl 0 rfl) ?_
    refine lv_iload_n hx hb dX6_engineTold_33 rfl (lv_at hl 1 rfl) ?_
    refine lv_bipush (v := 7) hx hb dX6_engineTold_34 (by decide) ?_
    refine fk_di (fcV X hw (c_en l g ad M hM (e0 := e0) (k := 7) (by omega) rfl (by omega)) hMo rfl wq873 kVX6_en ⟨(Nat.le_of_ble_eq_true rfl), (Nat.le_of_ble_eq_true rfl)⟩ rfl hl.1 rfl (Nat.le_of_ble_eq_true rfl) dX6_engineTold_36 ⟨Nat.le_refl _, Nat.le_refl _⟩) hw (fun H locs hw => ?_)
    exact f_iret X hw ⟨rfl, rfl, by rw [show k = 6 from nI_eq' k_1 (by omega) (by omega)]; rfl⟩ (Nat.le_refl _) (Nat.le_refl _) dX6_engineTold_39
  by_cases k_2 : (nI k) = 7
  · refine lv_tableIn (off := 39) (tgt := 40) hx hb dX6_engineTold_1 (by rw [k_2]; decide) (by rw [k_2]; decide) (by rw [k_2]; rfl) (by decide) ?_
    refine lv_aload_n hx hb dX6_engineTold_40 rfl (lv_at hl 0 rfl) ?_
    refine lv_iload_n hx hb dX6_engineTold_41 rfl (lv_at hl 1 rfl) ?_
    refine fk_di (fcV X hw (c_m_source l g ad M hM he) hMo rfl wq975 kVX6_source ⟨(Nat.le_of_ble_eq_true rfl), (Nat.le_of_ble_eq_true rfl)⟩ rfl hl.1 rfl (Nat.le_of_ble_eq_true rfl) dX6_engineTold_42 ⟨Nat.le_refl _, Nat.le_refl _⟩) hw (fun H locs hw => ?_)
    exact f_iret X hw ⟨rfl, rfl, by rw [show k = 7 from nI_eq' k_2 (by omega) (by omega)]; rfl⟩ (Nat.le_refl _) (Nat.le_refl _) dX6_engineTold_45
  by_cases k_3 : (nI k) = 8
  · refine lv_tableIn (off := 45) (tgt := 46) hx hb dX6_engineTold_1 (by rw [k_3]; decide) (by rw [k_3]; decide) (by rw [k_3]; rfl) (by decide) ?_
    refine lv_aload_n hx hb dX6_engineTold_46 rfl (lv_at hl 0 rfl) ?_
    refine lv_iload_n hx hb dX6_engineTold_47 rfl (lv_at hl 1 rfl) ?_
    refine lv_bipush (v := 8) hx hb dX6_engineTold_48 (by decide) ?_
    refine fk_di (fcV X hw (c_en8 l g ad M hM (e0 := e0) (by omega)) hMo rfl wq873 kVX6_en ⟨(Nat.le_of_ble_eq_true rfl), (Nat.le_of_ble_eq_true rfl)⟩ rfl hl.1 rfl (Nat.le_of_ble_eq_true rfl) dX6_engineTold_50 ⟨Nat.le_refl _, Nat.le_refl _⟩) hw (fun H locs hw => ?_)
    exact f_iret X hw ⟨rfl, rfl, by rw [show k = 8 from nI_eq' k_3 (by omega) (by omega)]; rfl⟩ (Nat.le_refl _) (Nat.le_refl _) dX6_engineTold_53
  by_cases k_4 : (nI k) = 9
  · refine lv_tableIn (off := 53) (tgt := 54) hx hb dX6_engineTold_1 (by rw [k_4]; decide) (by rw [k_4]; decide) (by rw [k_4]; rfl) (by decide) ?_
    refine lv_aload_n hx hb dX6_engineTold_54 rfl (lv_at hl 0 rfl) ?_
    refine lv_iload_n hx hb dX6_engineTold_55 rfl (lv_at hl 1 rfl) ?_
    refine fk_di (fcV X hw (c_m_canPump l g ad M hM he) hMo rfl wq979 kVX6_canPump ⟨(Nat.le_of_ble_eq_true rfl), (Nat.le_of_ble_eq_true rfl)⟩ rfl hl.1 rfl (Nat.le_of_ble_eq_true rfl) dX6_engineTold_56 ⟨Nat.le_refl _, Nat.le_refl _⟩) hw (fun H locs hw => ?_)
    exact f_iret X hw ⟨rfl, rfl, by rw [show k = 9 from nI_eq' k_4 (by omega) (by omega)]; rfl⟩ (Nat.le_refl _) (Nat.le_refl _) dX6_engineTold_59
  refine lv_tableOut (tgt := 60) hx hb dX6_engineTold_1 (f_tout (lo := 6) (hi := 9) (by intro k a b; rcases (show k = 6 ∨ k = 7 ∨ k = 8 ∨ k = 9 by omega) with rfl | rfl | rfl | rfl <;> assumption)) (by decide) ?_
  refine lv_aload_n hx hb dX6_engineTold_60 rfl (lv_at hl 0 rfl) ?_
  refine lv_iload_n hx hb dX6_engineTold_61 rfl (lv_at hl 1 rfl) ?_
  refine lv_iload_n hx hb dX6_engineTold_62 rfl (lv_at hl 2 rfl) ?_
  have k6 : k ≠ 6 := fun z => k_1 (by rw [z]; rfl)
  have k7 : k ≠ 7 := fun z => k_2 (by rw [z]; rfl)
  have k8 : k ≠ 8 := fun z => k_3 (by rw [z]; rfl)
  have k9 : k ≠ 9 := fun z => k_4 (by rw [z]; rfl)
  refine fk_di (fcV X hw (c_en l g ad M hM (e0 := e0) (k := k) he rfl (by omega)) hMo rfl wq873 kVX6_en ⟨(Nat.le_of_ble_eq_true rfl), (Nat.le_of_ble_eq_true rfl)⟩ rfl hl.1 rfl (Nat.le_of_ble_eq_true rfl) dX6_engineTold_63 ⟨Nat.le_refl _, Nat.le_refl _⟩) hw (fun H locs hw => ?_)
  exact f_iret X hw ⟨rfl, rfl, by unfold mTell; rw [if_neg k6, if_neg k7, if_neg k8, if_neg k9]⟩ (Nat.le_refl _) (Nat.le_refl _) dX6_engineTold_66
set_option maxHeartbeats 4000000 in
set_option maxRecDepth 100000 in
theorem c_m_counted (l : Launch) (g : fG) (ad : Nat → Nat) (M : fM) {th : Int32} {U : fTn} {sp ca : Nat → Int32} (hM : isMo g ad M th U sp ca) (w : Int32) : fCi l g yX6_counted cX6_counted 4 ((some .int)) 2 48 0 0 ad M [.ref (ad 5), .int w] (fDi ad M (tTell U w)) := by
  refine f_body (own := RX6) (by decide +kernel) rfl (Nat.le_of_ble_eq_true rfl) ?_
  intro p e s m args below meth c ls X hw hin hl
  have hx := X.1
  have hb := X.2.1
  have hl : lv_has ls 4 [(0, .ref (ad 5)), (1, .int w)] := hl
  obtain ⟨pcs, wa, ht, et, mi, co, as, hMo, ⟨hm6, hm7, hm8, hm9, hm10, hm11, hm12, hm13, hm14⟩, hRel, hCnt⟩ := id hM
  obtain ⟨hn1, hn2, hn3⟩ := id hCnt
  have hn1 : tHn U ≤ 30 := hn1
  have hn2 : tPn U ≤ 6 := hn2
  have hn3 : tEn U ≤ 6 := hn3
  have hMo : M 5 = some (.inr (7, [.int th, .int (nI (tHn U)), .int (nI (tPn U)), .int (nI (tEn U)), .ref (ad 6), .ref (ad 7), .ref (ad 8), .ref (ad 9), .ref (ad 10), .ref (ad 11), .ref (ad 12), .ref (ad 13), .ref (ad 14)])) := hMo
  obtain ⟨rH, rP, rE, rM⟩ := id hRel
  refine lv_iconst (v := 0) hx hb dX6_counted_0 (by decide) ?_
  refine lv_istore_n (lv' := [(2, .int 0), (0, .ref (ad 5)), (1, .int w)]) hx hb dX6_counted_1 rfl hl (by decide) rfl (fun ls hl => ?_)
  refine lv_iload_n hx hb dX6_counted_2 rfl (lv_at hl 2 rfl) ?_
  by_cases k_1 : w = 0
  · refine lv_tableIn (off := 45) (tgt := 48) hx hb dX6_counted_3 (by rw [k_1]; decide) (by rw [k_1]; decide) (by rw [k_1]; rfl) (by decide) ?_
    refine lv_aload_n hx hb dX6_counted_48 rfl (lv_at hl 1 rfl) ?_
    refine f_get X hw hMo fc7 8 (by decide) wq802 rfl (v := .ref (ad 10)) rfl dX6_counted_49 ?_
    refine lv_iconst (v := 0) hx hb dX6_counted_52 (by decide) ?_
    refine f_iald X hw hm10 (by unfold vp_in; decide) dX6_counted_53 ?_
    rw [show (0 : Int32).toNatClampNeg = 0 from rfl]
    refine f_top (y := tM U) rM ?_
    exact f_iret X hw ⟨rfl, rfl, by rw [k_1]; rfl⟩ (Nat.le_refl _) (Nat.le_refl _) dX6_counted_54
  by_cases k_2 : w = 1
  · refine lv_tableIn (off := 52) (tgt := 55) hx hb dX6_counted_3 (by rw [k_2]; decide) (by rw [k_2]; decide) (by rw [k_2]; rfl) (by decide) ?_
    refine lv_aload_n hx hb dX6_counted_55 rfl (lv_at hl 1 rfl) ?_
    refine f_get X hw hMo fc7 1 (by decide) wq795 rfl (v := .int (nI (tHn U))) rfl dX6_counted_56 ?_
    exact f_iret X hw ⟨rfl, rfl, by rw [k_2]; rfl⟩ (Nat.le_refl _) (Nat.le_refl _) dX6_counted_59
  by_cases k_3 : w = 2
  · refine lv_tableIn (off := 57) (tgt := 60) hx hb dX6_counted_3 (by rw [k_3]; decide) (by rw [k_3]; decide) (by rw [k_3]; rfl) (by decide) ?_
    refine lv_aload_n hx hb dX6_counted_60 rfl (lv_at hl 1 rfl) ?_
    refine lv_iload_n hx hb dX6_counted_61 rfl (lv_at hl 2 rfl) ?_
    refine lv_iconst (v := 1) hx hb dX6_counted_62 (by decide) ?_
    refine lv_isub hx hb dX6_counted_63 ?_
    refine f_top (y := 1) (by rw [k_3]; decide) ?_
    refine fk_di (fcV X hw (c_m_with l g ad M hM 1) hMo rfl wq894 kVX6_with ⟨(Nat.le_of_ble_eq_true rfl), (Nat.le_of_ble_eq_true rfl)⟩ rfl hl.1 rfl (Nat.le_of_ble_eq_true rfl) dX6_counted_64 ⟨Nat.le_refl _, Nat.le_refl _⟩) hw (fun H locs hw => ?_)
    exact f_iret X hw ⟨rfl, rfl, by rw [k_3]; rfl⟩ (Nat.le_refl _) (Nat.le_refl _) dX6_counted_67
  by_cases k_4 : w = 3
  · refine lv_tableIn (off := 57) (tgt := 60) hx hb dX6_counted_3 (by rw [k_4]; decide) (by rw [k_4]; decide) (by rw [k_4]; rfl) (by decide) ?_
    refine lv_aload_n hx hb dX6_counted_60 rfl (lv_at hl 1 rfl) ?_
    refine lv_iload_n hx hb dX6_counted_61 rfl (lv_at hl 2 rfl) ?_
    refine lv_iconst (v := 1) hx hb dX6_counted_62 (by decide) ?_
    refine lv_isub hx hb dX6_counted_63 ?_
    refine f_top (y := 2) (by rw [k_4]; decide) ?_
    refine fk_di (fcV X hw (c_m_with l g ad M hM 2) hMo rfl wq894 kVX6_with ⟨(Nat.le_of_ble_eq_true rfl), (Nat.le_of_ble_eq_true rfl)⟩ rfl hl.1 rfl (Nat.le_of_ble_eq_true rfl) dX6_counted_64 ⟨Nat.le_refl _, Nat.le_refl _⟩) hw (fun H locs hw => ?_)
    exact f_iret X hw ⟨rfl, rfl, by rw [k_4]; rfl⟩ (Nat.le_refl _) (Nat.le_refl _) dX6_counted_67
  by_cases k_5 : w = 4
  · refine lv_tableIn (off := 57) (tgt := 60) hx hb dX6_counted_3 (by rw [k_5]; decide) (by rw [k_5]; decide) (by rw [k_5]; rfl) (by decide) ?_
    refine lv_aload_n hx hb dX6_counted_60 rfl (lv_at hl 1 rfl) ?_
    refine lv_iload_n hx hb dX6_counted_61 rfl (lv_at hl 2 rfl) ?_
    refine lv_iconst (v := 1) hx hb dX6_counted_62 (by decide) ?_
    refine lv_isub hx hb dX6_counted_63 ?_
    refine f_top (y := 3) (by rw [k_5]; decide) ?_
    refine fk_di (fcV X hw (c_m_with l g ad M hM 3) hMo rfl wq894 kVX6_with ⟨(Nat.le_of_ble_eq_true rfl), (Nat.le_of_ble_eq_true rfl)⟩ rfl hl.1 rfl (Nat.le_of_ble_eq_true rfl) dX6_counted_64 ⟨Nat.le_refl _, Nat.le_refl _⟩) hw (fun H locs hw => ?_)
    exact f_iret X hw ⟨rfl, rfl, by rw [k_5]; rfl⟩ (Nat.le_refl _) (Nat.le_refl _) dX6_counted_67
  by_cases k_6 : w = 5
  · refine lv_tableIn (off := 65) (tgt := 68) hx hb dX6_counted_3 (by rw [k_6]; decide) (by rw [k_6]; decide) (by rw [k_6]; rfl) (by decide) ?_
    refine lv_aload_n hx hb dX6_counted_68 rfl (lv_at hl 1 rfl) ?_
    refine f_get X hw hMo fc7 2 (by decide) wq796 rfl (v := .int (nI (tPn U))) rfl dX6_counted_69 ?_
    exact f_iret X hw ⟨rfl, rfl, by rw [k_6]; rfl⟩ (Nat.le_refl _) (Nat.le_refl _) dX6_counted_72
  by_cases k_7 : w = 6
  · refine lv_tableIn (off := 70) (tgt := 73) hx hb dX6_counted_3 (by rw [k_7]; decide) (by rw [k_7]; decide) (by rw [k_7]; rfl) (by decide) ?_
    refine lv_aload_n hx hb dX6_counted_73 rfl (lv_at hl 1 rfl) ?_
    refine f_get X hw hMo fc7 3 (by decide) wq797 rfl (v := .int (nI (tEn U))) rfl dX6_counted_74 ?_
    exact f_iret X hw ⟨rfl, rfl, by rw [k_7]; rfl⟩ (Nat.le_refl _) (Nat.le_refl _) dX6_counted_77
  by_cases k_8 : w = 7
  · refine lv_tableIn (off := 75) (tgt := 78) hx hb dX6_counted_3 (by rw [k_8]; decide) (by rw [k_8]; decide) (by rw [k_8]; rfl) (by decide) ?_
    refine lv_iconst (v := 0) hx hb dX6_counted_78 (by decide) ?_
    refine lv_istore_n (lv' := [(3, .int 0), (2, .int 0), (0, .ref (ad 5)), (1, .int w)]) hx hb dX6_counted_79 rfl hl (by decide) rfl (fun ls hl => ?_)
    have loop80 : ∀ (n80 k : Nat), k ≤ tPn U → tPn U < k + n80 → ∀ (ls : Array Slot) (H : Heap) (locs : List Loc), fw g ad M s H locs → lv_has ls 4 [(2, .int (sumP (tP U) k)), (3, .int (nI k)), (0, .ref (ad 5)), (1, .int w)] → W p l e (fR 2 48 0 0) s m args below meth c H locs 0 0 (MQ below (fQi g (fDi ad M (tTell U w))) args s 0 0 (fA g)) (F0 m 80 ls []) := by
      intro n80
      induction n80 with
      | zero => intro k h1 h2; omega
      | succ n80 ih80 =>
        intro k hk_k hn_k ls H locs hw hl
        refine lv_iload_n hx hb dX6_counted_80 rfl (lv_at hl 1 rfl) ?_
        refine lv_aload_n hx hb dX6_counted_81 rfl (lv_at hl 2 rfl) ?_
        refine f_get X hw hMo fc7 2 (by decide) wq796 rfl (v := .int (nI (tPn U))) rfl dX6_counted_82 ?_
        refine lv_icmp_ge (tgt := 103) hx hb dX6_counted_85 (by decide) (fun c_9 => ?_) (fun c_9 => ?_)
        · have c_9 := nI_le' (a := (tPn U)) (b := k) c_9 (by omega) (by omega)
          refine lv_iload_n hx hb dX6_counted_103 rfl (lv_at hl 0 rfl) ?_
          exact f_iret X hw ⟨rfl, rfl, by rw [show k = tPn U by omega, k_8]; rfl⟩ (Nat.le_refl _) (Nat.le_refl _) dX6_counted_104
        · have c_9 := nI_nle' (a := (tPn U)) (b := k) c_9 (by omega) (by omega)
          refine lv_iload_n hx hb dX6_counted_88 rfl (lv_at hl 0 rfl) ?_
          refine lv_aload_n hx hb dX6_counted_89 rfl (lv_at hl 2 rfl) ?_
          refine f_get X hw hMo fc7 5 (by decide) wq799 rfl (v := .ref (ad 7)) rfl dX6_counted_90 ?_
          refine lv_iload_n hx hb dX6_counted_93 rfl (lv_at hl 1 rfl) ?_
          refine f_iald X hw hm7 (vp_in_nI (n := k) (by omega) (by omega)) dX6_counted_94 ?_
          rw [nI_clamp (n := k) (by omega)]
          refine f_top (y := tP U k 1) (rP k (by omega)).2 ?_
          refine lv_iadd hx hb dX6_counted_95 ?_
          refine lv_istore_n (lv' := [(2, .int ((sumP (tP U) k) + (tP U k 1))), (3, .int (nI k)), (0, .ref (ad 5)), (1, .int w)]) hx hb dX6_counted_96 rfl hl (by decide) rfl (fun ls hl => ?_)
          refine lv_iinc (v := nI (k + 1)) (lv' := [(3, .int (nI (k + 1))), (2, .int ((sumP (tP U) k) + (tP U k 1))), (0, .ref (ad 5)), (1, .int w)]) hx hb dX6_counted_97 hl (k := 1) rfl (nI_1 k) (by decide) rfl (fun ls hl => ?_)
          refine lv_goto (tgt := 80) hx hb dX6_counted_100 (by decide) ?_
          exact ih80 (k + 1) (by omega) (by omega) ls _ _ hw (lv_sub hl [1, 0, 2, 3] rfl)
    exact loop80 (tPn U + 1) 0 (by omega) (by omega) ls _ _ hw (lv_sub hl [1, 0, 2, 3] rfl)
  refine lv_tableOut (tgt := 105) hx hb dX6_counted_3 (f_tout (lo := 0) (hi := 7) (by intro k a b; rcases (show k = 0 ∨ k = 1 ∨ k = 2 ∨ k = 3 ∨ k = 4 ∨ k = 5 ∨ k = 6 ∨ k = 7 by omega) with rfl | rfl | rfl | rfl | rfl | rfl | rfl | rfl <;> assumption)) (by decide) ?_
  refine lv_iconst (v := 0) hx hb dX6_counted_105 (by decide) ?_
  refine lv_istore_n (lv' := [(3, .int 0), (2, .int 0), (0, .ref (ad 5)), (1, .int w)]) hx hb dX6_counted_106 rfl hl (by decide) rfl (fun ls hl => ?_)
  have loop107 : ∀ (n107 k : Nat), k ≤ tHn U → tHn U < k + n107 → ∀ (ls : Array Slot) (H : Heap) (locs : List Loc), fw g ad M s H locs → lv_has ls 4 [(2, .int (sumH (tH U) (if w = 8 then 4 else 6) k)), (3, .int (nI k)), (0, .ref (ad 5)), (1, .int w)] → W p l e (fR 2 48 0 0) s m args below meth c H locs 0 0 (MQ below (fQi g (fDi ad M (tTell U w))) args s 0 0 (fA g)) (F0 m 107 ls []) := by
    intro n107
    induction n107 with
    | zero => intro k h1 h2; omega
    | succ n107 ih107 =>
      intro k hk_k hn_k ls H locs hw hl
      refine lv_iload_n hx hb dX6_counted_107 rfl (lv_at hl 1 rfl) ?_
      refine lv_aload_n hx hb dX6_counted_108 rfl (lv_at hl 2 rfl) ?_
      refine f_get X hw hMo fc7 1 (by decide) wq795 rfl (v := .int (nI (tHn U))) rfl dX6_counted_109 ?_
      refine lv_icmp_ge (tgt := 141) hx hb dX6_counted_112 (by decide) (fun c_10 => ?_) (fun c_10 => ?_)
      · have c_10 := nI_le' (a := (tHn U)) (b := k) c_10 (by omega) (by omega)
        refine lv_iload_n hx hb dX6_counted_141 rfl (lv_at hl 0 rfl) ?_
        exact f_iret X hw ⟨rfl, rfl, by rw [show k = tHn U by omega]; unfold tTell; rw [if_neg k_1, if_neg k_2, if_neg k_3, if_neg k_4, if_neg k_5, if_neg k_6, if_neg k_7, if_neg k_8]; by_cases h8 : w = 8 <;> simp [h8]⟩ (Nat.le_refl _) (Nat.le_refl _) dX6_counted_142
      · have c_10 := nI_nle' (a := (tHn U)) (b := k) c_10 (by omega) (by omega)
        refine lv_iload_n hx hb dX6_counted_115 rfl (lv_at hl 0 rfl) ?_
        refine lv_aload_n hx hb dX6_counted_116 rfl (lv_at hl 2 rfl) ?_
        refine lv_iload_n hx hb dX6_counted_117 rfl (lv_at hl 1 rfl) ?_
        refine lv_iload_n hx hb dX6_counted_118 rfl (lv_at hl 3 rfl) ?_
        refine lv_bipush (v := 8) hx hb dX6_counted_119 (by decide) ?_
        refine lv_icmp_ne (tgt := 128) hx hb dX6_counted_121 (by decide) (fun c_11 => ?_) (fun c_11 => ?_)
        · refine lv_bipush (v := 6) hx hb dX6_counted_128 (by decide) ?_
          refine fk_di (fcV X hw (c_ho l g ad M hM (h0 := k) (k := 6) (by omega) rfl (by omega)) hMo rfl wq865 kVX6_ho ⟨(Nat.le_of_ble_eq_true rfl), (Nat.le_of_ble_eq_true rfl)⟩ rfl hl.1 rfl (Nat.le_of_ble_eq_true rfl) dX6_counted_130 ⟨Nat.le_refl _, Nat.le_refl _⟩) hw (fun H locs hw => ?_)
          refine lv_iadd hx hb dX6_counted_133 ?_
          refine lv_istore_n (lv' := [(2, .int ((sumH (tH U) (if w = 8 then 4 else 6) k) + (tH U k 6))), (3, .int (nI k)), (0, .ref (ad 5)), (1, .int w)]) hx hb dX6_counted_134 rfl hl (by decide) rfl (fun ls hl => ?_)
          refine lv_iinc (v := nI (k + 1)) (lv' := [(3, .int (nI (k + 1))), (2, .int ((sumH (tH U) (if w = 8 then 4 else 6) k) + (tH U k 6))), (0, .ref (ad 5)), (1, .int w)]) hx hb dX6_counted_135 hl (k := 1) rfl (nI_1 k) (by decide) rfl (fun ls hl => ?_)
          refine lv_goto (tgt := 107) hx hb dX6_counted_138 (by decide) ?_
          exact ih107 (k + 1) (by omega) (by omega) ls _ _ hw (by rw [show (sumH (tH U) (if w = 8 then 4 else 6) (k + 1)) = ((sumH (tH U) (if w = 8 then 4 else 6) k) + (tH U k 6)) from (by simp [sumH, hTell, c_11])]; exact lv_sub hl [1, 0, 2, 3] rfl)
        · refine lv_iconst (v := 4) hx hb dX6_counted_124 (by decide) ?_
          refine lv_goto (tgt := 130) hx hb dX6_counted_125 (by decide) ?_
          refine fk_di (fcV X hw (c_ho l g ad M hM (h0 := k) (k := 4) (by omega) rfl (by omega)) hMo rfl wq865 kVX6_ho ⟨(Nat.le_of_ble_eq_true rfl), (Nat.le_of_ble_eq_true rfl)⟩ rfl hl.1 rfl (Nat.le_of_ble_eq_true rfl) dX6_counted_130 ⟨Nat.le_refl _, Nat.le_refl _⟩) hw (fun H locs hw => ?_)
          refine lv_iadd hx hb dX6_counted_133 ?_
          refine lv_istore_n (lv' := [(2, .int ((sumH (tH U) (if w = 8 then 4 else 6) k) + (tH U k 4))), (3, .int (nI k)), (0, .ref (ad 5)), (1, .int w)]) hx hb dX6_counted_134 rfl hl (by decide) rfl (fun ls hl => ?_)
          refine lv_iinc (v := nI (k + 1)) (lv' := [(3, .int (nI (k + 1))), (2, .int ((sumH (tH U) (if w = 8 then 4 else 6) k) + (tH U k 4))), (0, .ref (ad 5)), (1, .int w)]) hx hb dX6_counted_135 hl (k := 1) rfl (nI_1 k) (by decide) rfl (fun ls hl => ?_)
          refine lv_goto (tgt := 107) hx hb dX6_counted_138 (by decide) ?_
          exact ih107 (k + 1) (by omega) (by omega) ls _ _ hw (by rw [show (sumH (tH U) (if w = 8 then 4 else 6) (k + 1)) = ((sumH (tH U) (if w = 8 then 4 else 6) k) + (tH U k 4)) from (by simp [sumH, hTell, c_11])]; exact lv_sub hl [1, 0, 2, 3] rfl)
  exact loop107 (tHn U + 1) 0 (by omega) (by omega) ls _ _ hw (lv_sub hl [1, 0, 2, 3] rfl)
set_option maxHeartbeats 4000000 in
set_option maxRecDepth 100000 in
theorem c_m_leads (l : Launch) (g : fG) (ad : Nat → Nat) (M : fM) {th : Int32} {U : fTn} {sp ca : Nat → Int32} (hM : isMo g ad M th U sp ca) {rk : Nat → Nat} (hR : okH U rk) {from0 to : Nat} (hf : from0 < tEn U) (ht9 : to < tEn U) : fCi l g yX6_leads cX6_leads 4 ((some .boolean)) 1 22 0 0 ad M [.ref (ad 5), .int (nI from0), .int (nI to)] (fDi ad M (bI (leadsN U (nI to) 7 (nI from0)))) := by
  refine f_body (own := RX6) (by decide +kernel) rfl (Nat.le_of_ble_eq_true rfl) ?_
  intro p e s m args below meth c ls X hw hin hl
  have hx := X.1
  have hb := X.2.1
  have hl : lv_has ls 4 [(0, .ref (ad 5)), (1, .int (nI from0)), (2, .int (nI to))] := hl
  obtain ⟨pcs, wa, ht, et, mi, co, as, hMo, ⟨hm6, hm7, hm8, hm9, hm10, hm11, hm12, hm13, hm14⟩, hRel, hCnt⟩ := id hM
  obtain ⟨hn1, hn2, hn3⟩ := id hCnt
  have hn1 : tHn U ≤ 30 := hn1
  have hn2 : tPn U ≤ 6 := hn2
  have hn3 : tEn U ≤ 6 := hn3
  have hMo : M 5 = some (.inr (7, [.int th, .int (nI (tHn U)), .int (nI (tPn U)), .int (nI (tEn U)), .ref (ad 6), .ref (ad 7), .ref (ad 8), .ref (ad 9), .ref (ad 10), .ref (ad 11), .ref (ad 12), .ref (ad 13), .ref (ad 14)])) := hMo
  obtain ⟨rH, rP, rE, rM⟩ := id hRel
  refine lv_iload_n hx hb dX6_leads_0 rfl (lv_at hl 1 rfl) ?_
  refine lv_istore_n (lv' := [(3, .int (nI from0)), (0, .ref (ad 5)), (1, .int (nI from0)), (2, .int (nI to))]) hx hb dX6_leads_1 rfl hl (by decide) rfl (fun ls hl => ?_)
  have loop2 : ∀ (n k : Nat), k < tEn U → rk k < n → leadsN U (nI to) n (nI k) = leadsN U (nI to) 7 (nI from0) → ∀ (ls : Array Slot) (H : Heap) (locs : List Loc), fw g ad M s H locs → lv_has ls 4 [(3, .int (nI k)), (0, .ref (ad 5)), (2, .int (nI to))] → W p l e (fR 1 22 0 0) s m args below meth c H locs 0 0 (MQ below (fQi g (fDi ad M (bI (leadsN U (nI to) 7 (nI from0))))) args s 0 0 (fA g)) (F0 m 2 ls []) := by
    intro n
    induction n with
    | zero => intro k h1 h2; omega
    | succ n ih =>
      intro k hk2 hr hg ls H locs hw hl
      obtain ⟨hr6, hx9⟩ := hR k hk2
      refine lv_iload_n hx hb dX6_leads_2 rfl (lv_at hl 0 rfl) ?_
      refine lv_iload_n hx hb dX6_leads_3 rfl (lv_at hl 2 rfl) ?_
      refine lv_icmp_eq (tgt := 33) hx hb dX6_leads_4 (by decide) (fun c_1 => ?_) (fun c_1 => ?_)
      · have c_1 := nI_eq' (a := k) (b := to) c_1 (by omega) (by omega)
        refine lv_iload_n hx hb dX6_leads_33 rfl (lv_at hl 0 rfl) ?_
        refine lv_iload_n hx hb dX6_leads_34 rfl (lv_at hl 2 rfl) ?_
        refine lv_icmp_ne (tgt := 42) hx hb dX6_leads_35 (by decide) (fun c_2 => absurd (congrArg nI c_1) c_2) (fun c_2 => ?_)
        have c_2 := nI_eq' (a := k) (b := to) c_2 (by omega) (by omega)
        refine lv_iconst (v := 1) hx hb dX6_leads_38 (by decide) ?_
        refine lv_goto (tgt := 43) hx hb dX6_leads_39 (by decide) ?_
        exact f_zret X hw rfl ⟨rfl, rfl, by rw [← hg]; show _ = bI (isIx (tEn U) (nI k) && (decide (nI k = nI to) || _)); rw [isIx_nI hk2 (by omega), c_2, decide_eq_true rfl]; rfl⟩ (Nat.le_refl _) (Nat.le_refl _) dX6_leads_43
      · have c_1 := nI_neq' (a := k) (b := to) c_1 (by omega) (by omega)
        refine lv_aload_n hx hb dX6_leads_7 rfl (lv_at hl 1 rfl) ?_
        refine lv_iload_n hx hb dX6_leads_8 rfl (lv_at hl 0 rfl) ?_
        refine lv_bipush (v := 7) hx hb dX6_leads_9 (by decide) ?_
        refine fk_di (fcV X hw (c_en l g ad M hM (e0 := k) (k := 7) hk2 rfl (by omega)) hMo rfl wq873 kVX6_en ⟨(Nat.le_of_ble_eq_true rfl), (Nat.le_of_ble_eq_true rfl)⟩ rfl hl.1 rfl (Nat.le_of_ble_eq_true rfl) dX6_leads_11 ⟨Nat.le_refl _, Nat.le_refl _⟩) hw (fun H locs hw => ?_)
        refine lv_iconst (v := 0) hx hb dX6_leads_14 (by decide) ?_
        refine lv_iconst (v := 5) hx hb dX6_leads_15 (by decide) ?_
        refine fk_di (fcS X hw (c_isIn l g ad M (tE U k 7) 0 5) wq846 kSX6_isIn ⟨(Nat.le_of_ble_eq_true rfl), (Nat.le_of_ble_eq_true rfl)⟩ rfl hl.1 rfl (Nat.le_of_ble_eq_true rfl) dX6_leads_16 ⟨Nat.le_refl _, Nat.le_refl _⟩) hw (fun H locs hw => ?_)
        refine lv_if_eq (tgt := 33) hx hb dX6_leads_19 (by decide) (fun c_3 => ?_) (fun c_3 => ?_)
        · have c_3 := bI_f.mp c_3
          refine lv_iload_n hx hb dX6_leads_33 rfl (lv_at hl 0 rfl) ?_
          refine lv_iload_n hx hb dX6_leads_34 rfl (lv_at hl 2 rfl) ?_
          refine lv_icmp_ne (tgt := 42) hx hb dX6_leads_35 (by decide) (fun c_4 => ?_) (fun c_4 => absurd (nI_eq' c_4 (by omega) (by omega)) c_1)
          have c_4 := nI_neq' (a := k) (b := to) c_4 (by omega) (by omega)
          refine lv_iconst (v := 0) hx hb dX6_leads_42 (by decide) ?_
          exact f_zret X hw rfl ⟨rfl, rfl, by rw [← hg]; show _ = bI (isIx (tEn U) (nI k) && (decide (nI k = nI to) || leadsN U (nI to) n (tE U (nI k).toNatClampNeg 7))); rw [nI_clamp (n := k) (by omega), leadsN_no (inR_no c_3 (by omega)), decide_eq_false (fun z => c_1 (nI_eq' z (by omega) (by omega))), Bool.or_false, Bool.and_false]; rfl⟩ (Nat.le_refl _) (Nat.le_refl _) dX6_leads_43
        · have c_3 := bI_nf.mp c_3
          refine lv_aload_n hx hb dX6_leads_22 rfl (lv_at hl 1 rfl) ?_
          refine lv_iload_n hx hb dX6_leads_23 rfl (lv_at hl 0 rfl) ?_
          refine lv_bipush (v := 7) hx hb dX6_leads_24 (by decide) ?_
          refine fk_di (fcV X hw (c_en l g ad M hM (e0 := k) (k := 7) hk2 rfl (by omega)) hMo rfl wq873 kVX6_en ⟨(Nat.le_of_ble_eq_true rfl), (Nat.le_of_ble_eq_true rfl)⟩ rfl hl.1 rfl (Nat.le_of_ble_eq_true rfl) dX6_leads_26 ⟨Nat.le_refl _, Nat.le_refl _⟩) hw (fun H locs hw => ?_)
          refine lv_istore_n (lv' := [(3, .int (tE U k 7)), (0, .ref (ad 5)), (2, .int (nI to))]) hx hb dX6_leads_29 rfl hl (by decide) rfl (fun ls hl => ?_)
          refine lv_goto (tgt := 2) hx hb dX6_leads_30 (by decide) ?_
          obtain ⟨i, hi, ei, ri⟩ := hx9 c_3
          rw [ei] at hl
          have hg2 : leadsN U (nI to) n (nI i) = leadsN U (nI to) 7 (nI from0) := by rw [← hg]; show _ = (isIx (tEn U) (nI k) && (decide (nI k = nI to) || leadsN U (nI to) n (tE U (nI k).toNatClampNeg 7))); rw [nI_clamp (n := k) (by omega), ei, isIx_nI hk2 (by omega), decide_eq_false (fun z => c_1 (nI_eq' z (by omega) (by omega)))]; rfl
          exact ih i hi (by omega) hg2 ls _ _ hw (lv_sub hl [0, 1, 2] rfl)
  exact loop2 7 from0 hf (by have := (hR from0 hf).1; omega) rfl ls _ _ hw (lv_sub hl [0, 1, 3] rfl)
set_option maxHeartbeats 4000000 in
set_option maxRecDepth 100000 in
theorem c_m_next (l : Launch) (g : fG) (ad : Nat → Nat) (M : fM) {th : Int32} {U : fTn} {sp ca : Nat → Int32} (hM : isMo g ad M th U sp ca) : fCi l g yX6_next cX6_next 4 ((some .int)) 1 22 0 0 ad M [.ref (ad 5)] (fDi ad M (nextE U)) := by
  refine f_body (own := RX6) (by decide +kernel) rfl (Nat.le_of_ble_eq_true rfl) ?_
  intro p e s m args below meth c ls X hw hin hl
  have hx := X.1
  have hb := X.2.1
  have hl : lv_has ls 4 [(0, .ref (ad 5))] := hl
  obtain ⟨pcs, wa, ht, et, mi, co, as, hMo, ⟨hm6, hm7, hm8, hm9, hm10, hm11, hm12, hm13, hm14⟩, hRel, hCnt⟩ := id hM
  obtain ⟨hn1, hn2, hn3⟩ := id hCnt
  have hn1 : tHn U ≤ 30 := hn1
  have hn2 : tPn U ≤ 6 := hn2
  have hn3 : tEn U ≤ 6 := hn3
  have hMo : M 5 = some (.inr (7, [.int th, .int (nI (tHn U)), .int (nI (tPn U)), .int (nI (tEn U)), .ref (ad 6), .ref (ad 7), .ref (ad 8), .ref (ad 9), .ref (ad 10), .ref (ad 11), .ref (ad 12), .ref (ad 13), .ref (ad 14)])) := hMo
  obtain ⟨rH, rP, rE, rM⟩ := id hRel
  refine lv_iconst (v := 0) hx hb dX6_next_0 (by decide) ?_
  refine lv_istore_n (lv' := [(1, .int 0), (0, .ref (ad 5))]) hx hb dX6_next_1 rfl hl (by decide) rfl (fun ls hl => ?_)
  have loop2 : ∀ (n2 k : Nat), k ≤ tEn U → tEn U < k + n2 → ∀ (hg : ∀ j, j < k → (fun i => decide (tE U i 10 = 0) && !(waits (tE U) (nI i) (tEn U))) j = false) (ls : Array Slot) (H : Heap) (locs : List Loc), fw g ad M s H locs → lv_has ls 4 [(1, .int (nI k)), (0, .ref (ad 5))] → W p l e (fR 1 22 0 0) s m args below meth c H locs 0 0 (MQ below (fQi g (fDi ad M (nextE U))) args s 0 0 (fA g)) (F0 m 2 ls []) := by
    intro n2
    induction n2 with
    | zero => intro k h1 h2; omega
    | succ n2 ih2 =>
      intro k hk_k hn_k hg ls H locs hw hl
      refine lv_iload_n hx hb dX6_next_2 rfl (lv_at hl 0 rfl) ?_
      refine lv_aload_n hx hb dX6_next_3 rfl (lv_at hl 1 rfl) ?_
      refine f_get X hw hMo fc7 3 (by decide) wq797 rfl (v := .int (nI (tEn U))) rfl dX6_next_4 ?_
      refine lv_icmp_ge (tgt := 83) hx hb dX6_next_7 (by decide) (fun c_1 => ?_) (fun c_1 => ?_)
      · have c_1 := nI_le' (a := (tEn U)) (b := k) c_1 (by omega) (by omega)
        refine lv_iconst (v := (-1)) hx hb dX6_next_83 (by decide) ?_
        exact f_iret X hw ⟨rfl, rfl, jFirst_none (fun j hj => hg j (by omega))⟩ (Nat.le_refl _) (Nat.le_refl _) dX6_next_84
      · have c_1 := nI_nle' (a := (tEn U)) (b := k) c_1 (by omega) (by omega)
        refine lv_aload_n hx hb dX6_next_10 rfl (lv_at hl 1 rfl) ?_
        refine f_get X hw hMo fc7 10 (by decide) wq804 rfl (v := .ref (ad 12)) rfl dX6_next_11 ?_
        refine lv_iload_n hx hb dX6_next_14 rfl (lv_at hl 0 rfl) ?_
        refine f_zald X hw hm12 (vp_in_nI (n := k) (by omega) (by omega)) dX6_next_15 ?_
        rw [nI_clamp (n := k) (by omega)]
        refine f_top (y := tE U k 10) (rE k (by omega)).2.2.2.1 ?_
        refine lv_if_ne (tgt := 23) hx hb dX6_next_16 (by decide) (fun c_2 => ?_) (fun c_2 => ?_)
        · refine lv_iconst (v := 0) hx hb dX6_next_23 (by decide) ?_
          refine lv_istore_n (lv' := [(2, .int 0), (1, .int (nI k)), (0, .ref (ad 5))]) hx hb dX6_next_24 rfl hl (by decide) rfl (fun ls hl => ?_)
          refine lv_iconst (v := 0) hx hb dX6_next_25 (by decide) ?_
          refine lv_istore_n (lv' := [(3, .int 0), (2, .int 0), (1, .int (nI k)), (0, .ref (ad 5))]) hx hb dX6_next_26 rfl hl (by decide) rfl (fun ls hl => ?_)
          have loop27 : ∀ (n27 ko : Nat), ko ≤ tEn U → tEn U < ko + n27 → ∀ (ls : Array Slot) (H : Heap) (locs : List Loc), fw g ad M s H locs → lv_has ls 4 [(2, .int (bI (isF U k ko))), (3, .int (nI ko)), (0, .ref (ad 5)), (1, .int (nI k))] → W p l e (fR 1 22 0 0) s m args below meth c H locs 0 0 (MQ below (fQi g (fDi ad M (nextE U))) args s 0 0 (fA g)) (F0 m 27 ls []) := by
            intro n27
            induction n27 with
            | zero => intro ko h1 h2; omega
            | succ n27 ih27 =>
              intro ko hk_ko hn_ko ls H locs hw hl
              refine lv_iload_n hx hb dX6_next_27 rfl (lv_at hl 1 rfl) ?_
              refine lv_aload_n hx hb dX6_next_28 rfl (lv_at hl 2 rfl) ?_
              refine f_get X hw hMo fc7 3 (by decide) wq797 rfl (v := .int (nI (tEn U))) rfl dX6_next_29 ?_
              refine lv_icmp_ge (tgt := 71) hx hb dX6_next_32 (by decide) (fun c_3 => ?_) (fun c_3 => ?_)
              · have c_3 := nI_le' (a := (tEn U)) (b := ko) c_3 (by omega) (by omega)
                refine lv_iload_n hx hb dX6_next_71 rfl (lv_at hl 0 rfl) ?_
                refine lv_if_eq (tgt := 77) hx hb dX6_next_72 (by decide) (fun c_4 => ?_) (fun c_4 => ?_)
                · have c_4 := bI_f.mp c_4
                  refine lv_iinc (v := nI (k + 1)) (lv' := [(1, .int (nI (k + 1))), (2, .int (bI (isF U k ko))), (3, .int (nI ko)), (0, .ref (ad 5))]) hx hb dX6_next_77 hl (k := 3) rfl (nI_1 k) (by decide) rfl (fun ls hl => ?_)
                  refine lv_goto (tgt := 2) hx hb dX6_next_80 (by decide) ?_
                  exact ih2 (k + 1) (by omega) (by omega) (f_lts hg (by rw [show ko = tEn U by omega] at c_4; exact c_4)) ls _ _ hw (lv_sub hl [0, 3] rfl)
                · have c_4 := bI_nf.mp c_4
                  refine lv_iload_n hx hb dX6_next_75 rfl (lv_at hl 3 rfl) ?_
                  exact f_iret X hw ⟨rfl, rfl, jFirst_at (show k < tEn U by omega) (by rw [show ko = tEn U by omega] at c_4; exact c_4) hg⟩ (Nat.le_refl _) (Nat.le_refl _) dX6_next_76
              · have c_3 := nI_nle' (a := (tEn U)) (b := ko) c_3 (by omega) (by omega)
                refine lv_iload_n hx hb dX6_next_35 rfl (lv_at hl 0 rfl) ?_
                refine lv_if_eq (tgt := 63) hx hb dX6_next_36 (by decide) (fun c_5 => ?_) (fun c_5 => ?_)
                · have c_5 := bI_f.mp c_5
                  refine lv_iconst (v := 0) hx hb dX6_next_63 (by decide) ?_
                  refine lv_istore_n (lv' := [(2, .int 0), (3, .int (nI ko)), (0, .ref (ad 5)), (1, .int (nI k))]) hx hb dX6_next_64 rfl hl (by decide) rfl (fun ls hl => ?_)
                  refine lv_iinc (v := nI (ko + 1)) (lv' := [(3, .int (nI (ko + 1))), (2, .int 0), (0, .ref (ad 5)), (1, .int (nI k))]) hx hb dX6_next_65 hl (k := 1) rfl (nI_1 ko) (by decide) rfl (fun ls hl => ?_)
                  refine lv_goto (tgt := 27) hx hb dX6_next_68 (by decide) ?_
                  exact ih27 (ko + 1) (by omega) (by omega) ls _ _ hw (by rw [show (bI (isF U k (ko + 1))) = 0 from (by simp [isF_step, bI, c_1, c_2, c_3, c_5])]; exact lv_sub hl [1, 0, 2, 3] rfl)
                · have c_5 := bI_nf.mp c_5
                  refine lv_aload_n hx hb dX6_next_39 rfl (lv_at hl 2 rfl) ?_
                  refine f_get X hw hMo fc7 10 (by decide) wq804 rfl (v := .ref (ad 12)) rfl dX6_next_40 ?_
                  refine lv_iload_n hx hb dX6_next_43 rfl (lv_at hl 1 rfl) ?_
                  refine f_zald X hw hm12 (vp_in_nI (n := ko) (by omega) (by omega)) dX6_next_44 ?_
                  rw [nI_clamp (n := ko) (by omega)]
                  refine f_top (y := tE U ko 10) (rE ko (by omega)).2.2.2.1 ?_
                  refine lv_if_ne (tgt := 59) hx hb dX6_next_45 (by decide) (fun c_6 => ?_) (fun c_6 => ?_)
                  · refine lv_iconst (v := 1) hx hb dX6_next_59 (by decide) ?_
                    refine lv_goto (tgt := 64) hx hb dX6_next_60 (by decide) ?_
                    refine lv_istore_n (lv' := [(2, .int 1), (3, .int (nI ko)), (0, .ref (ad 5)), (1, .int (nI k))]) hx hb dX6_next_64 rfl hl (by decide) rfl (fun ls hl => ?_)
                    refine lv_iinc (v := nI (ko + 1)) (lv' := [(3, .int (nI (ko + 1))), (2, .int 1), (0, .ref (ad 5)), (1, .int (nI k))]) hx hb dX6_next_65 hl (k := 1) rfl (nI_1 ko) (by decide) rfl (fun ls hl => ?_)
                    refine lv_goto (tgt := 27) hx hb dX6_next_68 (by decide) ?_
                    exact ih27 (ko + 1) (by omega) (by omega) ls _ _ hw (by rw [show (bI (isF U k (ko + 1))) = 1 from (by simp [isF_step, bI, c_1, c_2, c_3, c_5, c_6])]; exact lv_sub hl [1, 0, 2, 3] rfl)
                  · refine lv_aload_n hx hb dX6_next_48 rfl (lv_at hl 2 rfl) ?_
                    refine lv_iload_n hx hb dX6_next_49 rfl (lv_at hl 1 rfl) ?_
                    refine lv_bipush (v := 7) hx hb dX6_next_50 (by decide) ?_
                    refine fk_di (fcV X hw (c_en l g ad M hM (e0 := ko) (k := 7) (by omega) rfl (by omega)) hMo rfl wq873 kVX6_en ⟨(Nat.le_of_ble_eq_true rfl), (Nat.le_of_ble_eq_true rfl)⟩ rfl hl.1 rfl (Nat.le_of_ble_eq_true rfl) dX6_next_52 ⟨Nat.le_refl _, Nat.le_refl _⟩) hw (fun H locs hw => ?_)
                    refine lv_iload_n hx hb dX6_next_55 rfl (lv_at hl 3 rfl) ?_
                    refine lv_icmp_eq (tgt := 63) hx hb dX6_next_56 (by decide) (fun c_7 => ?_) (fun c_7 => ?_)
                    · refine lv_iconst (v := 0) hx hb dX6_next_63 (by decide) ?_
                      refine lv_istore_n (lv' := [(2, .int 0), (3, .int (nI ko)), (0, .ref (ad 5)), (1, .int (nI k))]) hx hb dX6_next_64 rfl hl (by decide) rfl (fun ls hl => ?_)
                      refine lv_iinc (v := nI (ko + 1)) (lv' := [(3, .int (nI (ko + 1))), (2, .int 0), (0, .ref (ad 5)), (1, .int (nI k))]) hx hb dX6_next_65 hl (k := 1) rfl (nI_1 ko) (by decide) rfl (fun ls hl => ?_)
                      refine lv_goto (tgt := 27) hx hb dX6_next_68 (by decide) ?_
                      exact ih27 (ko + 1) (by omega) (by omega) ls _ _ hw (by rw [show (bI (isF U k (ko + 1))) = 0 from (by simp [isF_step, bI, c_1, c_2, c_3, c_5, c_6, c_7])]; exact lv_sub hl [1, 0, 2, 3] rfl)
                    · refine lv_iconst (v := 1) hx hb dX6_next_59 (by decide) ?_
                      refine lv_goto (tgt := 64) hx hb dX6_next_60 (by decide) ?_
                      refine lv_istore_n (lv' := [(2, .int 1), (3, .int (nI ko)), (0, .ref (ad 5)), (1, .int (nI k))]) hx hb dX6_next_64 rfl hl (by decide) rfl (fun ls hl => ?_)
                      refine lv_iinc (v := nI (ko + 1)) (lv' := [(3, .int (nI (ko + 1))), (2, .int 1), (0, .ref (ad 5)), (1, .int (nI k))]) hx hb dX6_next_65 hl (k := 1) rfl (nI_1 ko) (by decide) rfl (fun ls hl => ?_)
                      refine lv_goto (tgt := 27) hx hb dX6_next_68 (by decide) ?_
                      exact ih27 (ko + 1) (by omega) (by omega) ls _ _ hw (by rw [show (bI (isF U k (ko + 1))) = 1 from (by simp [isF_step, bI, c_1, c_2, c_3, c_5, c_6, c_7])]; exact lv_sub hl [1, 0, 2, 3] rfl)
          exact loop27 (tEn U + 1) 0 (by omega) (by omega) ls _ _ hw (by rw [show (bI (isF U k 0)) = 0 from (by simp [isF_0, bI, c_1, c_2])]; exact lv_sub hl [1, 0, 3, 2] rfl)
        · refine lv_iconst (v := 1) hx hb dX6_next_19 (by decide) ?_
          refine lv_goto (tgt := 24) hx hb dX6_next_20 (by decide) ?_
          refine lv_istore_n (lv' := [(2, .int 1), (1, .int (nI k)), (0, .ref (ad 5))]) hx hb dX6_next_24 rfl hl (by decide) rfl (fun ls hl => ?_)
          refine lv_iconst (v := 0) hx hb dX6_next_25 (by decide) ?_
          refine lv_istore_n (lv' := [(3, .int 0), (2, .int 1), (1, .int (nI k)), (0, .ref (ad 5))]) hx hb dX6_next_26 rfl hl (by decide) rfl (fun ls hl => ?_)
          have loop27 : ∀ (n27 ko : Nat), ko ≤ tEn U → tEn U < ko + n27 → ∀ (ls : Array Slot) (H : Heap) (locs : List Loc), fw g ad M s H locs → lv_has ls 4 [(2, .int (bI (isF U k ko))), (3, .int (nI ko)), (0, .ref (ad 5)), (1, .int (nI k))] → W p l e (fR 1 22 0 0) s m args below meth c H locs 0 0 (MQ below (fQi g (fDi ad M (nextE U))) args s 0 0 (fA g)) (F0 m 27 ls []) := by
            intro n27
            induction n27 with
            | zero => intro ko h1 h2; omega
            | succ n27 ih27 =>
              intro ko hk_ko hn_ko ls H locs hw hl
              refine lv_iload_n hx hb dX6_next_27 rfl (lv_at hl 1 rfl) ?_
              refine lv_aload_n hx hb dX6_next_28 rfl (lv_at hl 2 rfl) ?_
              refine f_get X hw hMo fc7 3 (by decide) wq797 rfl (v := .int (nI (tEn U))) rfl dX6_next_29 ?_
              refine lv_icmp_ge (tgt := 71) hx hb dX6_next_32 (by decide) (fun c_8 => ?_) (fun c_8 => ?_)
              · have c_8 := nI_le' (a := (tEn U)) (b := ko) c_8 (by omega) (by omega)
                refine lv_iload_n hx hb dX6_next_71 rfl (lv_at hl 0 rfl) ?_
                refine lv_if_eq (tgt := 77) hx hb dX6_next_72 (by decide) (fun c_9 => ?_) (fun c_9 => ?_)
                · have c_9 := bI_f.mp c_9
                  refine lv_iinc (v := nI (k + 1)) (lv' := [(1, .int (nI (k + 1))), (2, .int (bI (isF U k ko))), (3, .int (nI ko)), (0, .ref (ad 5))]) hx hb dX6_next_77 hl (k := 3) rfl (nI_1 k) (by decide) rfl (fun ls hl => ?_)
                  refine lv_goto (tgt := 2) hx hb dX6_next_80 (by decide) ?_
                  exact ih2 (k + 1) (by omega) (by omega) (f_lts hg (by rw [show ko = tEn U by omega] at c_9; exact c_9)) ls _ _ hw (lv_sub hl [0, 3] rfl)
                · have c_9 := bI_nf.mp c_9
                  refine lv_iload_n hx hb dX6_next_75 rfl (lv_at hl 3 rfl) ?_
                  exact f_iret X hw ⟨rfl, rfl, jFirst_at (show k < tEn U by omega) (by rw [show ko = tEn U by omega] at c_9; exact c_9) hg⟩ (Nat.le_refl _) (Nat.le_refl _) dX6_next_76
              · have c_8 := nI_nle' (a := (tEn U)) (b := ko) c_8 (by omega) (by omega)
                refine lv_iload_n hx hb dX6_next_35 rfl (lv_at hl 0 rfl) ?_
                refine lv_if_eq (tgt := 63) hx hb dX6_next_36 (by decide) (fun c_10 => ?_) (fun c_10 => ?_)
                · have c_10 := bI_f.mp c_10
                  refine lv_iconst (v := 0) hx hb dX6_next_63 (by decide) ?_
                  refine lv_istore_n (lv' := [(2, .int 0), (3, .int (nI ko)), (0, .ref (ad 5)), (1, .int (nI k))]) hx hb dX6_next_64 rfl hl (by decide) rfl (fun ls hl => ?_)
                  refine lv_iinc (v := nI (ko + 1)) (lv' := [(3, .int (nI (ko + 1))), (2, .int 0), (0, .ref (ad 5)), (1, .int (nI k))]) hx hb dX6_next_65 hl (k := 1) rfl (nI_1 ko) (by decide) rfl (fun ls hl => ?_)
                  refine lv_goto (tgt := 27) hx hb dX6_next_68 (by decide) ?_
                  exact ih27 (ko + 1) (by omega) (by omega) ls _ _ hw (by rw [show (bI (isF U k (ko + 1))) = 0 from (by simp [isF_step, bI, c_1, c_2, c_8, c_10])]; exact lv_sub hl [1, 0, 2, 3] rfl)
                · have c_10 := bI_nf.mp c_10
                  refine lv_aload_n hx hb dX6_next_39 rfl (lv_at hl 2 rfl) ?_
                  refine f_get X hw hMo fc7 10 (by decide) wq804 rfl (v := .ref (ad 12)) rfl dX6_next_40 ?_
                  refine lv_iload_n hx hb dX6_next_43 rfl (lv_at hl 1 rfl) ?_
                  refine f_zald X hw hm12 (vp_in_nI (n := ko) (by omega) (by omega)) dX6_next_44 ?_
                  rw [nI_clamp (n := ko) (by omega)]
                  refine f_top (y := tE U ko 10) (rE ko (by omega)).2.2.2.1 ?_
                  refine lv_if_ne (tgt := 59) hx hb dX6_next_45 (by decide) (fun c_11 => ?_) (fun c_11 => ?_)
                  · refine lv_iconst (v := 1) hx hb dX6_next_59 (by decide) ?_
                    refine lv_goto (tgt := 64) hx hb dX6_next_60 (by decide) ?_
                    refine lv_istore_n (lv' := [(2, .int 1), (3, .int (nI ko)), (0, .ref (ad 5)), (1, .int (nI k))]) hx hb dX6_next_64 rfl hl (by decide) rfl (fun ls hl => ?_)
                    refine lv_iinc (v := nI (ko + 1)) (lv' := [(3, .int (nI (ko + 1))), (2, .int 1), (0, .ref (ad 5)), (1, .int (nI k))]) hx hb dX6_next_65 hl (k := 1) rfl (nI_1 ko) (by decide) rfl (fun ls hl => ?_)
                    refine lv_goto (tgt := 27) hx hb dX6_next_68 (by decide) ?_
                    exact ih27 (ko + 1) (by omega) (by omega) ls _ _ hw (by rw [show (bI (isF U k (ko + 1))) = 1 from (by simp [isF_step, bI, c_1, c_2, c_8, c_10, c_11])]; exact lv_sub hl [1, 0, 2, 3] rfl)
                  · refine lv_aload_n hx hb dX6_next_48 rfl (lv_at hl 2 rfl) ?_
                    refine lv_iload_n hx hb dX6_next_49 rfl (lv_at hl 1 rfl) ?_
                    refine lv_bipush (v := 7) hx hb dX6_next_50 (by decide) ?_
                    refine fk_di (fcV X hw (c_en l g ad M hM (e0 := ko) (k := 7) (by omega) rfl (by omega)) hMo rfl wq873 kVX6_en ⟨(Nat.le_of_ble_eq_true rfl), (Nat.le_of_ble_eq_true rfl)⟩ rfl hl.1 rfl (Nat.le_of_ble_eq_true rfl) dX6_next_52 ⟨Nat.le_refl _, Nat.le_refl _⟩) hw (fun H locs hw => ?_)
                    refine lv_iload_n hx hb dX6_next_55 rfl (lv_at hl 3 rfl) ?_
                    refine lv_icmp_eq (tgt := 63) hx hb dX6_next_56 (by decide) (fun c_12 => ?_) (fun c_12 => ?_)
                    · refine lv_iconst (v := 0) hx hb dX6_next_63 (by decide) ?_
                      refine lv_istore_n (lv' := [(2, .int 0), (3, .int (nI ko)), (0, .ref (ad 5)), (1, .int (nI k))]) hx hb dX6_next_64 rfl hl (by decide) rfl (fun ls hl => ?_)
                      refine lv_iinc (v := nI (ko + 1)) (lv' := [(3, .int (nI (ko + 1))), (2, .int 0), (0, .ref (ad 5)), (1, .int (nI k))]) hx hb dX6_next_65 hl (k := 1) rfl (nI_1 ko) (by decide) rfl (fun ls hl => ?_)
                      refine lv_goto (tgt := 27) hx hb dX6_next_68 (by decide) ?_
                      exact ih27 (ko + 1) (by omega) (by omega) ls _ _ hw (by rw [show (bI (isF U k (ko + 1))) = 0 from (by simp [isF_step, bI, c_1, c_2, c_8, c_10, c_11, c_12])]; exact lv_sub hl [1, 0, 2, 3] rfl)
                    · refine lv_iconst (v := 1) hx hb dX6_next_59 (by decide) ?_
                      refine lv_goto (tgt := 64) hx hb dX6_next_60 (by decide) ?_
                      refine lv_istore_n (lv' := [(2, .int 1), (3, .int (nI ko)), (0, .ref (ad 5)), (1, .int (nI k))]) hx hb dX6_next_64 rfl hl (by decide) rfl (fun ls hl => ?_)
                      refine lv_iinc (v := nI (ko + 1)) (lv' := [(3, .int (nI (ko + 1))), (2, .int 1), (0, .ref (ad 5)), (1, .int (nI k))]) hx hb dX6_next_65 hl (k := 1) rfl (nI_1 ko) (by decide) rfl (fun ls hl => ?_)
                      refine lv_goto (tgt := 27) hx hb dX6_next_68 (by decide) ?_
                      exact ih27 (ko + 1) (by omega) (by omega) ls _ _ hw (by rw [show (bI (isF U k (ko + 1))) = 1 from (by simp [isF_step, bI, c_1, c_2, c_8, c_10, c_11, c_12])]; exact lv_sub hl [1, 0, 2, 3] rfl)
          exact loop27 (tEn U + 1) 0 (by omega) (by omega) ls _ _ hw (by rw [show (bI (isF U k 0)) = 1 from (by simp [isF_0, bI, c_1, c_2])]; exact lv_sub hl [1, 0, 3, 2] rfl)
  exact loop2 (tEn U + 1) 0 (by omega) (by omega) (fun j h => absurd h (Nat.not_lt_zero _)) ls _ _ hw (lv_sub hl [0, 1] rfl)
