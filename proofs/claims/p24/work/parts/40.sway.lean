/-- what the law's town holds for streets is what kf says -/
def stOk (kf : Nat → Int32) (U : fTn) : Prop := ∀ c, c < 140 → (((∃ j, j < tHn U ∧ tH U j 0 = nI c) ∨ ∃ j, j < tPn U ∧ tP U j 0 = nI c) → ¬ kf c = 0) ∧ ((∀ j, j < tHn U → ¬ tH U j 0 = nI c) → (∀ j, j < tPn U → ¬ tP U j 0 = nI c) → kf c = 0)
abbrev fSw (g : fG) (ad : Nat → Nat) (M : fM) (v : Int32) : Int32 → (Nat → Nat) → fM → Prop := fun r ad1 M1 => fReg 3400 3420 ad M ad1 M1 ∧ r = v
theorem wy_ix {x : Int32} (h1 : ¬ x < 0) (h2 : ¬ 139 < x) : ∃ o, o < 140 ∧ x = nI o := by
  rcases pk_ix x (n := 140) (by decide) with a | a | ⟨i, hi, e⟩
  · exact absurd a h1
  · rw [Int32.lt_iff_toInt_lt, show (139 : Int32).toInt = 139 from rfl] at h2
    rw [Int32.le_iff_toInt_le, show (nI 140).toInt = 140 from rfl] at a
    omega
  · exact ⟨i, hi, e⟩
set_option maxHeartbeats 4000000 in
set_option maxRecDepth 100000 in
theorem c_s_way (l : Launch) (g : fG) (ad : Nat → Nat) (M : fM) {U : fTn} (hS : isSim g ad M U) {kf sf : Nat → Int32} {a b : Nat} (hst0 : stOk kf U) (haa : a < 140) (hbb : b < 140) (hab : b ≠ a) (hka : kf a = 0) : fCi l g yX8_way cX8_way 13 ((some .int)) 1 30 142 840 ad M [.ref (ad 3000), .int (nI a), .int (nI b)] (fSw g ad M (stepsR kf sf a b)) := by
  refine f_body (own := RX8) (by decide +kernel) rfl (Nat.le_of_ble_eq_true rfl) ?_
  intro p e s m args below meth c ls X hw hin hl
  have hx := X.1
  have hb := X.2.1
  have hl : lv_has ls 13 [(0, .ref (ad 3000)), (1, .int (nI a)), (2, .int (nI b))] := hl
  obtain ⟨hS0, ⟨fHh, hSh, hSH⟩, ⟨fEe, hSe, hSE⟩, ⟨fPp, hSp, hSP⟩, hHs, hEs, hPs, hn1, hn3, hn2⟩ := id hS
  obtain ⟨ado, hado⟩ : ∃ z, z = ad := ⟨_, rfl⟩
  obtain ⟨Mo, hMo⟩ : ∃ z, z = M := ⟨_, rfl⟩
  obtain ⟨Q9, hQ9⟩ : ∃ z, z = MQ below (fQi g (fSw g ad M (stepsR kf sf a b))) args s 142 840 (fA g) := ⟨_, rfl⟩
  show W p l e (fR 1 30 142 840) s m args below meth c _ _ 0 0 (MQ below (fQi g (fSw g ad M (stepsR kf sf a b))) args s 142 840 (fA g)) (F0 m 0 ls [])
  rw [← hQ9]
  refine lv_sipush (v := 140) hx hb dX8_way_0 (by decide) ?_
  refine f_newI X hw 3405 (by omega) wq49 (N' := 140) (by decide) (by rfl) (by decide) (by dsimp only [fR]; omega) (by dsimp only [fR]; omega) dX8_way_3 (fun q1 H hw => ?_)
  obtain ⟨ad1, ea1⟩ : ∃ z, z = fV ad 3405 q1 := ⟨_, rfl⟩
  have eq1 : ad1 3405 = q1 := by rw [ea1]; exact fV_s
  have eA1 : ∀ l, l ≠ 3405 → ad1 l = ad l := fun l h => by rw [ea1]; exact fV_n h
  rw [← ea1] at hw
  obtain ⟨Mn1, em1⟩ : ∃ z, z = fU M 3405 (.inl (gI g, 140, .inl (fun _ => 0))) := ⟨_, rfl⟩
  have eM1 : ∀ l, l ≠ 3405 → Mn1 l = M l := fun l h => by rw [em1]; exact fU_n h
  have eS1 : Mn1 3405 = some (.inl (gI g, 140, .inl (fun _ => 0))) := by rw [em1]; exact fU_s
  rw [← em1] at hw
  have hS0 : Mn1 3000 = some (.inr (9, [.int (tM U), .ref (ad 3001), .ref (ad 3002), .ref (ad 3003)])) := (eM1 _ (by omega)).trans hS0
  have hSh : Mn1 3001 = some (.inl (gY g, tHn U, .inr (.inr (.inr (.inr fHh))))) := (eM1 _ (by omega)).trans hSh
  have hSe : Mn1 3002 = some (.inl (gW g, tEn U, .inr (.inr (.inr (.inr fEe))))) := (eM1 _ (by omega)).trans hSe
  have hSp : Mn1 3003 = some (.inl (gQ g, tPn U, .inr (.inr (.inr (.inr fPp))))) := (eM1 _ (by omega)).trans hSp
  refine lv_astore_n (lv' := [(3, .ref q1), (0, .ref (ad 3000)), (1, .int (nI a)), (2, .int (nI b))]) hx hb dX8_way_5 rfl hl (by decide) rfl (fun ls hl => ?_)
  refine lv_sipush (v := 140) hx hb dX8_way_6 (by decide) ?_
  refine f_newI X hw 3406 (by omega) wq49 (N' := 140) (by decide) (by rfl) (by decide) (by dsimp only [fR]; omega) (by dsimp only [fR]; omega) dX8_way_9 (fun q2 H hw => ?_)
  obtain ⟨ad2, ea2⟩ : ∃ z, z = fV ad1 3406 q2 := ⟨_, rfl⟩
  have eq2 : ad2 3406 = q2 := by rw [ea2]; exact fV_s
  have eA2 : ∀ l, l ≠ 3406 → ad2 l = ad1 l := fun l h => by rw [ea2]; exact fV_n h
  rw [← ea2] at hw
  obtain ⟨Mn2, em2⟩ : ∃ z, z = fU Mn1 3406 (.inl (gI g, 140, .inl (fun _ => 0))) := ⟨_, rfl⟩
  have eM2 : ∀ l, l ≠ 3406 → Mn2 l = Mn1 l := fun l h => by rw [em2]; exact fU_n h
  have eS2 : Mn2 3406 = some (.inl (gI g, 140, .inl (fun _ => 0))) := by rw [em2]; exact fU_s
  rw [← em2] at hw
  have hS0 : Mn2 3000 = some (.inr (9, [.int (tM U), .ref (ad 3001), .ref (ad 3002), .ref (ad 3003)])) := (eM2 _ (by omega)).trans hS0
  have hSh : Mn2 3001 = some (.inl (gY g, tHn U, .inr (.inr (.inr (.inr fHh))))) := (eM2 _ (by omega)).trans hSh
  have hSe : Mn2 3002 = some (.inl (gW g, tEn U, .inr (.inr (.inr (.inr fEe))))) := (eM2 _ (by omega)).trans hSe
  have hSp : Mn2 3003 = some (.inl (gQ g, tPn U, .inr (.inr (.inr (.inr fPp))))) := (eM2 _ (by omega)).trans hSp
  have eS1 : Mn2 3405 = some (.inl (gI g, 140, .inl (fun _ => 0))) := (eM2 _ (by omega)).trans eS1
  refine lv_astore (lv' := [(4, .ref q2), (3, .ref q1), (0, .ref (ad 3000)), (1, .int (nI a)), (2, .int (nI b))]) hx hb dX8_way_11 hl (by decide) rfl (fun ls hl => ?_)
  have rest13 : ∀ (ad : Nat → Nat) (M : fM) (hS : isSim g ad M U) (hA1 : M 3405 = some (.inl (gI g, 140, .inl (fun _ => 0)))) (hA2 : M 3406 = some (.inl (gI g, 140, .inl (fun _ => 0)))) (hrA : fReg 3400 3420 ado Mo ad M) (ls : Array Slot) (H : Heap) (locs : List Loc), fw g ad M s H locs → lv_has ls 13 [(4, .ref (ad 3406)), (3, .ref (ad 3405)), (0, .ref (ad 3000)), (1, .int (nI a)), (2, .int (nI b))] → W p l e (fR 1 30 142 840) s m args below meth c H locs 2 280 Q9 (F0 m 13 ls []) := by
    intro ad M hS hA1 hA2 hrA ls H locs hw hl
    obtain ⟨hS0, ⟨fHh, hSh, hSH⟩, ⟨fEe, hSe, hSE⟩, ⟨fPp, hSp, hSP⟩, hHs, hEs, hPs, hn1, hn3, hn2⟩ := id hS
    refine lv_iconst (v := 0) hx hb dX8_way_13 (by decide) ?_
    refine lv_istore (lv' := [(5, .int 0), (4, .ref (ad 3406)), (3, .ref (ad 3405)), (0, .ref (ad 3000)), (1, .int (nI a)), (2, .int (nI b))]) hx hb dX8_way_14 hl (by decide) rfl (fun ls hl => ?_)
    have loop16 : ∀ (n k : Nat), k ≤ 140 → 140 < k + n → ∀ (M : fM) (fr : Nat → Int32) (hfr : ∀ j, j < k → fr j = -1) (hS : isSim g ad M U) (hA1 : M 3405 = some (.inl (gI g, 140, .inl fr))) (hA2 : M 3406 = some (.inl (gI g, 140, .inl (fun _ => 0)))) (hrA : fReg 3400 3420 ado Mo ad M) (ls : Array Slot) (H : Heap) (locs : List Loc), fw g ad M s H locs → lv_has ls 13 [(5, .int (nI k)), (4, .ref (ad 3406)), (3, .ref (ad 3405)), (0, .ref (ad 3000)), (1, .int (nI a)), (2, .int (nI b))] → W p l e (fR 1 30 142 840) s m args below meth c H locs 2 280 Q9 (F0 m 16 ls []) := by
      intro n
      induction n with
      | zero => intro k h1 h2; omega
      | succ n ih =>
        intro k hk_ hn_ M fr hfr hS hA1 hA2 hrA ls H locs hw hl
        obtain ⟨hS0, ⟨fHh, hSh, hSH⟩, ⟨fEe, hSe, hSE⟩, ⟨fPp, hSp, hSP⟩, hHs, hEs, hPs, hn1, hn3, hn2⟩ := id hS
        refine lv_iload hx hb dX8_way_16 (lv_at hl 0 rfl) ?_
        refine lv_sipush (v := 140) hx hb dX8_way_18 (by decide) ?_
        refine lv_icmp_ge (tgt := 35) hx hb dX8_way_21 (by decide) (fun c_1 => ?_) (fun c_1 => ?_)
        · have c_1 := nI_le' (a := 140) (b := k) c_1 (by omega) (by omega)
          have ek : k = 140 := by omega
          refine lv_aload_n hx hb dX8_way_35 rfl (lv_at hl 2 rfl) ?_
          refine lv_iload_n hx hb dX8_way_36 rfl (lv_at hl 4 rfl) ?_
          refine lv_iconst (v := 0) hx hb dX8_way_37 (by decide) ?_
          refine f_iast X hw hA1 (vp_in_nI (n := a) (by omega) (by omega)) dX8_way_38 (fun H locs hw => ?_)
          rw [nI_clamp (n := a) (by omega)] at hw
          have hw : fw g ad (fU M 3405 (.inl (gI g, 140, .inl (upd fr a 0)))) s H locs := hw
          have hS0 : (fU M 3405 (.inl (gI g, 140, .inl (upd fr a 0)))) 3000 = some (.inr (9, [.int (tM U), .ref (ad 3001), .ref (ad 3002), .ref (ad 3003)])) := (fU_n (by omega)).trans hS0
          have hSh : (fU M 3405 (.inl (gI g, 140, .inl (upd fr a 0)))) 3001 = some (.inl (gY g, tHn U, .inr (.inr (.inr (.inr fHh))))) := (fU_n (by omega)).trans hSh
          have hSe : (fU M 3405 (.inl (gI g, 140, .inl (upd fr a 0)))) 3002 = some (.inl (gW g, tEn U, .inr (.inr (.inr (.inr fEe))))) := (fU_n (by omega)).trans hSe
          have hSp : (fU M 3405 (.inl (gI g, 140, .inl (upd fr a 0)))) 3003 = some (.inl (gQ g, tPn U, .inr (.inr (.inr (.inr fPp))))) := (fU_n (by omega)).trans hSp
          have hA2 : (fU M 3405 (.inl (gI g, 140, .inl (upd fr a 0)))) 3406 = some (.inl (gI g, 140, .inl (fun _ => 0))) := (fU_n (by omega)).trans hA2
          have hA1 : (fU M 3405 (.inl (gI g, 140, .inl (upd fr a 0)))) 3405 = some (.inl (gI g, 140, .inl (upd fr a 0))) := fU_s
          refine lv_aload hx hb dX8_way_39 (lv_at hl 1 rfl) ?_
          refine lv_iconst (v := 0) hx hb dX8_way_41 (by decide) ?_
          refine lv_iload_n hx hb dX8_way_42 rfl (lv_at hl 4 rfl) ?_
          refine f_iast X hw hA2 (by unfold vp_in; decide) dX8_way_43 (fun H locs hw => ?_)
          rw [show (0 : Int32).toNatClampNeg = 0 from rfl] at hw
          have hw : fw g ad (fU (fU M 3405 (.inl (gI g, 140, .inl (upd fr a 0)))) 3406 (.inl (gI g, 140, .inl (upd (fun _ => 0) 0 (nI a))))) s H locs := hw
          have hS0 : (fU (fU M 3405 (.inl (gI g, 140, .inl (upd fr a 0)))) 3406 (.inl (gI g, 140, .inl (upd (fun _ => 0) 0 (nI a))))) 3000 = some (.inr (9, [.int (tM U), .ref (ad 3001), .ref (ad 3002), .ref (ad 3003)])) := (fU_n (by omega)).trans hS0
          have hSh : (fU (fU M 3405 (.inl (gI g, 140, .inl (upd fr a 0)))) 3406 (.inl (gI g, 140, .inl (upd (fun _ => 0) 0 (nI a))))) 3001 = some (.inl (gY g, tHn U, .inr (.inr (.inr (.inr fHh))))) := (fU_n (by omega)).trans hSh
          have hSe : (fU (fU M 3405 (.inl (gI g, 140, .inl (upd fr a 0)))) 3406 (.inl (gI g, 140, .inl (upd (fun _ => 0) 0 (nI a))))) 3002 = some (.inl (gW g, tEn U, .inr (.inr (.inr (.inr fEe))))) := (fU_n (by omega)).trans hSe
          have hSp : (fU (fU M 3405 (.inl (gI g, 140, .inl (upd fr a 0)))) 3406 (.inl (gI g, 140, .inl (upd (fun _ => 0) 0 (nI a))))) 3003 = some (.inl (gQ g, tPn U, .inr (.inr (.inr (.inr fPp))))) := (fU_n (by omega)).trans hSp
          have hA1 : (fU (fU M 3405 (.inl (gI g, 140, .inl (upd fr a 0)))) 3406 (.inl (gI g, 140, .inl (upd (fun _ => 0) 0 (nI a))))) 3405 = some (.inl (gI g, 140, .inl (upd fr a 0))) := (fU_n (by omega)).trans hA1
          have hA2 : (fU (fU M 3405 (.inl (gI g, 140, .inl (upd fr a 0)))) 3406 (.inl (gI g, 140, .inl (upd (fun _ => 0) 0 (nI a))))) 3406 = some (.inl (gI g, 140, .inl (upd (fun _ => 0) 0 (nI a)))) := fU_s
          refine lv_iconst (v := 1) hx hb dX8_way_44 (by decide) ?_
          refine lv_istore (lv' := [(5, .int 1), (4, .ref (ad 3406)), (3, .ref (ad 3405)), (0, .ref (ad 3000)), (1, .int (nI a)), (2, .int (nI b))]) hx hb dX8_way_45 hl (by decide) rfl (fun ls hl => ?_)
          refine lv_iconst (v := 0) hx hb dX8_way_47 (by decide) ?_
          refine lv_istore (lv' := [(6, .int 0), (5, .int 1), (4, .ref (ad 3406)), (3, .ref (ad 3405)), (0, .ref (ad 3000)), (1, .int (nI a)), (2, .int (nI b))]) hx hb dX8_way_48 hl (by decide) rfl (fun ls hl => ?_)
          have loop50 : ∀ (n k : Nat), 140 < k + n → ∀ (nn : Nat) (ad : Nat → Nat) (M : fM) (fr ln : Nat → Int32) (hI : bfI kf a k 0 nn fr ln) (hS : isSim g ad M U) (hA1 : M 3405 = some (.inl (gI g, 140, .inl fr))) (hA2 : M 3406 = some (.inl (gI g, 140, .inl ln))) (hrA : fReg 3400 3420 ado Mo ad M) (ls : Array Slot) (H : Heap) (locs : List Loc), fw g ad M s H locs → lv_has ls 13 [(6, .int (nI k)), (5, .int (nI nn)), (4, .ref (ad 3406)), (3, .ref (ad 3405)), (0, .ref (ad 3000)), (1, .int (nI a)), (2, .int (nI b))] → W p l e (fR 1 30 142 840) s m args below meth c H locs (2 + k) (280 + 4 * k) Q9 (F0 m 50 ls []) := by
            intro n
            induction n with
            | zero => intro k h1 nn ad M fr ln hI; have := bf_n hI; omega
            | succ n ih =>
              intro k hn_ nn ad M fr ln hI hS hA1 hA2 hrA ls H locs hw hl
              have hbn := bf_n hI
              obtain ⟨hS0, ⟨fHh, hSh, hSH⟩, ⟨fEe, hSe, hSE⟩, ⟨fPp, hSp, hSP⟩, hHs, hEs, hPs, hn1, hn3, hn2⟩ := id hS
              refine lv_iload hx hb dX8_way_50 (lv_at hl 0 rfl) ?_
              refine lv_iload hx hb dX8_way_52 (lv_at hl 1 rfl) ?_
              refine lv_icmp_ge (tgt := 215) hx hb dX8_way_54 (by decide) (fun c_2 => ?_) (fun c_2 => ?_)
              · have c_2 := nI_le' (a := nn) (b := k) c_2 (by omega) (by omega)
                refine lv_aload_n hx hb dX8_way_215 rfl (lv_at hl 3 rfl) ?_
                refine lv_iload_n hx hb dX8_way_216 rfl (lv_at hl 6 rfl) ?_
                refine f_iald X hw hA1 (vp_in_nI (n := b) (by omega) (by omega)) dX8_way_217 ?_
                rw [nI_clamp (n := b) (by omega)]
                have ek : k = nn := by omega
                rw [ek] at hI
                rw [hQ9, ← hado, ← hMo]
                exact f_iret X hw ⟨hrA, bf_end hI haa hbb hab hka⟩ (by omega) (by omega) dX8_way_218
              · have c_2 := nI_nle' (a := nn) (b := k) c_2 (by omega) (by omega)
                obtain ⟨cc, hcc, ecc⟩ := bf_at hI (by omega)
                refine lv_aload hx hb dX8_way_57 (lv_at hl 2 rfl) ?_
                refine lv_iload hx hb dX8_way_59 (lv_at hl 0 rfl) ?_
                refine f_iald X hw hA2 (vp_in_nI (n := k) (by omega) (by omega)) dX8_way_61 ?_
                rw [nI_clamp (n := k) (by omega)]
                refine f_top (y := nI cc) ecc ?_
                refine lv_istore (lv' := [(7, .int (nI cc)), (6, .int (nI k)), (5, .int (nI nn)), (4, .ref (ad 3406)), (3, .ref (ad 3405)), (0, .ref (ad 3000)), (1, .int (nI a)), (2, .int (nI b))]) hx hb dX8_way_62 hl (by decide) rfl (fun ls hl => ?_)
                refine lv_iconst (v := 4) hx hb dX8_way_64 (by decide) ?_
                have rest67 : ∀ (ad : Nat → Nat) (M : fM) (hS : isSim g ad M U) (hA1 : M 3405 = some (.inl (gI g, 140, .inl fr))) (hA2 : M 3406 = some (.inl (gI g, 140, .inl ln))) (hA3 : M 3407 = some (.inl (gI g, 4, .inl (fun _ => 0)))) (hrA : fReg 3400 3420 ado Mo ad M) (ls : Array Slot) (H : Heap) (locs : List Loc), fw g ad M s H locs → lv_has ls 13 [(7, .int (nI cc)), (6, .int (nI k)), (5, .int (nI nn)), (4, .ref (ad 3406)), (3, .ref (ad 3405)), (0, .ref (ad 3000)), (1, .int (nI a)), (2, .int (nI b))] → W p l e (fR 1 30 142 840) s m args below meth c H locs (2 + k + 1) (280 + 4 * k + 4) Q9 (F0 m 67 ls [.ref (ad 3407)]) := by
                  intro ad M hS hA1 hA2 hA3 hrA ls H locs hw hl
                  obtain ⟨hS0, ⟨fHh, hSh, hSH⟩, ⟨fEe, hSe, hSE⟩, ⟨fPp, hSp, hSP⟩, hHs, hEs, hPs, hn1, hn3, hn2⟩ := id hS
                  refine lv_dup hx hb dX8_way_67 rfl ?_
                  refine lv_iconst (v := 0) hx hb dX8_way_68 (by decide) ?_
                  refine lv_iload hx hb dX8_way_69 (lv_at hl 0 rfl) ?_
                  refine lv_bipush (v := 14) hx hb dX8_way_71 (by decide) ?_
                  refine lv_isub hx hb dX8_way_73 ?_
                  refine f_iast X hw hA3 (by unfold vp_in; decide) dX8_way_74 (fun H locs hw => ?_)
                  rw [show (0 : Int32).toNatClampNeg = 0 from rfl] at hw
                  have hw : fw g ad (fU M 3407 (.inl (gI g, 4, .inl (upd (fun _ => 0) 0 ((nI cc) - 14))))) s H locs := hw
                  have hS0 : (fU M 3407 (.inl (gI g, 4, .inl (upd (fun _ => 0) 0 ((nI cc) - 14))))) 3000 = some (.inr (9, [.int (tM U), .ref (ad 3001), .ref (ad 3002), .ref (ad 3003)])) := (fU_n (by omega)).trans hS0
                  have hSh : (fU M 3407 (.inl (gI g, 4, .inl (upd (fun _ => 0) 0 ((nI cc) - 14))))) 3001 = some (.inl (gY g, tHn U, .inr (.inr (.inr (.inr fHh))))) := (fU_n (by omega)).trans hSh
                  have hSe : (fU M 3407 (.inl (gI g, 4, .inl (upd (fun _ => 0) 0 ((nI cc) - 14))))) 3002 = some (.inl (gW g, tEn U, .inr (.inr (.inr (.inr fEe))))) := (fU_n (by omega)).trans hSe
                  have hSp : (fU M 3407 (.inl (gI g, 4, .inl (upd (fun _ => 0) 0 ((nI cc) - 14))))) 3003 = some (.inl (gQ g, tPn U, .inr (.inr (.inr (.inr fPp))))) := (fU_n (by omega)).trans hSp
                  have hA1 : (fU M 3407 (.inl (gI g, 4, .inl (upd (fun _ => 0) 0 ((nI cc) - 14))))) 3405 = some (.inl (gI g, 140, .inl fr)) := (fU_n (by omega)).trans hA1
                  have hA2 : (fU M 3407 (.inl (gI g, 4, .inl (upd (fun _ => 0) 0 ((nI cc) - 14))))) 3406 = some (.inl (gI g, 140, .inl ln)) := (fU_n (by omega)).trans hA2
                  have hA3 : (fU M 3407 (.inl (gI g, 4, .inl (upd (fun _ => 0) 0 ((nI cc) - 14))))) 3407 = some (.inl (gI g, 4, .inl (upd (fun _ => 0) 0 ((nI cc) - 14)))) := fU_s
                  have rest125 : ∀ (M : fM) (hS : isSim g ad M U) (hA1 : M 3405 = some (.inl (gI g, 140, .inl fr))) (hA2 : M 3406 = some (.inl (gI g, 140, .inl ln))) (hA3 : M 3407 = some (.inl (gI g, 4, .inl (nxA cc)))) (hrA : fReg 3400 3420 ado Mo ad M) (ls : Array Slot) (H : Heap) (locs : List Loc), fw g ad M s H locs → lv_has ls 13 [(8, .ref (ad 3407)), (7, .int (nI cc)), (6, .int (nI k)), (5, .int (nI nn)), (4, .ref (ad 3406)), (3, .ref (ad 3405)), (0, .ref (ad 3000)), (1, .int (nI a)), (2, .int (nI b))] → W p l e (fR 1 30 142 840) s m args below meth c H locs (2 + k + 1) (280 + 4 * k + 4) Q9 (F0 m 125 ls []) := by
                    intro M hS hA1 hA2 hA3 hrA ls H locs hw hl
                    obtain ⟨hS0, ⟨fHh, hSh, hSH⟩, ⟨fEe, hSe, hSE⟩, ⟨fPp, hSp, hSP⟩, hHs, hEs, hPs, hn1, hn3, hn2⟩ := id hS
                    refine lv_aload hx hb dX8_way_125 (lv_at hl 0 rfl) ?_
                    refine lv_astore (lv' := [(9, .ref (ad 3407)), (8, .ref (ad 3407)), (7, .int (nI cc)), (6, .int (nI k)), (5, .int (nI nn)), (4, .ref (ad 3406)), (3, .ref (ad 3405)), (0, .ref (ad 3000)), (1, .int (nI a)), (2, .int (nI b))]) hx hb dX8_way_127 hl (by decide) rfl (fun ls hl => ?_)
                    refine lv_aload hx hb dX8_way_129 (lv_at hl 0 rfl) ?_
                    refine f_alen X hw 0 hA3 rfl dX8_way_131 ?_
                    refine lv_istore (lv' := [(10, .int (nI 4)), (9, .ref (ad 3407)), (8, .ref (ad 3407)), (7, .int (nI cc)), (6, .int (nI k)), (5, .int (nI nn)), (4, .ref (ad 3406)), (3, .ref (ad 3405)), (0, .ref (ad 3000)), (1, .int (nI a)), (2, .int (nI b))]) hx hb dX8_way_132 hl (by decide) rfl (fun ls hl => ?_)
                    refine lv_iconst (v := 0) hx hb dX8_way_134 (by decide) ?_
                    refine lv_istore (lv' := [(11, .int 0), (10, .int (nI 4)), (9, .ref (ad 3407)), (8, .ref (ad 3407)), (7, .int (nI cc)), (6, .int (nI k)), (5, .int (nI nn)), (4, .ref (ad 3406)), (3, .ref (ad 3405)), (0, .ref (ad 3000)), (1, .int (nI a)), (2, .int (nI b))]) hx hb dX8_way_135 hl (by decide) rfl (fun ls hl => ?_)
                    have loop137 : ∀ (x i : Nat), i ≤ 4 → 4 < i + x → ∀ (nn : Nat) (M : fM) (fr ln : Nat → Int32) (hI : bfI kf a k i nn fr ln) (hkn : k < nn) (ecc : ln k = nI cc) (hS : isSim g ad M U) (hA1 : M 3405 = some (.inl (gI g, 140, .inl fr))) (hA2 : M 3406 = some (.inl (gI g, 140, .inl ln))) (hA3 : M 3407 = some (.inl (gI g, 4, .inl (nxA cc)))) (hrA : fReg 3400 3420 ado Mo ad M) (ls : Array Slot) (H : Heap) (locs : List Loc), fw g ad M s H locs → lv_has ls 13 [(11, .int (nI i)), (10, .int (nI 4)), (9, .ref (ad 3407)), (8, .ref (ad 3407)), (7, .int (nI cc)), (6, .int (nI k)), (5, .int (nI nn)), (4, .ref (ad 3406)), (3, .ref (ad 3405)), (0, .ref (ad 3000)), (1, .int (nI a)), (2, .int (nI b))] → W p l e (fR 1 30 142 840) s m args below meth c H locs (2 + k + 1) (280 + 4 * k + 4) Q9 (F0 m 137 ls []) := by
                      intro x
                      induction x with
                      | zero => intro i h1 h2; omega
                      | succ x ihx =>
                        intro i hi_ hx_ nn M fr ln hI hkn ecc hS hA1 hA2 hA3 hrA ls H locs hw hl
                        have hbn := bf_n hI
                        obtain ⟨hS0, ⟨fHh, hSh, hSH⟩, ⟨fEe, hSe, hSE⟩, ⟨fPp, hSp, hSP⟩, hHs, hEs, hPs, hn1, hn3, hn2⟩ := id hS
                        refine lv_iload hx hb dX8_way_137 (lv_at hl 0 rfl) ?_
                        refine lv_iload hx hb dX8_way_139 (lv_at hl 1 rfl) ?_
                        refine lv_icmp_ge (tgt := 209) hx hb dX8_way_141 (by decide) (fun c_3 => ?_) (fun c_3 => ?_)
                        · have c_3 := nI_le' (a := 4) (b := i) c_3 (by omega) (by omega)
                          refine lv_iinc (v := nI (k + 1)) (lv' := [(6, .int (nI (k + 1))), (11, .int (nI i)), (10, .int (nI 4)), (9, .ref (ad 3407)), (8, .ref (ad 3407)), (7, .int (nI cc)), (5, .int (nI nn)), (4, .ref (ad 3406)), (3, .ref (ad 3405)), (0, .ref (ad 3000)), (1, .int (nI a)), (2, .int (nI b))]) hx hb dX8_way_209 hl (k := 5) rfl (nI_1 k) (by decide) rfl (fun ls hl => ?_)
                          refine lv_goto (tgt := 50) hx hb dX8_way_212 (by decide) ?_
                          have ei : i = 4 := by omega
                          rw [ei] at hI
                          have hih := ih (k + 1) (by omega) nn ad _ _ _ (bf_next hI hkn) hS hA1 hA2 hrA ls _ _ hw (lv_sub hl [0, 6, 7, 8, 9, 10, 11] rfl)
                          exact hih
                        · have c_3 := nI_nle' (a := 4) (b := i) c_3 (by omega) (by omega)
                          refine lv_aload hx hb dX8_way_144 (lv_at hl 2 rfl) ?_
                          refine lv_iload hx hb dX8_way_146 (lv_at hl 0 rfl) ?_
                          refine f_iald X hw hA3 (vp_in_nI (n := i) (by omega) (by omega)) dX8_way_148 ?_
                          rw [nI_clamp (n := i) (by omega)]
                          refine lv_istore (lv' := [(12, .int ((nxA cc) i)), (11, .int (nI i)), (10, .int (nI 4)), (9, .ref (ad 3407)), (8, .ref (ad 3407)), (7, .int (nI cc)), (6, .int (nI k)), (5, .int (nI nn)), (4, .ref (ad 3406)), (3, .ref (ad 3405)), (0, .ref (ad 3000)), (1, .int (nI a)), (2, .int (nI b))]) hx hb dX8_way_149 hl (by decide) rfl (fun ls hl => ?_)
                          refine lv_iload hx hb dX8_way_151 (lv_at hl 0 rfl) ?_
                          refine lv_if_lt (tgt := 203) hx hb dX8_way_153 (by decide) (fun c_4 => ?_) (fun c_4 => ?_)
                          · refine lv_iinc (v := nI (i + 1)) (lv' := [(11, .int (nI (i + 1))), (12, .int ((nxA cc) i)), (10, .int (nI 4)), (9, .ref (ad 3407)), (8, .ref (ad 3407)), (7, .int (nI cc)), (6, .int (nI k)), (5, .int (nI nn)), (4, .ref (ad 3406)), (3, .ref (ad 3405)), (0, .ref (ad 3000)), (1, .int (nI a)), (2, .int (nI b))]) hx hb dX8_way_203 hl (k := 1) rfl (nI_1 i) (by decide) rfl (fun ls hl => ?_)
                            refine lv_goto (tgt := 137) hx hb dX8_way_206 (by decide) ?_
                            exact ihx (i + 1) (by omega) (by omega) nn M fr ln (bf_skip hI hkn hcc ecc (fun c hc ec _ => absurd (show nI c < 0 by rw [← ec]; exact c_4) (nI_pos (by omega)))) hkn ecc hS hA1 hA2 hA3 hrA ls _ _ hw (lv_sub hl [0, 2, 3, 4, 5, 6, 7, 8, 9, 10, 11, 12] rfl)
                          · refine lv_iload hx hb dX8_way_156 (lv_at hl 0 rfl) ?_
                            refine lv_sipush (v := 139) hx hb dX8_way_158 (by decide) ?_
                            refine lv_icmp_gt (tgt := 203) hx hb dX8_way_161 (by decide) (fun c_5 => ?_) (fun c_5 => ?_)
                            · refine lv_iinc (v := nI (i + 1)) (lv' := [(11, .int (nI (i + 1))), (12, .int ((nxA cc) i)), (10, .int (nI 4)), (9, .ref (ad 3407)), (8, .ref (ad 3407)), (7, .int (nI cc)), (6, .int (nI k)), (5, .int (nI nn)), (4, .ref (ad 3406)), (3, .ref (ad 3405)), (0, .ref (ad 3000)), (1, .int (nI a)), (2, .int (nI b))]) hx hb dX8_way_203 hl (k := 1) rfl (nI_1 i) (by decide) rfl (fun ls hl => ?_)
                              refine lv_goto (tgt := 137) hx hb dX8_way_206 (by decide) ?_
                              exact ihx (i + 1) (by omega) (by omega) nn M fr ln (bf_skip hI hkn hcc ecc (fun c hc ec _ => absurd (show (139 : Int32) < nI c by rw [← ec]; exact c_5) (fun z => absurd (nI_lt' (a := 139) (b := c) z (by omega) (by omega)) (by omega)))) hkn ecc hS hA1 hA2 hA3 hrA ls _ _ hw (lv_sub hl [0, 2, 3, 4, 5, 6, 7, 8, 9, 10, 11, 12] rfl)
                            · obtain ⟨oo, hoo, eoo⟩ := wy_ix c_4 c_5
                              rw [eoo] at hl
                              refine lv_aload_n hx hb dX8_way_164 rfl (lv_at hl 9 rfl) ?_
                              refine lv_iload hx hb dX8_way_165 (lv_at hl 0 rfl) ?_
                              refine f_iald X hw hA1 (vp_in_nI (n := oo) (by omega) (by omega)) dX8_way_167 ?_
                              rw [nI_clamp (n := oo) (by omega)]
                              refine lv_if_ge (tgt := 203) hx hb dX8_way_168 (by decide) (fun c_6 => ?_) (fun c_6 => ?_)
                              · refine lv_iinc (v := nI (i + 1)) (lv' := [(11, .int (nI (i + 1))), (12, .int (nI oo)), (10, .int (nI 4)), (9, .ref (ad 3407)), (8, .ref (ad 3407)), (7, .int (nI cc)), (6, .int (nI k)), (5, .int (nI nn)), (4, .ref (ad 3406)), (3, .ref (ad 3405)), (0, .ref (ad 3000)), (1, .int (nI a)), (2, .int (nI b))]) hx hb dX8_way_203 hl (k := 1) rfl (nI_1 i) (by decide) rfl (fun ls hl => ?_)
                                refine lv_goto (tgt := 137) hx hb dX8_way_206 (by decide) ?_
                                exact ihx (i + 1) (by omega) (by omega) nn M fr ln (bf_skip hI hkn hcc ecc (fun c hc ec _ => by rw [← nI_eq' (ec.symm.trans eoo).symm (by omega) (by omega)]; exact c_6)) hkn ecc hS hA1 hA2 hA3 hrA ls _ _ hw (lv_sub hl [0, 2, 3, 4, 5, 6, 7, 8, 9, 10, 11, 12] rfl)
                              · have hfr1 := bf_val hI hoo c_6
                                refine lv_aload_n hx hb dX8_way_171 rfl (lv_at hl 10 rfl) ?_
                                refine lv_iload hx hb dX8_way_172 (lv_at hl 0 rfl) ?_
                                refine fk_di (fcV X hw (c_s_isStreet l g ad M hS (nI oo) (bI (decide (kf oo = 0))) (fun z => by rw [decide_eq_false ((hst0 oo hoo).1 z)]; rfl) (fun z1 z2 => by rw [decide_eq_true ((hst0 oo hoo).2 z1 z2)]; rfl)) hS0 rfl wq645 kVX8_isStreet ⟨(Nat.le_of_ble_eq_true rfl), (Nat.le_of_ble_eq_true rfl)⟩ rfl hl.1 rfl (Nat.le_of_ble_eq_true rfl) dX8_way_174 ⟨(by dsimp only [fR]; omega), (by dsimp only [fR]; omega)⟩) hw (fun H locs hw => ?_)
                                refine lv_if_ne (tgt := 183) hx hb dX8_way_177 (by decide) (fun c_7 => ?_) (fun c_7 => ?_)
                                · have c_7 := bI_nf.mp c_7
                                  have hst : kf oo = 0 := of_decide_eq_true c_7
                                  have hnn := bf_lt hI hoo hfr1
                                  refine lv_aload_n hx hb dX8_way_183 rfl (lv_at hl 9 rfl) ?_
                                  refine lv_iload hx hb dX8_way_184 (lv_at hl 0 rfl) ?_
                                  refine lv_aload_n hx hb dX8_way_186 rfl (lv_at hl 9 rfl) ?_
                                  refine lv_iload hx hb dX8_way_187 (lv_at hl 5 rfl) ?_
                                  refine f_iald X hw hA1 (vp_in_nI (n := cc) (by omega) (by omega)) dX8_way_189 ?_
                                  rw [nI_clamp (n := cc) (by omega)]
                                  refine lv_iconst (v := 1) hx hb dX8_way_190 (by decide) ?_
                                  refine lv_iadd hx hb dX8_way_191 ?_
                                  refine f_iast X hw hA1 (vp_in_nI (n := oo) (by omega) (by omega)) dX8_way_192 (fun H locs hw => ?_)
                                  rw [nI_clamp (n := oo) (by omega)] at hw
                                  have hw : fw g ad (fU M 3405 (.inl (gI g, 140, .inl (upd fr oo ((fr cc) + 1))))) s H locs := hw
                                  have hS0 : (fU M 3405 (.inl (gI g, 140, .inl (upd fr oo ((fr cc) + 1))))) 3000 = some (.inr (9, [.int (tM U), .ref (ad 3001), .ref (ad 3002), .ref (ad 3003)])) := (fU_n (by omega)).trans hS0
                                  have hSh : (fU M 3405 (.inl (gI g, 140, .inl (upd fr oo ((fr cc) + 1))))) 3001 = some (.inl (gY g, tHn U, .inr (.inr (.inr (.inr fHh))))) := (fU_n (by omega)).trans hSh
                                  have hSe : (fU M 3405 (.inl (gI g, 140, .inl (upd fr oo ((fr cc) + 1))))) 3002 = some (.inl (gW g, tEn U, .inr (.inr (.inr (.inr fEe))))) := (fU_n (by omega)).trans hSe
                                  have hSp : (fU M 3405 (.inl (gI g, 140, .inl (upd fr oo ((fr cc) + 1))))) 3003 = some (.inl (gQ g, tPn U, .inr (.inr (.inr (.inr fPp))))) := (fU_n (by omega)).trans hSp
                                  have hA2 : (fU M 3405 (.inl (gI g, 140, .inl (upd fr oo ((fr cc) + 1))))) 3406 = some (.inl (gI g, 140, .inl ln)) := (fU_n (by omega)).trans hA2
                                  have hA3 : (fU M 3405 (.inl (gI g, 140, .inl (upd fr oo ((fr cc) + 1))))) 3407 = some (.inl (gI g, 4, .inl (nxA cc))) := (fU_n (by omega)).trans hA3
                                  have hA1 : (fU M 3405 (.inl (gI g, 140, .inl (upd fr oo ((fr cc) + 1))))) 3405 = some (.inl (gI g, 140, .inl (upd fr oo ((fr cc) + 1)))) := fU_s
                                  refine lv_aload hx hb dX8_way_193 (lv_at hl 8 rfl) ?_
                                  refine lv_iload hx hb dX8_way_195 (lv_at hl 7 rfl) ?_
                                  refine lv_iload hx hb dX8_way_197 (lv_at hl 0 rfl) ?_
                                  refine f_iast X hw hA2 (vp_in_nI (n := nn) (by omega) (by omega)) dX8_way_199 (fun H locs hw => ?_)
                                  rw [nI_clamp (n := nn) (by omega)] at hw
                                  have hw : fw g ad (fU (fU M 3405 (.inl (gI g, 140, .inl (upd fr oo ((fr cc) + 1))))) 3406 (.inl (gI g, 140, .inl (upd ln nn (nI oo))))) s H locs := hw
                                  have hS0 : (fU (fU M 3405 (.inl (gI g, 140, .inl (upd fr oo ((fr cc) + 1))))) 3406 (.inl (gI g, 140, .inl (upd ln nn (nI oo))))) 3000 = some (.inr (9, [.int (tM U), .ref (ad 3001), .ref (ad 3002), .ref (ad 3003)])) := (fU_n (by omega)).trans hS0
                                  have hSh : (fU (fU M 3405 (.inl (gI g, 140, .inl (upd fr oo ((fr cc) + 1))))) 3406 (.inl (gI g, 140, .inl (upd ln nn (nI oo))))) 3001 = some (.inl (gY g, tHn U, .inr (.inr (.inr (.inr fHh))))) := (fU_n (by omega)).trans hSh
                                  have hSe : (fU (fU M 3405 (.inl (gI g, 140, .inl (upd fr oo ((fr cc) + 1))))) 3406 (.inl (gI g, 140, .inl (upd ln nn (nI oo))))) 3002 = some (.inl (gW g, tEn U, .inr (.inr (.inr (.inr fEe))))) := (fU_n (by omega)).trans hSe
                                  have hSp : (fU (fU M 3405 (.inl (gI g, 140, .inl (upd fr oo ((fr cc) + 1))))) 3406 (.inl (gI g, 140, .inl (upd ln nn (nI oo))))) 3003 = some (.inl (gQ g, tPn U, .inr (.inr (.inr (.inr fPp))))) := (fU_n (by omega)).trans hSp
                                  have hA1 : (fU (fU M 3405 (.inl (gI g, 140, .inl (upd fr oo ((fr cc) + 1))))) 3406 (.inl (gI g, 140, .inl (upd ln nn (nI oo))))) 3405 = some (.inl (gI g, 140, .inl (upd fr oo ((fr cc) + 1)))) := (fU_n (by omega)).trans hA1
                                  have hA3 : (fU (fU M 3405 (.inl (gI g, 140, .inl (upd fr oo ((fr cc) + 1))))) 3406 (.inl (gI g, 140, .inl (upd ln nn (nI oo))))) 3407 = some (.inl (gI g, 4, .inl (nxA cc))) := (fU_n (by omega)).trans hA3
                                  have hA2 : (fU (fU M 3405 (.inl (gI g, 140, .inl (upd fr oo ((fr cc) + 1))))) 3406 (.inl (gI g, 140, .inl (upd ln nn (nI oo))))) 3406 = some (.inl (gI g, 140, .inl (upd ln nn (nI oo)))) := fU_s
                                  refine lv_iinc (v := nI (nn + 1)) (lv' := [(5, .int (nI (nn + 1))), (12, .int (nI oo)), (11, .int (nI i)), (10, .int (nI 4)), (9, .ref (ad 3407)), (8, .ref (ad 3407)), (7, .int (nI cc)), (6, .int (nI k)), (4, .ref (ad 3406)), (3, .ref (ad 3405)), (0, .ref (ad 3000)), (1, .int (nI a)), (2, .int (nI b))]) hx hb dX8_way_200 hl (k := 7) rfl (nI_1 nn) (by decide) rfl (fun ls hl => ?_)
                                  refine lv_iinc (v := nI (i + 1)) (lv' := [(11, .int (nI (i + 1))), (5, .int (nI (nn + 1))), (12, .int (nI oo)), (10, .int (nI 4)), (9, .ref (ad 3407)), (8, .ref (ad 3407)), (7, .int (nI cc)), (6, .int (nI k)), (4, .ref (ad 3406)), (3, .ref (ad 3405)), (0, .ref (ad 3000)), (1, .int (nI a)), (2, .int (nI b))]) hx hb dX8_way_203 hl (k := 2) rfl (nI_1 i) (by decide) rfl (fun ls hl => ?_)
                                  refine lv_goto (tgt := 137) hx hb dX8_way_206 (by decide) ?_
                                  exact ihx (i + 1) (by omega) (by omega) (nn + 1) _ _ _ (bf_push hI hkn (by omega) hcc ecc hoo eoo hst hfr1) (by omega) (by rw [upd_ne (by omega)]; exact ecc) (isSim_eq hS (fun l a b => ⟨rfl, (fU_n (by omega)).trans (fU_n (by omega))⟩)) hA1 hA2 hA3 (fReg_U (fReg_U hrA (by omega)) (by omega)) ls _ _ hw (lv_sub hl [0, 3, 4, 5, 6, 7, 1, 8, 9, 10, 11, 12] rfl)
                                · have c_7 := bI_f.mp c_7
                                  refine lv_goto (tgt := 203) hx hb dX8_way_180 (by decide) ?_
                                  refine lv_iinc (v := nI (i + 1)) (lv' := [(11, .int (nI (i + 1))), (12, .int (nI oo)), (10, .int (nI 4)), (9, .ref (ad 3407)), (8, .ref (ad 3407)), (7, .int (nI cc)), (6, .int (nI k)), (5, .int (nI nn)), (4, .ref (ad 3406)), (3, .ref (ad 3405)), (0, .ref (ad 3000)), (1, .int (nI a)), (2, .int (nI b))]) hx hb dX8_way_203 hl (k := 1) rfl (nI_1 i) (by decide) rfl (fun ls hl => ?_)
                                  refine lv_goto (tgt := 137) hx hb dX8_way_206 (by decide) ?_
                                  exact ihx (i + 1) (by omega) (by omega) nn M fr ln (bf_skip hI hkn hcc ecc (fun c hc ec hf => absurd (show kf oo = 0 by rw [nI_eq' (ec.symm.trans eoo).symm (by omega) (by omega)]; exact hf) (of_decide_eq_false c_7))) hkn ecc hS hA1 hA2 hA3 hrA ls _ _ hw (lv_sub hl [0, 2, 3, 4, 5, 6, 7, 8, 9, 10, 11, 12] rfl)
                    exact loop137 5 0 (by omega) (by omega) nn M fr ln hI (by omega) ecc hS hA1 hA2 hA3 hrA ls _ _ hw (lv_sub hl [0, 1, 2, 3, 4, 5, 6, 7, 8, 9, 10, 11] rfl)
                  refine lv_dup hx hb dX8_way_75 rfl ?_
                  refine lv_iconst (v := 1) hx hb dX8_way_76 (by decide) ?_
                  refine lv_iload hx hb dX8_way_77 (lv_at hl 0 rfl) ?_
                  refine lv_bipush (v := 14) hx hb dX8_way_79 (by decide) ?_
                  refine lv_irem hx hb dX8_way_81 (by decide) ?_
                  refine f_top (y := nI (cc % 14)) (pk_rem (a := cc) (d := 14) (by omega) (by omega) (by omega)) ?_
                  refine lv_if_ne (tgt := 89) hx hb dX8_way_82 (by decide) (fun c_8 => ?_) (fun c_8 => ?_)
                  · have c_8 := nI_neq' (a := (cc % 14)) (b := 0) c_8 (by omega) (by omega)
                    refine lv_iload hx hb dX8_way_89 (lv_at hl 0 rfl) ?_
                    refine lv_iconst (v := 1) hx hb dX8_way_91 (by decide) ?_
                    refine lv_isub hx hb dX8_way_92 ?_
                    refine f_iast X hw hA3 (by unfold vp_in; decide) dX8_way_93 (fun H locs hw => ?_)
                    rw [show (1 : Int32).toNatClampNeg = 1 from rfl] at hw
                    have hw : fw g ad (fU (fU M 3407 (.inl (gI g, 4, .inl (upd (fun _ => 0) 0 ((nI cc) - 14))))) 3407 (.inl (gI g, 4, .inl (upd (upd (fun _ => 0) 0 ((nI cc) - 14)) 1 ((nI cc) - 1))))) s H locs := hw
                    rw [fU_U] at hw
                    have hS0 : (fU M 3407 (.inl (gI g, 4, .inl (upd (upd (fun _ => 0) 0 ((nI cc) - 14)) 1 ((nI cc) - 1))))) 3000 = some (.inr (9, [.int (tM U), .ref (ad 3001), .ref (ad 3002), .ref (ad 3003)])) := ((fU_n (by omega)).trans (fU_n (by omega)).symm).trans hS0
                    have hSh : (fU M 3407 (.inl (gI g, 4, .inl (upd (upd (fun _ => 0) 0 ((nI cc) - 14)) 1 ((nI cc) - 1))))) 3001 = some (.inl (gY g, tHn U, .inr (.inr (.inr (.inr fHh))))) := ((fU_n (by omega)).trans (fU_n (by omega)).symm).trans hSh
                    have hSe : (fU M 3407 (.inl (gI g, 4, .inl (upd (upd (fun _ => 0) 0 ((nI cc) - 14)) 1 ((nI cc) - 1))))) 3002 = some (.inl (gW g, tEn U, .inr (.inr (.inr (.inr fEe))))) := ((fU_n (by omega)).trans (fU_n (by omega)).symm).trans hSe
                    have hSp : (fU M 3407 (.inl (gI g, 4, .inl (upd (upd (fun _ => 0) 0 ((nI cc) - 14)) 1 ((nI cc) - 1))))) 3003 = some (.inl (gQ g, tPn U, .inr (.inr (.inr (.inr fPp))))) := ((fU_n (by omega)).trans (fU_n (by omega)).symm).trans hSp
                    have hA1 : (fU M 3407 (.inl (gI g, 4, .inl (upd (upd (fun _ => 0) 0 ((nI cc) - 14)) 1 ((nI cc) - 1))))) 3405 = some (.inl (gI g, 140, .inl fr)) := ((fU_n (by omega)).trans (fU_n (by omega)).symm).trans hA1
                    have hA2 : (fU M 3407 (.inl (gI g, 4, .inl (upd (upd (fun _ => 0) 0 ((nI cc) - 14)) 1 ((nI cc) - 1))))) 3406 = some (.inl (gI g, 140, .inl ln)) := ((fU_n (by omega)).trans (fU_n (by omega)).symm).trans hA2
                    have hA3 : (fU M 3407 (.inl (gI g, 4, .inl (upd (upd (fun _ => 0) 0 ((nI cc) - 14)) 1 ((nI cc) - 1))))) 3407 = some (.inl (gI g, 4, .inl (upd (upd (fun _ => 0) 0 ((nI cc) - 14)) 1 ((nI cc) - 1)))) := fU_s
                    refine lv_dup hx hb dX8_way_94 rfl ?_
                    refine lv_iconst (v := 2) hx hb dX8_way_95 (by decide) ?_
                    refine lv_iload hx hb dX8_way_96 (lv_at hl 0 rfl) ?_
                    refine lv_bipush (v := 14) hx hb dX8_way_98 (by decide) ?_
                    refine lv_irem hx hb dX8_way_100 (by decide) ?_
                    refine f_top (y := nI (cc % 14)) (pk_rem (a := cc) (d := 14) (by omega) (by omega) (by omega)) ?_
                    refine lv_bipush (v := 13) hx hb dX8_way_101 (by decide) ?_
                    refine lv_icmp_ne (tgt := 110) hx hb dX8_way_103 (by decide) (fun c_9 => ?_) (fun c_9 => ?_)
                    · have c_9 := nI_neq' (a := (cc % 14)) (b := 13) c_9 (by omega) (by omega)
                      refine lv_iload hx hb dX8_way_110 (lv_at hl 0 rfl) ?_
                      refine lv_iconst (v := 1) hx hb dX8_way_112 (by decide) ?_
                      refine lv_iadd hx hb dX8_way_113 ?_
                      refine f_iast X hw hA3 (by unfold vp_in; decide) dX8_way_114 (fun H locs hw => ?_)
                      rw [show (2 : Int32).toNatClampNeg = 2 from rfl] at hw
                      have hw : fw g ad (fU (fU M 3407 (.inl (gI g, 4, .inl (upd (upd (fun _ => 0) 0 ((nI cc) - 14)) 1 ((nI cc) - 1))))) 3407 (.inl (gI g, 4, .inl (upd (upd (upd (fun _ => 0) 0 ((nI cc) - 14)) 1 ((nI cc) - 1)) 2 ((nI cc) + 1))))) s H locs := hw
                      rw [fU_U] at hw
                      have hS0 : (fU M 3407 (.inl (gI g, 4, .inl (upd (upd (upd (fun _ => 0) 0 ((nI cc) - 14)) 1 ((nI cc) - 1)) 2 ((nI cc) + 1))))) 3000 = some (.inr (9, [.int (tM U), .ref (ad 3001), .ref (ad 3002), .ref (ad 3003)])) := ((fU_n (by omega)).trans (fU_n (by omega)).symm).trans hS0
                      have hSh : (fU M 3407 (.inl (gI g, 4, .inl (upd (upd (upd (fun _ => 0) 0 ((nI cc) - 14)) 1 ((nI cc) - 1)) 2 ((nI cc) + 1))))) 3001 = some (.inl (gY g, tHn U, .inr (.inr (.inr (.inr fHh))))) := ((fU_n (by omega)).trans (fU_n (by omega)).symm).trans hSh
                      have hSe : (fU M 3407 (.inl (gI g, 4, .inl (upd (upd (upd (fun _ => 0) 0 ((nI cc) - 14)) 1 ((nI cc) - 1)) 2 ((nI cc) + 1))))) 3002 = some (.inl (gW g, tEn U, .inr (.inr (.inr (.inr fEe))))) := ((fU_n (by omega)).trans (fU_n (by omega)).symm).trans hSe
                      have hSp : (fU M 3407 (.inl (gI g, 4, .inl (upd (upd (upd (fun _ => 0) 0 ((nI cc) - 14)) 1 ((nI cc) - 1)) 2 ((nI cc) + 1))))) 3003 = some (.inl (gQ g, tPn U, .inr (.inr (.inr (.inr fPp))))) := ((fU_n (by omega)).trans (fU_n (by omega)).symm).trans hSp
                      have hA1 : (fU M 3407 (.inl (gI g, 4, .inl (upd (upd (upd (fun _ => 0) 0 ((nI cc) - 14)) 1 ((nI cc) - 1)) 2 ((nI cc) + 1))))) 3405 = some (.inl (gI g, 140, .inl fr)) := ((fU_n (by omega)).trans (fU_n (by omega)).symm).trans hA1
                      have hA2 : (fU M 3407 (.inl (gI g, 4, .inl (upd (upd (upd (fun _ => 0) 0 ((nI cc) - 14)) 1 ((nI cc) - 1)) 2 ((nI cc) + 1))))) 3406 = some (.inl (gI g, 140, .inl ln)) := ((fU_n (by omega)).trans (fU_n (by omega)).symm).trans hA2
                      have hA3 : (fU M 3407 (.inl (gI g, 4, .inl (upd (upd (upd (fun _ => 0) 0 ((nI cc) - 14)) 1 ((nI cc) - 1)) 2 ((nI cc) + 1))))) 3407 = some (.inl (gI g, 4, .inl (upd (upd (upd (fun _ => 0) 0 ((nI cc) - 14)) 1 ((nI cc) - 1)) 2 ((nI cc) + 1)))) := fU_s
                      refine lv_dup hx hb dX8_way_115 rfl ?_
                      refine lv_iconst (v := 3) hx hb dX8_way_116 (by decide) ?_
                      refine lv_iload hx hb dX8_way_117 (lv_at hl 0 rfl) ?_
                      refine lv_bipush (v := 14) hx hb dX8_way_119 (by decide) ?_
                      refine lv_iadd hx hb dX8_way_121 ?_
                      refine f_iast X hw hA3 (by unfold vp_in; decide) dX8_way_122 (fun H locs hw => ?_)
                      rw [show (3 : Int32).toNatClampNeg = 3 from rfl] at hw
                      have hw : fw g ad (fU (fU M 3407 (.inl (gI g, 4, .inl (upd (upd (upd (fun _ => 0) 0 ((nI cc) - 14)) 1 ((nI cc) - 1)) 2 ((nI cc) + 1))))) 3407 (.inl (gI g, 4, .inl (upd (upd (upd (upd (fun _ => 0) 0 ((nI cc) - 14)) 1 ((nI cc) - 1)) 2 ((nI cc) + 1)) 3 ((nI cc) + 14))))) s H locs := hw
                      rw [fU_U] at hw
                      have hS0 : (fU M 3407 (.inl (gI g, 4, .inl (upd (upd (upd (upd (fun _ => 0) 0 ((nI cc) - 14)) 1 ((nI cc) - 1)) 2 ((nI cc) + 1)) 3 ((nI cc) + 14))))) 3000 = some (.inr (9, [.int (tM U), .ref (ad 3001), .ref (ad 3002), .ref (ad 3003)])) := ((fU_n (by omega)).trans (fU_n (by omega)).symm).trans hS0
                      have hSh : (fU M 3407 (.inl (gI g, 4, .inl (upd (upd (upd (upd (fun _ => 0) 0 ((nI cc) - 14)) 1 ((nI cc) - 1)) 2 ((nI cc) + 1)) 3 ((nI cc) + 14))))) 3001 = some (.inl (gY g, tHn U, .inr (.inr (.inr (.inr fHh))))) := ((fU_n (by omega)).trans (fU_n (by omega)).symm).trans hSh
                      have hSe : (fU M 3407 (.inl (gI g, 4, .inl (upd (upd (upd (upd (fun _ => 0) 0 ((nI cc) - 14)) 1 ((nI cc) - 1)) 2 ((nI cc) + 1)) 3 ((nI cc) + 14))))) 3002 = some (.inl (gW g, tEn U, .inr (.inr (.inr (.inr fEe))))) := ((fU_n (by omega)).trans (fU_n (by omega)).symm).trans hSe
                      have hSp : (fU M 3407 (.inl (gI g, 4, .inl (upd (upd (upd (upd (fun _ => 0) 0 ((nI cc) - 14)) 1 ((nI cc) - 1)) 2 ((nI cc) + 1)) 3 ((nI cc) + 14))))) 3003 = some (.inl (gQ g, tPn U, .inr (.inr (.inr (.inr fPp))))) := ((fU_n (by omega)).trans (fU_n (by omega)).symm).trans hSp
                      have hA1 : (fU M 3407 (.inl (gI g, 4, .inl (upd (upd (upd (upd (fun _ => 0) 0 ((nI cc) - 14)) 1 ((nI cc) - 1)) 2 ((nI cc) + 1)) 3 ((nI cc) + 14))))) 3405 = some (.inl (gI g, 140, .inl fr)) := ((fU_n (by omega)).trans (fU_n (by omega)).symm).trans hA1
                      have hA2 : (fU M 3407 (.inl (gI g, 4, .inl (upd (upd (upd (upd (fun _ => 0) 0 ((nI cc) - 14)) 1 ((nI cc) - 1)) 2 ((nI cc) + 1)) 3 ((nI cc) + 14))))) 3406 = some (.inl (gI g, 140, .inl ln)) := ((fU_n (by omega)).trans (fU_n (by omega)).symm).trans hA2
                      have hA3 : (fU M 3407 (.inl (gI g, 4, .inl (upd (upd (upd (upd (fun _ => 0) 0 ((nI cc) - 14)) 1 ((nI cc) - 1)) 2 ((nI cc) + 1)) 3 ((nI cc) + 14))))) 3407 = some (.inl (gI g, 4, .inl (upd (upd (upd (upd (fun _ => 0) 0 ((nI cc) - 14)) 1 ((nI cc) - 1)) 2 ((nI cc) + 1)) 3 ((nI cc) + 14)))) := fU_s
                      refine lv_astore (lv' := [(8, .ref (ad 3407)), (7, .int (nI cc)), (6, .int (nI k)), (5, .int (nI nn)), (4, .ref (ad 3406)), (3, .ref (ad 3405)), (0, .ref (ad 3000)), (1, .int (nI a)), (2, .int (nI b))]) hx hb dX8_way_123 hl (by decide) rfl (fun ls hl => ?_)
                      have eN : upd (upd (upd (upd (fun _ => 0) 0 ((nI cc) - 14)) 1 ((nI cc) - 1)) 2 ((nI cc) + 1)) 3 ((nI cc) + 14) = nxA cc := by unfold nxA; rw [if_neg c_8, if_neg c_9]
                      have hA9 : (fU M 3407 (.inl (gI g, 4, .inl (upd (upd (upd (upd (fun _ => 0) 0 ((nI cc) - 14)) 1 ((nI cc) - 1)) 2 ((nI cc) + 1)) 3 ((nI cc) + 14))))) 3407 = some (.inl (gI g, 4, .inl (nxA cc))) := by rw [← eN]; exact hA3
                      exact rest125 _ (isSim_eq hS (fun l a b => ⟨rfl, fU_n (by omega)⟩)) hA1 hA2 hA9 (fReg_U hrA (by omega)) ls _ _ hw (lv_sub hl [0, 1, 2, 3, 4, 5, 6, 7, 8] rfl)
                    · have c_9 := nI_eq' (a := (cc % 14)) (b := 13) c_9 (by omega) (by omega)
                      refine lv_iconst (v := (-1)) hx hb dX8_way_106 (by decide) ?_
                      refine lv_goto (tgt := 114) hx hb dX8_way_107 (by decide) ?_
                      refine f_iast X hw hA3 (by unfold vp_in; decide) dX8_way_114 (fun H locs hw => ?_)
                      rw [show (2 : Int32).toNatClampNeg = 2 from rfl] at hw
                      have hw : fw g ad (fU (fU M 3407 (.inl (gI g, 4, .inl (upd (upd (fun _ => 0) 0 ((nI cc) - 14)) 1 ((nI cc) - 1))))) 3407 (.inl (gI g, 4, .inl (upd (upd (upd (fun _ => 0) 0 ((nI cc) - 14)) 1 ((nI cc) - 1)) 2 (-1))))) s H locs := hw
                      rw [fU_U] at hw
                      have hS0 : (fU M 3407 (.inl (gI g, 4, .inl (upd (upd (upd (fun _ => 0) 0 ((nI cc) - 14)) 1 ((nI cc) - 1)) 2 (-1))))) 3000 = some (.inr (9, [.int (tM U), .ref (ad 3001), .ref (ad 3002), .ref (ad 3003)])) := ((fU_n (by omega)).trans (fU_n (by omega)).symm).trans hS0
                      have hSh : (fU M 3407 (.inl (gI g, 4, .inl (upd (upd (upd (fun _ => 0) 0 ((nI cc) - 14)) 1 ((nI cc) - 1)) 2 (-1))))) 3001 = some (.inl (gY g, tHn U, .inr (.inr (.inr (.inr fHh))))) := ((fU_n (by omega)).trans (fU_n (by omega)).symm).trans hSh
                      have hSe : (fU M 3407 (.inl (gI g, 4, .inl (upd (upd (upd (fun _ => 0) 0 ((nI cc) - 14)) 1 ((nI cc) - 1)) 2 (-1))))) 3002 = some (.inl (gW g, tEn U, .inr (.inr (.inr (.inr fEe))))) := ((fU_n (by omega)).trans (fU_n (by omega)).symm).trans hSe
                      have hSp : (fU M 3407 (.inl (gI g, 4, .inl (upd (upd (upd (fun _ => 0) 0 ((nI cc) - 14)) 1 ((nI cc) - 1)) 2 (-1))))) 3003 = some (.inl (gQ g, tPn U, .inr (.inr (.inr (.inr fPp))))) := ((fU_n (by omega)).trans (fU_n (by omega)).symm).trans hSp
                      have hA1 : (fU M 3407 (.inl (gI g, 4, .inl (upd (upd (upd (fun _ => 0) 0 ((nI cc) - 14)) 1 ((nI cc) - 1)) 2 (-1))))) 3405 = some (.inl (gI g, 140, .inl fr)) := ((fU_n (by omega)).trans (fU_n (by omega)).symm).trans hA1
                      have hA2 : (fU M 3407 (.inl (gI g, 4, .inl (upd (upd (upd (fun _ => 0) 0 ((nI cc) - 14)) 1 ((nI cc) - 1)) 2 (-1))))) 3406 = some (.inl (gI g, 140, .inl ln)) := ((fU_n (by omega)).trans (fU_n (by omega)).symm).trans hA2
                      have hA3 : (fU M 3407 (.inl (gI g, 4, .inl (upd (upd (upd (fun _ => 0) 0 ((nI cc) - 14)) 1 ((nI cc) - 1)) 2 (-1))))) 3407 = some (.inl (gI g, 4, .inl (upd (upd (upd (fun _ => 0) 0 ((nI cc) - 14)) 1 ((nI cc) - 1)) 2 (-1)))) := fU_s
                      refine lv_dup hx hb dX8_way_115 rfl ?_
                      refine lv_iconst (v := 3) hx hb dX8_way_116 (by decide) ?_
                      refine lv_iload hx hb dX8_way_117 (lv_at hl 0 rfl) ?_
                      refine lv_bipush (v := 14) hx hb dX8_way_119 (by decide) ?_
                      refine lv_iadd hx hb dX8_way_121 ?_
                      refine f_iast X hw hA3 (by unfold vp_in; decide) dX8_way_122 (fun H locs hw => ?_)
                      rw [show (3 : Int32).toNatClampNeg = 3 from rfl] at hw
                      have hw : fw g ad (fU (fU M 3407 (.inl (gI g, 4, .inl (upd (upd (upd (fun _ => 0) 0 ((nI cc) - 14)) 1 ((nI cc) - 1)) 2 (-1))))) 3407 (.inl (gI g, 4, .inl (upd (upd (upd (upd (fun _ => 0) 0 ((nI cc) - 14)) 1 ((nI cc) - 1)) 2 (-1)) 3 ((nI cc) + 14))))) s H locs := hw
                      rw [fU_U] at hw
                      have hS0 : (fU M 3407 (.inl (gI g, 4, .inl (upd (upd (upd (upd (fun _ => 0) 0 ((nI cc) - 14)) 1 ((nI cc) - 1)) 2 (-1)) 3 ((nI cc) + 14))))) 3000 = some (.inr (9, [.int (tM U), .ref (ad 3001), .ref (ad 3002), .ref (ad 3003)])) := ((fU_n (by omega)).trans (fU_n (by omega)).symm).trans hS0
                      have hSh : (fU M 3407 (.inl (gI g, 4, .inl (upd (upd (upd (upd (fun _ => 0) 0 ((nI cc) - 14)) 1 ((nI cc) - 1)) 2 (-1)) 3 ((nI cc) + 14))))) 3001 = some (.inl (gY g, tHn U, .inr (.inr (.inr (.inr fHh))))) := ((fU_n (by omega)).trans (fU_n (by omega)).symm).trans hSh
                      have hSe : (fU M 3407 (.inl (gI g, 4, .inl (upd (upd (upd (upd (fun _ => 0) 0 ((nI cc) - 14)) 1 ((nI cc) - 1)) 2 (-1)) 3 ((nI cc) + 14))))) 3002 = some (.inl (gW g, tEn U, .inr (.inr (.inr (.inr fEe))))) := ((fU_n (by omega)).trans (fU_n (by omega)).symm).trans hSe
                      have hSp : (fU M 3407 (.inl (gI g, 4, .inl (upd (upd (upd (upd (fun _ => 0) 0 ((nI cc) - 14)) 1 ((nI cc) - 1)) 2 (-1)) 3 ((nI cc) + 14))))) 3003 = some (.inl (gQ g, tPn U, .inr (.inr (.inr (.inr fPp))))) := ((fU_n (by omega)).trans (fU_n (by omega)).symm).trans hSp
                      have hA1 : (fU M 3407 (.inl (gI g, 4, .inl (upd (upd (upd (upd (fun _ => 0) 0 ((nI cc) - 14)) 1 ((nI cc) - 1)) 2 (-1)) 3 ((nI cc) + 14))))) 3405 = some (.inl (gI g, 140, .inl fr)) := ((fU_n (by omega)).trans (fU_n (by omega)).symm).trans hA1
                      have hA2 : (fU M 3407 (.inl (gI g, 4, .inl (upd (upd (upd (upd (fun _ => 0) 0 ((nI cc) - 14)) 1 ((nI cc) - 1)) 2 (-1)) 3 ((nI cc) + 14))))) 3406 = some (.inl (gI g, 140, .inl ln)) := ((fU_n (by omega)).trans (fU_n (by omega)).symm).trans hA2
                      have hA3 : (fU M 3407 (.inl (gI g, 4, .inl (upd (upd (upd (upd (fun _ => 0) 0 ((nI cc) - 14)) 1 ((nI cc) - 1)) 2 (-1)) 3 ((nI cc) + 14))))) 3407 = some (.inl (gI g, 4, .inl (upd (upd (upd (upd (fun _ => 0) 0 ((nI cc) - 14)) 1 ((nI cc) - 1)) 2 (-1)) 3 ((nI cc) + 14)))) := fU_s
                      refine lv_astore (lv' := [(8, .ref (ad 3407)), (7, .int (nI cc)), (6, .int (nI k)), (5, .int (nI nn)), (4, .ref (ad 3406)), (3, .ref (ad 3405)), (0, .ref (ad 3000)), (1, .int (nI a)), (2, .int (nI b))]) hx hb dX8_way_123 hl (by decide) rfl (fun ls hl => ?_)
                      have eN : upd (upd (upd (upd (fun _ => 0) 0 ((nI cc) - 14)) 1 ((nI cc) - 1)) 2 (-1)) 3 ((nI cc) + 14) = nxA cc := by unfold nxA; rw [if_neg c_8, if_pos c_9]
                      have hA9 : (fU M 3407 (.inl (gI g, 4, .inl (upd (upd (upd (upd (fun _ => 0) 0 ((nI cc) - 14)) 1 ((nI cc) - 1)) 2 (-1)) 3 ((nI cc) + 14))))) 3407 = some (.inl (gI g, 4, .inl (nxA cc))) := by rw [← eN]; exact hA3
                      exact rest125 _ (isSim_eq hS (fun l a b => ⟨rfl, fU_n (by omega)⟩)) hA1 hA2 hA9 (fReg_U hrA (by omega)) ls _ _ hw (lv_sub hl [0, 1, 2, 3, 4, 5, 6, 7, 8] rfl)
                  · have c_8 := nI_eq' (a := (cc % 14)) (b := 0) c_8 (by omega) (by omega)
                    refine lv_iconst (v := (-1)) hx hb dX8_way_85 (by decide) ?_
                    refine lv_goto (tgt := 93) hx hb dX8_way_86 (by decide) ?_
                    refine f_iast X hw hA3 (by unfold vp_in; decide) dX8_way_93 (fun H locs hw => ?_)
                    rw [show (1 : Int32).toNatClampNeg = 1 from rfl] at hw
                    have hw : fw g ad (fU (fU M 3407 (.inl (gI g, 4, .inl (upd (fun _ => 0) 0 ((nI cc) - 14))))) 3407 (.inl (gI g, 4, .inl (upd (upd (fun _ => 0) 0 ((nI cc) - 14)) 1 (-1))))) s H locs := hw
                    rw [fU_U] at hw
                    have hS0 : (fU M 3407 (.inl (gI g, 4, .inl (upd (upd (fun _ => 0) 0 ((nI cc) - 14)) 1 (-1))))) 3000 = some (.inr (9, [.int (tM U), .ref (ad 3001), .ref (ad 3002), .ref (ad 3003)])) := ((fU_n (by omega)).trans (fU_n (by omega)).symm).trans hS0
                    have hSh : (fU M 3407 (.inl (gI g, 4, .inl (upd (upd (fun _ => 0) 0 ((nI cc) - 14)) 1 (-1))))) 3001 = some (.inl (gY g, tHn U, .inr (.inr (.inr (.inr fHh))))) := ((fU_n (by omega)).trans (fU_n (by omega)).symm).trans hSh
                    have hSe : (fU M 3407 (.inl (gI g, 4, .inl (upd (upd (fun _ => 0) 0 ((nI cc) - 14)) 1 (-1))))) 3002 = some (.inl (gW g, tEn U, .inr (.inr (.inr (.inr fEe))))) := ((fU_n (by omega)).trans (fU_n (by omega)).symm).trans hSe
                    have hSp : (fU M 3407 (.inl (gI g, 4, .inl (upd (upd (fun _ => 0) 0 ((nI cc) - 14)) 1 (-1))))) 3003 = some (.inl (gQ g, tPn U, .inr (.inr (.inr (.inr fPp))))) := ((fU_n (by omega)).trans (fU_n (by omega)).symm).trans hSp
                    have hA1 : (fU M 3407 (.inl (gI g, 4, .inl (upd (upd (fun _ => 0) 0 ((nI cc) - 14)) 1 (-1))))) 3405 = some (.inl (gI g, 140, .inl fr)) := ((fU_n (by omega)).trans (fU_n (by omega)).symm).trans hA1
                    have hA2 : (fU M 3407 (.inl (gI g, 4, .inl (upd (upd (fun _ => 0) 0 ((nI cc) - 14)) 1 (-1))))) 3406 = some (.inl (gI g, 140, .inl ln)) := ((fU_n (by omega)).trans (fU_n (by omega)).symm).trans hA2
                    have hA3 : (fU M 3407 (.inl (gI g, 4, .inl (upd (upd (fun _ => 0) 0 ((nI cc) - 14)) 1 (-1))))) 3407 = some (.inl (gI g, 4, .inl (upd (upd (fun _ => 0) 0 ((nI cc) - 14)) 1 (-1)))) := fU_s
                    refine lv_dup hx hb dX8_way_94 rfl ?_
                    refine lv_iconst (v := 2) hx hb dX8_way_95 (by decide) ?_
                    refine lv_iload hx hb dX8_way_96 (lv_at hl 0 rfl) ?_
                    refine lv_bipush (v := 14) hx hb dX8_way_98 (by decide) ?_
                    refine lv_irem hx hb dX8_way_100 (by decide) ?_
                    refine f_top (y := nI (cc % 14)) (pk_rem (a := cc) (d := 14) (by omega) (by omega) (by omega)) ?_
                    refine lv_bipush (v := 13) hx hb dX8_way_101 (by decide) ?_
                    refine lv_icmp_ne (tgt := 110) hx hb dX8_way_103 (by decide) (fun c_10 => ?_) (fun c_10 => ?_)
                    · have c_10 := nI_neq' (a := (cc % 14)) (b := 13) c_10 (by omega) (by omega)
                      refine lv_iload hx hb dX8_way_110 (lv_at hl 0 rfl) ?_
                      refine lv_iconst (v := 1) hx hb dX8_way_112 (by decide) ?_
                      refine lv_iadd hx hb dX8_way_113 ?_
                      refine f_iast X hw hA3 (by unfold vp_in; decide) dX8_way_114 (fun H locs hw => ?_)
                      rw [show (2 : Int32).toNatClampNeg = 2 from rfl] at hw
                      have hw : fw g ad (fU (fU M 3407 (.inl (gI g, 4, .inl (upd (upd (fun _ => 0) 0 ((nI cc) - 14)) 1 (-1))))) 3407 (.inl (gI g, 4, .inl (upd (upd (upd (fun _ => 0) 0 ((nI cc) - 14)) 1 (-1)) 2 ((nI cc) + 1))))) s H locs := hw
                      rw [fU_U] at hw
                      have hS0 : (fU M 3407 (.inl (gI g, 4, .inl (upd (upd (upd (fun _ => 0) 0 ((nI cc) - 14)) 1 (-1)) 2 ((nI cc) + 1))))) 3000 = some (.inr (9, [.int (tM U), .ref (ad 3001), .ref (ad 3002), .ref (ad 3003)])) := ((fU_n (by omega)).trans (fU_n (by omega)).symm).trans hS0
                      have hSh : (fU M 3407 (.inl (gI g, 4, .inl (upd (upd (upd (fun _ => 0) 0 ((nI cc) - 14)) 1 (-1)) 2 ((nI cc) + 1))))) 3001 = some (.inl (gY g, tHn U, .inr (.inr (.inr (.inr fHh))))) := ((fU_n (by omega)).trans (fU_n (by omega)).symm).trans hSh
                      have hSe : (fU M 3407 (.inl (gI g, 4, .inl (upd (upd (upd (fun _ => 0) 0 ((nI cc) - 14)) 1 (-1)) 2 ((nI cc) + 1))))) 3002 = some (.inl (gW g, tEn U, .inr (.inr (.inr (.inr fEe))))) := ((fU_n (by omega)).trans (fU_n (by omega)).symm).trans hSe
                      have hSp : (fU M 3407 (.inl (gI g, 4, .inl (upd (upd (upd (fun _ => 0) 0 ((nI cc) - 14)) 1 (-1)) 2 ((nI cc) + 1))))) 3003 = some (.inl (gQ g, tPn U, .inr (.inr (.inr (.inr fPp))))) := ((fU_n (by omega)).trans (fU_n (by omega)).symm).trans hSp
                      have hA1 : (fU M 3407 (.inl (gI g, 4, .inl (upd (upd (upd (fun _ => 0) 0 ((nI cc) - 14)) 1 (-1)) 2 ((nI cc) + 1))))) 3405 = some (.inl (gI g, 140, .inl fr)) := ((fU_n (by omega)).trans (fU_n (by omega)).symm).trans hA1
                      have hA2 : (fU M 3407 (.inl (gI g, 4, .inl (upd (upd (upd (fun _ => 0) 0 ((nI cc) - 14)) 1 (-1)) 2 ((nI cc) + 1))))) 3406 = some (.inl (gI g, 140, .inl ln)) := ((fU_n (by omega)).trans (fU_n (by omega)).symm).trans hA2
                      have hA3 : (fU M 3407 (.inl (gI g, 4, .inl (upd (upd (upd (fun _ => 0) 0 ((nI cc) - 14)) 1 (-1)) 2 ((nI cc) + 1))))) 3407 = some (.inl (gI g, 4, .inl (upd (upd (upd (fun _ => 0) 0 ((nI cc) - 14)) 1 (-1)) 2 ((nI cc) + 1)))) := fU_s
                      refine lv_dup hx hb dX8_way_115 rfl ?_
                      refine lv_iconst (v := 3) hx hb dX8_way_116 (by decide) ?_
                      refine lv_iload hx hb dX8_way_117 (lv_at hl 0 rfl) ?_
                      refine lv_bipush (v := 14) hx hb dX8_way_119 (by decide) ?_
                      refine lv_iadd hx hb dX8_way_121 ?_
                      refine f_iast X hw hA3 (by unfold vp_in; decide) dX8_way_122 (fun H locs hw => ?_)
                      rw [show (3 : Int32).toNatClampNeg = 3 from rfl] at hw
                      have hw : fw g ad (fU (fU M 3407 (.inl (gI g, 4, .inl (upd (upd (upd (fun _ => 0) 0 ((nI cc) - 14)) 1 (-1)) 2 ((nI cc) + 1))))) 3407 (.inl (gI g, 4, .inl (upd (upd (upd (upd (fun _ => 0) 0 ((nI cc) - 14)) 1 (-1)) 2 ((nI cc) + 1)) 3 ((nI cc) + 14))))) s H locs := hw
                      rw [fU_U] at hw
                      have hS0 : (fU M 3407 (.inl (gI g, 4, .inl (upd (upd (upd (upd (fun _ => 0) 0 ((nI cc) - 14)) 1 (-1)) 2 ((nI cc) + 1)) 3 ((nI cc) + 14))))) 3000 = some (.inr (9, [.int (tM U), .ref (ad 3001), .ref (ad 3002), .ref (ad 3003)])) := ((fU_n (by omega)).trans (fU_n (by omega)).symm).trans hS0
                      have hSh : (fU M 3407 (.inl (gI g, 4, .inl (upd (upd (upd (upd (fun _ => 0) 0 ((nI cc) - 14)) 1 (-1)) 2 ((nI cc) + 1)) 3 ((nI cc) + 14))))) 3001 = some (.inl (gY g, tHn U, .inr (.inr (.inr (.inr fHh))))) := ((fU_n (by omega)).trans (fU_n (by omega)).symm).trans hSh
                      have hSe : (fU M 3407 (.inl (gI g, 4, .inl (upd (upd (upd (upd (fun _ => 0) 0 ((nI cc) - 14)) 1 (-1)) 2 ((nI cc) + 1)) 3 ((nI cc) + 14))))) 3002 = some (.inl (gW g, tEn U, .inr (.inr (.inr (.inr fEe))))) := ((fU_n (by omega)).trans (fU_n (by omega)).symm).trans hSe
                      have hSp : (fU M 3407 (.inl (gI g, 4, .inl (upd (upd (upd (upd (fun _ => 0) 0 ((nI cc) - 14)) 1 (-1)) 2 ((nI cc) + 1)) 3 ((nI cc) + 14))))) 3003 = some (.inl (gQ g, tPn U, .inr (.inr (.inr (.inr fPp))))) := ((fU_n (by omega)).trans (fU_n (by omega)).symm).trans hSp
                      have hA1 : (fU M 3407 (.inl (gI g, 4, .inl (upd (upd (upd (upd (fun _ => 0) 0 ((nI cc) - 14)) 1 (-1)) 2 ((nI cc) + 1)) 3 ((nI cc) + 14))))) 3405 = some (.inl (gI g, 140, .inl fr)) := ((fU_n (by omega)).trans (fU_n (by omega)).symm).trans hA1
                      have hA2 : (fU M 3407 (.inl (gI g, 4, .inl (upd (upd (upd (upd (fun _ => 0) 0 ((nI cc) - 14)) 1 (-1)) 2 ((nI cc) + 1)) 3 ((nI cc) + 14))))) 3406 = some (.inl (gI g, 140, .inl ln)) := ((fU_n (by omega)).trans (fU_n (by omega)).symm).trans hA2
                      have hA3 : (fU M 3407 (.inl (gI g, 4, .inl (upd (upd (upd (upd (fun _ => 0) 0 ((nI cc) - 14)) 1 (-1)) 2 ((nI cc) + 1)) 3 ((nI cc) + 14))))) 3407 = some (.inl (gI g, 4, .inl (upd (upd (upd (upd (fun _ => 0) 0 ((nI cc) - 14)) 1 (-1)) 2 ((nI cc) + 1)) 3 ((nI cc) + 14)))) := fU_s
                      refine lv_astore (lv' := [(8, .ref (ad 3407)), (7, .int (nI cc)), (6, .int (nI k)), (5, .int (nI nn)), (4, .ref (ad 3406)), (3, .ref (ad 3405)), (0, .ref (ad 3000)), (1, .int (nI a)), (2, .int (nI b))]) hx hb dX8_way_123 hl (by decide) rfl (fun ls hl => ?_)
                      have eN : upd (upd (upd (upd (fun _ => 0) 0 ((nI cc) - 14)) 1 (-1)) 2 ((nI cc) + 1)) 3 ((nI cc) + 14) = nxA cc := by unfold nxA; rw [if_pos c_8, if_neg c_10]
                      have hA9 : (fU M 3407 (.inl (gI g, 4, .inl (upd (upd (upd (upd (fun _ => 0) 0 ((nI cc) - 14)) 1 (-1)) 2 ((nI cc) + 1)) 3 ((nI cc) + 14))))) 3407 = some (.inl (gI g, 4, .inl (nxA cc))) := by rw [← eN]; exact hA3
                      exact rest125 _ (isSim_eq hS (fun l a b => ⟨rfl, fU_n (by omega)⟩)) hA1 hA2 hA9 (fReg_U hrA (by omega)) ls _ _ hw (lv_sub hl [0, 1, 2, 3, 4, 5, 6, 7, 8] rfl)
                    · have c_10 := nI_eq' (a := (cc % 14)) (b := 13) c_10 (by omega) (by omega)
                      refine lv_iconst (v := (-1)) hx hb dX8_way_106 (by decide) ?_
                      refine lv_goto (tgt := 114) hx hb dX8_way_107 (by decide) ?_
                      refine f_iast X hw hA3 (by unfold vp_in; decide) dX8_way_114 (fun H locs hw => ?_)
                      rw [show (2 : Int32).toNatClampNeg = 2 from rfl] at hw
                      have hw : fw g ad (fU (fU M 3407 (.inl (gI g, 4, .inl (upd (upd (fun _ => 0) 0 ((nI cc) - 14)) 1 (-1))))) 3407 (.inl (gI g, 4, .inl (upd (upd (upd (fun _ => 0) 0 ((nI cc) - 14)) 1 (-1)) 2 (-1))))) s H locs := hw
                      rw [fU_U] at hw
                      have hS0 : (fU M 3407 (.inl (gI g, 4, .inl (upd (upd (upd (fun _ => 0) 0 ((nI cc) - 14)) 1 (-1)) 2 (-1))))) 3000 = some (.inr (9, [.int (tM U), .ref (ad 3001), .ref (ad 3002), .ref (ad 3003)])) := ((fU_n (by omega)).trans (fU_n (by omega)).symm).trans hS0
                      have hSh : (fU M 3407 (.inl (gI g, 4, .inl (upd (upd (upd (fun _ => 0) 0 ((nI cc) - 14)) 1 (-1)) 2 (-1))))) 3001 = some (.inl (gY g, tHn U, .inr (.inr (.inr (.inr fHh))))) := ((fU_n (by omega)).trans (fU_n (by omega)).symm).trans hSh
                      have hSe : (fU M 3407 (.inl (gI g, 4, .inl (upd (upd (upd (fun _ => 0) 0 ((nI cc) - 14)) 1 (-1)) 2 (-1))))) 3002 = some (.inl (gW g, tEn U, .inr (.inr (.inr (.inr fEe))))) := ((fU_n (by omega)).trans (fU_n (by omega)).symm).trans hSe
                      have hSp : (fU M 3407 (.inl (gI g, 4, .inl (upd (upd (upd (fun _ => 0) 0 ((nI cc) - 14)) 1 (-1)) 2 (-1))))) 3003 = some (.inl (gQ g, tPn U, .inr (.inr (.inr (.inr fPp))))) := ((fU_n (by omega)).trans (fU_n (by omega)).symm).trans hSp
                      have hA1 : (fU M 3407 (.inl (gI g, 4, .inl (upd (upd (upd (fun _ => 0) 0 ((nI cc) - 14)) 1 (-1)) 2 (-1))))) 3405 = some (.inl (gI g, 140, .inl fr)) := ((fU_n (by omega)).trans (fU_n (by omega)).symm).trans hA1
                      have hA2 : (fU M 3407 (.inl (gI g, 4, .inl (upd (upd (upd (fun _ => 0) 0 ((nI cc) - 14)) 1 (-1)) 2 (-1))))) 3406 = some (.inl (gI g, 140, .inl ln)) := ((fU_n (by omega)).trans (fU_n (by omega)).symm).trans hA2
                      have hA3 : (fU M 3407 (.inl (gI g, 4, .inl (upd (upd (upd (fun _ => 0) 0 ((nI cc) - 14)) 1 (-1)) 2 (-1))))) 3407 = some (.inl (gI g, 4, .inl (upd (upd (upd (fun _ => 0) 0 ((nI cc) - 14)) 1 (-1)) 2 (-1)))) := fU_s
                      refine lv_dup hx hb dX8_way_115 rfl ?_
                      refine lv_iconst (v := 3) hx hb dX8_way_116 (by decide) ?_
                      refine lv_iload hx hb dX8_way_117 (lv_at hl 0 rfl) ?_
                      refine lv_bipush (v := 14) hx hb dX8_way_119 (by decide) ?_
                      refine lv_iadd hx hb dX8_way_121 ?_
                      refine f_iast X hw hA3 (by unfold vp_in; decide) dX8_way_122 (fun H locs hw => ?_)
                      rw [show (3 : Int32).toNatClampNeg = 3 from rfl] at hw
                      have hw : fw g ad (fU (fU M 3407 (.inl (gI g, 4, .inl (upd (upd (upd (fun _ => 0) 0 ((nI cc) - 14)) 1 (-1)) 2 (-1))))) 3407 (.inl (gI g, 4, .inl (upd (upd (upd (upd (fun _ => 0) 0 ((nI cc) - 14)) 1 (-1)) 2 (-1)) 3 ((nI cc) + 14))))) s H locs := hw
                      rw [fU_U] at hw
                      have hS0 : (fU M 3407 (.inl (gI g, 4, .inl (upd (upd (upd (upd (fun _ => 0) 0 ((nI cc) - 14)) 1 (-1)) 2 (-1)) 3 ((nI cc) + 14))))) 3000 = some (.inr (9, [.int (tM U), .ref (ad 3001), .ref (ad 3002), .ref (ad 3003)])) := ((fU_n (by omega)).trans (fU_n (by omega)).symm).trans hS0
                      have hSh : (fU M 3407 (.inl (gI g, 4, .inl (upd (upd (upd (upd (fun _ => 0) 0 ((nI cc) - 14)) 1 (-1)) 2 (-1)) 3 ((nI cc) + 14))))) 3001 = some (.inl (gY g, tHn U, .inr (.inr (.inr (.inr fHh))))) := ((fU_n (by omega)).trans (fU_n (by omega)).symm).trans hSh
                      have hSe : (fU M 3407 (.inl (gI g, 4, .inl (upd (upd (upd (upd (fun _ => 0) 0 ((nI cc) - 14)) 1 (-1)) 2 (-1)) 3 ((nI cc) + 14))))) 3002 = some (.inl (gW g, tEn U, .inr (.inr (.inr (.inr fEe))))) := ((fU_n (by omega)).trans (fU_n (by omega)).symm).trans hSe
                      have hSp : (fU M 3407 (.inl (gI g, 4, .inl (upd (upd (upd (upd (fun _ => 0) 0 ((nI cc) - 14)) 1 (-1)) 2 (-1)) 3 ((nI cc) + 14))))) 3003 = some (.inl (gQ g, tPn U, .inr (.inr (.inr (.inr fPp))))) := ((fU_n (by omega)).trans (fU_n (by omega)).symm).trans hSp
                      have hA1 : (fU M 3407 (.inl (gI g, 4, .inl (upd (upd (upd (upd (fun _ => 0) 0 ((nI cc) - 14)) 1 (-1)) 2 (-1)) 3 ((nI cc) + 14))))) 3405 = some (.inl (gI g, 140, .inl fr)) := ((fU_n (by omega)).trans (fU_n (by omega)).symm).trans hA1
                      have hA2 : (fU M 3407 (.inl (gI g, 4, .inl (upd (upd (upd (upd (fun _ => 0) 0 ((nI cc) - 14)) 1 (-1)) 2 (-1)) 3 ((nI cc) + 14))))) 3406 = some (.inl (gI g, 140, .inl ln)) := ((fU_n (by omega)).trans (fU_n (by omega)).symm).trans hA2
                      have hA3 : (fU M 3407 (.inl (gI g, 4, .inl (upd (upd (upd (upd (fun _ => 0) 0 ((nI cc) - 14)) 1 (-1)) 2 (-1)) 3 ((nI cc) + 14))))) 3407 = some (.inl (gI g, 4, .inl (upd (upd (upd (upd (fun _ => 0) 0 ((nI cc) - 14)) 1 (-1)) 2 (-1)) 3 ((nI cc) + 14)))) := fU_s
                      refine lv_astore (lv' := [(8, .ref (ad 3407)), (7, .int (nI cc)), (6, .int (nI k)), (5, .int (nI nn)), (4, .ref (ad 3406)), (3, .ref (ad 3405)), (0, .ref (ad 3000)), (1, .int (nI a)), (2, .int (nI b))]) hx hb dX8_way_123 hl (by decide) rfl (fun ls hl => ?_)
                      have eN : upd (upd (upd (upd (fun _ => 0) 0 ((nI cc) - 14)) 1 (-1)) 2 (-1)) 3 ((nI cc) + 14) = nxA cc := by unfold nxA; rw [if_pos c_8, if_pos c_10]
                      have hA9 : (fU M 3407 (.inl (gI g, 4, .inl (upd (upd (upd (upd (fun _ => 0) 0 ((nI cc) - 14)) 1 (-1)) 2 (-1)) 3 ((nI cc) + 14))))) 3407 = some (.inl (gI g, 4, .inl (nxA cc))) := by rw [← eN]; exact hA3
                      exact rest125 _ (isSim_eq hS (fun l a b => ⟨rfl, fU_n (by omega)⟩)) hA1 hA2 hA9 (fReg_U hrA (by omega)) ls _ _ hw (lv_sub hl [0, 1, 2, 3, 4, 5, 6, 7, 8] rfl)
                refine f_newI X hw 3407 (by omega) wq49 (N' := 4) (by decide) (by rfl) (by decide) (by dsimp only [fR]; omega) (by dsimp only [fR]; omega) dX8_way_65 (fun q3 H hw => ?_)
                have hS5 : isSim g (fV ad 3407 q3) (fU M 3407 (.inl (gI g, 4, .inl (fun _ => 0)))) U := isSim_eq hS (fun l a b => ⟨fV_n (by omega), fU_n (by omega)⟩)
                have e30 : fV ad 3407 q3 3000 = ad 3000 := fV_n (by omega)
                have e35 : fV ad 3407 q3 3405 = ad 3405 := fV_n (by omega)
                have e36 : fV ad 3407 q3 3406 = ad 3406 := fV_n (by omega)
                have eq3 : fV ad 3407 q3 3407 = q3 := fV_s
                rw [← e30, ← e35, ← e36] at hl
                have hfin := rest67 (fV ad 3407 q3) _ hS5 ((fU_n (by omega)).trans hA1) ((fU_n (by omega)).trans hA2) fU_s (fReg_V hrA (by omega)) ls _ _ hw (lv_sub hl [0, 1, 2, 3, 4, 5, 6, 7] rfl)
                rw [eq3] at hfin
                exact hfin
          have hI0 := bf_0 (kf := kf) (f2 := fun _ => 0) haa hka (fun j hj => hfr j (by omega))
          exact loop50 141 0 (by omega) 1 ad _ _ _ hI0 (isSim_eq hS (fun l a b => ⟨rfl, (fU_n (by omega)).trans (fU_n (by omega))⟩)) hA1 hA2 (fReg_U (fReg_U hrA (by omega)) (by omega)) ls _ _ hw (lv_sub hl [0, 1, 2, 3, 4, 5, 6] rfl)
        · have c_1 := nI_nle' (a := 140) (b := k) c_1 (by omega) (by omega)
          refine lv_aload_n hx hb dX8_way_24 rfl (lv_at hl 2 rfl) ?_
          refine lv_iload hx hb dX8_way_25 (lv_at hl 0 rfl) ?_
          refine lv_iconst (v := (-1)) hx hb dX8_way_27 (by decide) ?_
          refine f_iast X hw hA1 (vp_in_nI (n := k) (by omega) (by omega)) dX8_way_28 (fun H locs hw => ?_)
          rw [nI_clamp (n := k) (by omega)] at hw
          have hw : fw g ad (fU M 3405 (.inl (gI g, 140, .inl (upd fr k (-1))))) s H locs := hw
          have hS0 : (fU M 3405 (.inl (gI g, 140, .inl (upd fr k (-1))))) 3000 = some (.inr (9, [.int (tM U), .ref (ad 3001), .ref (ad 3002), .ref (ad 3003)])) := (fU_n (by omega)).trans hS0
          have hSh : (fU M 3405 (.inl (gI g, 140, .inl (upd fr k (-1))))) 3001 = some (.inl (gY g, tHn U, .inr (.inr (.inr (.inr fHh))))) := (fU_n (by omega)).trans hSh
          have hSe : (fU M 3405 (.inl (gI g, 140, .inl (upd fr k (-1))))) 3002 = some (.inl (gW g, tEn U, .inr (.inr (.inr (.inr fEe))))) := (fU_n (by omega)).trans hSe
          have hSp : (fU M 3405 (.inl (gI g, 140, .inl (upd fr k (-1))))) 3003 = some (.inl (gQ g, tPn U, .inr (.inr (.inr (.inr fPp))))) := (fU_n (by omega)).trans hSp
          have hA2 : (fU M 3405 (.inl (gI g, 140, .inl (upd fr k (-1))))) 3406 = some (.inl (gI g, 140, .inl (fun _ => 0))) := (fU_n (by omega)).trans hA2
          have hA1 : (fU M 3405 (.inl (gI g, 140, .inl (upd fr k (-1))))) 3405 = some (.inl (gI g, 140, .inl (upd fr k (-1)))) := fU_s
          refine lv_iinc (v := nI (k + 1)) (lv' := [(5, .int (nI (k + 1))), (4, .ref (ad 3406)), (3, .ref (ad 3405)), (0, .ref (ad 3000)), (1, .int (nI a)), (2, .int (nI b))]) hx hb dX8_way_29 hl (k := 0) rfl (nI_1 k) (by decide) rfl (fun ls hl => ?_)
          refine lv_goto (tgt := 16) hx hb dX8_way_32 (by decide) ?_
          exact ih (k + 1) (by omega) (by omega) _ _ (fun j hj => (Decidable.em (j = k)).elim (fun e => by rw [e, upd_at]) (fun e => by rw [upd_ne e]; exact hfr j (by omega))) (isSim_eq hS (fun l a b => ⟨rfl, fU_n (by omega)⟩)) hA1 hA2 (fReg_U hrA (by omega)) ls _ _ hw (lv_sub hl [0, 1, 2, 3, 4, 5] rfl)
    exact loop16 141 0 (by omega) (by omega) M _ (fun j h => absurd h (Nat.not_lt_zero _)) hS hA1 hA2 hrA ls _ _ hw (lv_sub hl [0, 1, 2, 3, 4, 5] rfl)
  have e30 : ad2 3000 = ad 3000 := ((eA2 3000 (by omega)).trans (eA1 3000 (by omega)))
  rw [← e30, ← ((eA2 3405 (by omega)).trans eq1), ← eq2] at hl
  have hS3 : isSim g ad2 Mn2 U := isSim_eq hS (fun l a b => ⟨(eA2 l (by omega)).trans (eA1 l (by omega)), (eM2 l (by omega)).trans (eM1 l (by omega))⟩)
  exact rest13 ad2 Mn2 hS3 eS1 eS2 (fun l a b => by rw [hado, hMo]; exact ⟨(eA2 l (by omega)).trans (eA1 l (by omega)), (eM2 l (by omega)).trans (eM1 l (by omega))⟩) ls _ _ hw (lv_sub hl [0, 1, 2, 3, 4] rfl)
