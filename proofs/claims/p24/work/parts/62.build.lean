/-! L.build: the town that cells choose, built in both -/
theorem cell_nI {a b c d : Nat} : nI a + nI b + 14 * (nI c + nI d) = nI (a + b + 14 * (c + d)) := by rw [nI_add, nI_add, xy_nI]
theorem freeB_0 {kf : Nat → Int32} {T : fTn} {cc : Nat} (h0 : tEn T = 0) (hc : cc < 140) (hk : kf cc = 0) : freeB kf T (nI cc) = true := by
  unfold freeB kSt
  rw [kOf_nI hc, hk, h0]; rfl
theorem nwH_eq {c w z : Int32} : nwH c w z = newH c w z := by
  funext k
  show upd (upd (upd f0 0 c) 1 w) 2 z k = upd (upd (upd (upd f0 0 c) 1 w) 2 z) 3 0 k
  by_cases q : k = 3
  · rw [q]; rfl
  · rw [upd_ne q]
theorem sim_new {U T : fTn} {c w z : Int32} (s : simT U T) : simT (addE U (nwE c w z)) (addE T (newE c w z)) := by
  obtain ⟨⟨n0, n1, n2, n3⟩, sP, sH, sE0⟩ := s
  refine ⟨⟨n0, n1, n2, by show tEn U + 1 = tEn T + 1; rw [n3]⟩, sP, sH, fun j (hj : j < tEn T + 1) => ?_⟩
  show eSim (if j = tEn U then nwE c w z else tE U j) (if j = tEn T then newE c w z else tE T j) ∧ (if j = tEn U then nwE c w z else tE U j) 9 = (if j = tEn T then newE c w z else tE T j) 9
  rw [n3]
  by_cases q : j = tEn T
  · rw [if_pos q, if_pos q]
    refine ⟨⟨fun k hk => ?_, rfl, fun h => absurd rfl h⟩, rfl⟩
    rcases (show k = 0 ∨ k = 1 ∨ k = 2 ∨ k = 3 ∨ k = 4 ∨ k = 5 by omega) with rfl | rfl | rfl | rfl | rfl | rfl <;> rfl
  · rw [if_neg q, if_neg q]; exact sE0 j (by omega)
theorem iT0 : okT f0 T0 := ⟨fun h hh => absurd hh (Nat.not_lt_zero _), fun h hh => absurd hh (Nat.not_lt_zero _), fun h hh => absurd hh (Nat.not_lt_zero _), fun h hh => absurd hh (Nat.not_lt_zero _), ⟨fun _ => 0, fun h hh => absurd hh (Nat.not_lt_zero _)⟩, Nat.zero_le _, Nat.zero_le _, Nat.zero_le _⟩
theorem iG0 : gOk f0 f0 T0 := ⟨fun h hh => absurd hh (Nat.not_lt_zero _), fun h hh => absurd hh (Nat.not_lt_zero _), fun c hc => Or.inl rfl⟩
theorem iS0 : simT T0 T0 := ⟨⟨rfl, rfl, rfl, rfl⟩, fun h hh => absurd hh (Nat.not_lt_zero _), fun h hh => absurd hh (Nat.not_lt_zero _), fun h hh => absurd hh (Nat.not_lt_zero _)⟩
theorem iL0 : okL T0 := ⟨fun h hh => absurd hh (Nat.not_lt_zero _), fun h hh => absurd hh (Nat.not_lt_zero _), fun h hh => absurd hh (Nat.not_lt_zero _), fun h hh => absurd hh (Nat.not_lt_zero _), fun h i hh => absurd hh (Nat.not_lt_zero _)⟩
/-- while it is built: nothing was looked ahead -/
def LB (g : fG) (ad : Nat → Nat) (M : fM) (T U : fTn) (kf nf : Nat → Int32) : Prop := isC g ad M T T0 kf nf f0 ∧ isSim g ad M U ∧ simT U T ∧ okT kf T ∧ gOk kf nf T ∧ okL T ∧ tM T = 0
abbrev fLb (g : fG) (ad : Nat → Nat) (M : fM) : Nat → (Nat → Nat) → fM → Prop := fun r ad1 M1 => r = ad1 3000 ∧ (∃ (T : fTn) (kf nf : Nat → Int32), LW g ad1 M1 T kf nf ∧ 0 < tHn T ∧ tM T = 0) ∧ fReg 0 3420 ad M ad1 M1 ∧ ad1 0 = ad 0
set_option maxHeartbeats 4000000 in
set_option maxRecDepth 100000 in
theorem c_build (l : Launch) (g : fG) (ad : Nat → Nat) (M : fM) (hXn : gXn g ≤ 260) (hC : isC g ad M T0 T0 f0 f0 f0) : fCr l g yL_build cL_build 13 ((some (.object "FireEnginesLaw$Sim"))) 10 290 110 2200 ad M [.ref (ad 0), .ref (gXb g)] (fLb g ad M) := by
  refine f_body (own := RL) (by decide +kernel) rfl (Nat.le_of_ble_eq_true rfl) ?_
  intro p e s m args below meth c ls X hw hin hl
  have hx := X.1
  have hb := X.2.1
  have hl : lv_has ls 13 [(0, .ref (ad 0)), (1, .ref (gXb g))] := hl
  obtain ⟨ado, hado⟩ : ∃ z, z = ad := ⟨_, rfl⟩
  obtain ⟨Mo, hMo⟩ : ∃ z, z = M := ⟨_, rfl⟩
  obtain ⟨Q9, hQ9⟩ : ∃ z, z = MQ below (fQr g (fLb g ad M)) args s 110 2200 (fA g) := ⟨_, rfl⟩
  show W p l e (fR 10 290 110 2200) s m args below meth c _ _ 0 0 (MQ below (fQr g (fLb g ad M)) args s 110 2200 (fA g)) (F0 m 0 ls [])
  rw [← hQ9]
  refine f_new X hw 3000 (by omega) fc9 wq609 wq610 wq7 (fs := [.int 0, .null, .null, .null]) (by intro j hj; rcases (show j = 0 ∨ j = 1 ∨ j = 2 ∨ j = 3 by omega) with rfl | rfl | rfl | rfl <;> rfl) (by dsimp only [fR]; omega) (by dsimp only [fR]; omega) dL_build_0 (fun q1 H hw => ?_)
  obtain ⟨ad1, ea1⟩ : ∃ z, z = fV ad 3000 q1 := ⟨_, rfl⟩
  have eq1 : ad1 3000 = q1 := by rw [ea1]; exact fV_s
  have eA1 : ∀ l, l ≠ 3000 → ad1 l = ad l := fun l h => by rw [ea1]; exact fV_n h
  rw [← ea1] at hw
  obtain ⟨Mn1, em1⟩ : ∃ z, z = fU M 3000 (.inr (9, [.int 0, .null, .null, .null])) := ⟨_, rfl⟩
  have eM1 : ∀ l, l ≠ 3000 → Mn1 l = M l := fun l h => by rw [em1]; exact fU_n h
  have eS1 : Mn1 3000 = some (.inr (9, [.int 0, .null, .null, .null])) := by rw [em1]; exact fU_s
  rw [← em1] at hw
  refine f_adr (ad := ad1) (lb := 3000) eq1 ?_
  refine lv_dup hx hb dL_build_3 rfl ?_
  have rest7 : ∀ (ad : Nat → Nat) (M : fM) (hB : LB g ad M T0 T0 f0 f0) (hrA : fReg 0 3420 ado Mo ad M) (h0 : ad 0 = ado 0) (ls : Array Slot) (H : Heap) (locs : List Loc), fw g ad M s H locs → lv_has ls 13 [(0, .ref (ad 0)), (1, .ref (gXb g))] → W p l e (fR 10 290 110 2200) s m args below meth c H locs (0 + 1 + 3) (0 + 4 + 0) Q9 (F0 m 7 ls [.ref (ad 3000)]) := by
    intro ad M hB hrA h0 ls H locs hw hl
    refine lv_astore_n (lv' := [(2, .ref (ad 3000)), (0, .ref (ad 0)), (1, .ref (gXb g))]) hx hb dL_build_7 rfl hl (by decide) rfl (fun ls hl => ?_)
    refine lv_iconst (v := 3) hx hb dL_build_8 (by decide) ?_
    refine lv_aload_n hx hb dL_build_9 rfl (lv_at hl 2 rfl) ?_
    refine lv_iconst (v := 0) hx hb dL_build_10 (by decide) ?_
    refine fk_di (fcS X hw (c_cell l g ad M hXn (k := 0) (by omega)) wq602 kSL_cell ⟨(Nat.le_of_ble_eq_true rfl), (Nat.le_of_ble_eq_true rfl)⟩ rfl hl.1 rfl (Nat.le_of_ble_eq_true rfl) dL_build_11 ⟨(by dsimp only [fR]; omega), (by dsimp only [fR]; omega)⟩) hw (fun H locs hw => ?_)
    refine lv_bipush (v := 14) hx hb dL_build_14 (by decide) ?_
    refine fk_di (fcS X hw (c_below l g ad M (lCell g 0) (N := 14) (by omega) (by omega)) wq637 kSL_below ⟨(Nat.le_of_ble_eq_true rfl), (Nat.le_of_ble_eq_true rfl)⟩ rfl hl.1 rfl (Nat.le_of_ble_eq_true rfl) dL_build_16 ⟨(by dsimp only [fR]; omega), (by dsimp only [fR]; omega)⟩) hw (fun H locs hw => ?_)
    have hb16 : lBel (lCell g 0) 14 < 14 := lBel_lt (by omega)
    obtain ⟨n0, en0⟩ : ∃ z, z = lBel (lCell g 0) 14 := ⟨_, rfl⟩
    rw [← en0] at hb16
    refine f_top (y := nI n0) (by rw [en0]) ?_
    refine lv_iadd hx hb dL_build_19 ?_
    obtain ⟨nH, enH⟩ : ∃ z, z = n0 + 3 := ⟨_, rfl⟩
    refine f_top (y := nI nH) (by rw [enH]; exact ((nI_add 3 n0).trans (by rw [Nat.add_comm]))) ?_
    refine lv_istore_n (lv' := [(3, .int (nI nH)), (2, .ref (ad 3000)), (0, .ref (ad 0)), (1, .ref (gXb g))]) hx hb dL_build_20 rfl hl (by decide) rfl (fun ls hl => ?_)
    refine lv_aload_n hx hb dL_build_21 rfl (lv_at hl 3 rfl) ?_
    refine lv_iconst (v := 0) hx hb dL_build_22 (by decide) ?_
    refine fk_di (fcS X hw (c_cell l g ad M hXn (k := 0) (by omega)) wq602 kSL_cell ⟨(Nat.le_of_ble_eq_true rfl), (Nat.le_of_ble_eq_true rfl)⟩ rfl hl.1 rfl (Nat.le_of_ble_eq_true rfl) dL_build_23 ⟨(by dsimp only [fR]; omega), (by dsimp only [fR]; omega)⟩) hw (fun H locs hw => ?_)
    refine lv_iconst (v := 4) hx hb dL_build_26 (by decide) ?_
    refine lv_ishr hx hb dL_build_27 ?_
    refine lv_bipush (v := 8) hx hb dL_build_28 (by decide) ?_
    refine fk_di (fcS X hw (c_below l g ad M ((lCell g 0) >>> (4 &&& 31)) (N := 8) (by omega) (by omega)) wq637 kSL_below ⟨(Nat.le_of_ble_eq_true rfl), (Nat.le_of_ble_eq_true rfl)⟩ rfl hl.1 rfl (Nat.le_of_ble_eq_true rfl) dL_build_30 ⟨(by dsimp only [fR]; omega), (by dsimp only [fR]; omega)⟩) hw (fun H locs hw => ?_)
    have hb30 : lBel ((lCell g 0) >>> (4 &&& 31)) 8 < 8 := lBel_lt (by omega)
    obtain ⟨bc, ebc⟩ : ∃ z, z = lBel ((lCell g 0) >>> (4 &&& 31)) 8 := ⟨_, rfl⟩
    rw [← ebc] at hb30
    refine f_top (y := nI bc) (by rw [ebc]) ?_
    refine lv_istore (lv' := [(4, .int (nI bc)), (3, .int (nI nH)), (2, .ref (ad 3000)), (0, .ref (ad 0)), (1, .ref (gXb g))]) hx hb dL_build_33 hl (by decide) rfl (fun ls hl => ?_)
    refine lv_aload_n hx hb dL_build_35 rfl (lv_at hl 4 rfl) ?_
    refine lv_iconst (v := 0) hx hb dL_build_36 (by decide) ?_
    refine fk_di (fcS X hw (c_cell l g ad M hXn (k := 0) (by omega)) wq602 kSL_cell ⟨(Nat.le_of_ble_eq_true rfl), (Nat.le_of_ble_eq_true rfl)⟩ rfl hl.1 rfl (Nat.le_of_ble_eq_true rfl) dL_build_37 ⟨(by dsimp only [fR]; omega), (by dsimp only [fR]; omega)⟩) hw (fun H locs hw => ?_)
    refine lv_bipush (v := 7) hx hb dL_build_40 (by decide) ?_
    refine lv_ishr hx hb dL_build_42 ?_
    refine lv_iconst (v := 5) hx hb dL_build_43 (by decide) ?_
    refine fk_di (fcS X hw (c_below l g ad M ((lCell g 0) >>> (7 &&& 31)) (N := 5) (by omega) (by omega)) wq637 kSL_below ⟨(Nat.le_of_ble_eq_true rfl), (Nat.le_of_ble_eq_true rfl)⟩ rfl hl.1 rfl (Nat.le_of_ble_eq_true rfl) dL_build_44 ⟨(by dsimp only [fR]; omega), (by dsimp only [fR]; omega)⟩) hw (fun H locs hw => ?_)
    have hb44 : lBel ((lCell g 0) >>> (7 &&& 31)) 5 < 5 := lBel_lt (by omega)
    obtain ⟨br, ebr⟩ : ∃ z, z = lBel ((lCell g 0) >>> (7 &&& 31)) 5 := ⟨_, rfl⟩
    rw [← ebr] at hb44
    refine f_top (y := nI br) (by rw [ebr]) ?_
    refine lv_istore (lv' := [(5, .int (nI br)), (4, .int (nI bc)), (3, .int (nI nH)), (2, .ref (ad 3000)), (0, .ref (ad 0)), (1, .ref (gXb g))]) hx hb dL_build_47 hl (by decide) rfl (fun ls hl => ?_)
    refine lv_iconst (v := 0) hx hb dL_build_49 (by decide) ?_
    refine lv_istore (lv' := [(6, .int 0), (5, .int (nI br)), (4, .int (nI bc)), (3, .int (nI nH)), (2, .ref (ad 3000)), (0, .ref (ad 0)), (1, .ref (gXb g))]) hx hb dL_build_50 hl (by decide) rfl (fun ls hl => ?_)
    have loop52 : ∀ (n k : Nat), k ≤ nH → nH < k + n → ∀ (ad : Nat → Nat) (M : fM) (T U : fTn) (kf nf : Nat → Int32) (hB : LB g ad M T U kf nf) (hc : tHn T ≤ k ∧ (0 < k → 0 < tHn T) ∧ tPn T = 0 ∧ tEn T = 0) (hrA : fReg 0 3420 ado Mo ad M) (h0 : ad 0 = ado 0) (ls : Array Slot) (H : Heap) (locs : List Loc), fw g ad M s H locs → lv_has ls 13 [(6, .int (nI k)), (5, .int (nI br)), (4, .int (nI bc)), (3, .int (nI nH)), (2, .ref (ad 3000)), (1, .ref (gXb g)), (0, .ref (ad 0))] → W p l e (fR 10 290 110 2200) s m args below meth c H locs (4 + 4 * k) (4 + 90 * k) Q9 (F0 m 52 ls []) := by
      intro n
      induction n with
      | zero => intro k h1 h2; omega
      | succ n ih =>
        intro k hk_ hn_ ad M T U kf nf hB hc hrA h0 ls H locs hw hl
        obtain ⟨hC, hS, hs, ho, hg, hl9, hm0⟩ := id hB
        have hF : M 0 = some (.inr (6, [.ref (ad 1), .ref (ad 1000), .ref (ad 2000)])) := hC.1
        obtain ⟨hS0, ⟨fHh, hSh, hSH⟩, ⟨fEe, hSe, hSE⟩, ⟨fPp, hSp, hSP⟩, hHs, hEs, hPs, hn1, hn3, hn2⟩ := id hS
        obtain ⟨e0U, e1U, e2U, e3U⟩ := id hs.1
        obtain ⟨d1, d2, d3, d4⟩ := id hc
        refine lv_iload hx hb dL_build_52 (lv_at hl 0 rfl) ?_
        refine lv_iload_n hx hb dL_build_54 rfl (lv_at hl 3 rfl) ?_
        refine lv_icmp_ge (tgt := 188) hx hb dL_build_55 (by decide) (fun c_1 => ?_) (fun c_1 => ?_)
        · have c_1 := nI_le' (a := nH) (b := k) c_1 (by omega) (by omega)
          have hpos : 0 < tHn T := d2 (by omega)
          refine lv_iconst (v := 1) hx hb dL_build_188 (by decide) ?_
          refine lv_aload_n hx hb dL_build_189 rfl (lv_at hl 5 rfl) ?_
          refine lv_iconst (v := 4) hx hb dL_build_190 (by decide) ?_
          refine fk_di (fcS X hw (c_cell l g ad M hXn (k := 4) (by omega)) wq602 kSL_cell ⟨(Nat.le_of_ble_eq_true rfl), (Nat.le_of_ble_eq_true rfl)⟩ rfl hl.1 rfl (Nat.le_of_ble_eq_true rfl) dL_build_191 ⟨(by dsimp only [fR]; omega), (by dsimp only [fR]; omega)⟩) hw (fun H locs hw => ?_)
          refine lv_iconst (v := 3) hx hb dL_build_194 (by decide) ?_
          refine fk_di (fcS X hw (c_below l g ad M (lCell g 4) (N := 3) (by omega) (by omega)) wq637 kSL_below ⟨(Nat.le_of_ble_eq_true rfl), (Nat.le_of_ble_eq_true rfl)⟩ rfl hl.1 rfl (Nat.le_of_ble_eq_true rfl) dL_build_195 ⟨(by dsimp only [fR]; omega), (by dsimp only [fR]; omega)⟩) hw (fun H locs hw => ?_)
          have hb195 : lBel (lCell g 4) 3 < 3 := lBel_lt (by omega)
          obtain ⟨n1, en1⟩ : ∃ z, z = lBel (lCell g 4) 3 := ⟨_, rfl⟩
          rw [← en1] at hb195
          refine f_top (y := nI n1) (by rw [en1]) ?_
          refine lv_iadd hx hb dL_build_198 ?_
          obtain ⟨nP, enP⟩ : ∃ z, z = n1 + 1 := ⟨_, rfl⟩
          refine f_top (y := nI nP) (by rw [enP]; exact ((nI_add 1 n1).trans (by rw [Nat.add_comm]))) ?_
          refine lv_istore (lv' := [(6, .int (nI nP)), (5, .int (nI br)), (4, .int (nI bc)), (3, .int (nI nH)), (2, .ref (ad 3000)), (1, .ref (gXb g)), (0, .ref (ad 0))]) hx hb dL_build_199 hl (by decide) rfl (fun ls hl => ?_)
          refine lv_iconst (v := 0) hx hb dL_build_201 (by decide) ?_
          refine lv_istore (lv' := [(7, .int 0), (6, .int (nI nP)), (5, .int (nI br)), (4, .int (nI bc)), (3, .int (nI nH)), (2, .ref (ad 3000)), (1, .ref (gXb g)), (0, .ref (ad 0))]) hx hb dL_build_202 hl (by decide) rfl (fun ls hl => ?_)
          have loop204 : ∀ (n k : Nat), k ≤ nP → nP < k + n → ∀ (ad : Nat → Nat) (M : fM) (T U : fTn) (kf nf : Nat → Int32) (hB : LB g ad M T U kf nf) (hc : 0 < tHn T ∧ tPn T ≤ k ∧ tEn T = 0) (hrA : fReg 0 3420 ado Mo ad M) (h0 : ad 0 = ado 0) (ls : Array Slot) (H : Heap) (locs : List Loc), fw g ad M s H locs → lv_has ls 13 [(7, .int (nI k)), (6, .int (nI nP)), (5, .int (nI br)), (4, .int (nI bc)), (2, .ref (ad 3000)), (1, .ref (gXb g)), (0, .ref (ad 0))] → W p l e (fR 10 290 110 2200) s m args below meth c H locs (68 + 4 * k) (1444 + 60 * k) Q9 (F0 m 204 ls []) := by
            intro n
            induction n with
            | zero => intro k h1 h2; omega
            | succ n ih =>
              intro k hk_ hn_ ad M T U kf nf hB hc hrA h0 ls H locs hw hl
              obtain ⟨hC, hS, hs, ho, hg, hl9, hm0⟩ := id hB
              have hF : M 0 = some (.inr (6, [.ref (ad 1), .ref (ad 1000), .ref (ad 2000)])) := hC.1
              obtain ⟨hS0, ⟨fHh, hSh, hSH⟩, ⟨fEe, hSe, hSE⟩, ⟨fPp, hSp, hSP⟩, hHs, hEs, hPs, hn1, hn3, hn2⟩ := id hS
              obtain ⟨e0U, e1U, e2U, e3U⟩ := id hs.1
              obtain ⟨d1, d2, d3⟩ := id hc
              refine lv_iload hx hb dL_build_204 (lv_at hl 0 rfl) ?_
              refine lv_iload hx hb dL_build_206 (lv_at hl 1 rfl) ?_
              refine lv_icmp_ge (tgt := 332) hx hb dL_build_208 (by decide) (fun c_2 => ?_) (fun c_2 => ?_)
              · have c_2 := nI_le' (a := nP) (b := k) c_2 (by omega) (by omega)
                refine lv_iconst (v := 1) hx hb dL_build_332 (by decide) ?_
                refine lv_aload_n hx hb dL_build_333 rfl (lv_at hl 5 rfl) ?_
                refine lv_bipush (v := 6) hx hb dL_build_334 (by decide) ?_
                refine fk_di (fcS X hw (c_cell l g ad M hXn (k := 6) (by omega)) wq602 kSL_cell ⟨(Nat.le_of_ble_eq_true rfl), (Nat.le_of_ble_eq_true rfl)⟩ rfl hl.1 rfl (Nat.le_of_ble_eq_true rfl) dL_build_336 ⟨(by dsimp only [fR]; omega), (by dsimp only [fR]; omega)⟩) hw (fun H locs hw => ?_)
                refine lv_bipush (v := 6) hx hb dL_build_339 (by decide) ?_
                refine fk_di (fcS X hw (c_below l g ad M (lCell g 6) (N := 6) (by omega) (by omega)) wq637 kSL_below ⟨(Nat.le_of_ble_eq_true rfl), (Nat.le_of_ble_eq_true rfl)⟩ rfl hl.1 rfl (Nat.le_of_ble_eq_true rfl) dL_build_341 ⟨(by dsimp only [fR]; omega), (by dsimp only [fR]; omega)⟩) hw (fun H locs hw => ?_)
                have hb341 : lBel (lCell g 6) 6 < 6 := lBel_lt (by omega)
                obtain ⟨n2, en2⟩ : ∃ z, z = lBel (lCell g 6) 6 := ⟨_, rfl⟩
                rw [← en2] at hb341
                refine f_top (y := nI n2) (by rw [en2]) ?_
                refine lv_iadd hx hb dL_build_344 ?_
                obtain ⟨nE, enE⟩ : ∃ z, z = n2 + 1 := ⟨_, rfl⟩
                refine f_top (y := nI nE) (by rw [enE]; exact ((nI_add 1 n2).trans (by rw [Nat.add_comm]))) ?_
                refine lv_istore (lv' := [(7, .int (nI nE)), (6, .int (nI nP)), (5, .int (nI br)), (4, .int (nI bc)), (2, .ref (ad 3000)), (1, .ref (gXb g)), (0, .ref (ad 0))]) hx hb dL_build_345 hl (by decide) rfl (fun ls hl => ?_)
                refine lv_iconst (v := 0) hx hb dL_build_347 (by decide) ?_
                refine lv_istore (lv' := [(8, .int 0), (7, .int (nI nE)), (6, .int (nI nP)), (5, .int (nI br)), (4, .int (nI bc)), (2, .ref (ad 3000)), (1, .ref (gXb g)), (0, .ref (ad 0))]) hx hb dL_build_348 hl (by decide) rfl (fun ls hl => ?_)
                have loop350 : ∀ (n k : Nat), k ≤ nE → nE < k + n → ∀ (ad : Nat → Nat) (M : fM) (T U : fTn) (kf nf : Nat → Int32) (hB : LB g ad M T U kf nf) (hc : 0 < tHn T ∧ tEn T ≤ k) (hrA : fReg 0 3420 ado Mo ad M) (h0 : ad 0 = ado 0) (ls : Array Slot) (H : Heap) (locs : List Loc), fw g ad M s H locs → lv_has ls 13 [(8, .int (nI k)), (7, .int (nI nE)), (5, .int (nI br)), (4, .int (nI bc)), (2, .ref (ad 3000)), (1, .ref (gXb g)), (0, .ref (ad 0))] → W p l e (fR 10 290 110 2200) s m args below meth c H locs (80 + 4 * k) (1624 + 80 * k) Q9 (F0 m 350 ls []) := by
                  intro n
                  induction n with
                  | zero => intro k h1 h2; omega
                  | succ n ih =>
                    intro k hk_ hn_ ad M T U kf nf hB hc hrA h0 ls H locs hw hl
                    obtain ⟨hC, hS, hs, ho, hg, hl9, hm0⟩ := id hB
                    have hF : M 0 = some (.inr (6, [.ref (ad 1), .ref (ad 1000), .ref (ad 2000)])) := hC.1
                    obtain ⟨hS0, ⟨fHh, hSh, hSH⟩, ⟨fEe, hSe, hSE⟩, ⟨fPp, hSp, hSP⟩, hHs, hEs, hPs, hn1, hn3, hn2⟩ := id hS
                    obtain ⟨e0U, e1U, e2U, e3U⟩ := id hs.1
                    obtain ⟨d1, d2⟩ := id hc
                    refine lv_iload hx hb dL_build_350 (lv_at hl 0 rfl) ?_
                    refine lv_iload hx hb dL_build_352 (lv_at hl 1 rfl) ?_
                    refine lv_icmp_ge (tgt := 509) hx hb dL_build_354 (by decide) (fun c_3 => ?_) (fun c_3 => ?_)
                    · have c_3 := nI_le' (a := nE) (b := k) c_3 (by omega) (by omega)
                      refine lv_iconst (v := 1) hx hb dL_build_509 (by decide) ?_
                      refine lv_aload_n hx hb dL_build_510 rfl (lv_at hl 5 rfl) ?_
                      refine lv_bipush (v := 9) hx hb dL_build_511 (by decide) ?_
                      refine fk_di (fcS X hw (c_cell l g ad M hXn (k := 9) (by omega)) wq602 kSL_cell ⟨(Nat.le_of_ble_eq_true rfl), (Nat.le_of_ble_eq_true rfl)⟩ rfl hl.1 rfl (Nat.le_of_ble_eq_true rfl) dL_build_513 ⟨(by dsimp only [fR]; omega), (by dsimp only [fR]; omega)⟩) hw (fun H locs hw => ?_)
                      refine lv_iconst (v := 3) hx hb dL_build_516 (by decide) ?_
                      refine fk_di (fcS X hw (c_below l g ad M (lCell g 9) (N := 3) (by omega) (by omega)) wq637 kSL_below ⟨(Nat.le_of_ble_eq_true rfl), (Nat.le_of_ble_eq_true rfl)⟩ rfl hl.1 rfl (Nat.le_of_ble_eq_true rfl) dL_build_517 ⟨(by dsimp only [fR]; omega), (by dsimp only [fR]; omega)⟩) hw (fun H locs hw => ?_)
                      have hb517 : lBel (lCell g 9) 3 < 3 := lBel_lt (by omega)
                      obtain ⟨n3, en3⟩ : ∃ z, z = lBel (lCell g 9) 3 := ⟨_, rfl⟩
                      rw [← en3] at hb517
                      refine f_top (y := nI n3) (by rw [en3]) ?_
                      refine lv_iadd hx hb dL_build_520 ?_
                      obtain ⟨nF, enF⟩ : ∃ z, z = n3 + 1 := ⟨_, rfl⟩
                      refine f_top (y := nI nF) (by rw [enF]; exact ((nI_add 1 n3).trans (by rw [Nat.add_comm]))) ?_
                      refine lv_istore (lv' := [(8, .int (nI nF)), (7, .int (nI nE)), (5, .int (nI br)), (4, .int (nI bc)), (2, .ref (ad 3000)), (1, .ref (gXb g)), (0, .ref (ad 0))]) hx hb dL_build_521 hl (by decide) rfl (fun ls hl => ?_)
                      refine lv_iconst (v := 0) hx hb dL_build_523 (by decide) ?_
                      refine lv_istore (lv' := [(9, .int 0), (8, .int (nI nF)), (7, .int (nI nE)), (5, .int (nI br)), (4, .int (nI bc)), (2, .ref (ad 3000)), (1, .ref (gXb g)), (0, .ref (ad 0))]) hx hb dL_build_524 hl (by decide) rfl (fun ls hl => ?_)
                      have hLW : LW g ad M T kf nf := ⟨U, T0, f0, hC, ⟨Nat.zero_le _, Nat.zero_le _, Nat.zero_le _⟩, hS, hs, ho, hg, hl9⟩
                      have loop526 : ∀ (n k : Nat), k ≤ nF → nF < k + n → ∀ (ad : Nat → Nat) (M : fM) (T : fTn) (hLW : LW g ad M T kf nf) (hH : 0 < tHn T) (hm0 : tM T = 0) (hrA : fReg 0 3420 ado Mo ad M) (h0 : ad 0 = ado 0) (ls : Array Slot) (H : Heap) (locs : List Loc), fw g ad M s H locs → lv_has ls 13 [(9, .int (nI k)), (8, .int (nI nF)), (2, .ref (ad 3000)), (1, .ref (gXb g)), (0, .ref (ad 0))] → W p l e (fR 10 290 110 2200) s m args below meth c H locs 104 2104 Q9 (F0 m 526 ls []) := by
                        intro n
                        induction n with
                        | zero => intro k h1 h2; omega
                        | succ n ih =>
                          intro k hk_ hn_ ad M T hLW hH hm0 hrA h0 ls H locs hw hl
                          refine lv_iload hx hb dL_build_526 (lv_at hl 0 rfl) ?_
                          refine lv_iload hx hb dL_build_528 (lv_at hl 1 rfl) ?_
                          refine lv_icmp_ge (tgt := 560) hx hb dL_build_530 (by decide) (fun c_4 => ?_) (fun c_4 => ?_)
                          · have c_4 := nI_le' (a := nF) (b := k) c_4 (by omega) (by omega)
                            refine lv_aload_n hx hb dL_build_560 rfl (lv_at hl 2 rfl) ?_
                            rw [hQ9, ← hado, ← hMo]
                            exact f_aret X rfl (Or.inl ⟨_, rfl⟩) hw ⟨rfl, ⟨T, kf, nf, hLW, hH, hm0⟩, hrA, h0⟩ (by omega) (by omega) dL_build_561
                          · have c_4 := nI_nle' (a := nF) (b := k) c_4 (by omega) (by omega)
                            refine lv_aload_n hx hb dL_build_533 rfl (lv_at hl 4 rfl) ?_
                            refine lv_aload_n hx hb dL_build_534 rfl (lv_at hl 2 rfl) ?_
                            refine lv_aload_n hx hb dL_build_535 rfl (lv_at hl 3 rfl) ?_
                            refine lv_bipush (v := 9) hx hb dL_build_536 (by decide) ?_
                            refine fk_di (fcS X hw (c_cell l g ad M hXn (k := 9) (by omega)) wq602 kSL_cell ⟨(Nat.le_of_ble_eq_true rfl), (Nat.le_of_ble_eq_true rfl)⟩ rfl hl.1 rfl (Nat.le_of_ble_eq_true rfl) dL_build_538 ⟨(by dsimp only [fR]; omega), (by dsimp only [fR]; omega)⟩) hw (fun H locs hw => ?_)
                            refine lv_iconst (v := 2) hx hb dL_build_541 (by decide) ?_
                            refine lv_iload hx hb dL_build_542 (lv_at hl 0 rfl) ?_
                            refine lv_imul hx hb dL_build_544 ?_
                            refine lv_ishr hx hb dL_build_545 ?_
                            refine fk_i (fcS X hw (c_light l g ad M hLW hH ((lCell g 9) >>> ((2 * (nI k)) &&& 31))) wq806 kSL_light ⟨(Nat.le_of_ble_eq_true rfl), (Nat.le_of_ble_eq_true rfl)⟩ rfl hl.1 rfl (Nat.le_of_ble_eq_true rfl) dL_build_546 ⟨(by dsimp only [fR]; omega), (by dsimp only [fR]; omega)⟩) hw (fun r ad1 M1 H locs hp hw => ?_)
                            obtain ⟨er, ⟨T2, hLW2, c2⟩, hr2, h02, h302⟩ := hp
                            rw [er]
                            refine lv_if_ne (tgt := 554) hx hb dL_build_549 (by decide) (fun c_5 => ?_) (fun c_5 => absurd c_5 (by decide))
                            refine lv_iinc (v := nI (k + 1)) (lv' := [(9, .int (nI (k + 1))), (8, .int (nI nF)), (2, .ref (ad 3000)), (1, .ref (gXb g)), (0, .ref (ad 0))]) hx hb dL_build_554 hl (k := 0) rfl (nI_1 k) (by decide) rfl (fun ls hl => ?_)
                            refine lv_goto (tgt := 526) hx hb dL_build_557 (by decide) ?_
                            rw [← h02, ← h302] at hl
                            exact ih (k + 1) (by omega) (by omega) ad1 M1 T2 hLW2 (by rw [c2.1]; exact hH) (c2.2.2.2.trans hm0) (fReg_tr hrA hr2) (h02.trans h0) ls _ _ hw (lv_sub hl [0, 1, 2, 3, 4] rfl)
                      refine W.widen (k := 104) (n := 2104) (by omega) (by omega) ?_
                      exact loop526 (nF + 1) 0 (by omega) (by omega) ad M T hLW d1 hm0 hrA h0 ls _ _ hw (lv_sub hl [0, 1, 5, 6, 7] rfl)
                    · have c_3 := nI_nle' (a := nE) (b := k) c_3 (by omega) (by omega)
                      refine lv_aload_n hx hb dL_build_357 rfl (lv_at hl 5 rfl) ?_
                      refine lv_bipush (v := 7) hx hb dL_build_358 (by decide) ?_
                      refine lv_iload hx hb dL_build_360 (lv_at hl 0 rfl) ?_
                      refine lv_iconst (v := 2) hx hb dL_build_362 (by decide) ?_
                      refine lv_irem hx hb dL_build_363 (by decide) ?_
                      refine f_top (y := nI (k % 2)) (pk_rem (a := k) (d := 2) (by omega) (by omega) (by omega)) ?_
                      refine lv_iadd hx hb dL_build_364 ?_
                      refine f_top (y := nI (k % 2 + 7)) ((nI_add 7 (k % 2)).trans (by rw [Nat.add_comm])) ?_
                      refine fk_di (fcS X hw (c_cell l g ad M hXn (k := (k % 2 + 7)) (by omega)) wq602 kSL_cell ⟨(Nat.le_of_ble_eq_true rfl), (Nat.le_of_ble_eq_true rfl)⟩ rfl hl.1 rfl (Nat.le_of_ble_eq_true rfl) dL_build_365 ⟨(by dsimp only [fR]; omega), (by dsimp only [fR]; omega)⟩) hw (fun H locs hw => ?_)
                      refine lv_iload hx hb dL_build_368 (lv_at hl 0 rfl) ?_
                      refine lv_ishr hx hb dL_build_370 ?_
                      refine lv_iconst (v := 5) hx hb dL_build_371 (by decide) ?_
                      refine lv_iload hx hb dL_build_372 (lv_at hl 0 rfl) ?_
                      refine lv_imul hx hb dL_build_374 ?_
                      refine lv_iadd hx hb dL_build_375 ?_
                      obtain ⟨xx, exx⟩ : ∃ z, z = ((lCell g (k % 2 + 7)) >>> ((nI k) &&& 31)) + (5 * (nI k)) := ⟨_, rfl⟩
                      refine f_top (y := xx) exx.symm ?_
                      refine lv_istore (lv' := [(9, .int xx), (8, .int (nI k)), (7, .int (nI nE)), (5, .int (nI br)), (4, .int (nI bc)), (2, .ref (ad 3000)), (1, .ref (gXb g)), (0, .ref (ad 0))]) hx hb dL_build_376 hl (by decide) rfl (fun ls hl => ?_)
                      refine lv_iload hx hb dL_build_378 (lv_at hl 0 rfl) ?_
                      refine lv_bipush (v := 7) hx hb dL_build_380 (by decide) ?_
                      refine lv_ishr hx hb dL_build_382 ?_
                      refine lv_iconst (v := 4) hx hb dL_build_383 (by decide) ?_
                      refine fk_di (fcS X hw (c_below l g ad M (xx >>> (7 &&& 31)) (N := 4) (by omega) (by omega)) wq637 kSL_below ⟨(Nat.le_of_ble_eq_true rfl), (Nat.le_of_ble_eq_true rfl)⟩ rfl hl.1 rfl (Nat.le_of_ble_eq_true rfl) dL_build_384 ⟨(by dsimp only [fR]; omega), (by dsimp only [fR]; omega)⟩) hw (fun H locs hw => ?_)
                      have hb384 : lBel (xx >>> (7 &&& 31)) 4 < 4 := lBel_lt (by omega)
                      obtain ⟨p7, ep7⟩ : ∃ z, z = lBel (xx >>> (7 &&& 31)) 4 := ⟨_, rfl⟩
                      rw [← ep7] at hb384
                      refine f_top (y := nI p7) (by rw [ep7]) ?_
                      refine lv_if_ne (tgt := 401) hx hb dL_build_387 (by decide) (fun c_6 => ?_) (fun c_6 => ?_)
                      · have c_6 := nI_neq' (a := p7) (b := 0) c_6 (by omega) (by omega)
                        refine lv_iload hx hb dL_build_401 (lv_at hl 4 rfl) ?_
                        refine lv_iload hx hb dL_build_403 (lv_at hl 0 rfl) ?_
                        refine lv_bipush (v := 6) hx hb dL_build_405 (by decide) ?_
                        refine fk_di (fcS X hw (c_below l g ad M xx (N := 6) (by omega) (by omega)) wq637 kSL_below ⟨(Nat.le_of_ble_eq_true rfl), (Nat.le_of_ble_eq_true rfl)⟩ rfl hl.1 rfl (Nat.le_of_ble_eq_true rfl) dL_build_407 ⟨(by dsimp only [fR]; omega), (by dsimp only [fR]; omega)⟩) hw (fun H locs hw => ?_)
                        have hb407 : lBel xx 6 < 6 := lBel_lt (by omega)
                        obtain ⟨p1, ep1⟩ : ∃ z, z = lBel xx 6 := ⟨_, rfl⟩
                        rw [← ep1] at hb407
                        refine f_top (y := nI p1) (by rw [ep1]) ?_
                        refine lv_iadd hx hb dL_build_410 ?_
                        refine lv_bipush (v := 14) hx hb dL_build_411 (by decide) ?_
                        refine lv_iload hx hb dL_build_413 (lv_at hl 3 rfl) ?_
                        refine lv_iload hx hb dL_build_415 (lv_at hl 0 rfl) ?_
                        refine lv_iconst (v := 3) hx hb dL_build_417 (by decide) ?_
                        refine lv_ishr hx hb dL_build_418 ?_
                        refine lv_iconst (v := 5) hx hb dL_build_419 (by decide) ?_
                        refine fk_di (fcS X hw (c_below l g ad M (xx >>> (3 &&& 31)) (N := 5) (by omega) (by omega)) wq637 kSL_below ⟨(Nat.le_of_ble_eq_true rfl), (Nat.le_of_ble_eq_true rfl)⟩ rfl hl.1 rfl (Nat.le_of_ble_eq_true rfl) dL_build_420 ⟨(by dsimp only [fR]; omega), (by dsimp only [fR]; omega)⟩) hw (fun H locs hw => ?_)
                        have hb420 : lBel (xx >>> (3 &&& 31)) 5 < 5 := lBel_lt (by omega)
                        obtain ⟨p2, ep2⟩ : ∃ z, z = lBel (xx >>> (3 &&& 31)) 5 := ⟨_, rfl⟩
                        rw [← ep2] at hb420
                        refine f_top (y := nI p2) (by rw [ep2]) ?_
                        refine lv_iadd hx hb dL_build_423 ?_
                        refine lv_imul hx hb dL_build_424 ?_
                        refine lv_iadd hx hb dL_build_425 ?_
                        obtain ⟨cc, ecc⟩ : ∃ z, z = bc + p1 + 14 * (br + p2) := ⟨_, rfl⟩
                        refine f_top (y := nI cc) (by rw [ecc]; exact cell_nI) ?_
                        have hcc : cc < 140 := by omega
                        refine lv_istore (lv' := [(10, .int (nI cc)), (9, .int xx), (8, .int (nI k)), (7, .int (nI nE)), (5, .int (nI br)), (4, .int (nI bc)), (2, .ref (ad 3000)), (1, .ref (gXb g)), (0, .ref (ad 0))]) hx hb dL_build_426 hl (by decide) rfl (fun ls hl => ?_)
                        refine lv_aload_n hx hb dL_build_428 rfl (lv_at hl 6 rfl) ?_
                        refine lv_iload hx hb dL_build_429 (lv_at hl 0 rfl) ?_
                        have hst := (st_of hs hg : stOk kf U) cc hcc
                        refine fk_di (fcV X hw (c_s_isStreet l g ad M hS (nI cc) (bI (decide (kf cc = 0))) (fun z => by rw [decide_eq_false (hst.1 z)]; rfl) (fun z1 z2 => by rw [decide_eq_true (hst.2 z1 z2)]; rfl)) hS0 rfl wq752 kVX8_isStreet ⟨(Nat.le_of_ble_eq_true rfl), (Nat.le_of_ble_eq_true rfl)⟩ rfl hl.1 rfl (Nat.le_of_ble_eq_true rfl) dL_build_431 ⟨(by dsimp only [fR]; omega), (by dsimp only [fR]; omega)⟩) hw (fun H locs hw => ?_)
                        refine lv_if_ne (tgt := 440) hx hb dL_build_434 (by decide) (fun c_7 => ?_) (fun c_7 => ?_)
                        · have c_7 := bI_nf.mp c_7
                          have hk0 : kf cc = 0 := of_decide_eq_true c_7
                          have hon := on_of hcc
                          refine lv_iconst (v := 1) hx hb dL_build_440 (by decide) ?_
                          refine lv_iload hx hb dL_build_441 (lv_at hl 1 rfl) ?_
                          refine lv_iconst (v := 2) hx hb dL_build_443 (by decide) ?_
                          refine lv_ishr hx hb dL_build_444 ?_
                          refine lv_iconst (v := 4) hx hb dL_build_445 (by decide) ?_
                          refine fk_di (fcS X hw (c_below l g ad M (xx >>> (2 &&& 31)) (N := 4) (by omega) (by omega)) wq637 kSL_below ⟨(Nat.le_of_ble_eq_true rfl), (Nat.le_of_ble_eq_true rfl)⟩ rfl hl.1 rfl (Nat.le_of_ble_eq_true rfl) dL_build_446 ⟨(by dsimp only [fR]; omega), (by dsimp only [fR]; omega)⟩) hw (fun H locs hw => ?_)
                          have hb446 : lBel (xx >>> (2 &&& 31)) 4 < 4 := lBel_lt (by omega)
                          obtain ⟨p3, ep3⟩ : ∃ z, z = lBel (xx >>> (2 &&& 31)) 4 := ⟨_, rfl⟩
                          rw [← ep3] at hb446
                          refine f_top (y := nI p3) (by rw [ep3]) ?_
                          refine lv_iadd hx hb dL_build_449 ?_
                          refine f_top (y := nI (p3 + 1)) ((nI_add 1 p3).trans (by rw [Nat.add_comm])) ?_
                          refine lv_istore (lv' := [(11, .int (nI (p3 + 1))), (10, .int (nI cc)), (9, .int xx), (8, .int (nI k)), (7, .int (nI nE)), (5, .int (nI br)), (4, .int (nI bc)), (2, .ref (ad 3000)), (1, .ref (gXb g)), (0, .ref (ad 0))]) hx hb dL_build_450 hl (by decide) rfl (fun ls hl => ?_)
                          refine lv_iconst (v := 1) hx hb dL_build_452 (by decide) ?_
                          refine lv_iload hx hb dL_build_453 (lv_at hl 2 rfl) ?_
                          refine lv_iconst (v := 4) hx hb dL_build_455 (by decide) ?_
                          refine lv_ishr hx hb dL_build_456 ?_
                          refine lv_bipush (v := 20) hx hb dL_build_457 (by decide) ?_
                          refine fk_di (fcS X hw (c_below l g ad M (xx >>> (4 &&& 31)) (N := 20) (by omega) (by omega)) wq637 kSL_below ⟨(Nat.le_of_ble_eq_true rfl), (Nat.le_of_ble_eq_true rfl)⟩ rfl hl.1 rfl (Nat.le_of_ble_eq_true rfl) dL_build_459 ⟨(by dsimp only [fR]; omega), (by dsimp only [fR]; omega)⟩) hw (fun H locs hw => ?_)
                          have hb459 : lBel (xx >>> (4 &&& 31)) 20 < 20 := lBel_lt (by omega)
                          obtain ⟨p4, ep4⟩ : ∃ z, z = lBel (xx >>> (4 &&& 31)) 20 := ⟨_, rfl⟩
                          rw [← ep4] at hb459
                          refine f_top (y := nI p4) (by rw [ep4]) ?_
                          refine lv_iadd hx hb dL_build_462 ?_
                          refine f_top (y := nI (p4 + 1)) ((nI_add 1 p4).trans (by rw [Nat.add_comm])) ?_
                          refine lv_istore (lv' := [(12, .int (nI (p4 + 1))), (11, .int (nI (p3 + 1))), (10, .int (nI cc)), (9, .int xx), (8, .int (nI k)), (7, .int (nI nE)), (5, .int (nI br)), (4, .int (nI bc)), (2, .ref (ad 3000)), (1, .ref (gXb g)), (0, .ref (ad 0))]) hx hb dL_build_463 hl (by decide) rfl (fun ls hl => ?_)
                          refine lv_aload_n hx hb dL_build_465 rfl (lv_at hl 10 rfl) ?_
                          refine lv_iload hx hb dL_build_466 (lv_at hl 2 rfl) ?_
                          refine lv_bipush (v := 14) hx hb dL_build_468 (by decide) ?_
                          refine lv_irem hx hb dL_build_470 (by decide) ?_
                          refine f_top (y := nI (cc % 14)) (pk_rem (a := cc) (d := 14) (by omega) (by omega) (by omega)) ?_
                          refine lv_iload hx hb dL_build_471 (lv_at hl 2 rfl) ?_
                          refine lv_bipush (v := 14) hx hb dL_build_473 (by decide) ?_
                          refine lv_idiv hx hb dL_build_475 (by decide) ?_
                          refine f_top (y := nI (cc / 14)) (pk_div (a := cc) (d := 14) (by omega) (by omega) (by omega)) ?_
                          refine lv_iload hx hb dL_build_476 (lv_at hl 1 rfl) ?_
                          refine lv_iload hx hb dL_build_478 (lv_at hl 0 rfl) ?_
                          have rest483 : ∀ (ad : Nat → Nat) (M : fM) (hC : isC g ad M (addE T (newE (nI cc) (nI (p3 + 1)) (nI (p4 + 1)))) T0 kf nf f0) (hS : isSim g ad M U) (hrA : fReg 0 3420 ado Mo ad M) (h0 : ad 0 = ado 0) (ls : Array Slot) (H : Heap) (locs : List Loc), fw g ad M s H locs → lv_has ls 13 [(12, .int (nI (p4 + 1))), (11, .int (nI (p3 + 1))), (10, .int (nI cc)), (9, .int xx), (8, .int (nI k)), (7, .int (nI nE)), (5, .int (nI br)), (4, .int (nI bc)), (2, .ref (ad 3000)), (1, .ref (gXb g)), (0, .ref (ad 0))] → W p l e (fR 10 290 110 2200) s m args below meth c H locs (80 + 4 * k + 2) (1624 + 80 * k + 54) Q9 (F0 m 483 ls [.int (nI (tEn T))]) := by
                            intro ad M hC hS hrA h0 ls H locs hw hl
                            obtain ⟨hS0, ⟨fHh, hSh, hSH⟩, ⟨fEe, hSe, hSE⟩, ⟨fPp, hSp, hSP⟩, hHs, hEs, hPs, hn1, hn3, hn2⟩ := id hS
                            refine lv_aload_n hx hb dL_build_483 rfl (lv_at hl 8 rfl) ?_
                            refine f_get X hw hS0 fc9 2 (by decide) wq625 rfl (v := .ref (ad 3002)) rfl dL_build_484 ?_
                            refine f_alen X hw 5 hSe rfl dL_build_487 ?_
                            refine lv_icmp_eq (tgt := 493) hx hb dL_build_488 (by decide) (fun c_8 => ?_) (fun c_8 => absurd (by rw [e3U]) c_8)
                            have c_8 := nI_eq' (a := (tEn T)) (b := (tEn U)) c_8 (by omega) (by omega)
                            refine lv_aload_n hx hb dL_build_493 rfl (lv_at hl 8 rfl) ?_
                            refine lv_iload hx hb dL_build_494 (lv_at hl 2 rfl) ?_
                            refine lv_iload hx hb dL_build_496 (lv_at hl 1 rfl) ?_
                            refine lv_iload hx hb dL_build_498 (lv_at hl 0 rfl) ?_
                            refine fk_v (fcV X hw (c_s_come l g ad M hS (nI cc) (nI (p3 + 1)) (nI (p4 + 1)) (by omega)) hS0 rfl wq758 kVX8_come ⟨(Nat.le_of_ble_eq_true rfl), (Nat.le_of_ble_eq_true rfl)⟩ rfl hl.1 rfl (Nat.le_of_ble_eq_true rfl) dL_build_500 ⟨(by dsimp only [fR]; omega), (by dsimp only [fR]; omega)⟩) hw (fun ad1 M1 H locs hp hw => ?_)
                            obtain ⟨hS4, hr4, h304⟩ := hp
                            have hC4 := isC_eq hC (fun l h => hr4 l (by omega) (by omega))
                            have e04 := (hr4 0 (by omega) (by omega)).1
                            refine lv_iinc (v := nI (k + 1)) (lv' := [(8, .int (nI (k + 1))), (12, .int (nI (p4 + 1))), (11, .int (nI (p3 + 1))), (10, .int (nI cc)), (9, .int xx), (7, .int (nI nE)), (5, .int (nI br)), (4, .int (nI bc)), (2, .ref (ad 3000)), (1, .ref (gXb g)), (0, .ref (ad 0))]) hx hb dL_build_503 hl (k := 4) rfl (nI_1 k) (by decide) rfl (fun ls hl => ?_)
                            refine lv_goto (tgt := 350) hx hb dL_build_506 (by decide) ?_
                            refine W.widen (k := 80 + 4 * (k + 1)) (n := 1624 + 80 * (k + 1)) (by omega) (by omega) ?_
                            rw [← e04, ← h304] at hl
                            exact ih (k + 1) (by omega) (by omega) ad1 M1 _ _ _ _ ⟨hC4, hS4, sim_new hs, ok_addE ho hcc hk0 (by omega) rfl (by omega) (by omega), gOk_of hg rfl rfl (fun _ _ => rfl) (fun _ _ => rfl), okL_addE hl9 (by omega) (by omega), hm0⟩ ⟨d1, by show tEn T + 1 ≤ k + 1; omega⟩ (fReg_tr hrA (fReg_w hr4 (by omega) (by omega))) (e04.trans h0) ls _ _ hw (lv_sub hl [0, 5, 6, 7, 8, 9, 10] rfl)
                          refine fk_i (fcV X hw (c_X5_addEngine l g ad M hC hon.1 hcc hon.2 (inR_n (a := 1) (b := 4) (by omega) (by omega) (by omega)) (inR_n (a := 1) (b := 20) (by omega) (by omega) (by omega)) (by unfold kSt; rw [kOf_nI hcc, hk0, decide_eq_true (show tEn T < 6 by omega)]; rfl)) hF rfl wq753 kVX5_addEngine ⟨(Nat.le_of_ble_eq_true rfl), (Nat.le_of_ble_eq_true rfl)⟩ rfl hl.1 rfl (Nat.le_of_ble_eq_true rfl) dL_build_480 ⟨(by dsimp only [fR]; omega), (by dsimp only [fR]; omega)⟩) hw (fun r ad1 M1 H locs hp hw => ?_)
                          obtain ⟨hC3, hr3, h03, er⟩ := hp
                          rw [er]
                          rw [← h03, ← (hr3 3000 (by omega) (by omega)).1] at hl
                          exact rest483 ad1 M1 hC3 (isSim_reg hS hr3 (Or.inl (by omega))) (fReg_tr hrA (fReg_w hr3 (by omega) (by omega))) (h03.trans h0) ls _ _ hw hl
                        · have c_7 := bI_f.mp c_7
                          refine lv_goto (tgt := 503) hx hb dL_build_437 (by decide) ?_
                          refine lv_iinc (v := nI (k + 1)) (lv' := [(8, .int (nI (k + 1))), (10, .int (nI cc)), (9, .int xx), (7, .int (nI nE)), (5, .int (nI br)), (4, .int (nI bc)), (2, .ref (ad 3000)), (1, .ref (gXb g)), (0, .ref (ad 0))]) hx hb dL_build_503 hl (k := 2) rfl (nI_1 k) (by decide) rfl (fun ls hl => ?_)
                          refine lv_goto (tgt := 350) hx hb dL_build_506 (by decide) ?_
                          refine W.widen (k := 80 + 4 * (k + 1)) (n := 1624 + 80 * (k + 1)) (by omega) (by omega) ?_
                          exact ih (k + 1) (by omega) (by omega) ad M T U kf nf hB ⟨d1, by omega⟩ hrA h0 ls _ _ hw (lv_sub hl [0, 3, 4, 5, 6, 7, 8] rfl)
                      · have c_6 := nI_eq' (a := p7) (b := 0) c_6 (by omega) (by omega)
                        refine lv_iload hx hb dL_build_390 (lv_at hl 0 rfl) ?_
                        refine lv_sipush (v := 140) hx hb dL_build_392 (by decide) ?_
                        refine fk_di (fcS X hw (c_below l g ad M xx (N := 140) (by omega) (by omega)) wq637 kSL_below ⟨(Nat.le_of_ble_eq_true rfl), (Nat.le_of_ble_eq_true rfl)⟩ rfl hl.1 rfl (Nat.le_of_ble_eq_true rfl) dL_build_395 ⟨(by dsimp only [fR]; omega), (by dsimp only [fR]; omega)⟩) hw (fun H locs hw => ?_)
                        have hb395 : lBel xx 140 < 140 := lBel_lt (by omega)
                        obtain ⟨cc, ecc⟩ : ∃ z, z = lBel xx 140 := ⟨_, rfl⟩
                        rw [← ecc] at hb395
                        refine f_top (y := nI cc) (by rw [ecc]) ?_
                        refine lv_goto (tgt := 426) hx hb dL_build_398 (by decide) ?_
                        have hcc : cc < 140 := by omega
                        refine lv_istore (lv' := [(10, .int (nI cc)), (9, .int xx), (8, .int (nI k)), (7, .int (nI nE)), (5, .int (nI br)), (4, .int (nI bc)), (2, .ref (ad 3000)), (1, .ref (gXb g)), (0, .ref (ad 0))]) hx hb dL_build_426 hl (by decide) rfl (fun ls hl => ?_)
                        refine lv_aload_n hx hb dL_build_428 rfl (lv_at hl 6 rfl) ?_
                        refine lv_iload hx hb dL_build_429 (lv_at hl 0 rfl) ?_
                        have hst := (st_of hs hg : stOk kf U) cc hcc
                        refine fk_di (fcV X hw (c_s_isStreet l g ad M hS (nI cc) (bI (decide (kf cc = 0))) (fun z => by rw [decide_eq_false (hst.1 z)]; rfl) (fun z1 z2 => by rw [decide_eq_true (hst.2 z1 z2)]; rfl)) hS0 rfl wq752 kVX8_isStreet ⟨(Nat.le_of_ble_eq_true rfl), (Nat.le_of_ble_eq_true rfl)⟩ rfl hl.1 rfl (Nat.le_of_ble_eq_true rfl) dL_build_431 ⟨(by dsimp only [fR]; omega), (by dsimp only [fR]; omega)⟩) hw (fun H locs hw => ?_)
                        refine lv_if_ne (tgt := 440) hx hb dL_build_434 (by decide) (fun c_9 => ?_) (fun c_9 => ?_)
                        · have c_9 := bI_nf.mp c_9
                          have hk0 : kf cc = 0 := of_decide_eq_true c_9
                          have hon := on_of hcc
                          refine lv_iconst (v := 1) hx hb dL_build_440 (by decide) ?_
                          refine lv_iload hx hb dL_build_441 (lv_at hl 1 rfl) ?_
                          refine lv_iconst (v := 2) hx hb dL_build_443 (by decide) ?_
                          refine lv_ishr hx hb dL_build_444 ?_
                          refine lv_iconst (v := 4) hx hb dL_build_445 (by decide) ?_
                          refine fk_di (fcS X hw (c_below l g ad M (xx >>> (2 &&& 31)) (N := 4) (by omega) (by omega)) wq637 kSL_below ⟨(Nat.le_of_ble_eq_true rfl), (Nat.le_of_ble_eq_true rfl)⟩ rfl hl.1 rfl (Nat.le_of_ble_eq_true rfl) dL_build_446 ⟨(by dsimp only [fR]; omega), (by dsimp only [fR]; omega)⟩) hw (fun H locs hw => ?_)
                          have hb446 : lBel (xx >>> (2 &&& 31)) 4 < 4 := lBel_lt (by omega)
                          obtain ⟨p3, ep3⟩ : ∃ z, z = lBel (xx >>> (2 &&& 31)) 4 := ⟨_, rfl⟩
                          rw [← ep3] at hb446
                          refine f_top (y := nI p3) (by rw [ep3]) ?_
                          refine lv_iadd hx hb dL_build_449 ?_
                          refine f_top (y := nI (p3 + 1)) ((nI_add 1 p3).trans (by rw [Nat.add_comm])) ?_
                          refine lv_istore (lv' := [(11, .int (nI (p3 + 1))), (10, .int (nI cc)), (9, .int xx), (8, .int (nI k)), (7, .int (nI nE)), (5, .int (nI br)), (4, .int (nI bc)), (2, .ref (ad 3000)), (1, .ref (gXb g)), (0, .ref (ad 0))]) hx hb dL_build_450 hl (by decide) rfl (fun ls hl => ?_)
                          refine lv_iconst (v := 1) hx hb dL_build_452 (by decide) ?_
                          refine lv_iload hx hb dL_build_453 (lv_at hl 2 rfl) ?_
                          refine lv_iconst (v := 4) hx hb dL_build_455 (by decide) ?_
                          refine lv_ishr hx hb dL_build_456 ?_
                          refine lv_bipush (v := 20) hx hb dL_build_457 (by decide) ?_
                          refine fk_di (fcS X hw (c_below l g ad M (xx >>> (4 &&& 31)) (N := 20) (by omega) (by omega)) wq637 kSL_below ⟨(Nat.le_of_ble_eq_true rfl), (Nat.le_of_ble_eq_true rfl)⟩ rfl hl.1 rfl (Nat.le_of_ble_eq_true rfl) dL_build_459 ⟨(by dsimp only [fR]; omega), (by dsimp only [fR]; omega)⟩) hw (fun H locs hw => ?_)
                          have hb459 : lBel (xx >>> (4 &&& 31)) 20 < 20 := lBel_lt (by omega)
                          obtain ⟨p4, ep4⟩ : ∃ z, z = lBel (xx >>> (4 &&& 31)) 20 := ⟨_, rfl⟩
                          rw [← ep4] at hb459
                          refine f_top (y := nI p4) (by rw [ep4]) ?_
                          refine lv_iadd hx hb dL_build_462 ?_
                          refine f_top (y := nI (p4 + 1)) ((nI_add 1 p4).trans (by rw [Nat.add_comm])) ?_
                          refine lv_istore (lv' := [(12, .int (nI (p4 + 1))), (11, .int (nI (p3 + 1))), (10, .int (nI cc)), (9, .int xx), (8, .int (nI k)), (7, .int (nI nE)), (5, .int (nI br)), (4, .int (nI bc)), (2, .ref (ad 3000)), (1, .ref (gXb g)), (0, .ref (ad 0))]) hx hb dL_build_463 hl (by decide) rfl (fun ls hl => ?_)
                          refine lv_aload_n hx hb dL_build_465 rfl (lv_at hl 10 rfl) ?_
                          refine lv_iload hx hb dL_build_466 (lv_at hl 2 rfl) ?_
                          refine lv_bipush (v := 14) hx hb dL_build_468 (by decide) ?_
                          refine lv_irem hx hb dL_build_470 (by decide) ?_
                          refine f_top (y := nI (cc % 14)) (pk_rem (a := cc) (d := 14) (by omega) (by omega) (by omega)) ?_
                          refine lv_iload hx hb dL_build_471 (lv_at hl 2 rfl) ?_
                          refine lv_bipush (v := 14) hx hb dL_build_473 (by decide) ?_
                          refine lv_idiv hx hb dL_build_475 (by decide) ?_
                          refine f_top (y := nI (cc / 14)) (pk_div (a := cc) (d := 14) (by omega) (by omega) (by omega)) ?_
                          refine lv_iload hx hb dL_build_476 (lv_at hl 1 rfl) ?_
                          refine lv_iload hx hb dL_build_478 (lv_at hl 0 rfl) ?_
                          have rest483 : ∀ (ad : Nat → Nat) (M : fM) (hC : isC g ad M (addE T (newE (nI cc) (nI (p3 + 1)) (nI (p4 + 1)))) T0 kf nf f0) (hS : isSim g ad M U) (hrA : fReg 0 3420 ado Mo ad M) (h0 : ad 0 = ado 0) (ls : Array Slot) (H : Heap) (locs : List Loc), fw g ad M s H locs → lv_has ls 13 [(12, .int (nI (p4 + 1))), (11, .int (nI (p3 + 1))), (10, .int (nI cc)), (9, .int xx), (8, .int (nI k)), (7, .int (nI nE)), (5, .int (nI br)), (4, .int (nI bc)), (2, .ref (ad 3000)), (1, .ref (gXb g)), (0, .ref (ad 0))] → W p l e (fR 10 290 110 2200) s m args below meth c H locs (80 + 4 * k + 2) (1624 + 80 * k + 54) Q9 (F0 m 483 ls [.int (nI (tEn T))]) := by
                            intro ad M hC hS hrA h0 ls H locs hw hl
                            obtain ⟨hS0, ⟨fHh, hSh, hSH⟩, ⟨fEe, hSe, hSE⟩, ⟨fPp, hSp, hSP⟩, hHs, hEs, hPs, hn1, hn3, hn2⟩ := id hS
                            refine lv_aload_n hx hb dL_build_483 rfl (lv_at hl 8 rfl) ?_
                            refine f_get X hw hS0 fc9 2 (by decide) wq625 rfl (v := .ref (ad 3002)) rfl dL_build_484 ?_
                            refine f_alen X hw 5 hSe rfl dL_build_487 ?_
                            refine lv_icmp_eq (tgt := 493) hx hb dL_build_488 (by decide) (fun c_10 => ?_) (fun c_10 => absurd (by rw [e3U]) c_10)
                            have c_10 := nI_eq' (a := (tEn T)) (b := (tEn U)) c_10 (by omega) (by omega)
                            refine lv_aload_n hx hb dL_build_493 rfl (lv_at hl 8 rfl) ?_
                            refine lv_iload hx hb dL_build_494 (lv_at hl 2 rfl) ?_
                            refine lv_iload hx hb dL_build_496 (lv_at hl 1 rfl) ?_
                            refine lv_iload hx hb dL_build_498 (lv_at hl 0 rfl) ?_
                            refine fk_v (fcV X hw (c_s_come l g ad M hS (nI cc) (nI (p3 + 1)) (nI (p4 + 1)) (by omega)) hS0 rfl wq758 kVX8_come ⟨(Nat.le_of_ble_eq_true rfl), (Nat.le_of_ble_eq_true rfl)⟩ rfl hl.1 rfl (Nat.le_of_ble_eq_true rfl) dL_build_500 ⟨(by dsimp only [fR]; omega), (by dsimp only [fR]; omega)⟩) hw (fun ad1 M1 H locs hp hw => ?_)
                            obtain ⟨hS4, hr4, h304⟩ := hp
                            have hC4 := isC_eq hC (fun l h => hr4 l (by omega) (by omega))
                            have e04 := (hr4 0 (by omega) (by omega)).1
                            refine lv_iinc (v := nI (k + 1)) (lv' := [(8, .int (nI (k + 1))), (12, .int (nI (p4 + 1))), (11, .int (nI (p3 + 1))), (10, .int (nI cc)), (9, .int xx), (7, .int (nI nE)), (5, .int (nI br)), (4, .int (nI bc)), (2, .ref (ad 3000)), (1, .ref (gXb g)), (0, .ref (ad 0))]) hx hb dL_build_503 hl (k := 4) rfl (nI_1 k) (by decide) rfl (fun ls hl => ?_)
                            refine lv_goto (tgt := 350) hx hb dL_build_506 (by decide) ?_
                            refine W.widen (k := 80 + 4 * (k + 1)) (n := 1624 + 80 * (k + 1)) (by omega) (by omega) ?_
                            rw [← e04, ← h304] at hl
                            exact ih (k + 1) (by omega) (by omega) ad1 M1 _ _ _ _ ⟨hC4, hS4, sim_new hs, ok_addE ho hcc hk0 (by omega) rfl (by omega) (by omega), gOk_of hg rfl rfl (fun _ _ => rfl) (fun _ _ => rfl), okL_addE hl9 (by omega) (by omega), hm0⟩ ⟨d1, by show tEn T + 1 ≤ k + 1; omega⟩ (fReg_tr hrA (fReg_w hr4 (by omega) (by omega))) (e04.trans h0) ls _ _ hw (lv_sub hl [0, 5, 6, 7, 8, 9, 10] rfl)
                          refine fk_i (fcV X hw (c_X5_addEngine l g ad M hC hon.1 hcc hon.2 (inR_n (a := 1) (b := 4) (by omega) (by omega) (by omega)) (inR_n (a := 1) (b := 20) (by omega) (by omega) (by omega)) (by unfold kSt; rw [kOf_nI hcc, hk0, decide_eq_true (show tEn T < 6 by omega)]; rfl)) hF rfl wq753 kVX5_addEngine ⟨(Nat.le_of_ble_eq_true rfl), (Nat.le_of_ble_eq_true rfl)⟩ rfl hl.1 rfl (Nat.le_of_ble_eq_true rfl) dL_build_480 ⟨(by dsimp only [fR]; omega), (by dsimp only [fR]; omega)⟩) hw (fun r ad1 M1 H locs hp hw => ?_)
                          obtain ⟨hC3, hr3, h03, er⟩ := hp
                          rw [er]
                          rw [← h03, ← (hr3 3000 (by omega) (by omega)).1] at hl
                          exact rest483 ad1 M1 hC3 (isSim_reg hS hr3 (Or.inl (by omega))) (fReg_tr hrA (fReg_w hr3 (by omega) (by omega))) (h03.trans h0) ls _ _ hw hl
                        · have c_9 := bI_f.mp c_9
                          refine lv_goto (tgt := 503) hx hb dL_build_437 (by decide) ?_
                          refine lv_iinc (v := nI (k + 1)) (lv' := [(8, .int (nI (k + 1))), (10, .int (nI cc)), (9, .int xx), (7, .int (nI nE)), (5, .int (nI br)), (4, .int (nI bc)), (2, .ref (ad 3000)), (1, .ref (gXb g)), (0, .ref (ad 0))]) hx hb dL_build_503 hl (k := 2) rfl (nI_1 k) (by decide) rfl (fun ls hl => ?_)
                          refine lv_goto (tgt := 350) hx hb dL_build_506 (by decide) ?_
                          refine W.widen (k := 80 + 4 * (k + 1)) (n := 1624 + 80 * (k + 1)) (by omega) (by omega) ?_
                          exact ih (k + 1) (by omega) (by omega) ad M T U kf nf hB ⟨d1, by omega⟩ hrA h0 ls _ _ hw (lv_sub hl [0, 3, 4, 5, 6, 7, 8] rfl)
                refine W.widen (k := 80 + 4 * 0) (n := 1624 + 80 * 0) (by omega) (by omega) ?_
                exact loop350 (nE + 1) 0 (by omega) (by omega) ad M T U kf nf hB ⟨d1, by omega⟩ hrA h0 ls _ _ hw (lv_sub hl [0, 1, 3, 4, 5, 6, 7] rfl)
              · have c_2 := nI_nle' (a := nP) (b := k) c_2 (by omega) (by omega)
                refine lv_aload_n hx hb dL_build_211 rfl (lv_at hl 5 rfl) ?_
                refine lv_iconst (v := 5) hx hb dL_build_212 (by decide) ?_
                refine fk_di (fcS X hw (c_cell l g ad M hXn (k := 5) (by omega)) wq602 kSL_cell ⟨(Nat.le_of_ble_eq_true rfl), (Nat.le_of_ble_eq_true rfl)⟩ rfl hl.1 rfl (Nat.le_of_ble_eq_true rfl) dL_build_213 ⟨(by dsimp only [fR]; omega), (by dsimp only [fR]; omega)⟩) hw (fun H locs hw => ?_)
                refine lv_iconst (v := 3) hx hb dL_build_216 (by decide) ?_
                refine lv_iload hx hb dL_build_217 (lv_at hl 0 rfl) ?_
                refine lv_imul hx hb dL_build_219 ?_
                refine lv_ishr hx hb dL_build_220 ?_
                obtain ⟨xx, exx⟩ : ∃ z, z = (lCell g 5) >>> ((3 * (nI k)) &&& 31) := ⟨_, rfl⟩
                refine f_top (y := xx) exx.symm ?_
                refine lv_istore (lv' := [(8, .int xx), (7, .int (nI k)), (6, .int (nI nP)), (5, .int (nI br)), (4, .int (nI bc)), (2, .ref (ad 3000)), (1, .ref (gXb g)), (0, .ref (ad 0))]) hx hb dL_build_221 hl (by decide) rfl (fun ls hl => ?_)
                refine lv_iload hx hb dL_build_223 (lv_at hl 4 rfl) ?_
                refine lv_iload hx hb dL_build_225 (lv_at hl 0 rfl) ?_
                refine lv_bipush (v := 6) hx hb dL_build_227 (by decide) ?_
                refine fk_di (fcS X hw (c_below l g ad M xx (N := 6) (by omega) (by omega)) wq637 kSL_below ⟨(Nat.le_of_ble_eq_true rfl), (Nat.le_of_ble_eq_true rfl)⟩ rfl hl.1 rfl (Nat.le_of_ble_eq_true rfl) dL_build_229 ⟨(by dsimp only [fR]; omega), (by dsimp only [fR]; omega)⟩) hw (fun H locs hw => ?_)
                have hb229 : lBel xx 6 < 6 := lBel_lt (by omega)
                obtain ⟨p1, ep1⟩ : ∃ z, z = lBel xx 6 := ⟨_, rfl⟩
                rw [← ep1] at hb229
                refine f_top (y := nI p1) (by rw [ep1]) ?_
                refine lv_iadd hx hb dL_build_232 ?_
                refine lv_bipush (v := 14) hx hb dL_build_233 (by decide) ?_
                refine lv_iload hx hb dL_build_235 (lv_at hl 3 rfl) ?_
                refine lv_iload hx hb dL_build_237 (lv_at hl 0 rfl) ?_
                refine lv_iconst (v := 3) hx hb dL_build_239 (by decide) ?_
                refine lv_ishr hx hb dL_build_240 ?_
                refine lv_iconst (v := 5) hx hb dL_build_241 (by decide) ?_
                refine fk_di (fcS X hw (c_below l g ad M (xx >>> (3 &&& 31)) (N := 5) (by omega) (by omega)) wq637 kSL_below ⟨(Nat.le_of_ble_eq_true rfl), (Nat.le_of_ble_eq_true rfl)⟩ rfl hl.1 rfl (Nat.le_of_ble_eq_true rfl) dL_build_242 ⟨(by dsimp only [fR]; omega), (by dsimp only [fR]; omega)⟩) hw (fun H locs hw => ?_)
                have hb242 : lBel (xx >>> (3 &&& 31)) 5 < 5 := lBel_lt (by omega)
                obtain ⟨p2, ep2⟩ : ∃ z, z = lBel (xx >>> (3 &&& 31)) 5 := ⟨_, rfl⟩
                rw [← ep2] at hb242
                refine f_top (y := nI p2) (by rw [ep2]) ?_
                refine lv_iadd hx hb dL_build_245 ?_
                refine lv_imul hx hb dL_build_246 ?_
                refine lv_iadd hx hb dL_build_247 ?_
                obtain ⟨cc, ecc⟩ : ∃ z, z = bc + p1 + 14 * (br + p2) := ⟨_, rfl⟩
                refine f_top (y := nI cc) (by rw [ecc]; exact cell_nI) ?_
                have hcc : cc < 140 := by omega
                refine lv_istore (lv' := [(9, .int (nI cc)), (8, .int xx), (7, .int (nI k)), (6, .int (nI nP)), (5, .int (nI br)), (4, .int (nI bc)), (2, .ref (ad 3000)), (1, .ref (gXb g)), (0, .ref (ad 0))]) hx hb dL_build_248 hl (by decide) rfl (fun ls hl => ?_)
                refine lv_aload_n hx hb dL_build_250 rfl (lv_at hl 6 rfl) ?_
                refine lv_iload hx hb dL_build_251 (lv_at hl 0 rfl) ?_
                have hst := (st_of hs hg : stOk kf U) cc hcc
                refine fk_di (fcV X hw (c_s_isFree l g ad M hS (by omega) (nI cc) (decide (kf cc = 0)) (fun z => by rw [decide_eq_false (hst.1 z)]; rfl) (fun z1 z2 => by rw [decide_eq_true (hst.2 z1 z2)]; rfl)) hS0 rfl wq641 kVX8_isFree ⟨(Nat.le_of_ble_eq_true rfl), (Nat.le_of_ble_eq_true rfl)⟩ rfl hl.1 rfl (Nat.le_of_ble_eq_true rfl) dL_build_253 ⟨(by dsimp only [fR]; omega), (by dsimp only [fR]; omega)⟩) hw (fun H locs hw => ?_)
                refine lv_if_ne (tgt := 262) hx hb dL_build_256 (by decide) (fun c_11 => ?_) (fun c_11 => ?_)
                · have c_11 := bI_nf.mp c_11
                  have hk0 : kf cc = 0 := of_decide_eq_true c_11
                  have hon := on_of hcc
                  refine lv_iload hx hb dL_build_262 (lv_at hl 1 rfl) ?_
                  refine lv_iconst (v := 5) hx hb dL_build_264 (by decide) ?_
                  refine lv_ishr hx hb dL_build_265 ?_
                  refine lv_iload hx hb dL_build_266 (lv_at hl 1 rfl) ?_
                  refine lv_bipush (v := 8) hx hb dL_build_268 (by decide) ?_
                  refine lv_ishr hx hb dL_build_270 ?_
                  refine lv_iconst (v := 2) hx hb dL_build_271 (by decide) ?_
                  refine fk_di (fcS X hw (c_below l g ad M (xx >>> (8 &&& 31)) (N := 2) (by omega) (by omega)) wq637 kSL_below ⟨(Nat.le_of_ble_eq_true rfl), (Nat.le_of_ble_eq_true rfl)⟩ rfl hl.1 rfl (Nat.le_of_ble_eq_true rfl) dL_build_272 ⟨(by dsimp only [fR]; omega), (by dsimp only [fR]; omega)⟩) hw (fun H locs hw => ?_)
                  have hb272 : lBel (xx >>> (8 &&& 31)) 2 < 2 := lBel_lt (by omega)
                  obtain ⟨p7, ep7⟩ : ∃ z, z = lBel (xx >>> (8 &&& 31)) 2 := ⟨_, rfl⟩
                  rw [← ep7] at hb272
                  refine f_top (y := nI p7) (by rw [ep7]) ?_
                  refine lv_if_ne (tgt := 284) hx hb dL_build_275 (by decide) (fun c_12 => ?_) (fun c_12 => ?_)
                  · have c_12 := nI_neq' (a := p7) (b := 0) c_12 (by omega) (by omega)
                    refine lv_sipush (v := 300) hx hb dL_build_284 (by decide) ?_
                    refine fk_di (fcS X hw (c_below l g ad M (xx >>> (5 &&& 31)) (N := 300) (by omega) (by omega)) wq637 kSL_below ⟨(Nat.le_of_ble_eq_true rfl), (Nat.le_of_ble_eq_true rfl)⟩ rfl hl.1 rfl (Nat.le_of_ble_eq_true rfl) dL_build_287 ⟨(by dsimp only [fR]; omega), (by dsimp only [fR]; omega)⟩) hw (fun H locs hw => ?_)
                    have hb287 : lBel (xx >>> (5 &&& 31)) 300 < 300 := lBel_lt (by omega)
                    obtain ⟨p3, ep3⟩ : ∃ z, z = lBel (xx >>> (5 &&& 31)) 300 := ⟨_, rfl⟩
                    rw [← ep3] at hb287
                    refine f_top (y := nI p3) (by rw [ep3]) ?_
                    refine lv_istore (lv' := [(10, .int (nI p3)), (9, .int (nI cc)), (8, .int xx), (7, .int (nI k)), (6, .int (nI nP)), (5, .int (nI br)), (4, .int (nI bc)), (2, .ref (ad 3000)), (1, .ref (gXb g)), (0, .ref (ad 0))]) hx hb dL_build_290 hl (by decide) rfl (fun ls hl => ?_)
                    refine lv_aload_n hx hb dL_build_292 rfl (lv_at hl 9 rfl) ?_
                    refine lv_iload hx hb dL_build_293 (lv_at hl 1 rfl) ?_
                    refine lv_bipush (v := 14) hx hb dL_build_295 (by decide) ?_
                    refine lv_irem hx hb dL_build_297 (by decide) ?_
                    refine f_top (y := nI (cc % 14)) (pk_rem (a := cc) (d := 14) (by omega) (by omega) (by omega)) ?_
                    refine lv_iload hx hb dL_build_298 (lv_at hl 1 rfl) ?_
                    refine lv_bipush (v := 14) hx hb dL_build_300 (by decide) ?_
                    refine lv_idiv hx hb dL_build_302 (by decide) ?_
                    refine f_top (y := nI (cc / 14)) (pk_div (a := cc) (d := 14) (by omega) (by omega) (by omega)) ?_
                    refine lv_iload hx hb dL_build_303 (lv_at hl 0 rfl) ?_
                    have rest308 : ∀ (ad : Nat → Nat) (M : fM) (hC : isC g ad M (addP T (newP (nI cc) (nI p3))) T0 (upd kf cc 2) (upd nf cc (nI (tPn T))) f0) (hS : isSim g ad M U) (hrA : fReg 0 3420 ado Mo ad M) (h0 : ad 0 = ado 0) (ls : Array Slot) (H : Heap) (locs : List Loc), fw g ad M s H locs → lv_has ls 13 [(10, .int (nI p3)), (9, .int (nI cc)), (8, .int xx), (7, .int (nI k)), (6, .int (nI nP)), (5, .int (nI br)), (4, .int (nI bc)), (2, .ref (ad 3000)), (1, .ref (gXb g)), (0, .ref (ad 0))] → W p l e (fR 10 290 110 2200) s m args below meth c H locs (68 + 4 * k + 2) (1444 + 60 * k + 45) Q9 (F0 m 308 ls [.int (nI (tPn T))]) := by
                      intro ad M hC hS hrA h0 ls H locs hw hl
                      obtain ⟨hS0, ⟨fHh, hSh, hSH⟩, ⟨fEe, hSe, hSE⟩, ⟨fPp, hSp, hSP⟩, hHs, hEs, hPs, hn1, hn3, hn2⟩ := id hS
                      refine lv_aload_n hx hb dL_build_308 rfl (lv_at hl 7 rfl) ?_
                      refine f_get X hw hS0 fc9 3 (by decide) wq627 rfl (v := .ref (ad 3003)) rfl dL_build_309 ?_
                      refine f_alen X hw 3 hSp rfl dL_build_312 ?_
                      refine lv_icmp_eq (tgt := 318) hx hb dL_build_313 (by decide) (fun c_13 => ?_) (fun c_13 => absurd (by rw [e2U]) c_13)
                      have c_13 := nI_eq' (a := (tPn T)) (b := (tPn U)) c_13 (by omega) (by omega)
                      refine lv_aload_n hx hb dL_build_318 rfl (lv_at hl 7 rfl) ?_
                      refine lv_iload hx hb dL_build_319 (lv_at hl 1 rfl) ?_
                      refine lv_iload hx hb dL_build_321 (lv_at hl 0 rfl) ?_
                      refine fk_v (fcV X hw (c_s_dig l g ad M hS (nI cc) (nI p3) (by omega)) hS0 rfl wq748 kVX8_dig ⟨(Nat.le_of_ble_eq_true rfl), (Nat.le_of_ble_eq_true rfl)⟩ rfl hl.1 rfl (Nat.le_of_ble_eq_true rfl) dL_build_323 ⟨(by dsimp only [fR]; omega), (by dsimp only [fR]; omega)⟩) hw (fun ad1 M1 H locs hp hw => ?_)
                      obtain ⟨hS4, hr4, h304⟩ := hp
                      have hC4 := isC_eq hC (fun l h => hr4 l (by omega) (by omega))
                      have e04 := (hr4 0 (by omega) (by omega)).1
                      refine lv_iinc (v := nI (k + 1)) (lv' := [(7, .int (nI (k + 1))), (10, .int (nI p3)), (9, .int (nI cc)), (8, .int xx), (6, .int (nI nP)), (5, .int (nI br)), (4, .int (nI bc)), (2, .ref (ad 3000)), (1, .ref (gXb g)), (0, .ref (ad 0))]) hx hb dL_build_326 hl (k := 3) rfl (nI_1 k) (by decide) rfl (fun ls hl => ?_)
                      refine lv_goto (tgt := 204) hx hb dL_build_329 (by decide) ?_
                      refine W.widen (k := 68 + 4 * (k + 1)) (n := 1444 + 60 * (k + 1)) (by omega) (by omega) ?_
                      rw [← e04, ← h304] at hl
                      exact ih (k + 1) (by omega) (by omega) ad1 M1 _ _ _ _ ⟨hC4, hS4, sim_addP hs, ok_addP ho hcc (freeB_0 (by omega) hcc hk0) (by omega) (nI_pos' (by omega)), g_addP hg hcc hk0, okL_addP hl9 (by omega) (by omega), hm0⟩ ⟨d1, by show tPn T + 1 ≤ k + 1; omega, d3⟩ (fReg_tr hrA (fReg_w hr4 (by omega) (by omega))) (e04.trans h0) ls _ _ hw (lv_sub hl [0, 4, 5, 6, 7, 8, 9] rfl)
                    refine fk_i (fcV X hw (c_X5_dig l g ad M hC hon.1 hcc hon.2 (inR_n (a := 0) (b := 5000) (by omega) (by omega) (by omega)) (by rw [freeB_0 (by omega) hcc hk0, decide_eq_true (by omega)]; rfl)) hF rfl wq743 kVX5_dig ⟨(Nat.le_of_ble_eq_true rfl), (Nat.le_of_ble_eq_true rfl)⟩ rfl hl.1 rfl (Nat.le_of_ble_eq_true rfl) dL_build_305 ⟨(by dsimp only [fR]; omega), (by dsimp only [fR]; omega)⟩) hw (fun r ad1 M1 H locs hp hw => ?_)
                    obtain ⟨hC3, hr3, h03, er⟩ := hp
                    rw [er]
                    rw [← h03, ← (hr3 3000 (by omega) (by omega)).1] at hl
                    exact rest308 ad1 M1 hC3 (isSim_reg hS hr3 (Or.inl (by omega))) (fReg_tr hrA (fReg_w hr3 (by omega) (by omega))) (h03.trans h0) ls _ _ hw hl
                  · have c_12 := nI_eq' (a := p7) (b := 0) c_12 (by omega) (by omega)
                    refine lv_sipush (v := 5001) hx hb dL_build_278 (by decide) ?_
                    refine lv_goto (tgt := 287) hx hb dL_build_281 (by decide) ?_
                    refine fk_di (fcS X hw (c_below l g ad M (xx >>> (5 &&& 31)) (N := 5001) (by omega) (by omega)) wq637 kSL_below ⟨(Nat.le_of_ble_eq_true rfl), (Nat.le_of_ble_eq_true rfl)⟩ rfl hl.1 rfl (Nat.le_of_ble_eq_true rfl) dL_build_287 ⟨(by dsimp only [fR]; omega), (by dsimp only [fR]; omega)⟩) hw (fun H locs hw => ?_)
                    have hb287 : lBel (xx >>> (5 &&& 31)) 5001 < 5001 := lBel_lt (by omega)
                    obtain ⟨p3, ep3⟩ : ∃ z, z = lBel (xx >>> (5 &&& 31)) 5001 := ⟨_, rfl⟩
                    rw [← ep3] at hb287
                    refine f_top (y := nI p3) (by rw [ep3]) ?_
                    refine lv_istore (lv' := [(10, .int (nI p3)), (9, .int (nI cc)), (8, .int xx), (7, .int (nI k)), (6, .int (nI nP)), (5, .int (nI br)), (4, .int (nI bc)), (2, .ref (ad 3000)), (1, .ref (gXb g)), (0, .ref (ad 0))]) hx hb dL_build_290 hl (by decide) rfl (fun ls hl => ?_)
                    refine lv_aload_n hx hb dL_build_292 rfl (lv_at hl 9 rfl) ?_
                    refine lv_iload hx hb dL_build_293 (lv_at hl 1 rfl) ?_
                    refine lv_bipush (v := 14) hx hb dL_build_295 (by decide) ?_
                    refine lv_irem hx hb dL_build_297 (by decide) ?_
                    refine f_top (y := nI (cc % 14)) (pk_rem (a := cc) (d := 14) (by omega) (by omega) (by omega)) ?_
                    refine lv_iload hx hb dL_build_298 (lv_at hl 1 rfl) ?_
                    refine lv_bipush (v := 14) hx hb dL_build_300 (by decide) ?_
                    refine lv_idiv hx hb dL_build_302 (by decide) ?_
                    refine f_top (y := nI (cc / 14)) (pk_div (a := cc) (d := 14) (by omega) (by omega) (by omega)) ?_
                    refine lv_iload hx hb dL_build_303 (lv_at hl 0 rfl) ?_
                    have rest308 : ∀ (ad : Nat → Nat) (M : fM) (hC : isC g ad M (addP T (newP (nI cc) (nI p3))) T0 (upd kf cc 2) (upd nf cc (nI (tPn T))) f0) (hS : isSim g ad M U) (hrA : fReg 0 3420 ado Mo ad M) (h0 : ad 0 = ado 0) (ls : Array Slot) (H : Heap) (locs : List Loc), fw g ad M s H locs → lv_has ls 13 [(10, .int (nI p3)), (9, .int (nI cc)), (8, .int xx), (7, .int (nI k)), (6, .int (nI nP)), (5, .int (nI br)), (4, .int (nI bc)), (2, .ref (ad 3000)), (1, .ref (gXb g)), (0, .ref (ad 0))] → W p l e (fR 10 290 110 2200) s m args below meth c H locs (68 + 4 * k + 2) (1444 + 60 * k + 45) Q9 (F0 m 308 ls [.int (nI (tPn T))]) := by
                      intro ad M hC hS hrA h0 ls H locs hw hl
                      obtain ⟨hS0, ⟨fHh, hSh, hSH⟩, ⟨fEe, hSe, hSE⟩, ⟨fPp, hSp, hSP⟩, hHs, hEs, hPs, hn1, hn3, hn2⟩ := id hS
                      refine lv_aload_n hx hb dL_build_308 rfl (lv_at hl 7 rfl) ?_
                      refine f_get X hw hS0 fc9 3 (by decide) wq627 rfl (v := .ref (ad 3003)) rfl dL_build_309 ?_
                      refine f_alen X hw 3 hSp rfl dL_build_312 ?_
                      refine lv_icmp_eq (tgt := 318) hx hb dL_build_313 (by decide) (fun c_14 => ?_) (fun c_14 => absurd (by rw [e2U]) c_14)
                      have c_14 := nI_eq' (a := (tPn T)) (b := (tPn U)) c_14 (by omega) (by omega)
                      refine lv_aload_n hx hb dL_build_318 rfl (lv_at hl 7 rfl) ?_
                      refine lv_iload hx hb dL_build_319 (lv_at hl 1 rfl) ?_
                      refine lv_iload hx hb dL_build_321 (lv_at hl 0 rfl) ?_
                      refine fk_v (fcV X hw (c_s_dig l g ad M hS (nI cc) (nI p3) (by omega)) hS0 rfl wq748 kVX8_dig ⟨(Nat.le_of_ble_eq_true rfl), (Nat.le_of_ble_eq_true rfl)⟩ rfl hl.1 rfl (Nat.le_of_ble_eq_true rfl) dL_build_323 ⟨(by dsimp only [fR]; omega), (by dsimp only [fR]; omega)⟩) hw (fun ad1 M1 H locs hp hw => ?_)
                      obtain ⟨hS4, hr4, h304⟩ := hp
                      have hC4 := isC_eq hC (fun l h => hr4 l (by omega) (by omega))
                      have e04 := (hr4 0 (by omega) (by omega)).1
                      refine lv_iinc (v := nI (k + 1)) (lv' := [(7, .int (nI (k + 1))), (10, .int (nI p3)), (9, .int (nI cc)), (8, .int xx), (6, .int (nI nP)), (5, .int (nI br)), (4, .int (nI bc)), (2, .ref (ad 3000)), (1, .ref (gXb g)), (0, .ref (ad 0))]) hx hb dL_build_326 hl (k := 3) rfl (nI_1 k) (by decide) rfl (fun ls hl => ?_)
                      refine lv_goto (tgt := 204) hx hb dL_build_329 (by decide) ?_
                      refine W.widen (k := 68 + 4 * (k + 1)) (n := 1444 + 60 * (k + 1)) (by omega) (by omega) ?_
                      rw [← e04, ← h304] at hl
                      exact ih (k + 1) (by omega) (by omega) ad1 M1 _ _ _ _ ⟨hC4, hS4, sim_addP hs, ok_addP ho hcc (freeB_0 (by omega) hcc hk0) (by omega) (nI_pos' (by omega)), g_addP hg hcc hk0, okL_addP hl9 (by omega) (by omega), hm0⟩ ⟨d1, by show tPn T + 1 ≤ k + 1; omega, d3⟩ (fReg_tr hrA (fReg_w hr4 (by omega) (by omega))) (e04.trans h0) ls _ _ hw (lv_sub hl [0, 4, 5, 6, 7, 8, 9] rfl)
                    refine fk_i (fcV X hw (c_X5_dig l g ad M hC hon.1 hcc hon.2 (inR_n (a := 0) (b := 5000) (by omega) (by omega) (by omega)) (by rw [freeB_0 (by omega) hcc hk0, decide_eq_true (by omega)]; rfl)) hF rfl wq743 kVX5_dig ⟨(Nat.le_of_ble_eq_true rfl), (Nat.le_of_ble_eq_true rfl)⟩ rfl hl.1 rfl (Nat.le_of_ble_eq_true rfl) dL_build_305 ⟨(by dsimp only [fR]; omega), (by dsimp only [fR]; omega)⟩) hw (fun r ad1 M1 H locs hp hw => ?_)
                    obtain ⟨hC3, hr3, h03, er⟩ := hp
                    rw [er]
                    rw [← h03, ← (hr3 3000 (by omega) (by omega)).1] at hl
                    exact rest308 ad1 M1 hC3 (isSim_reg hS hr3 (Or.inl (by omega))) (fReg_tr hrA (fReg_w hr3 (by omega) (by omega))) (h03.trans h0) ls _ _ hw hl
                · have c_11 := bI_f.mp c_11
                  refine lv_goto (tgt := 326) hx hb dL_build_259 (by decide) ?_
                  refine lv_iinc (v := nI (k + 1)) (lv' := [(7, .int (nI (k + 1))), (9, .int (nI cc)), (8, .int xx), (6, .int (nI nP)), (5, .int (nI br)), (4, .int (nI bc)), (2, .ref (ad 3000)), (1, .ref (gXb g)), (0, .ref (ad 0))]) hx hb dL_build_326 hl (k := 2) rfl (nI_1 k) (by decide) rfl (fun ls hl => ?_)
                  refine lv_goto (tgt := 204) hx hb dL_build_329 (by decide) ?_
                  refine W.widen (k := 68 + 4 * (k + 1)) (n := 1444 + 60 * (k + 1)) (by omega) (by omega) ?_
                  exact ih (k + 1) (by omega) (by omega) ad M T U kf nf hB ⟨d1, by omega, d3⟩ hrA h0 ls _ _ hw (lv_sub hl [0, 3, 4, 5, 6, 7, 8] rfl)
          refine W.widen (k := 68 + 4 * 0) (n := 1444 + 60 * 0) (by omega) (by omega) ?_
          exact loop204 (nP + 1) 0 (by omega) (by omega) ad M T U kf nf hB ⟨hpos, by omega, by omega⟩ hrA h0 ls _ _ hw (lv_sub hl [0, 1, 2, 3, 5, 6, 7] rfl)
        · have c_1 := nI_nle' (a := nH) (b := k) c_1 (by omega) (by omega)
          refine lv_aload_n hx hb dL_build_58 rfl (lv_at hl 5 rfl) ?_
          refine lv_iconst (v := 1) hx hb dL_build_59 (by decide) ?_
          refine lv_iload hx hb dL_build_60 (lv_at hl 0 rfl) ?_
          refine lv_iconst (v := 3) hx hb dL_build_62 (by decide) ?_
          refine lv_irem hx hb dL_build_63 (by decide) ?_
          refine f_top (y := nI (k % 3)) (pk_rem (a := k) (d := 3) (by omega) (by omega) (by omega)) ?_
          refine lv_iadd hx hb dL_build_64 ?_
          refine f_top (y := nI (k % 3 + 1)) ((nI_add 1 (k % 3)).trans (by rw [Nat.add_comm])) ?_
          refine fk_di (fcS X hw (c_cell l g ad M hXn (k := (k % 3 + 1)) (by omega)) wq602 kSL_cell ⟨(Nat.le_of_ble_eq_true rfl), (Nat.le_of_ble_eq_true rfl)⟩ rfl hl.1 rfl (Nat.le_of_ble_eq_true rfl) dL_build_65 ⟨(by dsimp only [fR]; omega), (by dsimp only [fR]; omega)⟩) hw (fun H locs hw => ?_)
          refine lv_iload hx hb dL_build_68 (lv_at hl 0 rfl) ?_
          refine lv_ishr hx hb dL_build_70 ?_
          refine lv_bipush (v := 7) hx hb dL_build_71 (by decide) ?_
          refine lv_iload hx hb dL_build_73 (lv_at hl 0 rfl) ?_
          refine lv_imul hx hb dL_build_75 ?_
          refine lv_iadd hx hb dL_build_76 ?_
          obtain ⟨xx, exx⟩ : ∃ z, z = ((lCell g (k % 3 + 1)) >>> ((nI k) &&& 31)) + (7 * (nI k)) := ⟨_, rfl⟩
          refine f_top (y := xx) exx.symm ?_
          refine lv_istore (lv' := [(7, .int xx), (6, .int (nI k)), (5, .int (nI br)), (4, .int (nI bc)), (3, .int (nI nH)), (2, .ref (ad 3000)), (1, .ref (gXb g)), (0, .ref (ad 0))]) hx hb dL_build_77 hl (by decide) rfl (fun ls hl => ?_)
          refine lv_iload hx hb dL_build_79 (lv_at hl 3 rfl) ?_
          refine lv_iload hx hb dL_build_81 (lv_at hl 0 rfl) ?_
          refine lv_bipush (v := 6) hx hb dL_build_83 (by decide) ?_
          refine fk_di (fcS X hw (c_below l g ad M xx (N := 6) (by omega) (by omega)) wq637 kSL_below ⟨(Nat.le_of_ble_eq_true rfl), (Nat.le_of_ble_eq_true rfl)⟩ rfl hl.1 rfl (Nat.le_of_ble_eq_true rfl) dL_build_85 ⟨(by dsimp only [fR]; omega), (by dsimp only [fR]; omega)⟩) hw (fun H locs hw => ?_)
          have hb85 : lBel xx 6 < 6 := lBel_lt (by omega)
          obtain ⟨p1, ep1⟩ : ∃ z, z = lBel xx 6 := ⟨_, rfl⟩
          rw [← ep1] at hb85
          refine f_top (y := nI p1) (by rw [ep1]) ?_
          refine lv_iadd hx hb dL_build_88 ?_
          refine lv_bipush (v := 14) hx hb dL_build_89 (by decide) ?_
          refine lv_iload hx hb dL_build_91 (lv_at hl 2 rfl) ?_
          refine lv_iload hx hb dL_build_93 (lv_at hl 0 rfl) ?_
          refine lv_iconst (v := 3) hx hb dL_build_95 (by decide) ?_
          refine lv_ishr hx hb dL_build_96 ?_
          refine lv_iconst (v := 5) hx hb dL_build_97 (by decide) ?_
          refine fk_di (fcS X hw (c_below l g ad M (xx >>> (3 &&& 31)) (N := 5) (by omega) (by omega)) wq637 kSL_below ⟨(Nat.le_of_ble_eq_true rfl), (Nat.le_of_ble_eq_true rfl)⟩ rfl hl.1 rfl (Nat.le_of_ble_eq_true rfl) dL_build_98 ⟨(by dsimp only [fR]; omega), (by dsimp only [fR]; omega)⟩) hw (fun H locs hw => ?_)
          have hb98 : lBel (xx >>> (3 &&& 31)) 5 < 5 := lBel_lt (by omega)
          obtain ⟨p2, ep2⟩ : ∃ z, z = lBel (xx >>> (3 &&& 31)) 5 := ⟨_, rfl⟩
          rw [← ep2] at hb98
          refine f_top (y := nI p2) (by rw [ep2]) ?_
          refine lv_iadd hx hb dL_build_101 ?_
          refine lv_imul hx hb dL_build_102 ?_
          refine lv_iadd hx hb dL_build_103 ?_
          obtain ⟨cc, ecc⟩ : ∃ z, z = bc + p1 + 14 * (br + p2) := ⟨_, rfl⟩
          refine f_top (y := nI cc) (by rw [ecc]; exact cell_nI) ?_
          have hcc : cc < 140 := by omega
          refine lv_istore (lv' := [(8, .int (nI cc)), (7, .int xx), (6, .int (nI k)), (5, .int (nI br)), (4, .int (nI bc)), (3, .int (nI nH)), (2, .ref (ad 3000)), (1, .ref (gXb g)), (0, .ref (ad 0))]) hx hb dL_build_104 hl (by decide) rfl (fun ls hl => ?_)
          refine lv_aload_n hx hb dL_build_106 rfl (lv_at hl 6 rfl) ?_
          refine lv_iload hx hb dL_build_107 (lv_at hl 0 rfl) ?_
          have hst := (st_of hs hg : stOk kf U) cc hcc
          refine fk_di (fcV X hw (c_s_isFree l g ad M hS (by omega) (nI cc) (decide (kf cc = 0)) (fun z => by rw [decide_eq_false (hst.1 z)]; rfl) (fun z1 z2 => by rw [decide_eq_true (hst.2 z1 z2)]; rfl)) hS0 rfl wq641 kVX8_isFree ⟨(Nat.le_of_ble_eq_true rfl), (Nat.le_of_ble_eq_true rfl)⟩ rfl hl.1 rfl (Nat.le_of_ble_eq_true rfl) dL_build_109 ⟨(by dsimp only [fR]; omega), (by dsimp only [fR]; omega)⟩) hw (fun H locs hw => ?_)
          refine lv_if_ne (tgt := 118) hx hb dL_build_112 (by decide) (fun c_15 => ?_) (fun c_15 => ?_)
          · have c_15 := bI_nf.mp c_15
            have hk0 : kf cc = 0 := of_decide_eq_true c_15
            have hon := on_of hcc
            refine lv_iconst (v := 1) hx hb dL_build_118 (by decide) ?_
            refine lv_iload hx hb dL_build_119 (lv_at hl 1 rfl) ?_
            refine lv_iconst (v := 5) hx hb dL_build_121 (by decide) ?_
            refine lv_ishr hx hb dL_build_122 ?_
            refine lv_bipush (v := 9) hx hb dL_build_123 (by decide) ?_
            refine fk_di (fcS X hw (c_below l g ad M (xx >>> (5 &&& 31)) (N := 9) (by omega) (by omega)) wq637 kSL_below ⟨(Nat.le_of_ble_eq_true rfl), (Nat.le_of_ble_eq_true rfl)⟩ rfl hl.1 rfl (Nat.le_of_ble_eq_true rfl) dL_build_125 ⟨(by dsimp only [fR]; omega), (by dsimp only [fR]; omega)⟩) hw (fun H locs hw => ?_)
            have hb125 : lBel (xx >>> (5 &&& 31)) 9 < 9 := lBel_lt (by omega)
            obtain ⟨p3, ep3⟩ : ∃ z, z = lBel (xx >>> (5 &&& 31)) 9 := ⟨_, rfl⟩
            rw [← ep3] at hb125
            refine f_top (y := nI p3) (by rw [ep3]) ?_
            refine lv_iadd hx hb dL_build_128 ?_
            refine f_top (y := nI (p3 + 1)) ((nI_add 1 p3).trans (by rw [Nat.add_comm])) ?_
            refine lv_istore (lv' := [(9, .int (nI (p3 + 1))), (8, .int (nI cc)), (7, .int xx), (6, .int (nI k)), (5, .int (nI br)), (4, .int (nI bc)), (3, .int (nI nH)), (2, .ref (ad 3000)), (1, .ref (gXb g)), (0, .ref (ad 0))]) hx hb dL_build_129 hl (by decide) rfl (fun ls hl => ?_)
            refine lv_iconst (v := 1) hx hb dL_build_131 (by decide) ?_
            refine lv_iload hx hb dL_build_132 (lv_at hl 2 rfl) ?_
            refine lv_iconst (v := 2) hx hb dL_build_134 (by decide) ?_
            refine lv_ishr hx hb dL_build_135 ?_
            refine lv_bipush (v := 60) hx hb dL_build_136 (by decide) ?_
            refine fk_di (fcS X hw (c_below l g ad M (xx >>> (2 &&& 31)) (N := 60) (by omega) (by omega)) wq637 kSL_below ⟨(Nat.le_of_ble_eq_true rfl), (Nat.le_of_ble_eq_true rfl)⟩ rfl hl.1 rfl (Nat.le_of_ble_eq_true rfl) dL_build_138 ⟨(by dsimp only [fR]; omega), (by dsimp only [fR]; omega)⟩) hw (fun H locs hw => ?_)
            have hb138 : lBel (xx >>> (2 &&& 31)) 60 < 60 := lBel_lt (by omega)
            obtain ⟨p4, ep4⟩ : ∃ z, z = lBel (xx >>> (2 &&& 31)) 60 := ⟨_, rfl⟩
            rw [← ep4] at hb138
            refine f_top (y := nI p4) (by rw [ep4]) ?_
            refine lv_iadd hx hb dL_build_141 ?_
            refine f_top (y := nI (p4 + 1)) ((nI_add 1 p4).trans (by rw [Nat.add_comm])) ?_
            refine lv_istore (lv' := [(10, .int (nI (p4 + 1))), (9, .int (nI (p3 + 1))), (8, .int (nI cc)), (7, .int xx), (6, .int (nI k)), (5, .int (nI br)), (4, .int (nI bc)), (3, .int (nI nH)), (2, .ref (ad 3000)), (1, .ref (gXb g)), (0, .ref (ad 0))]) hx hb dL_build_142 hl (by decide) rfl (fun ls hl => ?_)
            refine lv_aload_n hx hb dL_build_144 rfl (lv_at hl 10 rfl) ?_
            refine lv_iload hx hb dL_build_145 (lv_at hl 2 rfl) ?_
            refine lv_bipush (v := 14) hx hb dL_build_147 (by decide) ?_
            refine lv_irem hx hb dL_build_149 (by decide) ?_
            refine f_top (y := nI (cc % 14)) (pk_rem (a := cc) (d := 14) (by omega) (by omega) (by omega)) ?_
            refine lv_iload hx hb dL_build_150 (lv_at hl 2 rfl) ?_
            refine lv_bipush (v := 14) hx hb dL_build_152 (by decide) ?_
            refine lv_idiv hx hb dL_build_154 (by decide) ?_
            refine f_top (y := nI (cc / 14)) (pk_div (a := cc) (d := 14) (by omega) (by omega) (by omega)) ?_
            refine lv_iload hx hb dL_build_155 (lv_at hl 1 rfl) ?_
            refine lv_iload hx hb dL_build_157 (lv_at hl 0 rfl) ?_
            have rest162 : ∀ (ad : Nat → Nat) (M : fM) (hC : isC g ad M (addH T (newH (nI cc) (nI (p3 + 1)) (nI (p4 + 1)))) T0 (upd kf cc 1) (upd nf cc (nI (tHn T))) f0) (hS : isSim g ad M U) (hrA : fReg 0 3420 ado Mo ad M) (h0 : ad 0 = ado 0) (ls : Array Slot) (H : Heap) (locs : List Loc), fw g ad M s H locs → lv_has ls 13 [(10, .int (nI (p4 + 1))), (9, .int (nI (p3 + 1))), (8, .int (nI cc)), (7, .int xx), (6, .int (nI k)), (5, .int (nI br)), (4, .int (nI bc)), (3, .int (nI nH)), (2, .ref (ad 3000)), (1, .ref (gXb g)), (0, .ref (ad 0))] → W p l e (fR 10 290 110 2200) s m args below meth c H locs (4 + 4 * k + 2) (4 + 90 * k + 50) Q9 (F0 m 162 ls [.int (nI (tHn T))]) := by
              intro ad M hC hS hrA h0 ls H locs hw hl
              obtain ⟨hS0, ⟨fHh, hSh, hSH⟩, ⟨fEe, hSe, hSE⟩, ⟨fPp, hSp, hSP⟩, hHs, hEs, hPs, hn1, hn3, hn2⟩ := id hS
              refine lv_aload_n hx hb dL_build_162 rfl (lv_at hl 8 rfl) ?_
              refine f_get X hw hS0 fc9 1 (by decide) wq623 rfl (v := .ref (ad 3001)) rfl dL_build_163 ?_
              refine f_alen X hw 4 hSh rfl dL_build_166 ?_
              refine lv_icmp_eq (tgt := 172) hx hb dL_build_167 (by decide) (fun c_16 => ?_) (fun c_16 => absurd (by rw [e1U]) c_16)
              have c_16 := nI_eq' (a := (tHn T)) (b := (tHn U)) c_16 (by omega) (by omega)
              refine lv_aload_n hx hb dL_build_172 rfl (lv_at hl 8 rfl) ?_
              refine lv_iload hx hb dL_build_173 (lv_at hl 2 rfl) ?_
              refine lv_iload hx hb dL_build_175 (lv_at hl 1 rfl) ?_
              refine lv_iload hx hb dL_build_177 (lv_at hl 0 rfl) ?_
              refine fk_v (fcV X hw (c_s_build l g ad M hS (nI cc) (nI (p3 + 1)) (nI (p4 + 1)) (by omega)) hS0 rfl wq709 kVX8_build ⟨(Nat.le_of_ble_eq_true rfl), (Nat.le_of_ble_eq_true rfl)⟩ rfl hl.1 rfl (Nat.le_of_ble_eq_true rfl) dL_build_179 ⟨(by dsimp only [fR]; omega), (by dsimp only [fR]; omega)⟩) hw (fun ad1 M1 H locs hp hw => ?_)
              obtain ⟨hS4, hr4, h304⟩ := hp
              have hC4 := isC_eq hC (fun l h => hr4 l (by omega) (by omega))
              have e04 := (hr4 0 (by omega) (by omega)).1
              refine lv_iinc (v := nI (k + 1)) (lv' := [(6, .int (nI (k + 1))), (10, .int (nI (p4 + 1))), (9, .int (nI (p3 + 1))), (8, .int (nI cc)), (7, .int xx), (5, .int (nI br)), (4, .int (nI bc)), (3, .int (nI nH)), (2, .ref (ad 3000)), (1, .ref (gXb g)), (0, .ref (ad 0))]) hx hb dL_build_182 hl (k := 4) rfl (nI_1 k) (by decide) rfl (fun ls hl => ?_)
              refine lv_goto (tgt := 52) hx hb dL_build_185 (by decide) ?_
              refine W.widen (k := 4 + 4 * (k + 1)) (n := 4 + 90 * (k + 1)) (by omega) (by omega) ?_
              rw [← e04, ← h304] at hl
              exact ih (k + 1) (by omega) (by omega) ad1 M1 _ _ _ _ ⟨hC4, hS4, (by rw [nwH_eq]; exact sim_addH hs), ok_addH ho hcc (freeB_0 (by omega) hcc hk0) (by omega), g_addH hg hcc hk0, okL_addH hl9 (by omega) (by omega) (by omega) (by omega), hm0⟩ ⟨by show tHn T + 1 ≤ k + 1; omega, fun _ => Nat.succ_pos _, d3, d4⟩ (fReg_tr hrA (fReg_w hr4 (by omega) (by omega))) (e04.trans h0) ls _ _ hw (lv_sub hl [0, 5, 6, 7, 8, 9, 10] rfl)
            refine fk_i (fcV X hw (c_X5_build l g ad M hC hon.1 hcc hon.2 (inR_n (a := 1) (b := 9) (by omega) (by omega) (by omega)) (inR_n (a := 1) (b := 60) (by omega) (by omega) (by omega)) (by rw [freeB_0 (by omega) hcc hk0, decide_eq_true (by omega)]; rfl)) hF rfl wq649 kVX5_build ⟨(Nat.le_of_ble_eq_true rfl), (Nat.le_of_ble_eq_true rfl)⟩ rfl hl.1 rfl (Nat.le_of_ble_eq_true rfl) dL_build_159 ⟨(by dsimp only [fR]; omega), (by dsimp only [fR]; omega)⟩) hw (fun r ad1 M1 H locs hp hw => ?_)
            obtain ⟨hC3, hr3, h03, er⟩ := hp
            rw [er]
            rw [← h03, ← (hr3 3000 (by omega) (by omega)).1] at hl
            exact rest162 ad1 M1 hC3 (isSim_reg hS hr3 (Or.inl (by omega))) (fReg_tr hrA (fReg_w hr3 (by omega) (by omega))) (h03.trans h0) ls _ _ hw hl
          · have c_15 := bI_f.mp c_15
            refine lv_goto (tgt := 182) hx hb dL_build_115 (by decide) ?_
            refine lv_iinc (v := nI (k + 1)) (lv' := [(6, .int (nI (k + 1))), (8, .int (nI cc)), (7, .int xx), (5, .int (nI br)), (4, .int (nI bc)), (3, .int (nI nH)), (2, .ref (ad 3000)), (1, .ref (gXb g)), (0, .ref (ad 0))]) hx hb dL_build_182 hl (k := 2) rfl (nI_1 k) (by decide) rfl (fun ls hl => ?_)
            refine lv_goto (tgt := 52) hx hb dL_build_185 (by decide) ?_
            refine W.widen (k := 4 + 4 * (k + 1)) (n := 4 + 90 * (k + 1)) (by omega) (by omega) ?_
            exact ih (k + 1) (by omega) (by omega) ad M T U kf nf hB ⟨by omega, fun _ => Nat.pos_of_ne_zero (fun z => absurd (decide_eq_true (hst.2 (fun j hj => by omega) (fun j hj => by omega))) (by rw [c_15]; decide)), d3, d4⟩ hrA h0 ls _ _ hw (lv_sub hl [0, 3, 4, 5, 6, 7, 8] rfl)
    refine W.widen (k := 4 + 4 * 0) (n := 4 + 90 * 0) (by omega) (by omega) ?_
    exact loop52 (nH + 1) 0 (by omega) (by omega) ad M T0 T0 f0 f0 hB ⟨Nat.zero_le _, fun z => absurd z (Nat.lt_irrefl _), rfl, rfl⟩ hrA h0 ls _ _ hw (lv_sub hl [0, 1, 2, 3, 4, 6, 5] rfl)
  refine fk_v (fcIN X hw (c_s_init l g ad1 Mn1 eS1) wn611 kIX8_init ⟨(Nat.le_of_ble_eq_true rfl), (Nat.le_of_ble_eq_true rfl)⟩ rfl hl.1 rfl (Nat.le_of_ble_eq_true rfl) dL_build_4 ⟨(by dsimp only [fR]; omega), (by dsimp only [fR]; omega)⟩) hw (fun ad2 M2 H locs hp hw => ?_)
  obtain ⟨hS2, hr2, h302⟩ := hp
  have R2 : ∀ l, l < 3000 → ad2 l = ad l ∧ M2 l = M l := fun l h => ⟨(hr2 l (by omega) (by omega)).1.trans (eA1 l (by omega)), (hr2 l (by omega) (by omega)).2.trans (eM1 l (by omega))⟩
  have hC2 := isC_eq hC (fun l h => R2 l (by omega))
  rw [← (R2 0 (by omega)).1] at hl
  rw [← h302]
  exact rest7 ad2 M2 ⟨hC2, hS2, iS0, iT0, iG0, iL0, rfl⟩ (by rw [hado, hMo]; exact fun l a b => ⟨(hr2 l (by omega) b).1.trans (eA1 l (by omega)), (hr2 l (by omega) b).2.trans (eM1 l (by omega))⟩) ((R2 0 (by omega)).1.trans (by rw [hado])) ls _ _ hw hl
