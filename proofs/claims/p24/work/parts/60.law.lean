/-! THE LAW: its ground (isTown_eq, isC_eq: of my rows of whole) -/
theorem isTown_eq {g : fG} {ad ad1 : Nat → Nat} {M M1 : fM} {b : Nat} {T : fTn} (h : isTown g ad M b T) (R : ∀ k, k < 1000 → ad1 (b + k) = ad (b + k) ∧ M1 (b + k) = M (b + k)) : isTown g ad1 M1 b T := by
  obtain ⟨h0, h1, h2, h3, h5, h6, h7, n1, n2, n3, hA⟩ := h
  refine ⟨?_, fList_A h1 (R 4 (by omega)).1 (fun i hi => ?_) (R 1 (by omega)).2 (R 4 (by omega)).2, fList_A h2 (R 5 (by omega)).1 (fun i hi => ?_) (R 2 (by omega)).2 (R 5 (by omega)).2, fList_A h3 (R 6 (by omega)).1 (fun i hi => ?_) (R 3 (by omega)).2 (R 6 (by omega)).2, fun j hj => ?_, fun j hj => ?_, fun j hj => ?_, n1, n2, n3, hA⟩
  · rw [show M1 b = M b from (R 0 (by omega)).2, (R 1 (by omega)).1, (R 2 (by omega)).1, (R 3 (by omega)).1]
    exact h0
  · have := (R (100 + i) (by omega)).1
    rwa [← Nat.add_assoc] at this
  · have := (R (200 + i) (by omega)).1
    rwa [← Nat.add_assoc] at this
  · have := (R (300 + i) (by omega)).1
    rwa [← Nat.add_assoc] at this
  · have := (R (100 + j) (by omega)).2
    rw [← Nat.add_assoc] at this
    exact this.trans (h5 j hj)
  · have := (R (200 + j) (by omega)).2
    rw [← Nat.add_assoc] at this
    exact this.trans (h6 j hj)
  · have := (R (300 + j) (by omega)).2
    rw [← Nat.add_assoc] at this
    exact this.trans (h7 j hj)
theorem isC_eq {g : fG} {ad ad1 : Nat → Nat} {M M1 : fM} {T A : fTn} {kf nf sf : Nat → Int32} (h : isC g ad M T A kf nf sf) (R : ∀ l, (l < 5 ∨ (1000 ≤ l ∧ l < 3000)) → ad1 l = ad l ∧ M1 l = M l) : isC g ad1 M1 T A kf nf sf := by
  obtain ⟨h1, ⟨a0, a1, a2, a3⟩, h3, h4⟩ := h
  refine ⟨isFE_of h1 (R 0 (by omega)).2 (R 1 (by omega)).1 (R 1000 (by omega)).1 (R 2000 (by omega)).1, ⟨?_, (R 2 (by omega)).2.trans a1, (R 3 (by omega)).2.trans a2, (R 4 (by omega)).2.trans a3⟩, isTown_eq h3 (fun k hk => R _ (by omega)), isTown_eq h4 (fun k hk => R _ (by omega))⟩
  rw [(R 1 (by omega)).2, (R 2 (by omega)).1, (R 3 (by omega)).1, (R 4 (by omega)).1]
  exact a0
/-- both towns, as the law has them at any time -/
def LW (g : fG) (ad : Nat → Nat) (M : fM) (T : fTn) (kf nf : Nat → Int32) : Prop := ∃ (U A : fTn) (sf : Nat → Int32), isC g ad M T A kf nf sf ∧ leT A T ∧ isSim g ad M U ∧ simT U T ∧ okT kf T ∧ gOk kf nf T ∧ okL T
def cntT (T2 T : fTn) : Prop := tHn T2 = tHn T ∧ tPn T2 = tPn T ∧ tEn T2 = tEn T ∧ tM T2 = tM T
abbrev fLw (g : fG) (ad : Nat → Nat) (M : fM) (T : fTn) (kf nf : Nat → Int32) : Int32 → (Nat → Nat) → fM → Prop := fun r ad1 M1 => r = 1 ∧ (∃ T2, LW g ad1 M1 T2 kf nf ∧ cntT T2 T) ∧ fReg 0 3420 ad M ad1 M1 ∧ ad1 0 = ad 0 ∧ ad1 3000 = ad 3000
theorem cntT_rf {T : fTn} : cntT T T := ⟨rfl, rfl, rfl, rfl⟩
theorem isC_hi {g : fG} {ad : Nat → Nat} {M M1 : fM} {T A : fTn} {kf nf sf : Nat → Int32} (h : isC g ad M T A kf nf sf) (R : ∀ l, l < 3000 → M1 l = M l) : isC g ad M1 T A kf nf sf := isC_eq h (fun l hl => ⟨rfl, R l (by omega)⟩)
/-- what a call of below answers -/
def lBel (x : Int32) (N : Nat) : Nat := (x.toBitVec.toNat % 2 ^ 31) % N
theorem lBel_lt {x : Int32} {N : Nat} (h : 0 < N) : lBel x N < N := Nat.mod_lt _ h
/-- .. of cell -/
def lCell (g : fG) (k : Nat) : Int32 := if k < gXn g then gXf g k else 790386105 * (nI k + 3)
theorem inR_n {n a b : Nat} (h1 : a ≤ n) (h2 : n ≤ b) (hb : b < 2 ^ 31) : inR (nI n) (nI a) (nI b) = true := inR_mk (fun z => absurd (nI_lt' z (by omega) (by omega)) (by omega)) (nI_le h2 hb)
set_option maxHeartbeats 4000000 in
set_option maxRecDepth 100000 in
theorem c_below (l : Launch) (g : fG) (ad : Nat → Nat) (M : fM) (x : Int32) {N : Nat} (hN : 0 < N) (hN2 : N < 100000) : fCi l g yL_below cL_below 2 ((some .int)) 0 0 0 0 ad M [.int x, .int (nI N)] (fDi ad M (nI (lBel x N))) := by
  refine f_body (own := RL) (by decide +kernel) rfl (Nat.le_of_ble_eq_true rfl) ?_
  intro p e s m args below meth c ls X hw hin hl
  have hx := X.1
  have hb := X.2.1
  have hl : lv_has ls 2 [(0, .int x), (1, .int (nI N))] := hl
  refine lv_iload_n hx hb dL_below_0 rfl (lv_at hl 0 rfl) ?_
  refine lv_ldc hx hb X.2.2.2.1 (X.2.2.2.2.1 _ wq640) dL_below_1 ?_
  refine lv_iand hx hb dL_below_3 ?_
  refine lv_iload_n hx hb dL_below_4 rfl (lv_at hl 1 rfl) ?_
  refine lv_irem hx hb dL_below_5 (fun z => nI_ne0 hN (by omega) z) ?_
  refine f_top (y := nI (lBel x N)) (by rw [pk_and x (m := 2147483647) 31 (by decide)]; exact pk_rem (a := x.toBitVec.toNat % 2 ^ 31) (d := N) (Nat.mod_lt _ (by decide)) hN (by omega)) ?_
  exact f_iret X hw ⟨rfl, rfl, rfl⟩ (Nat.le_refl _) (Nat.le_refl _) dL_below_6
set_option maxHeartbeats 4000000 in
set_option maxRecDepth 100000 in
theorem c_cell (l : Launch) (g : fG) (ad : Nat → Nat) (M : fM) (hXn : gXn g ≤ 260) {k : Nat} (hk : k < 1000) : fCi l g yL_cell cL_cell 2 ((some .int)) 0 0 0 0 ad M [.ref (gXb g), .int (nI k)] (fDi ad M (lCell g k)) := by
  refine f_body (own := RL) (by decide +kernel) rfl (Nat.le_of_ble_eq_true rfl) ?_
  intro p e s m args below meth c ls X hw hin hl
  have hx := X.1
  have hb := X.2.1
  have hl : lv_has ls 2 [(0, .ref (gXb g)), (1, .int (nI k))] := hl
  refine lv_iload_n hx hb dL_cell_0 rfl (lv_at hl 1 rfl) ?_
  refine lv_aload_n hx hb dL_cell_1 rfl (lv_at hl 0 rfl) ?_
  refine f_slen X hw dL_cell_2 ?_
  refine lv_icmp_ge (tgt := 12) hx hb dL_cell_3 (by decide) (fun c_1 => ?_) (fun c_1 => ?_)
  · have c_1 := nI_le' (a := (gXn g)) (b := k) c_1 (by omega) (by omega)
    refine lv_ldc hx hb X.2.2.2.1 (X.2.2.2.2.1 _ wq605) dL_cell_12 ?_
    refine lv_iload_n hx hb dL_cell_14 rfl (lv_at hl 1 rfl) ?_
    refine lv_iconst (v := 3) hx hb dL_cell_15 (by decide) ?_
    refine lv_iadd hx hb dL_cell_16 ?_
    refine lv_imul hx hb dL_cell_17 ?_
    exact f_iret X hw ⟨rfl, rfl, (if_neg (by omega)).symm⟩ (Nat.le_refl _) (Nat.le_refl _) dL_cell_18
  · have c_1 := nI_nle' (a := (gXn g)) (b := k) c_1 (by omega) (by omega)
    refine lv_aload_n hx hb dL_cell_6 rfl (lv_at hl 0 rfl) ?_
    refine lv_iload_n hx hb dL_cell_7 rfl (lv_at hl 1 rfl) ?_
    refine f_sld X hw (vp_in_nI (n := k) (by omega) (by omega)) dL_cell_8 ?_
    rw [nI_clamp (n := k) (by omega)]
    refine lv_goto (tgt := 18) hx hb dL_cell_9 (by decide) ?_
    exact f_iret X hw ⟨rfl, rfl, (if_pos (by omega)).symm⟩ (Nat.le_refl _) (Nat.le_refl _) dL_cell_18
theorem light_0 {T : fTn} {hj j : Nat} {x : Int32} : tH (sH T hj (upd (upd (tH T hj) 3 1) 4 x)) j 0 = tH T j 0 := by
  show (if j = hj then upd (upd (tH T hj) 3 1) 4 x else tH T j) 0 = _
  by_cases q : j = hj
  · rw [if_pos q, upd_ne (by omega), upd_ne (by omega), q]
  · rw [if_neg q]
set_option maxHeartbeats 4000000 in
set_option maxRecDepth 100000 in
theorem c_light (l : Launch) (g : fG) (ad : Nat → Nat) (M : fM) {T : fTn} {kf nf : Nat → Int32} (hLW : LW g ad M T kf nf) (hH : 0 < tHn T) (x : Int32) : fCi l g yL_light cL_light 4 ((some .boolean)) 8 220 0 0 ad M [.ref (ad 0), .ref (ad 3000), .int x] (fLw g ad M T kf nf) := by
  refine f_body (own := RL) (by decide +kernel) rfl (Nat.le_of_ble_eq_true rfl) ?_
  intro p e s m args below meth c ls X hw hin hl
  have hx := X.1
  have hb := X.2.1
  have hl : lv_has ls 4 [(0, .ref (ad 0)), (1, .ref (ad 3000)), (2, .int x)] := hl
  obtain ⟨U, A, sf, hC, hLe, hS, hs, ho, hg, hl9⟩ := id hLW
  have hF : M 0 = some (.inr (6, [.ref (ad 1), .ref (ad 1000), .ref (ad 2000)])) := hC.1
  obtain ⟨hS0, ⟨fHh, hSh, hSH⟩, ⟨fEe, hSe, hSE⟩, ⟨fPp, hSp, hSP⟩, hHs, hEs, hPs, hn1, hn3, hn2⟩ := id hS
  obtain ⟨e0U, e1U, e2U, e3U⟩ := id hs.1
  refine lv_aload_n hx hb dL_light_0 rfl (lv_at hl 1 rfl) ?_
  refine f_get X hw hS0 fc9 1 (by decide) wq623 rfl (v := .ref (ad 3001)) rfl dL_light_1 ?_
  refine lv_iload_n hx hb dL_light_4 rfl (lv_at hl 2 rfl) ?_
  refine lv_aload_n hx hb dL_light_5 rfl (lv_at hl 1 rfl) ?_
  refine f_get X hw hS0 fc9 1 (by decide) wq623 rfl (v := .ref (ad 3001)) rfl dL_light_6 ?_
  refine f_alen X hw 4 hSh rfl dL_light_9 ?_
  refine fk_di (fcS X hw (c_below l g ad M x (N := tHn U) (by omega) (by omega)) wq637 kSL_below ⟨(Nat.le_of_ble_eq_true rfl), (Nat.le_of_ble_eq_true rfl)⟩ rfl hl.1 rfl (Nat.le_of_ble_eq_true rfl) dL_light_10 ⟨Nat.le_refl _, Nat.le_refl _⟩) hw (fun H locs hw => ?_)
  have hb10 : lBel x (tHn U) < tHn U := lBel_lt (by omega)
  obtain ⟨hj, ehj⟩ : ∃ z, z = lBel x (tHn U) := ⟨_, rfl⟩
  rw [← ehj] at hb10
  refine f_top (y := nI hj) (by rw [ehj]) ?_
  refine f_aaldY X hw hSh (vp_in_nI (n := hj) (by omega) (by omega)) (q := ad (3100 + hj)) (by rw [nI_clamp (by omega)]; exact hSH hj (by omega)) dL_light_13 ?_
  refine lv_astore_n (lv' := [(3, .ref (ad (3100 + hj))), (0, .ref (ad 0)), (1, .ref (ad 3000)), (2, .int x)]) hx hb dL_light_14 rfl hl (by decide) rfl (fun ls hl => ?_)
  refine lv_aload_n hx hb dL_light_15 rfl (lv_at hl 0 rfl) ?_
  refine f_get X hw (hHs hj (by omega)) fc8 3 (by decide) wq722 rfl (v := .int ((tH U hj) 3)) rfl dL_light_16 ?_
  refine lv_if_eq (tgt := 24) hx hb dL_light_19 (by decide) (fun c_1 => ?_) (fun c_1 => ?_)
  · refine lv_aload_n hx hb dL_light_24 rfl (lv_at hl 0 rfl) ?_
    refine lv_iconst (v := 1) hx hb dL_light_25 (by decide) ?_
    refine f_put X hw (hHs hj (by omega)) fc8 3 (by decide) wq722 rfl rfl (v := .int 1) rfl rfl (Nat.le_of_ble_eq_true rfl) dL_light_26 (fun H locs hw => ?_)
    have hw : fw g ad (fU M (3100 + hj) (.inr (8, hV (upd (tH U hj) 3 1)))) s H locs := hw
    have hS0 : (fU M (3100 + hj) (.inr (8, hV (upd (tH U hj) 3 1)))) 3000 = some (.inr (9, [.int (tM U), .ref (ad 3001), .ref (ad 3002), .ref (ad 3003)])) := (fU_n (by omega)).trans hS0
    have hSh : (fU M (3100 + hj) (.inr (8, hV (upd (tH U hj) 3 1)))) 3001 = some (.inl (gY g, tHn U, .inr (.inr (.inr (.inr fHh))))) := (fU_n (by omega)).trans hSh
    have hSe : (fU M (3100 + hj) (.inr (8, hV (upd (tH U hj) 3 1)))) 3002 = some (.inl (gW g, tEn U, .inr (.inr (.inr (.inr fEe))))) := (fU_n (by omega)).trans hSe
    have hSp : (fU M (3100 + hj) (.inr (8, hV (upd (tH U hj) 3 1)))) 3003 = some (.inl (gQ g, tPn U, .inr (.inr (.inr (.inr fPp))))) := (fU_n (by omega)).trans hSp
    have hF : (fU M (3100 + hj) (.inr (8, hV (upd (tH U hj) 3 1)))) 0 = some (.inr (6, [.ref (ad 1), .ref (ad 1000), .ref (ad 2000)])) := (fU_n (by omega)).trans hF
    have hM_3100___hj : (fU M (3100 + hj) (.inr (8, hV (upd (tH U hj) 3 1)))) (3100 + hj) = some (.inr (8, hV (upd (tH U hj) 3 1))) := fU_s
    refine lv_aload_n hx hb dL_light_29 rfl (lv_at hl 0 rfl) ?_
    refine lv_iconst (v := 1) hx hb dL_light_30 (by decide) ?_
    refine lv_iload_n hx hb dL_light_31 rfl (lv_at hl 3 rfl) ?_
    refine lv_iconst (v := 3) hx hb dL_light_32 (by decide) ?_
    refine lv_ishr hx hb dL_light_33 ?_
    refine lv_bipush (v := 99) hx hb dL_light_34 (by decide) ?_
    refine fk_di (fcS X hw (c_below l g ad (fU M (3100 + hj) (.inr (8, hV (upd (tH U hj) 3 1)))) (x >>> (3 &&& 31)) (N := 99) (by omega) (by omega)) wq637 kSL_below ⟨(Nat.le_of_ble_eq_true rfl), (Nat.le_of_ble_eq_true rfl)⟩ rfl hl.1 rfl (Nat.le_of_ble_eq_true rfl) dL_light_36 ⟨Nat.le_refl _, Nat.le_refl _⟩) hw (fun H locs hw => ?_)
    have hb36 : lBel (x >>> (3 &&& 31)) 99 < 99 := lBel_lt (by omega)
    obtain ⟨b9, eb9⟩ : ∃ z, z = lBel (x >>> (3 &&& 31)) 99 := ⟨_, rfl⟩
    rw [← eb9] at hb36
    refine f_top (y := nI b9) (by rw [eb9]) ?_
    refine lv_iadd hx hb dL_light_39 ?_
    refine f_top (y := nI (b9 + 1)) ((nI_add 1 b9).trans (by rw [Nat.add_comm])) ?_
    refine f_put X hw hM_3100___hj fc8 4 (by decide) wq724 rfl rfl (v := .int (nI (b9 + 1))) rfl rfl (Nat.le_of_ble_eq_true rfl) dL_light_40 (fun H locs hw => ?_)
    have hw : fw g ad (fU (fU M (3100 + hj) (.inr (8, hV (upd (tH U hj) 3 1)))) (3100 + hj) (.inr (8, hV (upd (upd (tH U hj) 3 1) 4 (nI (b9 + 1)))))) s H locs := hw
    rw [fU_U] at hw
    have hS0 : (fU M (3100 + hj) (.inr (8, hV (upd (upd (tH U hj) 3 1) 4 (nI (b9 + 1)))))) 3000 = some (.inr (9, [.int (tM U), .ref (ad 3001), .ref (ad 3002), .ref (ad 3003)])) := ((fU_n (by omega)).trans (fU_n (by omega)).symm).trans hS0
    have hSh : (fU M (3100 + hj) (.inr (8, hV (upd (upd (tH U hj) 3 1) 4 (nI (b9 + 1)))))) 3001 = some (.inl (gY g, tHn U, .inr (.inr (.inr (.inr fHh))))) := ((fU_n (by omega)).trans (fU_n (by omega)).symm).trans hSh
    have hSe : (fU M (3100 + hj) (.inr (8, hV (upd (upd (tH U hj) 3 1) 4 (nI (b9 + 1)))))) 3002 = some (.inl (gW g, tEn U, .inr (.inr (.inr (.inr fEe))))) := ((fU_n (by omega)).trans (fU_n (by omega)).symm).trans hSe
    have hSp : (fU M (3100 + hj) (.inr (8, hV (upd (upd (tH U hj) 3 1) 4 (nI (b9 + 1)))))) 3003 = some (.inl (gQ g, tPn U, .inr (.inr (.inr (.inr fPp))))) := ((fU_n (by omega)).trans (fU_n (by omega)).symm).trans hSp
    have hF : (fU M (3100 + hj) (.inr (8, hV (upd (upd (tH U hj) 3 1) 4 (nI (b9 + 1)))))) 0 = some (.inr (6, [.ref (ad 1), .ref (ad 1000), .ref (ad 2000)])) := ((fU_n (by omega)).trans (fU_n (by omega)).symm).trans hF
    have hM_3100___hj : (fU M (3100 + hj) (.inr (8, hV (upd (upd (tH U hj) 3 1) 4 (nI (b9 + 1)))))) (3100 + hj) = some (.inr (8, hV (upd (upd (tH U hj) 3 1) 4 (nI (b9 + 1))))) := fU_s
    refine lv_aload_n hx hb dL_light_43 rfl (lv_at hl 1 rfl) ?_
    refine lv_iload_n hx hb dL_light_44 rfl (lv_at hl 3 rfl) ?_
    refine lv_aload_n hx hb dL_light_45 rfl (lv_at hl 2 rfl) ?_
    refine f_get X hw hS0 fc9 1 (by decide) wq623 rfl (v := .ref (ad 3001)) rfl dL_light_46 ?_
    refine f_alen X hw 4 hSh rfl dL_light_49 ?_
    refine fk_di (fcS X hw (c_below l g ad (fU M (3100 + hj) (.inr (8, hV (upd (upd (tH U hj) 3 1) 4 (nI (b9 + 1)))))) x (N := tHn U) (by omega) (by omega)) wq637 kSL_below ⟨(Nat.le_of_ble_eq_true rfl), (Nat.le_of_ble_eq_true rfl)⟩ rfl hl.1 rfl (Nat.le_of_ble_eq_true rfl) dL_light_50 ⟨Nat.le_refl _, Nat.le_refl _⟩) hw (fun H locs hw => ?_)
    have hb50 : lBel x (tHn U) < tHn U := lBel_lt (by omega)
    refine f_top (y := nI hj) (by rw [ehj]) ?_
    refine lv_aload_n hx hb dL_light_53 rfl (lv_at hl 0 rfl) ?_
    refine f_get X hw hM_3100___hj fc8 4 (by decide) wq724 rfl (v := .int (nI (b9 + 1))) rfl dL_light_54 ?_
    have hrA : fReg 0 3420 ad M ad (fU M (3100 + hj) (.inr (8, hV (upd (upd (tH U hj) 3 1) 4 (nI (b9 + 1)))))) := fReg_U fReg_rf (by omega)
    have hjT : hj < tHn T := by omega
    have h3T : tH T hj 3 = 0 := (hs.2.2.1 hj hjT 3 (by omega)).symm.trans c_1
    have hC2 := isC_hi (M1 := (fU M (3100 + hj) (.inr (8, hV (upd (upd (tH U hj) 3 1) 4 (nI (b9 + 1))))))) hC (fun l h => fU_n (by omega))
    have hS2 : isSim g ad (fU M (3100 + hj) (.inr (8, hV (upd (upd (tH U hj) 3 1) 4 (nI (b9 + 1)))))) (sH U hj (upd (upd (tH U hj) 3 1) 4 (nI (b9 + 1)))) := isSim_H hS (by omega)
    have s2 := sim_sH (j := hj) (f := upd (upd (tH U hj) 3 1) 4 (nI (b9 + 1))) (f2 := upd (upd (tH T hj) 3 1) 4 (nI (b9 + 1))) hs (upd_cong (upd_cong (hs.2.2.1 hj hjT)))
    refine fk_i (fcV X hw (c_X5_light l g ad (fU M (3100 + hj) (.inr (8, hV (upd (upd (tH U hj) 3 1) 4 (nI (b9 + 1)))))) hC2 hjT (inR_n (a := 1) (b := 99) (by omega) (by omega) (by omega)) (decide_eq_true h3T)) hF rfl wq809 kVX5_light ⟨(Nat.le_of_ble_eq_true rfl), (Nat.le_of_ble_eq_true rfl)⟩ rfl hl.1 rfl (Nat.le_of_ble_eq_true rfl) dL_light_57 ⟨Nat.le_refl _, Nat.le_refl _⟩) hw (fun r ad1 M1 H locs hp hw => ?_)
    obtain ⟨hC3, hr3, h03, er⟩ := hp
    rw [er]
    have hS3 := isSim_reg hS2 hr3 (Or.inl (by omega))
    have e30 : ad1 3000 = ad 3000 := (hr3 3000 (by omega) (by omega)).1
    refine lv_aload_n hx hb dL_light_60 rfl (lv_at hl 2 rfl) ?_
    refine lv_iconst (v := 1) hx hb dL_light_61 (by decide) ?_
    refine f_adr2 (ad := ad1) (lb := 3000) e30 ?_
    refine fk_di (fcV X hw (c_s_with l g ad1 M1 hS3 1) hS3.1 rfl wq817 kVX8_with ⟨(Nat.le_of_ble_eq_true rfl), (Nat.le_of_ble_eq_true rfl)⟩ rfl hl.1 rfl (Nat.le_of_ble_eq_true rfl) dL_light_62 ⟨Nat.le_refl _, Nat.le_refl _⟩) hw (fun H locs hw => ?_)
    refine lv_icmp_ne (tgt := 72) hx hb dL_light_65 (by decide) (fun c_2 => absurd (cnt_same s2).symm c_2) (fun c_2 => ?_)
    refine lv_iconst (v := 1) hx hb dL_light_68 (by decide) ?_
    refine lv_goto (tgt := 73) hx hb dL_light_69 (by decide) ?_
    exact f_zret X hw rfl ⟨rfl, ⟨sH T hj (upd (upd (tH T hj) 3 1) 4 (nI (b9 + 1))), ⟨_, A, sf, hC3, hLe, hS3, s2, ok_light ho, gOk_of hg rfl rfl (fun j _ => light_0) (fun _ _ => rfl), okL_light hl9 hjT h3T (by omega) (by omega)⟩, cntT_rf⟩, fReg_tr hrA (fReg_w hr3 (by omega) (by omega)), h03, e30⟩ (Nat.le_refl _) (Nat.le_refl _) dL_light_73
  · refine lv_iconst (v := 1) hx hb dL_light_22 (by decide) ?_
    exact f_zret X hw rfl ⟨rfl, ⟨T, hLW, cntT_rf⟩, fReg_rf, rfl, rfl⟩ (Nat.le_refl _) (Nat.le_refl _) dL_light_23
