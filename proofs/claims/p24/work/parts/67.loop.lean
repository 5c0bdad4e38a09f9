/-! THE LAW: a whole turn; the town that it begins with -/
set_option maxHeartbeats 4000000 in
theorem lw_minute {p : Program} {l : Launch} {e : Env} {s : State} {m : MethodId} {args : Array Value} {below : List Frame} {meth : Method} {c : Code} {H : Heap} {locs : List Loc} {cells slots : Nat} {Q : State → Prop} {g : fG} {ad : Nat → Nat} {M : fM} {ls : Array Slot} (X : fX p s m args meth c code 25 ret RL g) (hw : fw g ad M s H locs) {T : fTn} {t : Nat} (hl : lv_has ls 25 [(6, .int (nI t)), (5, .int (nI (tPn T))), (4, .int (nI (tEn T))), (3, .int (nI (tHn T))), (2, .ref (ad 3000)), (1, .ref (ad 0)), (0, .ref (gXb g))]) (hcap : cells + 800 ≤ 792864 ∧ slots + 13000 ≤ 6723031) {kf nf : Nat → Int32} (hLW : LW g ad M T kf nf) (hH : 0 < tHn T) (hXn : gXn g ≤ 260) (ht : t < 40) (hM : tM T = nI t)
    (K : ∀ (ad1 : Nat → Nat) (M1 : fM) (T1 : fTn) (H1 : Heap) (locs1 : List Loc) (ls1 : Array Slot), LW g ad1 M1 T1 kf nf → 0 < tHn T1 → tM T1 = nI (t + 1) → fw g ad1 M1 s H1 locs1 → lv_has ls1 25 [(6, .int (nI (t + 1))), (5, .int (nI (tPn T1))), (4, .int (nI (tEn T1))), (3, .int (nI (tHn T1))), (2, .ref (ad1 3000)), (1, .ref (ad1 0)), (0, .ref (gXb g))] → W p l e room_1 s m args below meth c H1 locs1 (cells + 800) (slots + 13000) Q (F0 m 43 ls1 [])) : W p l e room_1 s m args below meth c H locs cells slots Q (F0 m 50 ls []) := by
  refine lw_acts X hw hl ⟨by omega, by omega⟩ hLW hH hXn ht (fun ad1 M1 T1 H1 locs1 ls1 hLW1 c1 hw1 hl1 => ?_)
  rw [← c1.1, ← c1.2.1, ← c1.2.2.1] at hl1
  have hH1 : 0 < tHn T1 := by rw [c1.1]; exact hH
  have hM1 : tM T1 = nI t := c1.2.2.2.trans hM
  obtain ⟨U, A, sf, hC, hLe, hS, hs, ho, hg, hl9⟩ := hLW1
  obtain ⟨-, -, -, -, -, o1, o2, o3⟩ := id ho
  refine lw_rech X hw1 hl1 ⟨by omega, by omega⟩ hC o1 (fun ad2 M2 H2 locs2 ls2 R2 hRh hw2 hl2 => ?_)
  have hC2 := isC_eq hC (fun l h => R2 l (by omega) (by omega))
  have hS2 := isSim_eq hS (fun l a b => R2 l (by omega) (by omega))
  refine lw_rece X hw2 hl2 ⟨by omega, by omega⟩ hC2 o3 (fun ad3 M3 H3 locs3 ls3 R3 hRe hw3 hl3 => ?_)
  have hC3 := isC_eq hC2 (fun l h => R3 l (by omega) (by omega))
  have hS3 := isSim_eq hS2 (fun l a b => R3 l (by omega) (by omega))
  have hRh3 := isRh_eq hRh o1 (fun l h => R3 l (by omega) (by omega))
  refine lw_recp X hw3 hl3 ⟨by omega, by omega⟩ hC3 o2 (fun ad4 M4 H4 locs4 ls4 R4 hRp hw4 hl4 => ?_)
  have hC4 := isC_eq hC3 (fun l h => R4 l (by omega))
  have hS4 := isSim_eq hS3 (fun l a b => R4 l (by omega))
  have hRh4 := isRh_eq hRh3 o1 (fun l h => R4 l (by omega))
  have hRe4 := isRe_eq hRe o3 (fun l h => R4 l (by omega))
  refine lw_ahead X hw4 hl4 ⟨by omega, by omega⟩ hC4 hLe hS4 hs ho hl9 (fun ad5 M5 A5 sf5 U5 H5 locs5 ls5 hC5 hLe5 hS5 hs5 R5 hw5 hl5 => ?_)
  have hRh5 := isRh_eq hRh4 o1 (fun l h => R5 l (by omega) (by omega))
  have hRe5 := isRe_eq hRe4 o3 (fun l h => R5 l (by omega) (by omega))
  have hRp5 := isRp_eq hRp (R5 3423 (by omega) (by omega)).2
  obtain ⟨g1, g2, g3⟩ := goT_n T1 1
  obtain ⟨f1, f2, f3, f4, f5⟩ := min_S ho hl9
  have hM2 : tM (goT T1 1).1 = nI t + 1 := by rw [← hM1]; exact (min_form ho hl9).2.2.2.2.2.2.2
  refine lw_counts X hw5 hl5 ⟨by omega, by omega⟩ rfl hC5 hLe5 hM2 (by omega) (by omega) (by omega) (fun ad6 M6 A6 sf6 ls6 H6 locs6 hC6 hLe6 hr6 h06 hw6 hl6 => ?_)
  have hS6 := isSim_reg hS5 hr6 (Or.inl (by omega))
  have hRh6 := isRh_eq hRh5 o1 (fun l h => hr6 l (by omega) (by omega))
  have hRe6 := isRe_eq hRe5 o3 (fun l h => hr6 l (by omega) (by omega))
  have hRp6 := isRp_eq hRp5 (hr6 3423 (by omega) (by omega)).2
  refine lw_houses X hw6 hl6 ⟨by omega, by omega⟩ hC6 g1 o1 hRh6 (fun k hk => min_H ho hl9 hk) (f1.trans (by show _ = 0 + (minT T1).2; rw [Int32.zero_add])) (fun ls7 H7 locs7 hw7 hl7 => ?_)
  refine lw_ponds X hw7 hl7 ⟨by omega, by omega⟩ hC6 g2 o2 hRp6 f2 (fun ls8 H8 locs8 hw8 hl8 => ?_)
  refine lw_engines X hw8 hl8 ⟨by omega, by omega⟩ hC6 g3 o3 ht hRe6 (fun k hk => (min_E ho hl9 hk).1) f3 f4 f5 (fun ls9 H9 locs9 hw9 hl9' => ?_)
  refine W.widen (k := cells + 800) (n := slots + 13000) (by omega) (by omega) ?_
  rw [← g1, ← g2, ← g3] at hl9'
  obtain ⟨k1, k2⟩ := min_ok ho hl9
  exact K ad6 M6 (goT T1 1).1 H9 locs9 ls9 ⟨U5, A6, sf6, hC6, hLe6, hS6, hs5, k1, gOk_of hg g1 g2 (fun j _ => min_h0 T1 j) (fun j _ => (min_same hs ho).2.2.2 j), k2⟩ (by rw [g1]; exact hH1) (by rw [hM2]; exact nI_add t 1) hw9 hl9'
set_option maxHeartbeats 4000000 in
set_option maxRecDepth 100000 in
theorem lw_built {p : Program} {l : Launch} {e : Env} {s : State} {m : MethodId} {args : Array Value} {below : List Frame} {meth : Method} {c : Code} {H : Heap} {locs : List Loc} {cells slots : Nat} {Q : State → Prop} {g : fG} {ad : Nat → Nat} {M : fM} {ls : Array Slot} (X : fX p s m args meth c code 25 ret RL g) (hw : fw g ad M s H locs) (hl : lv_has ls 25 [(1, .ref (ad 0)), (0, .ref (gXb g))]) (hcap : cells + 110 ≤ 792864 ∧ slots + 2200 ≤ 6723031) (hXn : gXn g ≤ 260) (hC : isC g ad M T0 T0 f0 f0 f0)
    (K : ∀ (ad1 : Nat → Nat) (M1 : fM) (T : fTn) (kf nf : Nat → Int32) (H1 : Heap) (locs1 : List Loc) (ls1 : Array Slot), LW g ad1 M1 T kf nf → 0 < tHn T → tM T = 0 → fw g ad1 M1 s H1 locs1 → lv_has ls1 25 [(6, .int (nI 0)), (5, .int (nI (tPn T))), (4, .int (nI (tEn T))), (3, .int (nI (tHn T))), (2, .ref (ad1 3000)), (1, .ref (ad1 0)), (0, .ref (gXb g))] → W p l e room_1 s m args below meth c H1 locs1 (cells + 110) (slots + 2200) Q (F0 m 43 ls1 [])) : W p l e room_1 s m args below meth c H locs cells slots Q (F0 m 8 ls []) := by
  have hx := X.1
  have hb := X.2.1
  refine lv_aload_n hx hb dL_law_8 rfl (lv_at hl 0 rfl) ?_
  refine lv_aload_n hx hb dL_law_9 rfl (lv_at hl 1 rfl) ?_
  have rest13 : ∀ (ad : Nat → Nat) (M : fM) (T : fTn) (kf nf : Nat → Int32) (hLW : LW g ad M T kf nf) (hH : 0 < tHn T) (hM0 : tM T = 0) (ls : Array Slot) (H : Heap) (locs : List Loc), fw g ad M s H locs → lv_has ls 25 [(1, .ref (ad 0)), (0, .ref (gXb g))] → W p l e (room_1) s m args below meth c H locs (cells + 110) (slots + 2200) (Q) (F0 m 13 ls [.ref (ad 3000)]) := by
    intro ad M T kf nf hLW hH hM0 ls H locs hw hl
    obtain ⟨U, A, sf, hC, hLe, hS, hs, r9⟩ := id hLW
    obtain ⟨hS0, ⟨fHh, hSh, hSH⟩, ⟨fEe, hSe, hSE⟩, ⟨fPp, hSp, hSP⟩, hHs, hEs, hPs, hn1, hn3, hn2⟩ := id hS
    obtain ⟨e0U, e1U, e2U, e3U⟩ := id hs.1
    refine lv_astore_n (lv' := [(2, .ref (ad 3000)), (1, .ref (ad 0)), (0, .ref (gXb g))]) hx hb dL_law_13 rfl hl (by decide) rfl (fun ls hl => ?_)
    refine lv_aload_n hx hb dL_law_14 rfl (lv_at hl 0 rfl) ?_
    refine lv_ifnonnull (tgt := 20) hx hb dL_law_15 (by decide) ?_
    refine lv_aload_n hx hb dL_law_20 rfl (lv_at hl 0 rfl) ?_
    refine f_get X hw hS0 fc9 1 (by decide) wq623 rfl (v := .ref (ad 3001)) rfl dL_law_21 ?_
    refine f_alen X hw 4 hSh rfl dL_law_24 ?_
    refine f_top (y := nI (tHn T)) (by rw [e1U]) ?_
    refine lv_istore_n (lv' := [(3, .int (nI (tHn T))), (2, .ref (ad 3000)), (1, .ref (ad 0)), (0, .ref (gXb g))]) hx hb dL_law_25 rfl hl (by decide) rfl (fun ls hl => ?_)
    refine lv_aload_n hx hb dL_law_26 rfl (lv_at hl 1 rfl) ?_
    refine f_get X hw hS0 fc9 2 (by decide) wq625 rfl (v := .ref (ad 3002)) rfl dL_law_27 ?_
    refine f_alen X hw 5 hSe rfl dL_law_30 ?_
    refine f_top (y := nI (tEn T)) (by rw [e3U]) ?_
    refine lv_istore (lv' := [(4, .int (nI (tEn T))), (3, .int (nI (tHn T))), (2, .ref (ad 3000)), (1, .ref (ad 0)), (0, .ref (gXb g))]) hx hb dL_law_31 hl (by decide) rfl (fun ls hl => ?_)
    refine lv_aload_n hx hb dL_law_33 rfl (lv_at hl 2 rfl) ?_
    refine f_get X hw hS0 fc9 3 (by decide) wq627 rfl (v := .ref (ad 3003)) rfl dL_law_34 ?_
    refine f_alen X hw 3 hSp rfl dL_law_37 ?_
    refine f_top (y := nI (tPn T)) (by rw [e2U]) ?_
    refine lv_istore (lv' := [(5, .int (nI (tPn T))), (4, .int (nI (tEn T))), (3, .int (nI (tHn T))), (2, .ref (ad 3000)), (1, .ref (ad 0)), (0, .ref (gXb g))]) hx hb dL_law_38 hl (by decide) rfl (fun ls hl => ?_)
    refine lv_iconst (v := 0) hx hb dL_law_40 (by decide) ?_
    refine lv_istore (lv' := [(6, .int 0), (5, .int (nI (tPn T))), (4, .int (nI (tEn T))), (3, .int (nI (tHn T))), (2, .ref (ad 3000)), (1, .ref (ad 0)), (0, .ref (gXb g))]) hx hb dL_law_41 hl (by decide) rfl (fun ls hl => ?_)
    exact K ad M T kf nf H locs ls hLW hH hM0 hw (lv_sub hl [0, 1, 2, 3, 4, 5, 6] rfl)
  refine fk_r (fcS X hw (c_build l g ad M hXn hC) wq606 kSL_build ⟨(Nat.le_of_ble_eq_true rfl), (Nat.le_of_ble_eq_true rfl)⟩ rfl hl.1 rfl (Nat.le_of_ble_eq_true rfl) dL_law_10 ⟨(by first | (show _ ≤ 792864; omega) | (show _ ≤ 6723031; omega)), (by first | (show _ ≤ 792864; omega) | (show _ ≤ 6723031; omega))⟩) hw (fun r ad1 M1 H locs hp hw => ?_)
  obtain ⟨er, ⟨T, kf, nf, hLW, hH, hM0⟩, hr, h0⟩ := hp
  rw [er]
  rw [← h0] at hl
  exact rest13 ad1 M1 T kf nf hLW hH hM0 ls _ _ hw hl
