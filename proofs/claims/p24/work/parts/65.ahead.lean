/-! THE LAW: what it looks ahead, the minute, the counts (minT_n, goT_n: my rows of whole) -/
theorem minT_n (T : fTn) : tHn (minT T).1 = tHn T ∧ tPn (minT T).1 = tPn T ∧ tEn (minT T).1 = tEn T := by
  obtain ⟨a1, a2, a3, -⟩ := moveT_n (mE eGo (tEn T) T)
  obtain ⟨b1, b2, b3, -⟩ := catch1_n (mH hBurn (tHn T) (moveT (mE eGo (tEn T) T))) (tHn (mH hBurn (tHn T) (moveT (mE eGo (tEn T) T))))
  exact ⟨b1.trans a1, b2.trans a2, b3.trans a3⟩
theorem goT_n (T : fTn) (n : Nat) : tHn (goT T n).1 = tHn T ∧ tPn (goT T n).1 = tPn T ∧ tEn (goT T n).1 = tEn T := by
  induction n with
  | zero => exact ⟨rfl, rfl, rfl⟩
  | succ n ih =>
    obtain ⟨a1, a2, a3⟩ := minT_n (goT T n).1
    exact ⟨a1.trans ih.1, a2.trans ih.2.1, a3.trans ih.2.2⟩
theorem leT_go (T : fTn) (n : Nat) : leT (goT T n).1 T := by
  obtain ⟨t1, t2, t3⟩ := goT_n T n
  unfold leT
  rw [t1, t2, t3]
  exact ⟨Nat.le_refl _, Nat.le_refl _, Nat.le_refl _⟩
theorem leT_to {A T : fTn} {n : Nat} (h : leT A T) : leT A (goT T n).1 := by
  obtain ⟨t1, t2, t3⟩ := goT_n T n
  unfold leT
  rw [t1, t2, t3]
  exact h
set_option maxHeartbeats 4000000 in
set_option maxRecDepth 100000 in
theorem lw_ahead {p : Program} {l : Launch} {e : Env} {s : State} {m : MethodId} {args : Array Value} {below : List Frame} {meth : Method} {c : Code} {H : Heap} {locs : List Loc} {cells slots : Nat} {Q : State → Prop} {g : fG} {ad : Nat → Nat} {M : fM} {ls : Array Slot} {T : fTn} {t : Nat} (X : fX p s m args meth c code 25 ret RL g) (hw : fw g ad M s H locs) (hl : lv_has ls 25 [(10, .ref (ad 3423)), (9, .ref (ad 3422)), (8, .ref (ad 3421)), (6, .int (nI t)), (5, .int (nI (tPn T))), (4, .int (nI (tEn T))), (3, .int (nI (tHn T))), (2, .ref (ad 3000)), (1, .ref (ad 0)), (0, .ref (gXb g))]) (hcap : cells + 340 ≤ 792864 ∧ slots + 8424 ≤ 6723031) {A U : fTn} {kf nf sf : Nat → Int32} (hC : isC g ad M T A kf nf sf) (hLe : leT A T) (hS : isSim g ad M U) (hs : simT U T) (ho : okT kf T) (hl9 : okL T)
    (K : ∀ (ad1 : Nat → Nat) (M1 : fM) (A1 : fTn) (sf1 : Nat → Int32) (U1 : fTn) (H1 : Heap) (locs1 : List Loc) (ls1 : Array Slot), isC g ad1 M1 (goT T 1).1 A1 kf nf sf1 → leT A1 (goT T 1).1 → isSim g ad1 M1 U1 → simT U1 (goT T 1).1 → (∀ l, 3420 ≤ l → l < 4000 → ad1 l = ad l ∧ M1 l = M l) → fw g ad1 M1 s H1 locs1 → lv_has ls1 25 [(15, .int ((goT T 1).2)), (14, .int (jFirst (restsP T) 201)), (13, .int (foreR (goT T 1).1 2)), (12, .int (foreR (goT T 1).1 1)), (11, .int (foreR (goT T 1).1 0)), (10, .ref (ad1 3423)), (9, .ref (ad1 3422)), (8, .ref (ad1 3421)), (6, .int (nI t)), (5, .int (nI (tPn T))), (4, .int (nI (tEn T))), (3, .int (nI (tHn T))), (2, .ref (ad1 3000)), (1, .ref (ad1 0)), (0, .ref (gXb g))] → W p l e room_1 s m args below meth c H1 locs1 (cells + 340) (slots + 8424) Q (F0 m 301 ls1 [])) : W p l e room_1 s m args below meth c H locs cells slots Q (F0 m 259 ls []) := by
  have hx := X.1
  have hb := X.2.1
  obtain ⟨ado, hado⟩ : ∃ z, z = ad := ⟨_, rfl⟩
  obtain ⟨Mo, hMo⟩ : ∃ z, z = M := ⟨_, rfl⟩
  rw [← hado, ← hMo] at K hS
  have hF : M 0 = some (.inr (6, [.ref (ad 1), .ref (ad 1000), .ref (ad 2000)])) := hC.1
  obtain ⟨-, -, -, -, -, o1, o2, o3⟩ := id ho
  have hr : fReg 0 3000 ado Mo ad M := by rw [hado, hMo]; exact fReg_rf
  have h0 : ad 0 = ado 0 := by rw [hado]
  refine lv_aload_n hx hb dL_law_259 rfl (lv_at hl 8 rfl) ?_
  refine lv_iconst (v := 1) hx hb dL_law_260 (by decide) ?_
  refine lv_iconst (v := 0) hx hb dL_law_261 (by decide) ?_
  have rest265 : ∀ (ad : Nat → Nat) (M : fM) (A : fTn) (sf : Nat → Int32) (hC : isC g ad M T A kf nf sf) (hLe : leT A T) (hr : fReg 0 3000 ado Mo ad M) (h0 : ad 0 = ado 0) (ls : Array Slot) (H : Heap) (locs : List Loc), fw g ad M s H locs → lv_has ls 25 [(10, .ref (ad 3423)), (9, .ref (ad 3422)), (8, .ref (ad 3421)), (6, .int (nI t)), (5, .int (nI (tPn T))), (4, .int (nI (tEn T))), (3, .int (nI (tHn T))), (2, .ref (ad 3000)), (1, .ref (ad 0)), (0, .ref (gXb g))] → W p l e (room_1) s m args below meth c H locs (cells + 84) (slots + 2094) (Q) (F0 m 265 ls [.int (foreR (goT T 1).1 0)]) := by
    intro ad M A sf hC hLe hr h0 ls H locs hw hl
    have hF : M 0 = some (.inr (6, [.ref (ad 1), .ref (ad 1000), .ref (ad 2000)])) := hC.1
    refine lv_istore (lv' := [(11, .int (foreR (goT T 1).1 0)), (10, .ref (ad 3423)), (9, .ref (ad 3422)), (8, .ref (ad 3421)), (6, .int (nI t)), (5, .int (nI (tPn T))), (4, .int (nI (tEn T))), (3, .int (nI (tHn T))), (2, .ref (ad 3000)), (1, .ref (ad 0)), (0, .ref (gXb g))]) hx hb dL_law_265 hl (by decide) rfl (fun ls hl => ?_)
    refine lv_aload_n hx hb dL_law_267 rfl (lv_at hl 9 rfl) ?_
    refine lv_iconst (v := 1) hx hb dL_law_268 (by decide) ?_
    refine lv_iconst (v := 1) hx hb dL_law_269 (by decide) ?_
    have rest273 : ∀ (ad : Nat → Nat) (M : fM) (A : fTn) (sf : Nat → Int32) (hC : isC g ad M T A kf nf sf) (hLe : leT A T) (hr : fReg 0 3000 ado Mo ad M) (h0 : ad 0 = ado 0) (ls : Array Slot) (H : Heap) (locs : List Loc), fw g ad M s H locs → lv_has ls 25 [(11, .int (foreR (goT T 1).1 0)), (10, .ref (ad 3423)), (9, .ref (ad 3422)), (8, .ref (ad 3421)), (6, .int (nI t)), (5, .int (nI (tPn T))), (4, .int (nI (tEn T))), (3, .int (nI (tHn T))), (2, .ref (ad 3000)), (1, .ref (ad 0)), (0, .ref (gXb g))] → W p l e (room_1) s m args below meth c H locs (cells + 168) (slots + 4188) (Q) (F0 m 273 ls [.int (foreR (goT T 1).1 1)]) := by
      intro ad M A sf hC hLe hr h0 ls H locs hw hl
      have hF : M 0 = some (.inr (6, [.ref (ad 1), .ref (ad 1000), .ref (ad 2000)])) := hC.1
      refine lv_istore (lv' := [(12, .int (foreR (goT T 1).1 1)), (11, .int (foreR (goT T 1).1 0)), (10, .ref (ad 3423)), (9, .ref (ad 3422)), (8, .ref (ad 3421)), (6, .int (nI t)), (5, .int (nI (tPn T))), (4, .int (nI (tEn T))), (3, .int (nI (tHn T))), (2, .ref (ad 3000)), (1, .ref (ad 0)), (0, .ref (gXb g))]) hx hb dL_law_273 hl (by decide) rfl (fun ls hl => ?_)
      refine lv_aload_n hx hb dL_law_275 rfl (lv_at hl 10 rfl) ?_
      refine lv_iconst (v := 1) hx hb dL_law_276 (by decide) ?_
      refine lv_iconst (v := 2) hx hb dL_law_277 (by decide) ?_
      have rest281 : ∀ (ad : Nat → Nat) (M : fM) (A : fTn) (sf : Nat → Int32) (hC : isC g ad M T A kf nf sf) (hLe : leT A T) (hr : fReg 0 3000 ado Mo ad M) (h0 : ad 0 = ado 0) (ls : Array Slot) (H : Heap) (locs : List Loc), fw g ad M s H locs → lv_has ls 25 [(12, .int (foreR (goT T 1).1 1)), (11, .int (foreR (goT T 1).1 0)), (10, .ref (ad 3423)), (9, .ref (ad 3422)), (8, .ref (ad 3421)), (6, .int (nI t)), (5, .int (nI (tPn T))), (4, .int (nI (tEn T))), (3, .int (nI (tHn T))), (2, .ref (ad 3000)), (1, .ref (ad 0)), (0, .ref (gXb g))] → W p l e (room_1) s m args below meth c H locs (cells + 252) (slots + 6282) (Q) (F0 m 281 ls [.int (foreR (goT T 1).1 2)]) := by
        intro ad M A sf hC hLe hr h0 ls H locs hw hl
        have hF : M 0 = some (.inr (6, [.ref (ad 1), .ref (ad 1000), .ref (ad 2000)])) := hC.1
        refine lv_istore (lv' := [(13, .int (foreR (goT T 1).1 2)), (12, .int (foreR (goT T 1).1 1)), (11, .int (foreR (goT T 1).1 0)), (10, .ref (ad 3423)), (9, .ref (ad 3422)), (8, .ref (ad 3421)), (6, .int (nI t)), (5, .int (nI (tPn T))), (4, .int (nI (tEn T))), (3, .int (nI (tHn T))), (2, .ref (ad 3000)), (1, .ref (ad 0)), (0, .ref (gXb g))]) hx hb dL_law_281 hl (by decide) rfl (fun ls hl => ?_)
        refine lv_aload_n hx hb dL_law_283 rfl (lv_at hl 11 rfl) ?_
        have rest287 : ∀ (ad : Nat → Nat) (M : fM) (A : fTn) (sf : Nat → Int32) (hC : isC g ad M T A kf nf sf) (hLe : leT A T) (hr : fReg 0 3000 ado Mo ad M) (h0 : ad 0 = ado 0) (ls : Array Slot) (H : Heap) (locs : List Loc), fw g ad M s H locs → lv_has ls 25 [(13, .int (foreR (goT T 1).1 2)), (12, .int (foreR (goT T 1).1 1)), (11, .int (foreR (goT T 1).1 0)), (10, .ref (ad 3423)), (9, .ref (ad 3422)), (8, .ref (ad 3421)), (6, .int (nI t)), (5, .int (nI (tPn T))), (4, .int (nI (tEn T))), (3, .int (nI (tHn T))), (2, .ref (ad 3000)), (1, .ref (ad 0)), (0, .ref (gXb g))] → W p l e (room_1) s m args below meth c H locs (cells + 336) (slots + 8376) (Q) (F0 m 287 ls [.int (jFirst (restsP T) 201)]) := by
          intro ad M A sf hC hLe hr h0 ls H locs hw hl
          have hF : M 0 = some (.inr (6, [.ref (ad 1), .ref (ad 1000), .ref (ad 2000)])) := hC.1
          refine lv_istore (lv' := [(14, .int (jFirst (restsP T) 201)), (13, .int (foreR (goT T 1).1 2)), (12, .int (foreR (goT T 1).1 1)), (11, .int (foreR (goT T 1).1 0)), (10, .ref (ad 3423)), (9, .ref (ad 3422)), (8, .ref (ad 3421)), (6, .int (nI t)), (5, .int (nI (tPn T))), (4, .int (nI (tEn T))), (3, .int (nI (tHn T))), (2, .ref (ad 3000)), (1, .ref (ad 0)), (0, .ref (gXb g))]) hx hb dL_law_287 hl (by decide) rfl (fun ls hl => ?_)
          refine lv_aload_n hx hb dL_law_289 rfl (lv_at hl 12 rfl) ?_
          refine lv_iconst (v := 1) hx hb dL_law_290 (by decide) ?_
          have rest294 : ∀ (ad : Nat → Nat) (M : fM) (A : fTn) (sf : Nat → Int32) (hC : isC g ad M (goT T 1).1 A kf nf sf) (hLe : leT A (goT T 1).1) (hr : fReg 0 3000 ado Mo ad M) (h0 : ad 0 = ado 0) (ls : Array Slot) (H : Heap) (locs : List Loc), fw g ad M s H locs → lv_has ls 25 [(14, .int (jFirst (restsP T) 201)), (13, .int (foreR (goT T 1).1 2)), (12, .int (foreR (goT T 1).1 1)), (11, .int (foreR (goT T 1).1 0)), (10, .ref (ad 3423)), (9, .ref (ad 3422)), (8, .ref (ad 3421)), (6, .int (nI t)), (5, .int (nI (tPn T))), (4, .int (nI (tEn T))), (3, .int (nI (tHn T))), (2, .ref (ad 3000)), (1, .ref (ad 0)), (0, .ref (gXb g))] → W p l e (room_1) s m args below meth c H locs (cells + 336) (slots + 8376) (Q) (F0 m 294 ls [.int ((goT T 1).2)]) := by
            intro ad M A sf hC hLe hr h0 ls H locs hw hl
            have hF : M 0 = some (.inr (6, [.ref (ad 1), .ref (ad 1000), .ref (ad 2000)])) := hC.1
            refine lv_istore (lv' := [(15, .int ((goT T 1).2)), (14, .int (jFirst (restsP T) 201)), (13, .int (foreR (goT T 1).1 2)), (12, .int (foreR (goT T 1).1 1)), (11, .int (foreR (goT T 1).1 0)), (10, .ref (ad 3423)), (9, .ref (ad 3422)), (8, .ref (ad 3421)), (6, .int (nI t)), (5, .int (nI (tPn T))), (4, .int (nI (tEn T))), (3, .int (nI (tHn T))), (2, .ref (ad 3000)), (1, .ref (ad 0)), (0, .ref (gXb g))]) hx hb dL_law_294 hl (by decide) rfl (fun ls hl => ?_)
            refine lv_aload_n hx hb dL_law_296 rfl (lv_at hl 12 rfl) ?_
            obtain ⟨hsg, hs2, -⟩ := min_sim hs ho hl9
            have hSn := isSim_reg hS hr (Or.inl (by omega))
            have hS0 := hSn.1
            refine fk_i (fcV X hw (c_s_pass l g ad M hSn hsg) hS0 rfl wq576 kVX8_pass ⟨(Nat.le_of_ble_eq_true rfl), (Nat.le_of_ble_eq_true rfl)⟩ rfl hl.1 rfl (Nat.le_of_ble_eq_true rfl) dL_law_297 ⟨(by first | (show _ ≤ 792864; omega) | (show _ ≤ 6723031; omega)), (by first | (show _ ≤ 792864; omega) | (show _ ≤ 6723031; omega))⟩) hw (fun r ad1 M1 H locs hp hw => ?_)
            obtain ⟨hS2, hr2, hk2, -⟩ := hp
            rw [← (hr2 0 (by omega) (by omega)).1, ← hk2 3000 (by omega), ← (hr2 3421 (by omega) (by omega)).1, ← (hr2 3422 (by omega) (by omega)).1, ← (hr2 3423 (by omega) (by omega)).1] at hl
            refine lv_pop hx hb dL_law_300 rfl ?_
            refine W.widen (k := cells + 340) (n := slots + 8424) (by omega) (by omega) ?_
            exact K ad1 M1 A sf _ H locs ls (isC_eq hC (fun l h => hr2 l (by omega) (by omega))) hLe hS2 hs2 (fun l a b => ⟨(hr2 l (by omega) (by omega)).1.trans (hr l (by omega) (by omega)).1, (hr2 l (by omega) (by omega)).2.trans (hr l (by omega) (by omega)).2⟩) hw (lv_sub hl [0, 1, 2, 3, 4, 5, 6, 7, 8, 9, 10, 11, 12, 13, 14] rfl)
          refine fk_i (fcV X hw (c_X5_pass l g ad M hC (mi := 1) (by decide) (N := 1) rfl (by omega)) hF rfl wq250 kVX5_pass ⟨(Nat.le_of_ble_eq_true rfl), (Nat.le_of_ble_eq_true rfl)⟩ rfl hl.1 rfl (Nat.le_of_ble_eq_true rfl) dL_law_291 ⟨(by first | (show _ ≤ 792864; omega) | (show _ ≤ 6723031; omega)), (by first | (show _ ≤ 792864; omega) | (show _ ≤ 6723031; omega))⟩) hw (fun r ad1 M1 H locs hp hw => ?_)
          obtain ⟨hC3, hr3, h03, er⟩ := hp
          rw [er]
          rw [← h03, ← (hr3 3000 (by omega) (by omega)).1, ← (hr3 3421 (by omega) (by omega)).1, ← (hr3 3422 (by omega) (by omega)).1, ← (hr3 3423 (by omega) (by omega)).1] at hl
          refine W.widen (k := cells + 336) (n := slots + 8376) (by omega) (by omega) ?_
          exact rest294 ad1 M1 _ _ hC3 (leT_to hLe) (fReg_tr hr hr3) (h03.trans h0) ls _ _ hw hl
        refine fk_i (fcV X hw (c_X5_lasts l g ad M hC hLe) hF rfl wq566 kVX5_lasts ⟨(Nat.le_of_ble_eq_true rfl), (Nat.le_of_ble_eq_true rfl)⟩ rfl hl.1 rfl (Nat.le_of_ble_eq_true rfl) dL_law_284 ⟨(by first | (show _ ≤ 792864; omega) | (show _ ≤ 6723031; omega)), (by first | (show _ ≤ 792864; omega) | (show _ ≤ 6723031; omega))⟩) hw (fun r ad1 M1 H locs hp hw => ?_)
        obtain ⟨hC3, hr3, h03, er⟩ := hp
        rw [er]
        rw [← h03, ← (hr3 3000 (by omega) (by omega)).1, ← (hr3 3421 (by omega) (by omega)).1, ← (hr3 3422 (by omega) (by omega)).1, ← (hr3 3423 (by omega) (by omega)).1] at hl
        refine W.widen (k := cells + 336) (n := slots + 8376) (by omega) (by omega) ?_
        exact rest287 ad1 M1 _ _ hC3 (leT_go T _) (fReg_tr hr hr3) (h03.trans h0) ls _ _ hw hl
      refine fk_i (fcV X hw (c_X5_foresee l g ad M hC (mi := 1) (what := 2) (by decide) (by decide) (N := 1) rfl (by omega) hLe) hF rfl wq389 kVX5_foresee ⟨(Nat.le_of_ble_eq_true rfl), (Nat.le_of_ble_eq_true rfl)⟩ rfl hl.1 rfl (Nat.le_of_ble_eq_true rfl) dL_law_278 ⟨(by first | (show _ ≤ 792864; omega) | (show _ ≤ 6723031; omega)), (by first | (show _ ≤ 792864; omega) | (show _ ≤ 6723031; omega))⟩) hw (fun r ad1 M1 H locs hp hw => ?_)
      obtain ⟨hC3, hr3, h03, er⟩ := hp
      rw [er]
      rw [← h03, ← (hr3 3000 (by omega) (by omega)).1, ← (hr3 3421 (by omega) (by omega)).1, ← (hr3 3422 (by omega) (by omega)).1, ← (hr3 3423 (by omega) (by omega)).1] at hl
      refine W.widen (k := cells + 252) (n := slots + 6282) (by omega) (by omega) ?_
      exact rest281 ad1 M1 _ _ hC3 (leT_go T 1) (fReg_tr hr hr3) (h03.trans h0) ls _ _ hw hl
    refine fk_i (fcV X hw (c_X5_foresee l g ad M hC (mi := 1) (what := 1) (by decide) (by decide) (N := 1) rfl (by omega) hLe) hF rfl wq389 kVX5_foresee ⟨(Nat.le_of_ble_eq_true rfl), (Nat.le_of_ble_eq_true rfl)⟩ rfl hl.1 rfl (Nat.le_of_ble_eq_true rfl) dL_law_270 ⟨(by first | (show _ ≤ 792864; omega) | (show _ ≤ 6723031; omega)), (by first | (show _ ≤ 792864; omega) | (show _ ≤ 6723031; omega))⟩) hw (fun r ad1 M1 H locs hp hw => ?_)
    obtain ⟨hC3, hr3, h03, er⟩ := hp
    rw [er]
    rw [← h03, ← (hr3 3000 (by omega) (by omega)).1, ← (hr3 3421 (by omega) (by omega)).1, ← (hr3 3422 (by omega) (by omega)).1, ← (hr3 3423 (by omega) (by omega)).1] at hl
    refine W.widen (k := cells + 168) (n := slots + 4188) (by omega) (by omega) ?_
    exact rest273 ad1 M1 _ _ hC3 (leT_go T 1) (fReg_tr hr hr3) (h03.trans h0) ls _ _ hw hl
  refine fk_i (fcV X hw (c_X5_foresee l g ad M hC (mi := 1) (what := 0) (by decide) (by decide) (N := 1) rfl (by omega) hLe) hF rfl wq389 kVX5_foresee ⟨(Nat.le_of_ble_eq_true rfl), (Nat.le_of_ble_eq_true rfl)⟩ rfl hl.1 rfl (Nat.le_of_ble_eq_true rfl) dL_law_262 ⟨(by first | (show _ ≤ 792864; omega) | (show _ ≤ 6723031; omega)), (by first | (show _ ≤ 792864; omega) | (show _ ≤ 6723031; omega))⟩) hw (fun r ad1 M1 H locs hp hw => ?_)
  obtain ⟨hC3, hr3, h03, er⟩ := hp
  rw [er]
  rw [← h03, ← (hr3 3000 (by omega) (by omega)).1, ← (hr3 3421 (by omega) (by omega)).1, ← (hr3 3422 (by omega) (by omega)).1, ← (hr3 3423 (by omega) (by omega)).1] at hl
  refine W.widen (k := cells + 84) (n := slots + 2094) (by omega) (by omega) ?_
  exact rest265 ad1 M1 _ _ hC3 (leT_go T 1) (fReg_tr hr hr3) (h03.trans h0) ls _ _ hw hl
set_option maxHeartbeats 4000000 in
set_option maxRecDepth 100000 in
theorem lw_counts {p : Program} {l : Launch} {e : Env} {s : State} {m : MethodId} {args : Array Value} {below : List Frame} {meth : Method} {c : Code} {H : Heap} {locs : List Loc} {cells slots : Nat} {Q : State → Prop} {g : fG} {ad : Nat → Nat} {M : fM} {ls : Array Slot} {T : fTn} {t : Nat} (X : fX p s m args meth c code 25 ret RL g) (hw : fw g ad M s H locs) {T2 : fTn} (hl : lv_has ls 25 [(15, .int ((goT T 1).2)), (14, .int (jFirst (restsP T) 201)), (13, .int (foreR T2 2)), (12, .int (foreR T2 1)), (11, .int (foreR T2 0)), (10, .ref (ad 3423)), (9, .ref (ad 3422)), (8, .ref (ad 3421)), (6, .int (nI t)), (5, .int (nI (tPn T))), (4, .int (nI (tEn T))), (3, .int (nI (tHn T))), (2, .ref (ad 3000)), (1, .ref (ad 0)), (0, .ref (gXb g))]) (hcap : cells + 84 ≤ 792864 ∧ slots + 2094 ≤ 6723031) {A : fTn} {kf nf sf : Nat → Int32} (hE : T2 = (goT T 1).1) (hC : isC g ad M T2 A kf nf sf) (hLe : leT A T2) (hM2 : tM T2 = nI t + 1) (o1 : tHn T2 ≤ 30) (o2 : tPn T2 ≤ 6) (o3 : tEn T2 ≤ 6)
    (K : ∀ (ad1 : Nat → Nat) (M1 : fM) (A1 : fTn) (sf1 : Nat → Int32) (ls1 : Array Slot) (H1 : Heap) (locs1 : List Loc), isC g ad1 M1 T2 A1 kf nf sf1 → leT A1 T2 → fReg 0 3000 ad M ad1 M1 → ad1 0 = ad 0 → fw g ad1 M1 s H1 locs1 → lv_has ls1 25 [(15, .int ((goT T 1).2)), (10, .ref (ad1 3423)), (9, .ref (ad1 3422)), (8, .ref (ad1 3421)), (6, .int (nI t)), (5, .int (nI (tPn T))), (4, .int (nI (tEn T))), (3, .int (nI (tHn T))), (2, .ref (ad1 3000)), (1, .ref (ad1 0)), (0, .ref (gXb g))] → W p l e room_1 s m args below meth c H1 locs1 (cells + 84) (slots + 2094) Q (F0 m 382 ls1 [])) : W p l e room_1 s m args below meth c H locs cells slots Q (F0 m 301 ls []) := by
  have hx := X.1
  have hb := X.2.1
  obtain ⟨ado, hado⟩ : ∃ z, z = ad := ⟨_, rfl⟩
  obtain ⟨Mo, hMo⟩ : ∃ z, z = M := ⟨_, rfl⟩
  rw [← hado, ← hMo] at K
  have hF : M 0 = some (.inr (6, [.ref (ad 1), .ref (ad 1000), .ref (ad 2000)])) := hC.1
  refine lv_aload_n hx hb dL_law_301 rfl (lv_at hl 13 rfl) ?_
  refine lv_iconst (v := 2) hx hb dL_law_302 (by decide) ?_
  refine fk_di (fcV X hw (c_X5_count l g ad M hC (what := 2) (by decide)) hF rfl wq368 kVX5_count ⟨(Nat.le_of_ble_eq_true rfl), (Nat.le_of_ble_eq_true rfl)⟩ rfl hl.1 rfl (Nat.le_of_ble_eq_true rfl) dL_law_303 ⟨(by first | (show _ ≤ 792864; omega) | (show _ ≤ 6723031; omega)), (by first | (show _ ≤ 792864; omega) | (show _ ≤ 6723031; omega))⟩) hw (fun H locs hw => ?_)
  refine lv_iload hx hb dL_law_306 (lv_at hl 4 rfl) ?_
  refine lv_icmp_ne (tgt := 380) hx hb dL_law_308 (by decide) (fun c_1 => absurd (show tTell T2 2 = foreR T2 0 from (if_pos rfl).symm) c_1) (fun c_1 => ?_)
  refine lv_aload_n hx hb dL_law_311 rfl (lv_at hl 13 rfl) ?_
  refine lv_iconst (v := 4) hx hb dL_law_312 (by decide) ?_
  refine fk_di (fcV X hw (c_X5_count l g ad M hC (what := 4) (by decide)) hF rfl wq368 kVX5_count ⟨(Nat.le_of_ble_eq_true rfl), (Nat.le_of_ble_eq_true rfl)⟩ rfl hl.1 rfl (Nat.le_of_ble_eq_true rfl) dL_law_313 ⟨(by first | (show _ ≤ 792864; omega) | (show _ ≤ 6723031; omega)), (by first | (show _ ≤ 792864; omega) | (show _ ≤ 6723031; omega))⟩) hw (fun H locs hw => ?_)
  refine lv_iload hx hb dL_law_316 (lv_at hl 3 rfl) ?_
  refine lv_icmp_ne (tgt := 380) hx hb dL_law_318 (by decide) (fun c_2 => absurd (show tTell T2 4 = foreR T2 1 from ((if_neg (by decide)).trans (if_pos rfl)).symm) c_2) (fun c_2 => ?_)
  refine lv_aload_n hx hb dL_law_321 rfl (lv_at hl 13 rfl) ?_
  refine lv_bipush (v := 8) hx hb dL_law_322 (by decide) ?_
  refine fk_di (fcV X hw (c_X5_count l g ad M hC (what := 8) (by decide)) hF rfl wq368 kVX5_count ⟨(Nat.le_of_ble_eq_true rfl), (Nat.le_of_ble_eq_true rfl)⟩ rfl hl.1 rfl (Nat.le_of_ble_eq_true rfl) dL_law_324 ⟨(by first | (show _ ≤ 792864; omega) | (show _ ≤ 6723031; omega)), (by first | (show _ ≤ 792864; omega) | (show _ ≤ 6723031; omega))⟩) hw (fun H locs hw => ?_)
  refine lv_iload hx hb dL_law_327 (lv_at hl 2 rfl) ?_
  refine lv_icmp_ne (tgt := 380) hx hb dL_law_329 (by decide) (fun c_3 => absurd (show tTell T2 8 = foreR T2 2 from ((if_neg (by decide)).trans (if_neg (by decide))).symm) c_3) (fun c_3 => ?_)
  refine lv_aload_n hx hb dL_law_332 rfl (lv_at hl 13 rfl) ?_
  refine lv_iconst (v := 0) hx hb dL_law_333 (by decide) ?_
  refine fk_di (fcV X hw (c_X5_count l g ad M hC (what := 0) (by decide)) hF rfl wq368 kVX5_count ⟨(Nat.le_of_ble_eq_true rfl), (Nat.le_of_ble_eq_true rfl)⟩ rfl hl.1 rfl (Nat.le_of_ble_eq_true rfl) dL_law_334 ⟨(by first | (show _ ≤ 792864; omega) | (show _ ≤ 6723031; omega)), (by first | (show _ ≤ 792864; omega) | (show _ ≤ 6723031; omega))⟩) hw (fun H locs hw => ?_)
  refine lv_iload hx hb dL_law_337 (lv_at hl 8 rfl) ?_
  refine lv_iconst (v := 1) hx hb dL_law_339 (by decide) ?_
  refine lv_iadd hx hb dL_law_340 ?_
  refine lv_icmp_ne (tgt := 380) hx hb dL_law_341 (by decide) (fun c_4 => absurd (show tTell T2 0 = nI t + 1 from (if_pos rfl).trans hM2) c_4) (fun c_4 => ?_)
  have j369 : ∀ (ad : Nat → Nat) (M : fM) (A : fTn) (sf : Nat → Int32) (hC : isC g ad M T2 A kf nf sf) (hLe : leT A T2) (hr : fReg 0 3000 ado Mo ad M) (h0 : ad 0 = ado 0) (ls : Array Slot) (H : Heap) (locs : List Loc), fw g ad M s H locs → lv_has ls 25 [(15, .int ((goT T 1).2)), (14, .int (jFirst (restsP T) 201)), (13, .int (foreR T2 2)), (12, .int (foreR T2 1)), (11, .int (foreR T2 0)), (10, .ref (ad 3423)), (9, .ref (ad 3422)), (8, .ref (ad 3421)), (6, .int (nI t)), (5, .int (nI (tPn T))), (4, .int (nI (tEn T))), (3, .int (nI (tHn T))), (2, .ref (ad 3000)), (1, .ref (ad 0)), (0, .ref (gXb g))] → W p l e (room_1) s m args below meth c H locs (cells + 84) (slots + 2094) (Q) (F0 m 369 ls []) := by
    intro ad M A sf hC hLe hr h0 ls H locs hw hl
    refine lv_iload hx hb dL_law_369 (lv_at hl 1 rfl) ?_
    refine lv_iconst (v := 1) hx hb dL_law_371 (by decide) ?_
    refine lv_icmp_ne (tgt := 382) hx hb dL_law_372 (by decide) (fun c_5 => ?_) (fun c_5 => ?_)
    · exact K ad M A sf ls _ _ hC hLe hr h0 hw (lv_sub hl [0, 5, 6, 7, 8, 9, 10, 11, 12, 13, 14] rfl)
    · refine lv_iload hx hb dL_law_375 (lv_at hl 4 rfl) ?_
      refine lv_if_eq (tgt := 382) hx hb dL_law_377 (by decide) (fun c_6 => ?_) (fun c_6 => absurd (show foreR T2 0 = 0 by rw [hE]; exact lasts_one c_5) c_6)
      exact K ad M A sf ls _ _ hC hLe hr h0 hw (lv_sub hl [0, 5, 6, 7, 8, 9, 10, 11, 12, 13, 14] rfl)
  refine lv_iload hx hb dL_law_344 (lv_at hl 1 rfl) ?_
  refine lv_iconst (v := 1) hx hb dL_law_346 (by decide) ?_
  refine lv_icmp_le (tgt := 369) hx hb dL_law_347 (by decide) (fun c_7 => ?_) (fun c_7 => ?_)
  · refine W.widen (k := cells + 84) (n := slots + 2094) (by omega) (by omega) ?_
    exact j369 ad M A sf hC hLe (by rw [hado, hMo]; exact fReg_rf) (by rw [hado]) ls _ _ hw (lv_sub hl [0, 1, 2, 3, 4, 5, 6, 7, 8, 9, 10, 11, 12, 13, 14] rfl)
  · refine lv_aload_n hx hb dL_law_350 rfl (lv_at hl 13 rfl) ?_
    refine fk_i (fcV X hw (c_X5_lasts l g ad M hC hLe) hF rfl wq566 kVX5_lasts ⟨(Nat.le_of_ble_eq_true rfl), (Nat.le_of_ble_eq_true rfl)⟩ rfl hl.1 rfl (Nat.le_of_ble_eq_true rfl) dL_law_351 ⟨(by first | (show _ ≤ 792864; omega) | (show _ ≤ 6723031; omega)), (by first | (show _ ≤ 792864; omega) | (show _ ≤ 6723031; omega))⟩) hw (fun r ad1 M1 H locs hp hw => ?_)
    obtain ⟨hC3, hr3, h03, er⟩ := hp
    rw [er]
    refine lv_iload hx hb dL_law_354 (lv_at hl 1 rfl) ?_
    refine lv_iconst (v := 1) hx hb dL_law_356 (by decide) ?_
    refine lv_isub hx hb dL_law_357 ?_
    refine lv_icmp_eq (tgt := 369) hx hb dL_law_358 (by decide) (fun c_8 => ?_) (fun c_8 => absurd (show jFirst (restsP T2) 201 = jFirst (restsP T) 201 - 1 by rw [hE]; exact lasts_next (Int32.not_le.mp c_7)) c_8)
    refine W.widen (k := cells + 84) (n := slots + 2094) (by omega) (by omega) ?_
    rw [← h03, ← (hr3 3000 (by omega) (by omega)).1, ← (hr3 3421 (by omega) (by omega)).1, ← (hr3 3422 (by omega) (by omega)).1, ← (hr3 3423 (by omega) (by omega)).1] at hl
    exact j369 ad1 M1 _ _ hC3 (leT_go T2 _) (by rw [hado, hMo]; exact hr3) (h03.trans (by rw [hado])) ls _ _ hw (lv_sub hl [0, 1, 2, 3, 4, 5, 6, 7, 8, 9, 10, 11, 12, 13, 14] rfl)
