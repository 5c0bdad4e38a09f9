/-! THE LAW: what it asks behind a minute, of the houses, the ponds, the engines, the sums -/
set_option maxHeartbeats 4000000 in
set_option maxRecDepth 100000 in
theorem lw_houses {p : Program} {l : Launch} {e : Env} {s : State} {m : MethodId} {args : Array Value} {below : List Frame} {meth : Method} {c : Code} {H : Heap} {locs : List Loc} {cells slots : Nat} {Q : State → Prop} {g : fG} {ad : Nat → Nat} {M : fM} {ls : Array Slot} {T : fTn} {t : Nat} (X : fX p s m args meth c code 25 ret RL g) (hw : fw g ad M s H locs) {T2 : fTn} (hl : lv_has ls 25 [(15, .int ((goT T 1).2)), (10, .ref (ad 3423)), (9, .ref (ad 3422)), (8, .ref (ad 3421)), (6, .int (nI t)), (5, .int (nI (tPn T))), (4, .int (nI (tEn T))), (3, .int (nI (tHn T))), (2, .ref (ad 3000)), (1, .ref (ad 0)), (0, .ref (gXb g))]) (hcap : cells + 0 ≤ 792864 ∧ slots + 0 ≤ 6723031) {A : fTn} {kf nf sf : Nat → Int32} (hC : isC g ad M T2 A kf nf sf) (e1 : tHn T2 = tHn T) (hmx : tHn T ≤ 30) (hrec : isRh g ad M T) (hH : ∀ k, k < tHn T → lawH T T2 (tH T k) (tH T2 k)) (hfr : lFresh T T2 (tHn T) = (goT T 1).2)
    (K : ∀ (ls1 : Array Slot) (H1 : Heap) (locs1 : List Loc), fw g ad M s H1 locs1 → lv_has ls1 25 [(17, .int (lCame T2 (tHn T))), (10, .ref (ad 3423)), (9, .ref (ad 3422)), (8, .ref (ad 3421)), (6, .int (nI t)), (5, .int (nI (tPn T))), (4, .int (nI (tEn T))), (3, .int (nI (tHn T))), (2, .ref (ad 3000)), (1, .ref (ad 0)), (0, .ref (gXb g))] → W p l e room_1 s m args below meth c H1 locs1 cells slots Q (F0 m 881 ls1 [])) : W p l e room_1 s m args below meth c H locs cells slots Q (F0 m 382 ls []) := by
  have hx := X.1
  have hb := X.2.1
  obtain ⟨fo, rr, hRo, hRf, hRr, hRv⟩ := hrec
  have hF : M 0 = some (.inr (6, [.ref (ad 1), .ref (ad 1000), .ref (ad 2000)])) := hC.1
  refine lv_iconst (v := 0) hx hb dL_law_382 (by decide) ?_
  refine lv_istore (lv' := [(16, .int 0), (15, .int ((goT T 1).2)), (10, .ref (ad 3423)), (9, .ref (ad 3422)), (8, .ref (ad 3421)), (6, .int (nI t)), (5, .int (nI (tPn T))), (4, .int (nI (tEn T))), (3, .int (nI (tHn T))), (2, .ref (ad 3000)), (1, .ref (ad 0)), (0, .ref (gXb g))]) hx hb dL_law_383 hl (by decide) rfl (fun ls hl => ?_)
  refine lv_iconst (v := 0) hx hb dL_law_385 (by decide) ?_
  refine lv_istore (lv' := [(17, .int 0), (16, .int 0), (15, .int ((goT T 1).2)), (10, .ref (ad 3423)), (9, .ref (ad 3422)), (8, .ref (ad 3421)), (6, .int (nI t)), (5, .int (nI (tPn T))), (4, .int (nI (tEn T))), (3, .int (nI (tHn T))), (2, .ref (ad 3000)), (1, .ref (ad 0)), (0, .ref (gXb g))]) hx hb dL_law_386 hl (by decide) rfl (fun ls hl => ?_)
  refine lv_iconst (v := 0) hx hb dL_law_388 (by decide) ?_
  refine lv_istore (lv' := [(18, .int 0), (17, .int 0), (16, .int 0), (15, .int ((goT T 1).2)), (10, .ref (ad 3423)), (9, .ref (ad 3422)), (8, .ref (ad 3421)), (6, .int (nI t)), (5, .int (nI (tPn T))), (4, .int (nI (tEn T))), (3, .int (nI (tHn T))), (2, .ref (ad 3000)), (1, .ref (ad 0)), (0, .ref (gXb g))]) hx hb dL_law_389 hl (by decide) rfl (fun ls hl => ?_)
  have loop391 : ∀ (n391 k : Nat), k ≤ tHn T → tHn T < k + n391 → ∀ (ls : Array Slot) (H : Heap) (locs : List Loc), fw g ad M s H locs → lv_has ls 25 [(18, .int (nI k)), (17, .int (lCame T2 k)), (16, .int (lFresh T T2 k)), (15, .int ((goT T 1).2)), (10, .ref (ad 3423)), (9, .ref (ad 3422)), (8, .ref (ad 3421)), (6, .int (nI t)), (5, .int (nI (tPn T))), (4, .int (nI (tEn T))), (3, .int (nI (tHn T))), (2, .ref (ad 3000)), (1, .ref (ad 0)), (0, .ref (gXb g))] → W p l e (room_1) s m args below meth c H locs cells slots (Q) (F0 m 391 ls []) := by
    intro n391
    induction n391 with
    | zero => intro k h1 h2; omega
    | succ n391 ih391 =>
      intro k hk_k hn_k ls H locs hw hl
      have hk__ : True := trivial
      refine lv_iload hx hb dL_law_391 (lv_at hl 0 rfl) ?_
      refine lv_iload_n hx hb dL_law_393 rfl (lv_at hl 10 rfl) ?_
      refine lv_icmp_ge (tgt := 872) hx hb dL_law_394 (by decide) (fun c_1 => ?_) (fun c_1 => ?_)
      · have c_1 := nI_le' (a := (tHn T)) (b := k) c_1 (by omega) (by omega)
        have ek : k = tHn T := by omega
        rw [ek] at hl
        refine lv_iload hx hb dL_law_872 (lv_at hl 2 rfl) ?_
        refine lv_iload hx hb dL_law_874 (lv_at hl 3 rfl) ?_
        refine lv_icmp_eq (tgt := 881) hx hb dL_law_876 (by decide) (fun c_2 => ?_) (fun c_2 => absurd hfr c_2)
        exact K ls _ _ hw (lv_sub hl [1, 4, 5, 6, 7, 8, 9, 10, 11, 12, 13] rfl)
      · have c_1 := nI_nle' (a := (tHn T)) (b := k) c_1 (by omega) (by omega)
        obtain ⟨⟨a0, a1, a6, a5⟩, ⟨b3, b1, b4⟩, hd, h0, h1⟩ := hH k (by omega)
        refine lv_aload_n hx hb dL_law_397 rfl (lv_at hl 12 rfl) ?_
        refine lv_iload hx hb dL_law_398 (lv_at hl 0 rfl) ?_
        refine lv_iconst (v := 3) hx hb dL_law_400 (by decide) ?_
        refine fk_di (fcV X hw (c_X5_house l g ad M hC (show k < tHn T2 by omega) (what := 3) (by decide)) hF rfl wq108 kVX5_house ⟨(Nat.le_of_ble_eq_true rfl), (Nat.le_of_ble_eq_true rfl)⟩ rfl hl.1 rfl (Nat.le_of_ble_eq_true rfl) dL_law_401 ⟨(by first | (show _ ≤ 792864; omega) | (show _ ≤ 6723031; omega)), (by first | (show _ ≤ 792864; omega) | (show _ ≤ 6723031; omega))⟩) hw (fun H locs hw => ?_)
        refine f_top (y := tH T2 k 3) hT_3 ?_
        refine lv_istore (lv' := [(19, .int (tH T2 k 3)), (18, .int (nI k)), (17, .int (lCame T2 k)), (16, .int (lFresh T T2 k)), (15, .int ((goT T 1).2)), (10, .ref (ad 3423)), (9, .ref (ad 3422)), (8, .ref (ad 3421)), (6, .int (nI t)), (5, .int (nI (tPn T))), (4, .int (nI (tEn T))), (3, .int (nI (tHn T))), (2, .ref (ad 3000)), (1, .ref (ad 0)), (0, .ref (gXb g))]) hx hb dL_law_404 hl (by decide) rfl (fun ls hl => ?_)
        refine lv_aload_n hx hb dL_law_406 rfl (lv_at hl 13 rfl) ?_
        refine lv_iload hx hb dL_law_407 (lv_at hl 1 rfl) ?_
        refine lv_iconst (v := 5) hx hb dL_law_409 (by decide) ?_
        refine fk_di (fcV X hw (c_X5_house l g ad M hC (show k < tHn T2 by omega) (what := 5) (by decide)) hF rfl wq108 kVX5_house ⟨(Nat.le_of_ble_eq_true rfl), (Nat.le_of_ble_eq_true rfl)⟩ rfl hl.1 rfl (Nat.le_of_ble_eq_true rfl) dL_law_410 ⟨(by first | (show _ ≤ 792864; omega) | (show _ ≤ 6723031; omega)), (by first | (show _ ≤ 792864; omega) | (show _ ≤ 6723031; omega))⟩) hw (fun H locs hw => ?_)
        refine f_top (y := tH T2 k 5) hT_5 ?_
        refine lv_istore (lv' := [(20, .int (tH T2 k 5)), (19, .int (tH T2 k 3)), (18, .int (nI k)), (17, .int (lCame T2 k)), (16, .int (lFresh T T2 k)), (15, .int ((goT T 1).2)), (10, .ref (ad 3423)), (9, .ref (ad 3422)), (8, .ref (ad 3421)), (6, .int (nI t)), (5, .int (nI (tPn T))), (4, .int (nI (tEn T))), (3, .int (nI (tHn T))), (2, .ref (ad 3000)), (1, .ref (ad 0)), (0, .ref (gXb g))]) hx hb dL_law_413 hl (by decide) rfl (fun ls hl => ?_)
        refine lv_iload hx hb dL_law_415 (lv_at hl 3 rfl) ?_
        refine lv_iload hx hb dL_law_417 (lv_at hl 0 rfl) ?_
        refine lv_iadd hx hb dL_law_419 ?_
        refine lv_istore (lv' := [(17, .int ((lCame T2 k) + (tH T2 k 5))), (20, .int (tH T2 k 5)), (19, .int (tH T2 k 3)), (18, .int (nI k)), (16, .int (lFresh T T2 k)), (15, .int ((goT T 1).2)), (10, .ref (ad 3423)), (9, .ref (ad 3422)), (8, .ref (ad 3421)), (6, .int (nI t)), (5, .int (nI (tPn T))), (4, .int (nI (tEn T))), (3, .int (nI (tHn T))), (2, .ref (ad 3000)), (1, .ref (ad 0)), (0, .ref (gXb g))]) hx hb dL_law_420 hl (by decide) rfl (fun ls hl => ?_)
        refine lv_aload_n hx hb dL_law_422 rfl (lv_at hl 14 rfl) ?_
        refine lv_iload hx hb dL_law_423 (lv_at hl 3 rfl) ?_
        refine lv_iconst (v := 0) hx hb dL_law_425 (by decide) ?_
        refine fk_di (fcV X hw (c_X5_house l g ad M hC (show k < tHn T2 by omega) (what := 0) (by decide)) hF rfl wq108 kVX5_house ⟨(Nat.le_of_ble_eq_true rfl), (Nat.le_of_ble_eq_true rfl)⟩ rfl hl.1 rfl (Nat.le_of_ble_eq_true rfl) dL_law_426 ⟨(by first | (show _ ≤ 792864; omega) | (show _ ≤ 6723031; omega)), (by first | (show _ ≤ 792864; omega) | (show _ ≤ 6723031; omega))⟩) hw (fun H locs hw => ?_)
        refine f_top (y := tH T2 k 0) hT_0 ?_
        refine lv_aload hx hb dL_law_429 (lv_at hl 8 rfl) ?_
        refine lv_iload hx hb dL_law_431 (lv_at hl 3 rfl) ?_
        refine f_aaldQ X hw hRo (vp_in_nI (n := k) (by omega) (by omega)) (q := ad (3450 + k)) (by rw [nI_clamp (by omega)]; exact hRf k (by omega)) dL_law_433 ?_
        refine lv_iconst (v := 0) hx hb dL_law_434 (by decide) ?_
        refine f_iald X hw (hRr k (by omega)) (by unfold vp_in; decide) dL_law_435 ?_
        rw [show (0 : Int32).toNatClampNeg = 0 from rfl]
        refine f_top (y := tH T k 0) ((hRv k (by omega) 0 (by omega)).trans hT_0) ?_
        refine lv_icmp_ne (tgt := 483) hx hb dL_law_436 (by decide) (fun c_3 => absurd a0 c_3) (fun c_3 => ?_)
        refine lv_aload_n hx hb dL_law_439 rfl (lv_at hl 14 rfl) ?_
        refine lv_iload hx hb dL_law_440 (lv_at hl 3 rfl) ?_
        refine lv_iconst (v := 1) hx hb dL_law_442 (by decide) ?_
        refine fk_di (fcV X hw (c_X5_house l g ad M hC (show k < tHn T2 by omega) (what := 1) (by decide)) hF rfl wq108 kVX5_house ⟨(Nat.le_of_ble_eq_true rfl), (Nat.le_of_ble_eq_true rfl)⟩ rfl hl.1 rfl (Nat.le_of_ble_eq_true rfl) dL_law_443 ⟨(by first | (show _ ≤ 792864; omega) | (show _ ≤ 6723031; omega)), (by first | (show _ ≤ 792864; omega) | (show _ ≤ 6723031; omega))⟩) hw (fun H locs hw => ?_)
        refine f_top (y := tH T2 k 1) hT_1 ?_
        refine lv_aload hx hb dL_law_446 (lv_at hl 8 rfl) ?_
        refine lv_iload hx hb dL_law_448 (lv_at hl 3 rfl) ?_
        refine f_aaldQ X hw hRo (vp_in_nI (n := k) (by omega) (by omega)) (q := ad (3450 + k)) (by rw [nI_clamp (by omega)]; exact hRf k (by omega)) dL_law_450 ?_
        refine lv_iconst (v := 1) hx hb dL_law_451 (by decide) ?_
        refine f_iald X hw (hRr k (by omega)) (by unfold vp_in; decide) dL_law_452 ?_
        rw [show (1 : Int32).toNatClampNeg = 1 from rfl]
        refine f_top (y := tH T k 1) ((hRv k (by omega) 1 (by omega)).trans hT_1) ?_
        refine lv_icmp_ne (tgt := 483) hx hb dL_law_453 (by decide) (fun c_4 => absurd a1 c_4) (fun c_4 => ?_)
        refine lv_aload_n hx hb dL_law_456 rfl (lv_at hl 14 rfl) ?_
        refine lv_iload hx hb dL_law_457 (lv_at hl 3 rfl) ?_
        refine lv_bipush (v := 6) hx hb dL_law_459 (by decide) ?_
        refine fk_di (fcV X hw (c_X5_house l g ad M hC (show k < tHn T2 by omega) (what := 6) (by decide)) hF rfl wq108 kVX5_house ⟨(Nat.le_of_ble_eq_true rfl), (Nat.le_of_ble_eq_true rfl)⟩ rfl hl.1 rfl (Nat.le_of_ble_eq_true rfl) dL_law_461 ⟨(by first | (show _ ≤ 792864; omega) | (show _ ≤ 6723031; omega)), (by first | (show _ ≤ 792864; omega) | (show _ ≤ 6723031; omega))⟩) hw (fun H locs hw => ?_)
        refine f_top (y := tH T2 k 6) hT_6 ?_
        refine lv_aload hx hb dL_law_464 (lv_at hl 8 rfl) ?_
        refine lv_iload hx hb dL_law_466 (lv_at hl 3 rfl) ?_
        refine f_aaldQ X hw hRo (vp_in_nI (n := k) (by omega) (by omega)) (q := ad (3450 + k)) (by rw [nI_clamp (by omega)]; exact hRf k (by omega)) dL_law_468 ?_
        refine lv_bipush (v := 6) hx hb dL_law_469 (by decide) ?_
        refine f_iald X hw (hRr k (by omega)) (by unfold vp_in; decide) dL_law_471 ?_
        rw [show (6 : Int32).toNatClampNeg = 6 from rfl]
        refine f_top (y := tH T k 6) ((hRv k (by omega) 6 (by omega)).trans hT_6) ?_
        refine lv_iload hx hb dL_law_472 (lv_at hl 1 rfl) ?_
        refine lv_iadd hx hb dL_law_474 ?_
        refine lv_icmp_ne (tgt := 483) hx hb dL_law_475 (by decide) (fun c_5 => absurd a6 c_5) (fun c_5 => ?_)
        refine lv_iload hx hb dL_law_478 (lv_at hl 1 rfl) ?_
        refine lv_if_ge (tgt := 485) hx hb dL_law_480 (by decide) (fun c_6 => ?_) (fun c_6 => absurd a5 c_6)
        have j514 : ∀ (ls : Array Slot) (H : Heap) (locs : List Loc), fw g ad M s H locs → lv_has ls 25 [(17, .int ((lCame T2 k) + (tH T2 k 5))), (20, .int (tH T2 k 5)), (19, .int (tH T2 k 3)), (18, .int (nI k)), (16, .int (lFresh T T2 k)), (15, .int ((goT T 1).2)), (10, .ref (ad 3423)), (9, .ref (ad 3422)), (8, .ref (ad 3421)), (6, .int (nI t)), (5, .int (nI (tPn T))), (4, .int (nI (tEn T))), (3, .int (nI (tHn T))), (2, .ref (ad 3000)), (1, .ref (ad 0)), (0, .ref (gXb g))] → W p l e (room_1) s m args below meth c H locs cells slots (Q) (F0 m 514 ls []) := by
          intro ls H locs hw hl
          have j543 : ∀ (ls : Array Slot) (H : Heap) (locs : List Loc), fw g ad M s H locs → lv_has ls 25 [(17, .int ((lCame T2 k) + (tH T2 k 5))), (20, .int (tH T2 k 5)), (19, .int (tH T2 k 3)), (18, .int (nI k)), (16, .int (lFresh T T2 k)), (15, .int ((goT T 1).2)), (10, .ref (ad 3423)), (9, .ref (ad 3422)), (8, .ref (ad 3421)), (6, .int (nI t)), (5, .int (nI (tPn T))), (4, .int (nI (tEn T))), (3, .int (nI (tHn T))), (2, .ref (ad 3000)), (1, .ref (ad 0)), (0, .ref (gXb g))] → W p l e (room_1) s m args below meth c H locs cells slots (Q) (F0 m 543 ls []) := by
            intro ls H locs hw hl
            refine lv_aload_n hx hb dL_law_543 rfl (lv_at hl 14 rfl) ?_
            refine lv_iload hx hb dL_law_544 (lv_at hl 3 rfl) ?_
            refine lv_iconst (v := 4) hx hb dL_law_546 (by decide) ?_
            refine fk_di (fcV X hw (c_X5_house l g ad M hC (show k < tHn T2 by omega) (what := 4) (by decide)) hF rfl wq108 kVX5_house ⟨(Nat.le_of_ble_eq_true rfl), (Nat.le_of_ble_eq_true rfl)⟩ rfl hl.1 rfl (Nat.le_of_ble_eq_true rfl) dL_law_547 ⟨(by first | (show _ ≤ 792864; omega) | (show _ ≤ 6723031; omega)), (by first | (show _ ≤ 792864; omega) | (show _ ≤ 6723031; omega))⟩) hw (fun H locs hw => ?_)
            refine f_top (y := tH T2 k 4) hT_4 ?_
            refine lv_bipush (v := 99) hx hb dL_law_550 (by decide) ?_
            refine lv_icmp_le (tgt := 557) hx hb dL_law_552 (by decide) (fun c_7 => ?_) (fun c_7 => absurd b4 c_7)
            have j599 : ∀ (ls : Array Slot) (H : Heap) (locs : List Loc), fw g ad M s H locs → lv_has ls 25 [(17, .int ((lCame T2 k) + (tH T2 k 5))), (20, .int (tH T2 k 5)), (19, .int (tH T2 k 3)), (18, .int (nI k)), (16, .int (lFresh T T2 k)), (15, .int ((goT T 1).2)), (10, .ref (ad 3423)), (9, .ref (ad 3422)), (8, .ref (ad 3421)), (6, .int (nI t)), (5, .int (nI (tPn T))), (4, .int (nI (tEn T))), (3, .int (nI (tHn T))), (2, .ref (ad 3000)), (1, .ref (ad 0)), (0, .ref (gXb g))] → W p l e (room_1) s m args below meth c H locs cells slots (Q) (F0 m 599 ls []) := by
              intro ls H locs hw hl
              have j733 : ∀ (ls : Array Slot) (H : Heap) (locs : List Loc), fw g ad M s H locs → lv_has ls 25 [(20, .int (tH T2 k 5)), (19, .int (tH T2 k 3)), (18, .int (nI k)), (17, .int ((lCame T2 k) + (tH T2 k 5))), (16, .int (lFresh T T2 (k + 1))), (15, .int ((goT T 1).2)), (10, .ref (ad 3423)), (9, .ref (ad 3422)), (8, .ref (ad 3421)), (6, .int (nI t)), (5, .int (nI (tPn T))), (4, .int (nI (tEn T))), (3, .int (nI (tHn T))), (2, .ref (ad 3000)), (1, .ref (ad 0)), (0, .ref (gXb g))] → W p l e (room_1) s m args below meth c H locs cells slots (Q) (F0 m 733 ls []) := by
                intro ls H locs hw hl
                refine lv_aload hx hb dL_law_733 (lv_at hl 8 rfl) ?_
                refine lv_iload hx hb dL_law_735 (lv_at hl 2 rfl) ?_
                refine f_aaldQ X hw hRo (vp_in_nI (n := k) (by omega) (by omega)) (q := ad (3450 + k)) (by rw [nI_clamp (by omega)]; exact hRf k (by omega)) dL_law_737 ?_
                refine lv_iconst (v := 3) hx hb dL_law_738 (by decide) ?_
                refine f_iald X hw (hRr k (by omega)) (by unfold vp_in; decide) dL_law_739 ?_
                rw [show (3 : Int32).toNatClampNeg = 3 from rfl]
                refine f_top (y := tH T k 3) ((hRv k (by omega) 3 (by omega)).trans hT_3) ?_
                refine lv_iconst (v := 1) hx hb dL_law_740 (by decide) ?_
                refine lv_icmp_eq (tgt := 747) hx hb dL_law_741 (by decide) (fun c_8 => ?_) (fun c_8 => ?_)
                · have hq := h1 c_8
                  refine lv_bipush (v := 99) hx hb dL_law_747 (by decide) ?_
                  refine lv_aload hx hb dL_law_749 (lv_at hl 8 rfl) ?_
                  refine lv_iload hx hb dL_law_751 (lv_at hl 2 rfl) ?_
                  refine f_aaldQ X hw hRo (vp_in_nI (n := k) (by omega) (by omega)) (q := ad (3450 + k)) (by rw [nI_clamp (by omega)]; exact hRf k (by omega)) dL_law_753 ?_
                  refine lv_iconst (v := 4) hx hb dL_law_754 (by decide) ?_
                  refine f_iald X hw (hRr k (by omega)) (by unfold vp_in; decide) dL_law_755 ?_
                  rw [show (4 : Int32).toNatClampNeg = 4 from rfl]
                  refine f_top (y := tH T k 4) ((hRv k (by omega) 4 (by omega)).trans hT_4) ?_
                  refine lv_aload hx hb dL_law_756 (lv_at hl 8 rfl) ?_
                  refine lv_iload hx hb dL_law_758 (lv_at hl 2 rfl) ?_
                  refine f_aaldQ X hw hRo (vp_in_nI (n := k) (by omega) (by omega)) (q := ad (3450 + k)) (by rw [nI_clamp (by omega)]; exact hRf k (by omega)) dL_law_760 ?_
                  refine lv_iconst (v := 1) hx hb dL_law_761 (by decide) ?_
                  refine f_iald X hw (hRr k (by omega)) (by unfold vp_in; decide) dL_law_762 ?_
                  rw [show (1 : Int32).toNatClampNeg = 1 from rfl]
                  refine f_top (y := tH T k 1) ((hRv k (by omega) 1 (by omega)).trans hT_1) ?_
                  refine lv_iadd hx hb dL_law_763 ?_
                  refine lv_iload hx hb dL_law_764 (lv_at hl 0 rfl) ?_
                  refine lv_iconst (v := 4) hx hb dL_law_766 (by decide) ?_
                  refine lv_idiv hx hb dL_law_767 (by decide) ?_
                  refine lv_isub hx hb dL_law_768 ?_
                  refine va_mmin hx hb (X.2.2.1.trans hl.1.symm) X.2.2.2.1 (X.2.2.2.2.1 _ wq886) (X.2.2.2.2.1 _ wq287) (X.2.2.2.2.1 _ wq18) (X.2.2.2.2.1 _ wq288) (Nat.le_of_ble_eq_true rfl) (Nat.le_of_ble_eq_true rfl) (by first | (show _ ≤ 792864; omega) | (show _ ≤ 6723031; omega)) (by first | (show _ ≤ 792864; omega) | (show _ ≤ 6723031; omega)) dL_law_769 ?_
                  refine f_top (y := lHot (upd (tH T k) 5 (tH T2 k 5))) rfl ?_
                  refine lv_istore (lv' := [(21, .int (lHot (upd (tH T k) 5 (tH T2 k 5)))), (20, .int (tH T2 k 5)), (19, .int (tH T2 k 3)), (18, .int (nI k)), (17, .int ((lCame T2 k) + (tH T2 k 5))), (16, .int (lFresh T T2 (k + 1))), (15, .int ((goT T 1).2)), (10, .ref (ad 3423)), (9, .ref (ad 3422)), (8, .ref (ad 3421)), (6, .int (nI t)), (5, .int (nI (tPn T))), (4, .int (nI (tEn T))), (3, .int (nI (tHn T))), (2, .ref (ad 3000)), (1, .ref (ad 0)), (0, .ref (gXb g))]) hx hb dL_law_772 hl (by decide) rfl (fun ls hl => ?_)
                  have j808 : ∀ (ls : Array Slot) (H : Heap) (locs : List Loc), fw g ad M s H locs → lv_has ls 25 [(21, .int (lHot (upd (tH T k) 5 (tH T2 k 5)))), (20, .int (tH T2 k 5)), (19, .int (tH T2 k 3)), (18, .int (nI k)), (17, .int ((lCame T2 k) + (tH T2 k 5))), (16, .int (lFresh T T2 (k + 1))), (15, .int ((goT T 1).2)), (10, .ref (ad 3423)), (9, .ref (ad 3422)), (8, .ref (ad 3421)), (6, .int (nI t)), (5, .int (nI (tPn T))), (4, .int (nI (tEn T))), (3, .int (nI (tHn T))), (2, .ref (ad 3000)), (1, .ref (ad 0)), (0, .ref (gXb g))] → W p l e (room_1) s m args below meth c H locs cells slots (Q) (F0 m 808 ls [.int (lLeft (upd (tH T k) 5 (tH T2 k 5)))]) := by
                    intro ls H locs hw hl
                    refine lv_istore (lv' := [(22, .int (lLeft (upd (tH T k) 5 (tH T2 k 5)))), (21, .int (lHot (upd (tH T k) 5 (tH T2 k 5)))), (20, .int (tH T2 k 5)), (19, .int (tH T2 k 3)), (18, .int (nI k)), (17, .int ((lCame T2 k) + (tH T2 k 5))), (16, .int (lFresh T T2 (k + 1))), (15, .int ((goT T 1).2)), (10, .ref (ad 3423)), (9, .ref (ad 3422)), (8, .ref (ad 3421)), (6, .int (nI t)), (5, .int (nI (tPn T))), (4, .int (nI (tEn T))), (3, .int (nI (tHn T))), (2, .ref (ad 3000)), (1, .ref (ad 0)), (0, .ref (gXb g))]) hx hb dL_law_808 hl (by decide) rfl (fun ls hl => ?_)
                    have j834 : ∀ (ls : Array Slot) (H : Heap) (locs : List Loc), fw g ad M s H locs → lv_has ls 25 [(22, .int (lLeft (upd (tH T k) 5 (tH T2 k 5)))), (21, .int (lHot (upd (tH T k) 5 (tH T2 k 5)))), (20, .int (tH T2 k 5)), (19, .int (tH T2 k 3)), (18, .int (nI k)), (17, .int ((lCame T2 k) + (tH T2 k 5))), (16, .int (lFresh T T2 (k + 1))), (15, .int ((goT T 1).2)), (10, .ref (ad 3423)), (9, .ref (ad 3422)), (8, .ref (ad 3421)), (6, .int (nI t)), (5, .int (nI (tPn T))), (4, .int (nI (tEn T))), (3, .int (nI (tHn T))), (2, .ref (ad 3000)), (1, .ref (ad 0)), (0, .ref (gXb g))] → W p l e (room_1) s m args below meth c H locs cells slots (Q) (F0 m 834 ls []) := by
                      intro ls H locs hw hl
                      refine lv_aload_n hx hb dL_law_834 rfl (lv_at hl 16 rfl) ?_
                      refine lv_iload hx hb dL_law_835 (lv_at hl 4 rfl) ?_
                      refine lv_iconst (v := 2) hx hb dL_law_837 (by decide) ?_
                      refine fk_di (fcV X hw (c_X5_house l g ad M hC (show k < tHn T2 by omega) (what := 2) (by decide)) hF rfl wq108 kVX5_house ⟨(Nat.le_of_ble_eq_true rfl), (Nat.le_of_ble_eq_true rfl)⟩ rfl hl.1 rfl (Nat.le_of_ble_eq_true rfl) dL_law_838 ⟨(by first | (show _ ≤ 792864; omega) | (show _ ≤ 6723031; omega)), (by first | (show _ ≤ 792864; omega) | (show _ ≤ 6723031; omega))⟩) hw (fun H locs hw => ?_)
                      refine f_top (y := tH T2 k 2) hT_2 ?_
                      refine lv_iload hx hb dL_law_841 (lv_at hl 0 rfl) ?_
                      refine lv_icmp_ne (tgt := 864) hx hb dL_law_843 (by decide) (fun c_9 => absurd hq.2.1 c_9) (fun c_9 => ?_)
                      refine lv_iload hx hb dL_law_846 (lv_at hl 3 rfl) ?_
                      refine lv_iconst (v := 1) hx hb dL_law_848 (by decide) ?_
                      refine lv_icmp_ne (tgt := 866) hx hb dL_law_849 (by decide) (fun c_10 => ?_) (fun c_10 => ?_)
                      · refine lv_iinc (v := nI (k + 1)) (lv' := [(18, .int (nI (k + 1))), (22, .int (lLeft (upd (tH T k) 5 (tH T2 k 5)))), (21, .int (lHot (upd (tH T k) 5 (tH T2 k 5)))), (20, .int (tH T2 k 5)), (19, .int (tH T2 k 3)), (17, .int ((lCame T2 k) + (tH T2 k 5))), (16, .int (lFresh T T2 (k + 1))), (15, .int ((goT T 1).2)), (10, .ref (ad 3423)), (9, .ref (ad 3422)), (8, .ref (ad 3421)), (6, .int (nI t)), (5, .int (nI (tPn T))), (4, .int (nI (tEn T))), (3, .int (nI (tHn T))), (2, .ref (ad 3000)), (1, .ref (ad 0)), (0, .ref (gXb g))]) hx hb dL_law_866 hl (k := 4) rfl (nI_1 k) (by decide) rfl (fun ls hl => ?_)
                        refine lv_goto (tgt := 391) hx hb dL_law_869 (by decide) ?_
                        exact ih391 (k + 1) (by omega) (by omega) ls _ _ hw (lv_sub hl [0, 5, 6, 7, 8, 9, 10, 11, 12, 13, 14, 15, 16, 17] rfl)
                      · refine lv_aload_n hx hb dL_law_852 rfl (lv_at hl 16 rfl) ?_
                        refine lv_iload hx hb dL_law_853 (lv_at hl 4 rfl) ?_
                        refine lv_iconst (v := 4) hx hb dL_law_855 (by decide) ?_
                        refine fk_di (fcV X hw (c_X5_house l g ad M hC (show k < tHn T2 by omega) (what := 4) (by decide)) hF rfl wq108 kVX5_house ⟨(Nat.le_of_ble_eq_true rfl), (Nat.le_of_ble_eq_true rfl)⟩ rfl hl.1 rfl (Nat.le_of_ble_eq_true rfl) dL_law_856 ⟨(by first | (show _ ≤ 792864; omega) | (show _ ≤ 6723031; omega)), (by first | (show _ ≤ 792864; omega) | (show _ ≤ 6723031; omega))⟩) hw (fun H locs hw => ?_)
                        refine f_top (y := tH T2 k 4) hT_4 ?_
                        refine lv_iload hx hb dL_law_859 (lv_at hl 1 rfl) ?_
                        refine lv_icmp_eq (tgt := 866) hx hb dL_law_861 (by decide) (fun c_11 => ?_) (fun c_11 => absurd (hq.2.2 c_10) c_11)
                        refine lv_iinc (v := nI (k + 1)) (lv' := [(18, .int (nI (k + 1))), (22, .int (lLeft (upd (tH T k) 5 (tH T2 k 5)))), (21, .int (lHot (upd (tH T k) 5 (tH T2 k 5)))), (20, .int (tH T2 k 5)), (19, .int (tH T2 k 3)), (17, .int ((lCame T2 k) + (tH T2 k 5))), (16, .int (lFresh T T2 (k + 1))), (15, .int ((goT T 1).2)), (10, .ref (ad 3423)), (9, .ref (ad 3422)), (8, .ref (ad 3421)), (6, .int (nI t)), (5, .int (nI (tPn T))), (4, .int (nI (tEn T))), (3, .int (nI (tHn T))), (2, .ref (ad 3000)), (1, .ref (ad 0)), (0, .ref (gXb g))]) hx hb dL_law_866 hl (k := 4) rfl (nI_1 k) (by decide) rfl (fun ls hl => ?_)
                        refine lv_goto (tgt := 391) hx hb dL_law_869 (by decide) ?_
                        exact ih391 (k + 1) (by omega) (by omega) ls _ _ hw (lv_sub hl [0, 5, 6, 7, 8, 9, 10, 11, 12, 13, 14, 15, 16, 17] rfl)
                    refine lv_iload hx hb dL_law_810 (lv_at hl 3 rfl) ?_
                    refine lv_iload hx hb dL_law_812 (lv_at hl 1 rfl) ?_
                    refine lv_if_gt (tgt := 821) hx hb dL_law_814 (by decide) (fun c_12 => ?_) (fun c_12 => ?_)
                    · refine lv_iload hx hb dL_law_821 (lv_at hl 0 rfl) ?_
                      refine lv_if_ne (tgt := 830) hx hb dL_law_823 (by decide) (fun c_13 => ?_) (fun c_13 => ?_)
                      · refine lv_iconst (v := 1) hx hb dL_law_830 (by decide) ?_
                        refine lv_icmp_ne (tgt := 864) hx hb dL_law_831 (by decide) (fun c_14 => absurd (hq.1.trans ((if_neg (Int32.not_le.mpr c_12)).trans (if_neg c_13))) c_14) (fun c_14 => ?_)
                        exact j834 ls _ _ hw (lv_sub hl [0, 1, 2, 3, 4, 5, 6, 7, 8, 9, 10, 11, 12, 13, 14, 15, 16, 17] rfl)
                      · refine lv_iconst (v := 3) hx hb dL_law_826 (by decide) ?_
                        refine lv_goto (tgt := 831) hx hb dL_law_827 (by decide) ?_
                        refine lv_icmp_ne (tgt := 864) hx hb dL_law_831 (by decide) (fun c_15 => absurd (hq.1.trans ((if_neg (Int32.not_le.mpr c_12)).trans (if_pos c_13))) c_15) (fun c_15 => ?_)
                        exact j834 ls _ _ hw (lv_sub hl [0, 1, 2, 3, 4, 5, 6, 7, 8, 9, 10, 11, 12, 13, 14, 15, 16, 17] rfl)
                    · refine lv_iconst (v := 2) hx hb dL_law_817 (by decide) ?_
                      refine lv_goto (tgt := 831) hx hb dL_law_818 (by decide) ?_
                      refine lv_icmp_ne (tgt := 864) hx hb dL_law_831 (by decide) (fun c_16 => absurd (hq.1.trans (if_pos (Int32.not_lt.mp c_12))) c_16) (fun c_16 => ?_)
                      exact j834 ls _ _ hw (lv_sub hl [0, 1, 2, 3, 4, 5, 6, 7, 8, 9, 10, 11, 12, 13, 14, 15, 16, 17] rfl)
                  refine lv_iload hx hb dL_law_774 (lv_at hl 0 rfl) ?_
                  refine lv_if_gt (tgt := 789) hx hb dL_law_776 (by decide) (fun c_17 => ?_) (fun c_17 => ?_)
                  · refine lv_iconst (v := 0) hx hb dL_law_789 (by decide) ?_
                    refine lv_aload hx hb dL_law_790 (lv_at hl 9 rfl) ?_
                    refine lv_iload hx hb dL_law_792 (lv_at hl 3 rfl) ?_
                    refine f_aaldQ X hw hRo (vp_in_nI (n := k) (by omega) (by omega)) (q := ad (3450 + k)) (by rw [nI_clamp (by omega)]; exact hRf k (by omega)) dL_law_794 ?_
                    refine lv_iconst (v := 2) hx hb dL_law_795 (by decide) ?_
                    refine f_iald X hw (hRr k (by omega)) (by unfold vp_in; decide) dL_law_796 ?_
                    rw [show (2 : Int32).toNatClampNeg = 2 from rfl]
                    refine f_top (y := tH T k 2) ((hRv k (by omega) 2 (by omega)).trans hT_2) ?_
                    refine lv_iconst (v := 1) hx hb dL_law_797 (by decide) ?_
                    refine lv_isub hx hb dL_law_798 ?_
                    refine lv_iload hx hb dL_law_799 (lv_at hl 0 rfl) ?_
                    refine lv_bipush (v := 25) hx hb dL_law_801 (by decide) ?_
                    refine lv_idiv hx hb dL_law_803 (by decide) ?_
                    refine lv_isub hx hb dL_law_804 ?_
                    refine va_mmax hx hb (X.2.2.1.trans hl.1.symm) X.2.2.2.1 (X.2.2.2.2.1 _ wq885) (X.2.2.2.2.1 _ wq290) (X.2.2.2.2.1 _ wq18) (X.2.2.2.2.1 _ wq291) (Nat.le_of_ble_eq_true rfl) (Nat.le_of_ble_eq_true rfl) (by first | (show _ ≤ 792864; omega) | (show _ ≤ 6723031; omega)) (by first | (show _ ≤ 792864; omega) | (show _ ≤ 6723031; omega)) dL_law_805 ?_
                    refine f_top (y := lLeft (upd (tH T k) 5 (tH T2 k 5))) (if_neg (Int32.not_le.mpr c_17)).symm ?_
                    exact j808 ls _ _ hw (lv_sub hl [0, 1, 2, 3, 4, 5, 6, 7, 8, 9, 10, 11, 12, 13, 14, 15, 16] rfl)
                  · refine lv_aload hx hb dL_law_779 (lv_at hl 9 rfl) ?_
                    refine lv_iload hx hb dL_law_781 (lv_at hl 3 rfl) ?_
                    refine f_aaldQ X hw hRo (vp_in_nI (n := k) (by omega) (by omega)) (q := ad (3450 + k)) (by rw [nI_clamp (by omega)]; exact hRf k (by omega)) dL_law_783 ?_
                    refine lv_iconst (v := 2) hx hb dL_law_784 (by decide) ?_
                    refine f_iald X hw (hRr k (by omega)) (by unfold vp_in; decide) dL_law_785 ?_
                    rw [show (2 : Int32).toNatClampNeg = 2 from rfl]
                    refine f_top (y := tH T k 2) ((hRv k (by omega) 2 (by omega)).trans hT_2) ?_
                    refine lv_goto (tgt := 808) hx hb dL_law_786 (by decide) ?_
                    refine f_top (y := lLeft (upd (tH T k) 5 (tH T2 k 5))) (if_pos (Int32.not_lt.mp c_17)).symm ?_
                    exact j808 ls _ _ hw (lv_sub hl [0, 1, 2, 3, 4, 5, 6, 7, 8, 9, 10, 11, 12, 13, 14, 15, 16] rfl)
                · refine lv_goto (tgt := 866) hx hb dL_law_744 (by decide) ?_
                  refine lv_iinc (v := nI (k + 1)) (lv' := [(18, .int (nI (k + 1))), (20, .int (tH T2 k 5)), (19, .int (tH T2 k 3)), (17, .int ((lCame T2 k) + (tH T2 k 5))), (16, .int (lFresh T T2 (k + 1))), (15, .int ((goT T 1).2)), (10, .ref (ad 3423)), (9, .ref (ad 3422)), (8, .ref (ad 3421)), (6, .int (nI t)), (5, .int (nI (tPn T))), (4, .int (nI (tEn T))), (3, .int (nI (tHn T))), (2, .ref (ad 3000)), (1, .ref (ad 0)), (0, .ref (gXb g))]) hx hb dL_law_866 hl (k := 2) rfl (nI_1 k) (by decide) rfl (fun ls hl => ?_)
                  refine lv_goto (tgt := 391) hx hb dL_law_869 (by decide) ?_
                  exact ih391 (k + 1) (by omega) (by omega) ls _ _ hw (lv_sub hl [0, 3, 4, 5, 6, 7, 8, 9, 10, 11, 12, 13, 14, 15] rfl)
              refine lv_aload hx hb dL_law_599 (lv_at hl 8 rfl) ?_
              refine lv_iload hx hb dL_law_601 (lv_at hl 3 rfl) ?_
              refine f_aaldQ X hw hRo (vp_in_nI (n := k) (by omega) (by omega)) (q := ad (3450 + k)) (by rw [nI_clamp (by omega)]; exact hRf k (by omega)) dL_law_603 ?_
              refine lv_iconst (v := 3) hx hb dL_law_604 (by decide) ?_
              refine f_iald X hw (hRr k (by omega)) (by unfold vp_in; decide) dL_law_605 ?_
              rw [show (3 : Int32).toNatClampNeg = 3 from rfl]
              refine f_top (y := tH T k 3) ((hRv k (by omega) 3 (by omega)).trans hT_3) ?_
              refine lv_if_ne (tgt := 733) hx hb dL_law_606 (by decide) (fun c_18 => ?_) (fun c_18 => ?_)
              · exact j733 ls _ _ hw (by rw [show (lFresh T T2 (k + 1)) = (lFresh T T2 k) from if_neg c_18]; exact lv_sub hl [1, 2, 3, 0, 4, 5, 6, 7, 8, 9, 10, 11, 12, 13, 14, 15] rfl)
              · have hz := h0 c_18
                refine lv_iconst (v := 0) hx hb dL_law_609 (by decide) ?_
                refine lv_istore (lv' := [(21, .int 0), (17, .int ((lCame T2 k) + (tH T2 k 5))), (20, .int (tH T2 k 5)), (19, .int (tH T2 k 3)), (18, .int (nI k)), (16, .int (lFresh T T2 k)), (15, .int ((goT T 1).2)), (10, .ref (ad 3423)), (9, .ref (ad 3422)), (8, .ref (ad 3421)), (6, .int (nI t)), (5, .int (nI (tPn T))), (4, .int (nI (tEn T))), (3, .int (nI (tHn T))), (2, .ref (ad 3000)), (1, .ref (ad 0)), (0, .ref (gXb g))]) hx hb dL_law_610 hl (by decide) rfl (fun ls hl => ?_)
                refine lv_iconst (v := 0) hx hb dL_law_612 (by decide) ?_
                refine lv_istore (lv' := [(22, .int 0), (21, .int 0), (17, .int ((lCame T2 k) + (tH T2 k 5))), (20, .int (tH T2 k 5)), (19, .int (tH T2 k 3)), (18, .int (nI k)), (16, .int (lFresh T T2 k)), (15, .int ((goT T 1).2)), (10, .ref (ad 3423)), (9, .ref (ad 3422)), (8, .ref (ad 3421)), (6, .int (nI t)), (5, .int (nI (tPn T))), (4, .int (nI (tEn T))), (3, .int (nI (tHn T))), (2, .ref (ad 3000)), (1, .ref (ad 0)), (0, .ref (gXb g))]) hx hb dL_law_613 hl (by decide) rfl (fun ls hl => ?_)
                have loop615 : ∀ (n615 o : Nat), o ≤ tHn T → tHn T < o + n615 → ∀ (ls : Array Slot) (H : Heap) (locs : List Loc), fw g ad M s H locs → lv_has ls 25 [(22, .int (nI o)), (21, .int (lNear T T2 (tH T k 0) o)), (20, .int (tH T2 k 5)), (19, .int (tH T2 k 3)), (18, .int (nI k)), (17, .int ((lCame T2 k) + (tH T2 k 5))), (16, .int (lFresh T T2 k)), (15, .int ((goT T 1).2)), (10, .ref (ad 3423)), (9, .ref (ad 3422)), (8, .ref (ad 3421)), (6, .int (nI t)), (5, .int (nI (tPn T))), (4, .int (nI (tEn T))), (3, .int (nI (tHn T))), (2, .ref (ad 3000)), (1, .ref (ad 0)), (0, .ref (gXb g))] → W p l e (room_1) s m args below meth c H locs cells slots (Q) (F0 m 615 ls []) := by
                  intro n615
                  induction n615 with
                  | zero => intro o h1 h2; omega
                  | succ n615 ih615 =>
                    intro o hk_o hn_o ls H locs hw hl
                    refine lv_iload hx hb dL_law_615 (lv_at hl 0 rfl) ?_
                    refine lv_iload_n hx hb dL_law_617 rfl (lv_at hl 14 rfl) ?_
                    refine lv_icmp_ge (tgt := 670) hx hb dL_law_618 (by decide) (fun c_19 => ?_) (fun c_19 => ?_)
                    · have c_19 := nI_le' (a := (tHn T)) (b := o) c_19 (by omega) (by omega)
                      have eo : o = tHn T := by omega
                      rw [eo] at hl
                      have j690 : ∀ (ls : Array Slot) (H : Heap) (locs : List Loc), fw g ad M s H locs → lv_has ls 25 [(22, .int (nI (tHn T))), (21, .int (lNear T T2 (tH T k 0) (tHn T))), (20, .int (tH T2 k 5)), (19, .int (tH T2 k 3)), (18, .int (nI k)), (17, .int ((lCame T2 k) + (tH T2 k 5))), (16, .int (lFresh T T2 k)), (15, .int ((goT T 1).2)), (10, .ref (ad 3423)), (9, .ref (ad 3422)), (8, .ref (ad 3421)), (6, .int (nI t)), (5, .int (nI (tPn T))), (4, .int (nI (tEn T))), (3, .int (nI (tHn T))), (2, .ref (ad 3000)), (1, .ref (ad 0)), (0, .ref (gXb g))] → W p l e (room_1) s m args below meth c H locs cells slots (Q) (F0 m 690 ls []) := by
                        intro ls H locs hw hl
                        refine lv_aload_n hx hb dL_law_690 rfl (lv_at hl 16 rfl) ?_
                        refine lv_iload hx hb dL_law_691 (lv_at hl 4 rfl) ?_
                        refine lv_iconst (v := 2) hx hb dL_law_693 (by decide) ?_
                        refine fk_di (fcV X hw (c_X5_house l g ad M hC (show k < tHn T2 by omega) (what := 2) (by decide)) hF rfl wq108 kVX5_house ⟨(Nat.le_of_ble_eq_true rfl), (Nat.le_of_ble_eq_true rfl)⟩ rfl hl.1 rfl (Nat.le_of_ble_eq_true rfl) dL_law_694 ⟨(by first | (show _ ≤ 792864; omega) | (show _ ≤ 6723031; omega)), (by first | (show _ ≤ 792864; omega) | (show _ ≤ 6723031; omega))⟩) hw (fun H locs hw => ?_)
                        refine f_top (y := tH T2 k 2) hT_2 ?_
                        refine lv_aload hx hb dL_law_697 (lv_at hl 10 rfl) ?_
                        refine lv_iload hx hb dL_law_699 (lv_at hl 4 rfl) ?_
                        refine f_aaldQ X hw hRo (vp_in_nI (n := k) (by omega) (by omega)) (q := ad (3450 + k)) (by rw [nI_clamp (by omega)]; exact hRf k (by omega)) dL_law_701 ?_
                        refine lv_iconst (v := 2) hx hb dL_law_702 (by decide) ?_
                        refine f_iald X hw (hRr k (by omega)) (by unfold vp_in; decide) dL_law_703 ?_
                        rw [show (2 : Int32).toNatClampNeg = 2 from rfl]
                        refine f_top (y := tH T k 2) ((hRv k (by omega) 2 (by omega)).trans hT_2) ?_
                        refine lv_icmp_ne (tgt := 724) hx hb dL_law_704 (by decide) (fun c_20 => absurd hz.2.1 c_20) (fun c_20 => ?_)
                        have j726 : ∀ (ls : Array Slot) (H : Heap) (locs : List Loc), fw g ad M s H locs → lv_has ls 25 [(22, .int (nI (tHn T))), (21, .int (lNear T T2 (tH T k 0) (tHn T))), (20, .int (tH T2 k 5)), (19, .int (tH T2 k 3)), (18, .int (nI k)), (17, .int ((lCame T2 k) + (tH T2 k 5))), (16, .int (lFresh T T2 k)), (15, .int ((goT T 1).2)), (10, .ref (ad 3423)), (9, .ref (ad 3422)), (8, .ref (ad 3421)), (6, .int (nI t)), (5, .int (nI (tPn T))), (4, .int (nI (tEn T))), (3, .int (nI (tHn T))), (2, .ref (ad 3000)), (1, .ref (ad 0)), (0, .ref (gXb g))] → W p l e (room_1) s m args below meth c H locs cells slots (Q) (F0 m 726 ls []) := by
                          intro ls H locs hw hl
                          refine lv_iload hx hb dL_law_726 (lv_at hl 6 rfl) ?_
                          refine lv_iload hx hb dL_law_728 (lv_at hl 3 rfl) ?_
                          refine lv_iadd hx hb dL_law_730 ?_
                          refine lv_istore (lv' := [(16, .int ((lFresh T T2 k) + (tH T2 k 3))), (22, .int (nI (tHn T))), (21, .int (lNear T T2 (tH T k 0) (tHn T))), (20, .int (tH T2 k 5)), (19, .int (tH T2 k 3)), (18, .int (nI k)), (17, .int ((lCame T2 k) + (tH T2 k 5))), (15, .int ((goT T 1).2)), (10, .ref (ad 3423)), (9, .ref (ad 3422)), (8, .ref (ad 3421)), (6, .int (nI t)), (5, .int (nI (tPn T))), (4, .int (nI (tEn T))), (3, .int (nI (tHn T))), (2, .ref (ad 3000)), (1, .ref (ad 0)), (0, .ref (gXb g))]) hx hb dL_law_731 hl (by decide) rfl (fun ls hl => ?_)
                          exact j733 ls _ _ hw (by rw [show (lFresh T T2 (k + 1)) = ((lFresh T T2 k) + (tH T2 k 3)) from if_pos c_18]; exact lv_sub hl [3, 4, 5, 6, 0, 7, 8, 9, 10, 11, 12, 13, 14, 15, 16, 17] rfl)
                        refine lv_iload hx hb dL_law_707 (lv_at hl 3 rfl) ?_
                        refine lv_iconst (v := 1) hx hb dL_law_709 (by decide) ?_
                        refine lv_icmp_ne (tgt := 726) hx hb dL_law_710 (by decide) (fun c_21 => ?_) (fun c_21 => ?_)
                        · exact j726 ls _ _ hw (lv_sub hl [0, 1, 2, 3, 4, 5, 6, 7, 8, 9, 10, 11, 12, 13, 14, 15, 16, 17] rfl)
                        · refine lv_aload_n hx hb dL_law_713 rfl (lv_at hl 16 rfl) ?_
                          refine lv_iload hx hb dL_law_714 (lv_at hl 4 rfl) ?_
                          refine lv_iconst (v := 4) hx hb dL_law_716 (by decide) ?_
                          refine fk_di (fcV X hw (c_X5_house l g ad M hC (show k < tHn T2 by omega) (what := 4) (by decide)) hF rfl wq108 kVX5_house ⟨(Nat.le_of_ble_eq_true rfl), (Nat.le_of_ble_eq_true rfl)⟩ rfl hl.1 rfl (Nat.le_of_ble_eq_true rfl) dL_law_717 ⟨(by first | (show _ ≤ 792864; omega) | (show _ ≤ 6723031; omega)), (by first | (show _ ≤ 792864; omega) | (show _ ≤ 6723031; omega))⟩) hw (fun H locs hw => ?_)
                          refine f_top (y := tH T2 k 4) hT_4 ?_
                          refine lv_iconst (v := 5) hx hb dL_law_720 (by decide) ?_
                          refine lv_icmp_eq (tgt := 726) hx hb dL_law_721 (by decide) (fun c_22 => ?_) (fun c_22 => absurd (hz.2.2 c_21) c_22)
                          exact j726 ls _ _ hw (lv_sub hl [0, 1, 2, 3, 4, 5, 6, 7, 8, 9, 10, 11, 12, 13, 14, 15, 16, 17] rfl)
                      refine lv_iload hx hb dL_law_670 (lv_at hl 3 rfl) ?_
                      refine lv_iload hx hb dL_law_672 (lv_at hl 1 rfl) ?_
                      refine lv_iload hx hb dL_law_674 (lv_at hl 2 rfl) ?_
                      refine lv_isub hx hb dL_law_676 ?_
                      refine lv_bipush (v := 40) hx hb dL_law_677 (by decide) ?_
                      refine lv_icmp_lt (tgt := 686) hx hb dL_law_679 (by decide) (fun c_23 => ?_) (fun c_23 => ?_)
                      · refine lv_iconst (v := 0) hx hb dL_law_686 (by decide) ?_
                        refine lv_icmp_ne (tgt := 724) hx hb dL_law_687 (by decide) (fun c_24 => absurd (hz.1.trans (if_neg (Int32.not_le.mpr c_23))) c_24) (fun c_24 => ?_)
                        exact j690 ls _ _ hw (lv_sub hl [0, 1, 2, 3, 4, 5, 6, 7, 8, 9, 10, 11, 12, 13, 14, 15, 16, 17] rfl)
                      · refine lv_iconst (v := 1) hx hb dL_law_682 (by decide) ?_
                        refine lv_goto (tgt := 687) hx hb dL_law_683 (by decide) ?_
                        refine lv_icmp_ne (tgt := 724) hx hb dL_law_687 (by decide) (fun c_25 => absurd (hz.1.trans (if_pos (Int32.not_lt.mp c_23))) c_25) (fun c_25 => ?_)
                        exact j690 ls _ _ hw (lv_sub hl [0, 1, 2, 3, 4, 5, 6, 7, 8, 9, 10, 11, 12, 13, 14, 15, 16, 17] rfl)
                    · have c_19 := nI_nle' (a := (tHn T)) (b := o) c_19 (by omega) (by omega)
                      refine lv_aload hx hb dL_law_621 (lv_at hl 10 rfl) ?_
                      refine lv_iload hx hb dL_law_623 (lv_at hl 0 rfl) ?_
                      refine f_aaldQ X hw hRo (vp_in_nI (n := o) (by omega) (by omega)) (q := ad (3450 + o)) (by rw [nI_clamp (by omega)]; exact hRf o (by omega)) dL_law_625 ?_
                      refine lv_iconst (v := 3) hx hb dL_law_626 (by decide) ?_
                      refine f_iald X hw (hRr o (by omega)) (by unfold vp_in; decide) dL_law_627 ?_
                      rw [show (3 : Int32).toNatClampNeg = 3 from rfl]
                      refine f_top (y := tH T o 3) ((hRv o (by omega) 3 (by omega)).trans hT_3) ?_
                      refine lv_iconst (v := 1) hx hb dL_law_628 (by decide) ?_
                      refine lv_icmp_ne (tgt := 664) hx hb dL_law_629 (by decide) (fun c_26 => ?_) (fun c_26 => ?_)
                      · refine lv_iinc (v := nI (o + 1)) (lv' := [(22, .int (nI (o + 1))), (21, .int (lNear T T2 (tH T k 0) o)), (20, .int (tH T2 k 5)), (19, .int (tH T2 k 3)), (18, .int (nI k)), (17, .int ((lCame T2 k) + (tH T2 k 5))), (16, .int (lFresh T T2 k)), (15, .int ((goT T 1).2)), (10, .ref (ad 3423)), (9, .ref (ad 3422)), (8, .ref (ad 3421)), (6, .int (nI t)), (5, .int (nI (tPn T))), (4, .int (nI (tEn T))), (3, .int (nI (tHn T))), (2, .ref (ad 3000)), (1, .ref (ad 0)), (0, .ref (gXb g))]) hx hb dL_law_664 hl (k := 0) rfl (nI_1 o) (by decide) rfl (fun ls hl => ?_)
                        refine lv_goto (tgt := 615) hx hb dL_law_667 (by decide) ?_
                        exact ih615 (o + 1) (by omega) (by omega) ls _ _ hw (by rw [show (lNear T T2 (tH T k 0) (o + 1)) = (lNear T T2 (tH T k 0) o) from if_neg c_26]; exact lv_sub hl [0, 1, 2, 3, 4, 5, 6, 7, 8, 9, 10, 11, 12, 13, 14, 15, 16, 17] rfl)
                      · refine lv_aload hx hb dL_law_632 (lv_at hl 10 rfl) ?_
                        refine lv_iload hx hb dL_law_634 (lv_at hl 0 rfl) ?_
                        refine f_aaldQ X hw hRo (vp_in_nI (n := o) (by omega) (by omega)) (q := ad (3450 + o)) (by rw [nI_clamp (by omega)]; exact hRf o (by omega)) dL_law_636 ?_
                        refine lv_iconst (v := 0) hx hb dL_law_637 (by decide) ?_
                        refine f_iald X hw (hRr o (by omega)) (by unfold vp_in; decide) dL_law_638 ?_
                        rw [show (0 : Int32).toNatClampNeg = 0 from rfl]
                        refine f_top (y := tH T o 0) ((hRv o (by omega) 0 (by omega)).trans hT_0) ?_
                        refine lv_aload hx hb dL_law_639 (lv_at hl 10 rfl) ?_
                        refine lv_iload hx hb dL_law_641 (lv_at hl 4 rfl) ?_
                        refine f_aaldQ X hw hRo (vp_in_nI (n := k) (by omega) (by omega)) (q := ad (3450 + k)) (by rw [nI_clamp (by omega)]; exact hRf k (by omega)) dL_law_643 ?_
                        refine lv_iconst (v := 0) hx hb dL_law_644 (by decide) ?_
                        refine f_iald X hw (hRr k (by omega)) (by unfold vp_in; decide) dL_law_645 ?_
                        rw [show (0 : Int32).toNatClampNeg = 0 from rfl]
                        refine f_top (y := tH T k 0) ((hRv k (by omega) 0 (by omega)).trans hT_0) ?_
                        refine fk_di (fcS X hw (c_s_isNear l g ad M (tH T o 0) (tH T k 0)) wq571 kSX8_isNear ⟨(Nat.le_of_ble_eq_true rfl), (Nat.le_of_ble_eq_true rfl)⟩ rfl hl.1 rfl (Nat.le_of_ble_eq_true rfl) dL_law_646 ⟨(by first | (show _ ≤ 792864; omega) | (show _ ≤ 6723031; omega)), (by first | (show _ ≤ 792864; omega) | (show _ ≤ 6723031; omega))⟩) hw (fun H locs hw => ?_)
                        refine lv_if_eq (tgt := 664) hx hb dL_law_649 (by decide) (fun c_27 => ?_) (fun c_27 => ?_)
                        · have c_27 := bI_f.mp c_27
                          refine lv_iinc (v := nI (o + 1)) (lv' := [(22, .int (nI (o + 1))), (21, .int (lNear T T2 (tH T k 0) o)), (20, .int (tH T2 k 5)), (19, .int (tH T2 k 3)), (18, .int (nI k)), (17, .int ((lCame T2 k) + (tH T2 k 5))), (16, .int (lFresh T T2 k)), (15, .int ((goT T 1).2)), (10, .ref (ad 3423)), (9, .ref (ad 3422)), (8, .ref (ad 3421)), (6, .int (nI t)), (5, .int (nI (tPn T))), (4, .int (nI (tEn T))), (3, .int (nI (tHn T))), (2, .ref (ad 3000)), (1, .ref (ad 0)), (0, .ref (gXb g))]) hx hb dL_law_664 hl (k := 0) rfl (nI_1 o) (by decide) rfl (fun ls hl => ?_)
                          refine lv_goto (tgt := 615) hx hb dL_law_667 (by decide) ?_
                          exact ih615 (o + 1) (by omega) (by omega) ls _ _ hw (by rw [show (lNear T T2 (tH T k 0) (o + 1)) = (lNear T T2 (tH T k 0) o) from (if_pos c_26).trans (if_neg (by rw [c_27]; decide))]; exact lv_sub hl [0, 1, 2, 3, 4, 5, 6, 7, 8, 9, 10, 11, 12, 13, 14, 15, 16, 17] rfl)
                        · have c_27 := bI_nf.mp c_27
                          refine lv_iload hx hb dL_law_652 (lv_at hl 1 rfl) ?_
                          refine lv_aload_n hx hb dL_law_654 rfl (lv_at hl 16 rfl) ?_
                          refine lv_iload hx hb dL_law_655 (lv_at hl 0 rfl) ?_
                          refine lv_iconst (v := 4) hx hb dL_law_657 (by decide) ?_
                          refine fk_di (fcV X hw (c_X5_house l g ad M hC (show o < tHn T2 by omega) (what := 4) (by decide)) hF rfl wq108 kVX5_house ⟨(Nat.le_of_ble_eq_true rfl), (Nat.le_of_ble_eq_true rfl)⟩ rfl hl.1 rfl (Nat.le_of_ble_eq_true rfl) dL_law_658 ⟨(by first | (show _ ≤ 792864; omega) | (show _ ≤ 6723031; omega)), (by first | (show _ ≤ 792864; omega) | (show _ ≤ 6723031; omega))⟩) hw (fun H locs hw => ?_)
                          refine f_top (y := tH T2 o 4) hT_4 ?_
                          refine lv_iadd hx hb dL_law_661 ?_
                          refine lv_istore (lv' := [(21, .int ((lNear T T2 (tH T k 0) o) + (tH T2 o 4))), (22, .int (nI o)), (20, .int (tH T2 k 5)), (19, .int (tH T2 k 3)), (18, .int (nI k)), (17, .int ((lCame T2 k) + (tH T2 k 5))), (16, .int (lFresh T T2 k)), (15, .int ((goT T 1).2)), (10, .ref (ad 3423)), (9, .ref (ad 3422)), (8, .ref (ad 3421)), (6, .int (nI t)), (5, .int (nI (tPn T))), (4, .int (nI (tEn T))), (3, .int (nI (tHn T))), (2, .ref (ad 3000)), (1, .ref (ad 0)), (0, .ref (gXb g))]) hx hb dL_law_662 hl (by decide) rfl (fun ls hl => ?_)
                          refine lv_iinc (v := nI (o + 1)) (lv' := [(22, .int (nI (o + 1))), (21, .int ((lNear T T2 (tH T k 0) o) + (tH T2 o 4))), (20, .int (tH T2 k 5)), (19, .int (tH T2 k 3)), (18, .int (nI k)), (17, .int ((lCame T2 k) + (tH T2 k 5))), (16, .int (lFresh T T2 k)), (15, .int ((goT T 1).2)), (10, .ref (ad 3423)), (9, .ref (ad 3422)), (8, .ref (ad 3421)), (6, .int (nI t)), (5, .int (nI (tPn T))), (4, .int (nI (tEn T))), (3, .int (nI (tHn T))), (2, .ref (ad 3000)), (1, .ref (ad 0)), (0, .ref (gXb g))]) hx hb dL_law_664 hl (k := 1) rfl (nI_1 o) (by decide) rfl (fun ls hl => ?_)
                          refine lv_goto (tgt := 615) hx hb dL_law_667 (by decide) ?_
                          exact ih615 (o + 1) (by omega) (by omega) ls _ _ hw (by rw [show (lNear T T2 (tH T k 0) (o + 1)) = ((lNear T T2 (tH T k 0) o) + (tH T2 o 4)) from (if_pos c_26).trans (if_pos c_27)]; exact lv_sub hl [0, 1, 2, 3, 4, 5, 6, 7, 8, 9, 10, 11, 12, 13, 14, 15, 16, 17] rfl)
                exact loop615 (tHn T + 1) 0 (by omega) (by omega) ls _ _ hw (lv_sub hl [0, 1, 3, 4, 5, 2, 6, 7, 8, 9, 10, 11, 12, 13, 14, 15, 16, 17] rfl)
            refine lv_aload hx hb dL_law_557 (lv_at hl 8 rfl) ?_
            refine lv_iload hx hb dL_law_559 (lv_at hl 3 rfl) ?_
            refine f_aaldQ X hw hRo (vp_in_nI (n := k) (by omega) (by omega)) (q := ad (3450 + k)) (by rw [nI_clamp (by omega)]; exact hRf k (by omega)) dL_law_561 ?_
            refine lv_iconst (v := 3) hx hb dL_law_562 (by decide) ?_
            refine f_iald X hw (hRr k (by omega)) (by unfold vp_in; decide) dL_law_563 ?_
            rw [show (3 : Int32).toNatClampNeg = 3 from rfl]
            refine f_top (y := tH T k 3) ((hRv k (by omega) 3 (by omega)).trans hT_3) ?_
            refine lv_iconst (v := 1) hx hb dL_law_564 (by decide) ?_
            refine lv_icmp_le (tgt := 599) hx hb dL_law_565 (by decide) (fun c_28 => ?_) (fun c_28 => ?_)
            · exact j599 ls _ _ hw (lv_sub hl [0, 1, 2, 3, 4, 5, 6, 7, 8, 9, 10, 11, 12, 13, 14, 15] rfl)
            · refine lv_iload hx hb dL_law_568 (lv_at hl 2 rfl) ?_
              refine lv_aload hx hb dL_law_570 (lv_at hl 8 rfl) ?_
              refine lv_iload hx hb dL_law_572 (lv_at hl 3 rfl) ?_
              refine f_aaldQ X hw hRo (vp_in_nI (n := k) (by omega) (by omega)) (q := ad (3450 + k)) (by rw [nI_clamp (by omega)]; exact hRf k (by omega)) dL_law_574 ?_
              refine lv_iconst (v := 3) hx hb dL_law_575 (by decide) ?_
              refine f_iald X hw (hRr k (by omega)) (by unfold vp_in; decide) dL_law_576 ?_
              rw [show (3 : Int32).toNatClampNeg = 3 from rfl]
              refine f_top (y := tH T k 3) ((hRv k (by omega) 3 (by omega)).trans hT_3) ?_
              refine lv_icmp_ne (tgt := 597) hx hb dL_law_577 (by decide) (fun c_29 => absurd (hd (Int32.not_le.mp c_28)).1 c_29) (fun c_29 => ?_)
              refine lv_aload_n hx hb dL_law_580 rfl (lv_at hl 14 rfl) ?_
              refine lv_iload hx hb dL_law_581 (lv_at hl 3 rfl) ?_
              refine lv_iconst (v := 2) hx hb dL_law_583 (by decide) ?_
              refine fk_di (fcV X hw (c_X5_house l g ad M hC (show k < tHn T2 by omega) (what := 2) (by decide)) hF rfl wq108 kVX5_house ⟨(Nat.le_of_ble_eq_true rfl), (Nat.le_of_ble_eq_true rfl)⟩ rfl hl.1 rfl (Nat.le_of_ble_eq_true rfl) dL_law_584 ⟨(by first | (show _ ≤ 792864; omega) | (show _ ≤ 6723031; omega)), (by first | (show _ ≤ 792864; omega) | (show _ ≤ 6723031; omega))⟩) hw (fun H locs hw => ?_)
              refine f_top (y := tH T2 k 2) hT_2 ?_
              refine lv_aload hx hb dL_law_587 (lv_at hl 8 rfl) ?_
              refine lv_iload hx hb dL_law_589 (lv_at hl 3 rfl) ?_
              refine f_aaldQ X hw hRo (vp_in_nI (n := k) (by omega) (by omega)) (q := ad (3450 + k)) (by rw [nI_clamp (by omega)]; exact hRf k (by omega)) dL_law_591 ?_
              refine lv_iconst (v := 2) hx hb dL_law_592 (by decide) ?_
              refine f_iald X hw (hRr k (by omega)) (by unfold vp_in; decide) dL_law_593 ?_
              rw [show (2 : Int32).toNatClampNeg = 2 from rfl]
              refine f_top (y := tH T k 2) ((hRv k (by omega) 2 (by omega)).trans hT_2) ?_
              refine lv_icmp_eq (tgt := 599) hx hb dL_law_594 (by decide) (fun c_30 => ?_) (fun c_30 => absurd (hd (Int32.not_le.mp c_28)).2 c_30)
              exact j599 ls _ _ hw (lv_sub hl [0, 1, 2, 3, 4, 5, 6, 7, 8, 9, 10, 11, 12, 13, 14, 15] rfl)
          refine lv_iload hx hb dL_law_514 (lv_at hl 2 rfl) ?_
          refine lv_iconst (v := 1) hx hb dL_law_516 (by decide) ?_
          refine lv_icmp_ne (tgt := 524) hx hb dL_law_517 (by decide) (fun c_31 => ?_) (fun c_31 => ?_)
          · refine lv_iconst (v := 0) hx hb dL_law_524 (by decide) ?_
            refine lv_aload_n hx hb dL_law_525 rfl (lv_at hl 14 rfl) ?_
            refine lv_iload hx hb dL_law_526 (lv_at hl 3 rfl) ?_
            refine lv_iconst (v := 4) hx hb dL_law_528 (by decide) ?_
            refine fk_di (fcV X hw (c_X5_house l g ad M hC (show k < tHn T2 by omega) (what := 4) (by decide)) hF rfl wq108 kVX5_house ⟨(Nat.le_of_ble_eq_true rfl), (Nat.le_of_ble_eq_true rfl)⟩ rfl hl.1 rfl (Nat.le_of_ble_eq_true rfl) dL_law_529 ⟨(by first | (show _ ≤ 792864; omega) | (show _ ≤ 6723031; omega)), (by first | (show _ ≤ 792864; omega) | (show _ ≤ 6723031; omega))⟩) hw (fun H locs hw => ?_)
            refine f_top (y := tH T2 k 4) hT_4 ?_
            refine lv_if_le (tgt := 539) hx hb dL_law_532 (by decide) (fun c_32 => ?_) (fun c_32 => ?_)
            · refine lv_iconst (v := 0) hx hb dL_law_539 (by decide) ?_
              refine lv_icmp_ne (tgt := 555) hx hb dL_law_540 (by decide) (fun c_33 => absurd rfl c_33) (fun c_33 => ?_)
              exact j543 ls _ _ hw (lv_sub hl [0, 1, 2, 3, 4, 5, 6, 7, 8, 9, 10, 11, 12, 13, 14, 15] rfl)
            · refine lv_iconst (v := 1) hx hb dL_law_535 (by decide) ?_
              refine lv_goto (tgt := 540) hx hb dL_law_536 (by decide) ?_
              refine lv_icmp_ne (tgt := 555) hx hb dL_law_540 (by decide) (fun c_34 => absurd (b1.mpr (Int32.not_le.mp c_32)) c_31) (fun c_34 => absurd c_34 (by decide))
          · refine lv_iconst (v := 1) hx hb dL_law_520 (by decide) ?_
            refine lv_goto (tgt := 525) hx hb dL_law_521 (by decide) ?_
            refine lv_aload_n hx hb dL_law_525 rfl (lv_at hl 14 rfl) ?_
            refine lv_iload hx hb dL_law_526 (lv_at hl 3 rfl) ?_
            refine lv_iconst (v := 4) hx hb dL_law_528 (by decide) ?_
            refine fk_di (fcV X hw (c_X5_house l g ad M hC (show k < tHn T2 by omega) (what := 4) (by decide)) hF rfl wq108 kVX5_house ⟨(Nat.le_of_ble_eq_true rfl), (Nat.le_of_ble_eq_true rfl)⟩ rfl hl.1 rfl (Nat.le_of_ble_eq_true rfl) dL_law_529 ⟨(by first | (show _ ≤ 792864; omega) | (show _ ≤ 6723031; omega)), (by first | (show _ ≤ 792864; omega) | (show _ ≤ 6723031; omega))⟩) hw (fun H locs hw => ?_)
            refine f_top (y := tH T2 k 4) hT_4 ?_
            refine lv_if_le (tgt := 539) hx hb dL_law_532 (by decide) (fun c_35 => ?_) (fun c_35 => ?_)
            · refine lv_iconst (v := 0) hx hb dL_law_539 (by decide) ?_
              refine lv_icmp_ne (tgt := 555) hx hb dL_law_540 (by decide) (fun c_36 => absurd (b1.mp c_31) (Int32.not_lt.mpr c_35)) (fun c_36 => absurd c_36 (by decide))
            · refine lv_iconst (v := 1) hx hb dL_law_535 (by decide) ?_
              refine lv_goto (tgt := 540) hx hb dL_law_536 (by decide) ?_
              refine lv_icmp_ne (tgt := 555) hx hb dL_law_540 (by decide) (fun c_37 => absurd rfl c_37) (fun c_37 => ?_)
              exact j543 ls _ _ hw (lv_sub hl [0, 1, 2, 3, 4, 5, 6, 7, 8, 9, 10, 11, 12, 13, 14, 15] rfl)
        refine lv_iload hx hb dL_law_485 (lv_at hl 2 rfl) ?_
        refine lv_iconst (v := 3) hx hb dL_law_487 (by decide) ?_
        refine lv_icmp_ne (tgt := 495) hx hb dL_law_488 (by decide) (fun c_38 => ?_) (fun c_38 => ?_)
        · refine lv_iconst (v := 0) hx hb dL_law_495 (by decide) ?_
          refine lv_aload_n hx hb dL_law_496 rfl (lv_at hl 14 rfl) ?_
          refine lv_iload hx hb dL_law_497 (lv_at hl 3 rfl) ?_
          refine lv_iconst (v := 2) hx hb dL_law_499 (by decide) ?_
          refine fk_di (fcV X hw (c_X5_house l g ad M hC (show k < tHn T2 by omega) (what := 2) (by decide)) hF rfl wq108 kVX5_house ⟨(Nat.le_of_ble_eq_true rfl), (Nat.le_of_ble_eq_true rfl)⟩ rfl hl.1 rfl (Nat.le_of_ble_eq_true rfl) dL_law_500 ⟨(by first | (show _ ≤ 792864; omega) | (show _ ≤ 6723031; omega)), (by first | (show _ ≤ 792864; omega) | (show _ ≤ 6723031; omega))⟩) hw (fun H locs hw => ?_)
          refine f_top (y := tH T2 k 2) hT_2 ?_
          refine lv_if_ne (tgt := 510) hx hb dL_law_503 (by decide) (fun c_39 => ?_) (fun c_39 => ?_)
          · refine lv_iconst (v := 0) hx hb dL_law_510 (by decide) ?_
            refine lv_icmp_ne (tgt := 555) hx hb dL_law_511 (by decide) (fun c_40 => absurd rfl c_40) (fun c_40 => ?_)
            exact j514 ls _ _ hw (lv_sub hl [0, 1, 2, 3, 4, 5, 6, 7, 8, 9, 10, 11, 12, 13, 14, 15] rfl)
          · refine lv_iconst (v := 1) hx hb dL_law_506 (by decide) ?_
            refine lv_goto (tgt := 511) hx hb dL_law_507 (by decide) ?_
            refine lv_icmp_ne (tgt := 555) hx hb dL_law_511 (by decide) (fun c_41 => absurd (b3.mpr c_39) c_38) (fun c_41 => absurd c_41 (by decide))
        · refine lv_iconst (v := 1) hx hb dL_law_491 (by decide) ?_
          refine lv_goto (tgt := 496) hx hb dL_law_492 (by decide) ?_
          refine lv_aload_n hx hb dL_law_496 rfl (lv_at hl 14 rfl) ?_
          refine lv_iload hx hb dL_law_497 (lv_at hl 3 rfl) ?_
          refine lv_iconst (v := 2) hx hb dL_law_499 (by decide) ?_
          refine fk_di (fcV X hw (c_X5_house l g ad M hC (show k < tHn T2 by omega) (what := 2) (by decide)) hF rfl wq108 kVX5_house ⟨(Nat.le_of_ble_eq_true rfl), (Nat.le_of_ble_eq_true rfl)⟩ rfl hl.1 rfl (Nat.le_of_ble_eq_true rfl) dL_law_500 ⟨(by first | (show _ ≤ 792864; omega) | (show _ ≤ 6723031; omega)), (by first | (show _ ≤ 792864; omega) | (show _ ≤ 6723031; omega))⟩) hw (fun H locs hw => ?_)
          refine f_top (y := tH T2 k 2) hT_2 ?_
          refine lv_if_ne (tgt := 510) hx hb dL_law_503 (by decide) (fun c_42 => ?_) (fun c_42 => ?_)
          · refine lv_iconst (v := 0) hx hb dL_law_510 (by decide) ?_
            refine lv_icmp_ne (tgt := 555) hx hb dL_law_511 (by decide) (fun c_43 => absurd (b3.mp c_38) c_42) (fun c_43 => absurd c_43 (by decide))
          · refine lv_iconst (v := 1) hx hb dL_law_506 (by decide) ?_
            refine lv_goto (tgt := 511) hx hb dL_law_507 (by decide) ?_
            refine lv_icmp_ne (tgt := 555) hx hb dL_law_511 (by decide) (fun c_44 => absurd rfl c_44) (fun c_44 => ?_)
            exact j514 ls _ _ hw (lv_sub hl [0, 1, 2, 3, 4, 5, 6, 7, 8, 9, 10, 11, 12, 13, 14, 15] rfl)
  exact loop391 (tHn T + 1) 0 (by omega) (by omega) ls _ _ hw (lv_sub hl [0, 1, 2, 3, 4, 5, 6, 7, 8, 9, 10, 11, 12, 13] rfl)
set_option maxHeartbeats 4000000 in
set_option maxRecDepth 100000 in
theorem lw_ponds {p : Program} {l : Launch} {e : Env} {s : State} {m : MethodId} {args : Array Value} {below : List Frame} {meth : Method} {c : Code} {H : Heap} {locs : List Loc} {cells slots : Nat} {Q : State → Prop} {g : fG} {ad : Nat → Nat} {M : fM} {ls : Array Slot} {T : fTn} {t : Nat} (X : fX p s m args meth c code 25 ret RL g) (hw : fw g ad M s H locs) {T2 : fTn} (hl : lv_has ls 25 [(17, .int (lCame T2 (tHn T))), (10, .ref (ad 3423)), (9, .ref (ad 3422)), (8, .ref (ad 3421)), (6, .int (nI t)), (5, .int (nI (tPn T))), (4, .int (nI (tEn T))), (3, .int (nI (tHn T))), (2, .ref (ad 3000)), (1, .ref (ad 0)), (0, .ref (gXb g))]) (hcap : cells + 0 ≤ 792864 ∧ slots + 0 ≤ 6723031) {A : fTn} {kf nf sf : Nat → Int32} (hC : isC g ad M T2 A kf nf sf) (e1 : tPn T2 = tPn T) (hmx : tPn T ≤ 6) (hrec : isRp g M T) (hP : ∀ p, p < tPn T → 0 ≤ tP T2 p 1 ∧ tP T2 p 1 ≤ tP T p 1)
    (K : ∀ (ls1 : Array Slot) (H1 : Heap) (locs1 : List Loc), fw g ad M s H1 locs1 → lv_has ls1 25 [(19, .int (lSuck T T2 (tPn T))), (18, .int 0), (17, .int (lCame T2 (tHn T))), (10, .ref (ad 3423)), (9, .ref (ad 3422)), (8, .ref (ad 3421)), (6, .int (nI t)), (5, .int (nI (tPn T))), (4, .int (nI (tEn T))), (3, .int (nI (tHn T))), (2, .ref (ad 3000)), (1, .ref (ad 0)), (0, .ref (gXb g))] → W p l e room_1 s m args below meth c H1 locs1 cells slots Q (F0 m 945 ls1 [])) : W p l e room_1 s m args below meth c H locs cells slots Q (F0 m 881 ls []) := by
  have hx := X.1
  have hb := X.2.1
  obtain ⟨rp, hRp, hRv⟩ := hrec
  have hF : M 0 = some (.inr (6, [.ref (ad 1), .ref (ad 1000), .ref (ad 2000)])) := hC.1
  refine lv_iconst (v := 0) hx hb dL_law_881 (by decide) ?_
  refine lv_istore (lv' := [(18, .int 0), (17, .int (lCame T2 (tHn T))), (10, .ref (ad 3423)), (9, .ref (ad 3422)), (8, .ref (ad 3421)), (6, .int (nI t)), (5, .int (nI (tPn T))), (4, .int (nI (tEn T))), (3, .int (nI (tHn T))), (2, .ref (ad 3000)), (1, .ref (ad 0)), (0, .ref (gXb g))]) hx hb dL_law_882 hl (by decide) rfl (fun ls hl => ?_)
  refine lv_iconst (v := 0) hx hb dL_law_884 (by decide) ?_
  refine lv_istore (lv' := [(19, .int 0), (18, .int 0), (17, .int (lCame T2 (tHn T))), (10, .ref (ad 3423)), (9, .ref (ad 3422)), (8, .ref (ad 3421)), (6, .int (nI t)), (5, .int (nI (tPn T))), (4, .int (nI (tEn T))), (3, .int (nI (tHn T))), (2, .ref (ad 3000)), (1, .ref (ad 0)), (0, .ref (gXb g))]) hx hb dL_law_885 hl (by decide) rfl (fun ls hl => ?_)
  refine lv_iconst (v := 0) hx hb dL_law_887 (by decide) ?_
  refine lv_istore (lv' := [(20, .int 0), (19, .int 0), (18, .int 0), (17, .int (lCame T2 (tHn T))), (10, .ref (ad 3423)), (9, .ref (ad 3422)), (8, .ref (ad 3421)), (6, .int (nI t)), (5, .int (nI (tPn T))), (4, .int (nI (tEn T))), (3, .int (nI (tHn T))), (2, .ref (ad 3000)), (1, .ref (ad 0)), (0, .ref (gXb g))]) hx hb dL_law_888 hl (by decide) rfl (fun ls hl => ?_)
  have loop890 : ∀ (n890 k : Nat), k ≤ tPn T → tPn T < k + n890 → ∀ (ls : Array Slot) (H : Heap) (locs : List Loc), fw g ad M s H locs → lv_has ls 25 [(20, .int (nI k)), (19, .int (lSuck T T2 k)), (18, .int 0), (17, .int (lCame T2 (tHn T))), (10, .ref (ad 3423)), (9, .ref (ad 3422)), (8, .ref (ad 3421)), (6, .int (nI t)), (5, .int (nI (tPn T))), (4, .int (nI (tEn T))), (3, .int (nI (tHn T))), (2, .ref (ad 3000)), (1, .ref (ad 0)), (0, .ref (gXb g))] → W p l e (room_1) s m args below meth c H locs cells slots (Q) (F0 m 890 ls []) := by
    intro n890
    induction n890 with
    | zero => intro k h1 h2; omega
    | succ n890 ih890 =>
      intro k hk_k hn_k ls H locs hw hl
      refine lv_iload hx hb dL_law_890 (lv_at hl 0 rfl) ?_
      refine lv_iload hx hb dL_law_892 (lv_at hl 8 rfl) ?_
      refine lv_icmp_ge (tgt := 945) hx hb dL_law_894 (by decide) (fun c_1 => ?_) (fun c_1 => ?_)
      · have c_1 := nI_le' (a := (tPn T)) (b := k) c_1 (by omega) (by omega)
        have ek : k = tPn T := by omega
        rw [ek] at hl
        exact K ls _ _ hw (lv_sub hl [1, 2, 3, 4, 5, 6, 7, 8, 9, 10, 11, 12, 13] rfl)
      · have c_1 := nI_nle' (a := (tPn T)) (b := k) c_1 (by omega) (by omega)
        refine lv_aload_n hx hb dL_law_897 rfl (lv_at hl 12 rfl) ?_
        refine lv_iload hx hb dL_law_898 (lv_at hl 0 rfl) ?_
        refine fk_di (fcV X hw (c_X5_pond l g ad M hC (show k < tPn T2 by omega)) hF rfl wq244 kVX5_pond ⟨(Nat.le_of_ble_eq_true rfl), (Nat.le_of_ble_eq_true rfl)⟩ rfl hl.1 rfl (Nat.le_of_ble_eq_true rfl) dL_law_900 ⟨(by first | (show _ ≤ 792864; omega) | (show _ ≤ 6723031; omega)), (by first | (show _ ≤ 792864; omega) | (show _ ≤ 6723031; omega))⟩) hw (fun H locs hw => ?_)
        refine lv_if_lt (tgt := 920) hx hb dL_law_903 (by decide) (fun c_2 => absurd c_2 (Int32.not_lt.mpr (hP k (by omega)).1)) (fun c_2 => ?_)
        refine lv_aload_n hx hb dL_law_906 rfl (lv_at hl 12 rfl) ?_
        refine lv_iload hx hb dL_law_907 (lv_at hl 0 rfl) ?_
        refine fk_di (fcV X hw (c_X5_pond l g ad M hC (show k < tPn T2 by omega)) hF rfl wq244 kVX5_pond ⟨(Nat.le_of_ble_eq_true rfl), (Nat.le_of_ble_eq_true rfl)⟩ rfl hl.1 rfl (Nat.le_of_ble_eq_true rfl) dL_law_909 ⟨(by first | (show _ ≤ 792864; omega) | (show _ ≤ 6723031; omega)), (by first | (show _ ≤ 792864; omega) | (show _ ≤ 6723031; omega))⟩) hw (fun H locs hw => ?_)
        refine lv_aload hx hb dL_law_912 (lv_at hl 4 rfl) ?_
        refine lv_iload hx hb dL_law_914 (lv_at hl 0 rfl) ?_
        refine f_iald X hw hRp (vp_in_nI (n := k) (by omega) (by omega)) dL_law_916 ?_
        rw [nI_clamp (n := k) (by omega)]
        refine f_top (y := tP T k 1) (hRv k (by omega)) ?_
        refine lv_icmp_le (tgt := 922) hx hb dL_law_917 (by decide) (fun c_3 => ?_) (fun c_3 => absurd (hP k (by omega)).2 c_3)
        refine lv_iload hx hb dL_law_922 (lv_at hl 1 rfl) ?_
        refine lv_aload hx hb dL_law_924 (lv_at hl 4 rfl) ?_
        refine lv_iload hx hb dL_law_926 (lv_at hl 0 rfl) ?_
        refine f_iald X hw hRp (vp_in_nI (n := k) (by omega) (by omega)) dL_law_928 ?_
        rw [nI_clamp (n := k) (by omega)]
        refine f_top (y := tP T k 1) (hRv k (by omega)) ?_
        refine lv_aload_n hx hb dL_law_929 rfl (lv_at hl 12 rfl) ?_
        refine lv_iload hx hb dL_law_930 (lv_at hl 0 rfl) ?_
        refine fk_di (fcV X hw (c_X5_pond l g ad M hC (show k < tPn T2 by omega)) hF rfl wq244 kVX5_pond ⟨(Nat.le_of_ble_eq_true rfl), (Nat.le_of_ble_eq_true rfl)⟩ rfl hl.1 rfl (Nat.le_of_ble_eq_true rfl) dL_law_932 ⟨(by first | (show _ ≤ 792864; omega) | (show _ ≤ 6723031; omega)), (by first | (show _ ≤ 792864; omega) | (show _ ≤ 6723031; omega))⟩) hw (fun H locs hw => ?_)
        refine lv_isub hx hb dL_law_935 ?_
        refine lv_iadd hx hb dL_law_936 ?_
        refine lv_istore (lv' := [(19, .int ((lSuck T T2 k) + ((tP T k 1) - (tP T2 k 1)))), (20, .int (nI k)), (18, .int 0), (17, .int (lCame T2 (tHn T))), (10, .ref (ad 3423)), (9, .ref (ad 3422)), (8, .ref (ad 3421)), (6, .int (nI t)), (5, .int (nI (tPn T))), (4, .int (nI (tEn T))), (3, .int (nI (tHn T))), (2, .ref (ad 3000)), (1, .ref (ad 0)), (0, .ref (gXb g))]) hx hb dL_law_937 hl (by decide) rfl (fun ls hl => ?_)
        refine lv_iinc (v := nI (k + 1)) (lv' := [(20, .int (nI (k + 1))), (19, .int ((lSuck T T2 k) + ((tP T k 1) - (tP T2 k 1)))), (18, .int 0), (17, .int (lCame T2 (tHn T))), (10, .ref (ad 3423)), (9, .ref (ad 3422)), (8, .ref (ad 3421)), (6, .int (nI t)), (5, .int (nI (tPn T))), (4, .int (nI (tEn T))), (3, .int (nI (tHn T))), (2, .ref (ad 3000)), (1, .ref (ad 0)), (0, .ref (gXb g))]) hx hb dL_law_939 hl (k := 1) rfl (nI_1 k) (by decide) rfl (fun ls hl => ?_)
        refine lv_goto (tgt := 890) hx hb dL_law_942 (by decide) ?_
        exact ih890 (k + 1) (by omega) (by omega) ls _ _ hw (lv_sub hl [0, 1, 2, 3, 4, 5, 6, 7, 8, 9, 10, 11, 12, 13] rfl)
  exact loop890 (tPn T + 1) 0 (by omega) (by omega) ls _ _ hw (lv_sub hl [0, 1, 2, 3, 4, 5, 6, 7, 8, 9, 10, 11, 12, 13] rfl)
set_option maxHeartbeats 4000000 in
set_option maxRecDepth 100000 in
theorem lw_engines {p : Program} {l : Launch} {e : Env} {s : State} {m : MethodId} {args : Array Value} {below : List Frame} {meth : Method} {c : Code} {H : Heap} {locs : List Loc} {cells slots : Nat} {Q : State → Prop} {g : fG} {ad : Nat → Nat} {M : fM} {ls : Array Slot} {T : fTn} {t : Nat} (X : fX p s m args meth c code 25 ret RL g) (hw : fw g ad M s H locs) {T2 : fTn} (hl : lv_has ls 25 [(19, .int (lSuck T T2 (tPn T))), (18, .int 0), (17, .int (lCame T2 (tHn T))), (10, .ref (ad 3423)), (9, .ref (ad 3422)), (8, .ref (ad 3421)), (6, .int (nI t)), (5, .int (nI (tPn T))), (4, .int (nI (tEn T))), (3, .int (nI (tHn T))), (2, .ref (ad 3000)), (1, .ref (ad 0)), (0, .ref (gXb g))]) (hcap : cells + 0 ≤ 792864 ∧ slots + 0 ≤ 6723031) {A : fTn} {kf nf sf : Nat → Int32} (hC : isC g ad M T2 A kf nf sf) (en : tEn T2 = tEn T) (hmx : tEn T ≤ 6) (ht : t < 40) (hrec : isRe g ad M T) (hE : ∀ e, e < tEn T → lawE (tE T e) (tE T2 e)) (s3 : ¬ lGiven T T2 (tEn T) < lCame T2 (tHn T)) (s4 : ¬ lSuck T T2 (tPn T) < lCame T2 (tHn T)) (s5 : ¬ (0 < lGiven T T2 (tEn T) ∧ lCame T2 (tHn T) = 0))
    (K : ∀ (ls1 : Array Slot) (H1 : Heap) (locs1 : List Loc), fw g ad M s H1 locs1 → lv_has ls1 25 [(6, .int (nI (t + 1))), (5, .int (nI (tPn T))), (4, .int (nI (tEn T))), (3, .int (nI (tHn T))), (2, .ref (ad 3000)), (1, .ref (ad 0)), (0, .ref (gXb g))] → W p l e room_1 s m args below meth c H1 locs1 cells slots Q (F0 m 43 ls1 [])) : W p l e room_1 s m args below meth c H locs cells slots Q (F0 m 945 ls []) := by
  have hx := X.1
  have hb := X.2.1
  obtain ⟨fe, re, hEo, hEf, hEr, hEv⟩ := hrec
  have hF : M 0 = some (.inr (6, [.ref (ad 1), .ref (ad 1000), .ref (ad 2000)])) := hC.1
  refine lv_iconst (v := 0) hx hb dL_law_945 (by decide) ?_
  refine lv_istore (lv' := [(20, .int 0), (19, .int (lSuck T T2 (tPn T))), (18, .int 0), (17, .int (lCame T2 (tHn T))), (10, .ref (ad 3423)), (9, .ref (ad 3422)), (8, .ref (ad 3421)), (6, .int (nI t)), (5, .int (nI (tPn T))), (4, .int (nI (tEn T))), (3, .int (nI (tHn T))), (2, .ref (ad 3000)), (1, .ref (ad 0)), (0, .ref (gXb g))]) hx hb dL_law_946 hl (by decide) rfl (fun ls hl => ?_)
  have loop948 : ∀ (n948 k : Nat), k ≤ tEn T → tEn T < k + n948 → ∀ (ls : Array Slot) (H : Heap) (locs : List Loc), fw g ad M s H locs → lv_has ls 25 [(20, .int (nI k)), (18, .int (lGiven T T2 k)), (19, .int (lSuck T T2 (tPn T))), (17, .int (lCame T2 (tHn T))), (10, .ref (ad 3423)), (9, .ref (ad 3422)), (8, .ref (ad 3421)), (6, .int (nI t)), (5, .int (nI (tPn T))), (4, .int (nI (tEn T))), (3, .int (nI (tHn T))), (2, .ref (ad 3000)), (1, .ref (ad 0)), (0, .ref (gXb g))] → W p l e (room_1) s m args below meth c H locs cells slots (Q) (F0 m 948 ls []) := by
    intro n948
    induction n948 with
    | zero => intro k h1 h2; omega
    | succ n948 ih948 =>
      intro k hk_k hn_k ls H locs hw hl
      refine lv_iload hx hb dL_law_948 (lv_at hl 0 rfl) ?_
      refine lv_iload hx hb dL_law_950 (lv_at hl 9 rfl) ?_
      refine lv_icmp_ge (tgt := 1254) hx hb dL_law_952 (by decide) (fun c_1 => ?_) (fun c_1 => ?_)
      · have c_1 := nI_le' (a := (tEn T)) (b := k) c_1 (by omega) (by omega)
        have ek : k = tEn T := by omega
        rw [ek] at hl
        refine lv_iload hx hb dL_law_1254 (lv_at hl 3 rfl) ?_
        refine lv_iload hx hb dL_law_1256 (lv_at hl 1 rfl) ?_
        refine lv_icmp_gt (tgt := 1278) hx hb dL_law_1258 (by decide) (fun c_2 => absurd c_2 s3) (fun c_2 => ?_)
        refine lv_iload hx hb dL_law_1261 (lv_at hl 3 rfl) ?_
        refine lv_iload hx hb dL_law_1263 (lv_at hl 2 rfl) ?_
        refine lv_icmp_gt (tgt := 1278) hx hb dL_law_1265 (by decide) (fun c_3 => absurd c_3 s4) (fun c_3 => ?_)
        refine lv_iload hx hb dL_law_1268 (lv_at hl 1 rfl) ?_
        refine lv_if_le (tgt := 1280) hx hb dL_law_1270 (by decide) (fun c_4 => ?_) (fun c_4 => ?_)
        · refine lv_iinc (v := nI (t + 1)) (lv' := [(6, .int (nI (t + 1))), (20, .int (nI (tEn T))), (18, .int (lGiven T T2 (tEn T))), (19, .int (lSuck T T2 (tPn T))), (17, .int (lCame T2 (tHn T))), (10, .ref (ad 3423)), (9, .ref (ad 3422)), (8, .ref (ad 3421)), (5, .int (nI (tPn T))), (4, .int (nI (tEn T))), (3, .int (nI (tHn T))), (2, .ref (ad 3000)), (1, .ref (ad 0)), (0, .ref (gXb g))]) hx hb dL_law_1280 hl (k := 7) rfl (nI_1 t) (by decide) rfl (fun ls hl => ?_)
          refine lv_goto (tgt := 43) hx hb dL_law_1283 (by decide) ?_
          exact K ls _ _ hw (lv_sub hl [0, 8, 9, 10, 11, 12, 13] rfl)
        · refine lv_iload hx hb dL_law_1273 (lv_at hl 3 rfl) ?_
          refine lv_if_ne (tgt := 1280) hx hb dL_law_1275 (by decide) (fun c_5 => ?_) (fun c_5 => absurd ⟨Int32.not_le.mp c_4, c_5⟩ s5)
          refine lv_iinc (v := nI (t + 1)) (lv' := [(6, .int (nI (t + 1))), (20, .int (nI (tEn T))), (18, .int (lGiven T T2 (tEn T))), (19, .int (lSuck T T2 (tPn T))), (17, .int (lCame T2 (tHn T))), (10, .ref (ad 3423)), (9, .ref (ad 3422)), (8, .ref (ad 3421)), (5, .int (nI (tPn T))), (4, .int (nI (tEn T))), (3, .int (nI (tHn T))), (2, .ref (ad 3000)), (1, .ref (ad 0)), (0, .ref (gXb g))]) hx hb dL_law_1280 hl (k := 7) rfl (nI_1 t) (by decide) rfl (fun ls hl => ?_)
          refine lv_goto (tgt := 43) hx hb dL_law_1283 (by decide) ?_
          exact K ls _ _ hw (lv_sub hl [0, 8, 9, 10, 11, 12, 13] rfl)
      · have c_1 := nI_nle' (a := (tEn T)) (b := k) c_1 (by omega) (by omega)
        obtain ⟨e3, e4, e5, e9, e9b, e7, e7n, e0, e1, e2⟩ := hE k (by omega)
        refine lv_aload_n hx hb dL_law_955 rfl (lv_at hl 12 rfl) ?_
        refine lv_iload hx hb dL_law_956 (lv_at hl 0 rfl) ?_
        refine lv_bipush (v := 8) hx hb dL_law_958 (by decide) ?_
        refine fk_di (fcV X hw (c_X5_engine l g ad M hC (show k < tEn T2 by omega) (what := 8) (by decide)) hF rfl wq211 kVX5_engine ⟨(Nat.le_of_ble_eq_true rfl), (Nat.le_of_ble_eq_true rfl)⟩ rfl hl.1 rfl (Nat.le_of_ble_eq_true rfl) dL_law_960 ⟨(by first | (show _ ≤ 792864; omega) | (show _ ≤ 6723031; omega)), (by first | (show _ ≤ 792864; omega) | (show _ ≤ 6723031; omega))⟩) hw (fun H locs hw => ?_)
        refine f_top (y := tE T2 k 9) eT_8 ?_
        refine lv_istore (lv' := [(21, .int (tE T2 k 9)), (20, .int (nI k)), (18, .int (lGiven T T2 k)), (19, .int (lSuck T T2 (tPn T))), (17, .int (lCame T2 (tHn T))), (10, .ref (ad 3423)), (9, .ref (ad 3422)), (8, .ref (ad 3421)), (6, .int (nI t)), (5, .int (nI (tPn T))), (4, .int (nI (tEn T))), (3, .int (nI (tHn T))), (2, .ref (ad 3000)), (1, .ref (ad 0)), (0, .ref (gXb g))]) hx hb dL_law_963 hl (by decide) rfl (fun ls hl => ?_)
        have j1005 : ∀ (ls : Array Slot) (H : Heap) (locs : List Loc), fw g ad M s H locs → lv_has ls 25 [(21, .int (tE T2 k 9)), (20, .int (nI k)), (18, .int (lGiven T T2 k)), (19, .int (lSuck T T2 (tPn T))), (17, .int (lCame T2 (tHn T))), (10, .ref (ad 3423)), (9, .ref (ad 3422)), (8, .ref (ad 3421)), (6, .int (nI t)), (5, .int (nI (tPn T))), (4, .int (nI (tEn T))), (3, .int (nI (tHn T))), (2, .ref (ad 3000)), (1, .ref (ad 0)), (0, .ref (gXb g))] → W p l e (room_1) s m args below meth c H locs cells slots (Q) (F0 m 1005 ls [.int (lSt (tE T k))]) := by
          intro ls H locs hw hl
          refine lv_istore (lv' := [(22, .int (lSt (tE T k))), (21, .int (tE T2 k 9)), (20, .int (nI k)), (18, .int (lGiven T T2 k)), (19, .int (lSuck T T2 (tPn T))), (17, .int (lCame T2 (tHn T))), (10, .ref (ad 3423)), (9, .ref (ad 3422)), (8, .ref (ad 3421)), (6, .int (nI t)), (5, .int (nI (tPn T))), (4, .int (nI (tEn T))), (3, .int (nI (tHn T))), (2, .ref (ad 3000)), (1, .ref (ad 0)), (0, .ref (gXb g))]) hx hb dL_law_1005 hl (by decide) rfl (fun ls hl => ?_)
          refine lv_iconst (v := 0) hx hb dL_law_1007 (by decide) ?_
          refine lv_aload hx hb dL_law_1008 (lv_at hl 7 rfl) ?_
          refine lv_iload hx hb dL_law_1010 (lv_at hl 2 rfl) ?_
          refine f_aaldQ X hw hEo (vp_in_nI (n := k) (by omega) (by omega)) (q := ad (3500 + k)) (by rw [nI_clamp (by omega)]; exact hEf k (by omega)) dL_law_1012 ?_
          refine lv_iconst (v := 5) hx hb dL_law_1013 (by decide) ?_
          refine f_iald X hw (hEr k (by omega)) (by unfold vp_in; decide) dL_law_1014 ?_
          rw [show (5 : Int32).toNatClampNeg = 5 from rfl]
          refine f_top (y := tE T k 5) ((hEv k (by omega) 5 (by omega)).trans eT_5) ?_
          refine lv_iconst (v := 1) hx hb dL_law_1015 (by decide) ?_
          refine lv_isub hx hb dL_law_1016 ?_
          refine va_mmax hx hb (X.2.2.1.trans hl.1.symm) X.2.2.2.1 (X.2.2.2.2.1 _ wq885) (X.2.2.2.2.1 _ wq290) (X.2.2.2.2.1 _ wq18) (X.2.2.2.2.1 _ wq291) (Nat.le_of_ble_eq_true rfl) (Nat.le_of_ble_eq_true rfl) (by first | (show _ ≤ 792864; omega) | (show _ ≤ 6723031; omega)) (by first | (show _ ≤ 792864; omega) | (show _ ≤ 6723031; omega)) dL_law_1017 ?_
          refine f_top (y := iMax 0 (tE T k 5 - 1)) rfl ?_
          refine lv_istore (lv' := [(23, .int (iMax 0 (tE T k 5 - 1))), (22, .int (lSt (tE T k))), (21, .int (tE T2 k 9)), (20, .int (nI k)), (18, .int (lGiven T T2 k)), (19, .int (lSuck T T2 (tPn T))), (17, .int (lCame T2 (tHn T))), (10, .ref (ad 3423)), (9, .ref (ad 3422)), (8, .ref (ad 3421)), (6, .int (nI t)), (5, .int (nI (tPn T))), (4, .int (nI (tEn T))), (3, .int (nI (tHn T))), (2, .ref (ad 3000)), (1, .ref (ad 0)), (0, .ref (gXb g))]) hx hb dL_law_1020 hl (by decide) rfl (fun ls hl => ?_)
          have j1051 : ∀ (ls : Array Slot) (H : Heap) (locs : List Loc), fw g ad M s H locs → lv_has ls 25 [(23, .int (iMax 0 (tE T k 5 - 1))), (22, .int (lSt (tE T k))), (21, .int (tE T2 k 9)), (20, .int (nI k)), (18, .int (lGiven T T2 k)), (19, .int (lSuck T T2 (tPn T))), (17, .int (lCame T2 (tHn T))), (10, .ref (ad 3423)), (9, .ref (ad 3422)), (8, .ref (ad 3421)), (6, .int (nI t)), (5, .int (nI (tPn T))), (4, .int (nI (tEn T))), (3, .int (nI (tHn T))), (2, .ref (ad 3000)), (1, .ref (ad 0)), (0, .ref (gXb g))] → W p l e (room_1) s m args below meth c H locs cells slots (Q) (F0 m 1051 ls [.int (lMost (tE T k))]) := by
            intro ls H locs hw hl
            refine lv_istore (lv' := [(24, .int (lMost (tE T k))), (23, .int (iMax 0 (tE T k 5 - 1))), (22, .int (lSt (tE T k))), (21, .int (tE T2 k 9)), (20, .int (nI k)), (18, .int (lGiven T T2 k)), (19, .int (lSuck T T2 (tPn T))), (17, .int (lCame T2 (tHn T))), (10, .ref (ad 3423)), (9, .ref (ad 3422)), (8, .ref (ad 3421)), (6, .int (nI t)), (5, .int (nI (tPn T))), (4, .int (nI (tEn T))), (3, .int (nI (tHn T))), (2, .ref (ad 3000)), (1, .ref (ad 0)), (0, .ref (gXb g))]) hx hb dL_law_1051 hl (by decide) rfl (fun ls hl => ?_)
            refine lv_aload_n hx hb dL_law_1053 rfl (lv_at hl 16 rfl) ?_
            refine lv_iload hx hb dL_law_1054 (lv_at hl 4 rfl) ?_
            refine lv_iconst (v := 3) hx hb dL_law_1056 (by decide) ?_
            refine fk_di (fcV X hw (c_X5_engine l g ad M hC (show k < tEn T2 by omega) (what := 3) (by decide)) hF rfl wq211 kVX5_engine ⟨(Nat.le_of_ble_eq_true rfl), (Nat.le_of_ble_eq_true rfl)⟩ rfl hl.1 rfl (Nat.le_of_ble_eq_true rfl) dL_law_1057 ⟨(by first | (show _ ≤ 792864; omega) | (show _ ≤ 6723031; omega)), (by first | (show _ ≤ 792864; omega) | (show _ ≤ 6723031; omega))⟩) hw (fun H locs hw => ?_)
            refine f_top (y := tE T2 k 3) eT_3 ?_
            refine lv_iconst (v := 0) hx hb dL_law_1060 (by decide) ?_
            refine lv_aload hx hb dL_law_1061 (lv_at hl 9 rfl) ?_
            refine lv_iload hx hb dL_law_1063 (lv_at hl 4 rfl) ?_
            refine f_aaldQ X hw hEo (vp_in_nI (n := k) (by omega) (by omega)) (q := ad (3500 + k)) (by rw [nI_clamp (by omega)]; exact hEf k (by omega)) dL_law_1065 ?_
            refine lv_iconst (v := 3) hx hb dL_law_1066 (by decide) ?_
            refine f_iald X hw (hEr k (by omega)) (by unfold vp_in; decide) dL_law_1067 ?_
            rw [show (3 : Int32).toNatClampNeg = 3 from rfl]
            refine f_top (y := tE T k 3) ((hEv k (by omega) 3 (by omega)).trans eT_3) ?_
            refine lv_iconst (v := 1) hx hb dL_law_1068 (by decide) ?_
            refine lv_isub hx hb dL_law_1069 ?_
            refine va_mmax hx hb (X.2.2.1.trans hl.1.symm) X.2.2.2.1 (X.2.2.2.2.1 _ wq885) (X.2.2.2.2.1 _ wq290) (X.2.2.2.2.1 _ wq18) (X.2.2.2.2.1 _ wq291) (Nat.le_of_ble_eq_true rfl) (Nat.le_of_ble_eq_true rfl) (by first | (show _ ≤ 792864; omega) | (show _ ≤ 6723031; omega)) (by first | (show _ ≤ 792864; omega) | (show _ ≤ 6723031; omega)) dL_law_1070 ?_
            refine lv_icmp_ne (tgt := 1162) hx hb dL_law_1073 (by decide) (fun c_6 => absurd e3 c_6) (fun c_6 => ?_)
            have j1103 : ∀ (ls : Array Slot) (H : Heap) (locs : List Loc), fw g ad M s H locs → lv_has ls 25 [(24, .int (lMost (tE T k))), (23, .int (iMax 0 (tE T k 5 - 1))), (22, .int (lSt (tE T k))), (21, .int (tE T2 k 9)), (20, .int (nI k)), (18, .int (lGiven T T2 k)), (19, .int (lSuck T T2 (tPn T))), (17, .int (lCame T2 (tHn T))), (10, .ref (ad 3423)), (9, .ref (ad 3422)), (8, .ref (ad 3421)), (6, .int (nI t)), (5, .int (nI (tPn T))), (4, .int (nI (tEn T))), (3, .int (nI (tHn T))), (2, .ref (ad 3000)), (1, .ref (ad 0)), (0, .ref (gXb g))] → W p l e (room_1) s m args below meth c H locs cells slots (Q) (F0 m 1103 ls []) := by
              intro ls H locs hw hl
              refine lv_aload_n hx hb dL_law_1103 rfl (lv_at hl 16 rfl) ?_
              refine lv_iload hx hb dL_law_1104 (lv_at hl 4 rfl) ?_
              refine lv_iconst (v := 5) hx hb dL_law_1106 (by decide) ?_
              refine fk_di (fcV X hw (c_X5_engine l g ad M hC (show k < tEn T2 by omega) (what := 5) (by decide)) hF rfl wq211 kVX5_engine ⟨(Nat.le_of_ble_eq_true rfl), (Nat.le_of_ble_eq_true rfl)⟩ rfl hl.1 rfl (Nat.le_of_ble_eq_true rfl) dL_law_1107 ⟨(by first | (show _ ≤ 792864; omega) | (show _ ≤ 6723031; omega)), (by first | (show _ ≤ 792864; omega) | (show _ ≤ 6723031; omega))⟩) hw (fun H locs hw => ?_)
              refine f_top (y := tE T2 k 5) eT_5 ?_
              refine lv_iload hx hb dL_law_1110 (lv_at hl 1 rfl) ?_
              refine lv_icmp_ne (tgt := 1162) hx hb dL_law_1112 (by decide) (fun c_7 => absurd e5 c_7) (fun c_7 => ?_)
              refine lv_iload hx hb dL_law_1115 (lv_at hl 3 rfl) ?_
              refine lv_if_lt (tgt := 1162) hx hb dL_law_1117 (by decide) (fun c_8 => absurd c_8 (Int32.not_lt.mpr e9)) (fun c_8 => ?_)
              refine lv_iload hx hb dL_law_1120 (lv_at hl 3 rfl) ?_
              refine lv_iload hx hb dL_law_1122 (lv_at hl 0 rfl) ?_
              refine lv_icmp_gt (tgt := 1162) hx hb dL_law_1124 (by decide) (fun c_9 => absurd c_9 (Int32.not_lt.mpr e9b)) (fun c_9 => ?_)
              refine lv_aload_n hx hb dL_law_1127 rfl (lv_at hl 16 rfl) ?_
              refine lv_iload hx hb dL_law_1128 (lv_at hl 4 rfl) ?_
              refine lv_bipush (v := 6) hx hb dL_law_1130 (by decide) ?_
              refine fk_di (fcV X hw (c_X5_engine l g ad M hC (show k < tEn T2 by omega) (what := 6) (by decide)) hF rfl wq211 kVX5_engine ⟨(Nat.le_of_ble_eq_true rfl), (Nat.le_of_ble_eq_true rfl)⟩ rfl hl.1 rfl (Nat.le_of_ble_eq_true rfl) dL_law_1132 ⟨(by first | (show _ ≤ 792864; omega) | (show _ ≤ 6723031; omega)), (by first | (show _ ≤ 792864; omega) | (show _ ≤ 6723031; omega))⟩) hw (fun H locs hw => ?_)
              refine f_top (y := tE T2 k 7) eT_6 ?_
              refine lv_aload hx hb dL_law_1135 (lv_at hl 9 rfl) ?_
              refine lv_iload hx hb dL_law_1137 (lv_at hl 4 rfl) ?_
              refine f_aaldQ X hw hEo (vp_in_nI (n := k) (by omega) (by omega)) (q := ad (3500 + k)) (by rw [nI_clamp (by omega)]; exact hEf k (by omega)) dL_law_1139 ?_
              refine lv_bipush (v := 6) hx hb dL_law_1140 (by decide) ?_
              refine f_iald X hw (hEr k (by omega)) (by unfold vp_in; decide) dL_law_1142 ?_
              rw [show (6 : Int32).toNatClampNeg = 6 from rfl]
              refine f_top (y := tE T k 7) ((hEv k (by omega) 6 (by omega)).trans eT_6) ?_
              refine lv_icmp_ne (tgt := 1162) hx hb dL_law_1143 (by decide) (fun c_10 => absurd e7 c_10) (fun c_10 => ?_)
              have j1164 : ∀ (ls : Array Slot) (H : Heap) (locs : List Loc), fw g ad M s H locs → lv_has ls 25 [(24, .int (lMost (tE T k))), (23, .int (iMax 0 (tE T k 5 - 1))), (22, .int (lSt (tE T k))), (21, .int (tE T2 k 9)), (20, .int (nI k)), (18, .int (lGiven T T2 k)), (19, .int (lSuck T T2 (tPn T))), (17, .int (lCame T2 (tHn T))), (10, .ref (ad 3423)), (9, .ref (ad 3422)), (8, .ref (ad 3421)), (6, .int (nI t)), (5, .int (nI (tPn T))), (4, .int (nI (tEn T))), (3, .int (nI (tHn T))), (2, .ref (ad 3000)), (1, .ref (ad 0)), (0, .ref (gXb g))] → W p l e (room_1) s m args below meth c H locs cells slots (Q) (F0 m 1164 ls []) := by
                intro ls H locs hw hl
                have j1192 : ∀ (ls : Array Slot) (H : Heap) (locs : List Loc), fw g ad M s H locs → lv_has ls 25 [(24, .int (lMost (tE T k))), (23, .int (iMax 0 (tE T k 5 - 1))), (22, .int (lSt (tE T k))), (21, .int (tE T2 k 9)), (20, .int (nI k)), (18, .int (lGiven T T2 k)), (19, .int (lSuck T T2 (tPn T))), (17, .int (lCame T2 (tHn T))), (10, .ref (ad 3423)), (9, .ref (ad 3422)), (8, .ref (ad 3421)), (6, .int (nI t)), (5, .int (nI (tPn T))), (4, .int (nI (tEn T))), (3, .int (nI (tHn T))), (2, .ref (ad 3000)), (1, .ref (ad 0)), (0, .ref (gXb g))] → W p l e (room_1) s m args below meth c H locs cells slots (Q) (F0 m 1192 ls []) := by
                  intro ls H locs hw hl
                  refine lv_aload_n hx hb dL_law_1192 rfl (lv_at hl 16 rfl) ?_
                  refine lv_iload hx hb dL_law_1193 (lv_at hl 4 rfl) ?_
                  refine lv_iconst (v := 1) hx hb dL_law_1195 (by decide) ?_
                  refine fk_di (fcV X hw (c_X5_engine l g ad M hC (show k < tEn T2 by omega) (what := 1) (by decide)) hF rfl wq211 kVX5_engine ⟨(Nat.le_of_ble_eq_true rfl), (Nat.le_of_ble_eq_true rfl)⟩ rfl hl.1 rfl (Nat.le_of_ble_eq_true rfl) dL_law_1196 ⟨(by first | (show _ ≤ 792864; omega) | (show _ ≤ 6723031; omega)), (by first | (show _ ≤ 792864; omega) | (show _ ≤ 6723031; omega))⟩) hw (fun H locs hw => ?_)
                  refine f_top (y := tE T2 k 1) eT_1 ?_
                  refine lv_aload hx hb dL_law_1199 (lv_at hl 9 rfl) ?_
                  refine lv_iload hx hb dL_law_1201 (lv_at hl 4 rfl) ?_
                  refine f_aaldQ X hw hEo (vp_in_nI (n := k) (by omega) (by omega)) (q := ad (3500 + k)) (by rw [nI_clamp (by omega)]; exact hEf k (by omega)) dL_law_1203 ?_
                  refine lv_iconst (v := 1) hx hb dL_law_1204 (by decide) ?_
                  refine f_iald X hw (hEr k (by omega)) (by unfold vp_in; decide) dL_law_1205 ?_
                  rw [show (1 : Int32).toNatClampNeg = 1 from rfl]
                  refine f_top (y := tE T k 1) ((hEv k (by omega) 1 (by omega)).trans eT_1) ?_
                  refine lv_icmp_ne (tgt := 1226) hx hb dL_law_1206 (by decide) (fun c_11 => absurd e1 c_11) (fun c_11 => ?_)
                  refine lv_aload_n hx hb dL_law_1209 rfl (lv_at hl 16 rfl) ?_
                  refine lv_iload hx hb dL_law_1210 (lv_at hl 4 rfl) ?_
                  refine lv_iconst (v := 2) hx hb dL_law_1212 (by decide) ?_
                  refine fk_di (fcV X hw (c_X5_engine l g ad M hC (show k < tEn T2 by omega) (what := 2) (by decide)) hF rfl wq211 kVX5_engine ⟨(Nat.le_of_ble_eq_true rfl), (Nat.le_of_ble_eq_true rfl)⟩ rfl hl.1 rfl (Nat.le_of_ble_eq_true rfl) dL_law_1213 ⟨(by first | (show _ ≤ 792864; omega) | (show _ ≤ 6723031; omega)), (by first | (show _ ≤ 792864; omega) | (show _ ≤ 6723031; omega))⟩) hw (fun H locs hw => ?_)
                  refine f_top (y := tE T2 k 2) eT_2 ?_
                  refine lv_aload hx hb dL_law_1216 (lv_at hl 9 rfl) ?_
                  refine lv_iload hx hb dL_law_1218 (lv_at hl 4 rfl) ?_
                  refine f_aaldQ X hw hEo (vp_in_nI (n := k) (by omega) (by omega)) (q := ad (3500 + k)) (by rw [nI_clamp (by omega)]; exact hEf k (by omega)) dL_law_1220 ?_
                  refine lv_iconst (v := 2) hx hb dL_law_1221 (by decide) ?_
                  refine f_iald X hw (hEr k (by omega)) (by unfold vp_in; decide) dL_law_1222 ?_
                  rw [show (2 : Int32).toNatClampNeg = 2 from rfl]
                  refine f_top (y := tE T k 2) ((hEv k (by omega) 2 (by omega)).trans eT_2) ?_
                  refine lv_icmp_eq (tgt := 1228) hx hb dL_law_1223 (by decide) (fun c_12 => ?_) (fun c_12 => absurd e2 c_12)
                  refine lv_aload hx hb dL_law_1228 (lv_at hl 9 rfl) ?_
                  refine lv_iload hx hb dL_law_1230 (lv_at hl 4 rfl) ?_
                  refine f_aaldQ X hw hEo (vp_in_nI (n := k) (by omega) (by omega)) (q := ad (3500 + k)) (by rw [nI_clamp (by omega)]; exact hEf k (by omega)) dL_law_1232 ?_
                  refine lv_bipush (v := 6) hx hb dL_law_1233 (by decide) ?_
                  refine f_iald X hw (hEr k (by omega)) (by unfold vp_in; decide) dL_law_1235 ?_
                  rw [show (6 : Int32).toNatClampNeg = 6 from rfl]
                  refine f_top (y := tE T k 7) ((hEv k (by omega) 6 (by omega)).trans eT_6) ?_
                  refine lv_bipush (v := 100) hx hb dL_law_1236 (by decide) ?_
                  refine lv_icmp_lt (tgt := 1248) hx hb dL_law_1238 (by decide) (fun c_13 => ?_) (fun c_13 => ?_)
                  · refine lv_iinc (v := nI (k + 1)) (lv' := [(20, .int (nI (k + 1))), (24, .int (lMost (tE T k))), (23, .int (iMax 0 (tE T k 5 - 1))), (22, .int (lSt (tE T k))), (21, .int (tE T2 k 9)), (18, .int (lGiven T T2 k)), (19, .int (lSuck T T2 (tPn T))), (17, .int (lCame T2 (tHn T))), (10, .ref (ad 3423)), (9, .ref (ad 3422)), (8, .ref (ad 3421)), (6, .int (nI t)), (5, .int (nI (tPn T))), (4, .int (nI (tEn T))), (3, .int (nI (tHn T))), (2, .ref (ad 3000)), (1, .ref (ad 0)), (0, .ref (gXb g))]) hx hb dL_law_1248 hl (k := 4) rfl (nI_1 k) (by decide) rfl (fun ls hl => ?_)
                    refine lv_goto (tgt := 948) hx hb dL_law_1251 (by decide) ?_
                    exact ih948 (k + 1) (by omega) (by omega) ls _ _ hw (by rw [show (lGiven T T2 (k + 1)) = (lGiven T T2 k) from if_neg (Int32.not_le.mpr c_13)]; exact lv_sub hl [0, 5, 6, 7, 8, 9, 10, 11, 12, 13, 14, 15, 16, 17] rfl)
                  · refine lv_iload hx hb dL_law_1241 (lv_at hl 5 rfl) ?_
                    refine lv_iload hx hb dL_law_1243 (lv_at hl 3 rfl) ?_
                    refine lv_iadd hx hb dL_law_1245 ?_
                    refine lv_istore (lv' := [(18, .int ((lGiven T T2 k) + (tE T2 k 9))), (24, .int (lMost (tE T k))), (23, .int (iMax 0 (tE T k 5 - 1))), (22, .int (lSt (tE T k))), (21, .int (tE T2 k 9)), (20, .int (nI k)), (19, .int (lSuck T T2 (tPn T))), (17, .int (lCame T2 (tHn T))), (10, .ref (ad 3423)), (9, .ref (ad 3422)), (8, .ref (ad 3421)), (6, .int (nI t)), (5, .int (nI (tPn T))), (4, .int (nI (tEn T))), (3, .int (nI (tHn T))), (2, .ref (ad 3000)), (1, .ref (ad 0)), (0, .ref (gXb g))]) hx hb dL_law_1246 hl (by decide) rfl (fun ls hl => ?_)
                    refine lv_iinc (v := nI (k + 1)) (lv' := [(20, .int (nI (k + 1))), (18, .int ((lGiven T T2 k) + (tE T2 k 9))), (24, .int (lMost (tE T k))), (23, .int (iMax 0 (tE T k 5 - 1))), (22, .int (lSt (tE T k))), (21, .int (tE T2 k 9)), (19, .int (lSuck T T2 (tPn T))), (17, .int (lCame T2 (tHn T))), (10, .ref (ad 3423)), (9, .ref (ad 3422)), (8, .ref (ad 3421)), (6, .int (nI t)), (5, .int (nI (tPn T))), (4, .int (nI (tEn T))), (3, .int (nI (tHn T))), (2, .ref (ad 3000)), (1, .ref (ad 0)), (0, .ref (gXb g))]) hx hb dL_law_1248 hl (k := 5) rfl (nI_1 k) (by decide) rfl (fun ls hl => ?_)
                    refine lv_goto (tgt := 948) hx hb dL_law_1251 (by decide) ?_
                    exact ih948 (k + 1) (by omega) (by omega) ls _ _ hw (by rw [show (lGiven T T2 (k + 1)) = ((lGiven T T2 k) + (tE T2 k 9)) from if_pos (Int32.not_lt.mp c_13)]; exact lv_sub hl [0, 1, 6, 7, 8, 9, 10, 11, 12, 13, 14, 15, 16, 17] rfl)
                refine lv_aload hx hb dL_law_1164 (lv_at hl 9 rfl) ?_
                refine lv_iload hx hb dL_law_1166 (lv_at hl 4 rfl) ?_
                refine f_aaldQ X hw hEo (vp_in_nI (n := k) (by omega) (by omega)) (q := ad (3500 + k)) (by rw [nI_clamp (by omega)]; exact hEf k (by omega)) dL_law_1168 ?_
                refine lv_iconst (v := 5) hx hb dL_law_1169 (by decide) ?_
                refine f_iald X hw (hEr k (by omega)) (by unfold vp_in; decide) dL_law_1170 ?_
                rw [show (5 : Int32).toNatClampNeg = 5 from rfl]
                refine f_top (y := tE T k 5) ((hEv k (by omega) 5 (by omega)).trans eT_5) ?_
                refine lv_iconst (v := 1) hx hb dL_law_1171 (by decide) ?_
                refine lv_icmp_eq (tgt := 1192) hx hb dL_law_1172 (by decide) (fun c_14 => ?_) (fun c_14 => ?_)
                · exact j1192 ls _ _ hw (lv_sub hl [0, 1, 2, 3, 4, 5, 6, 7, 8, 9, 10, 11, 12, 13, 14, 15, 16, 17] rfl)
                · refine lv_aload_n hx hb dL_law_1175 rfl (lv_at hl 16 rfl) ?_
                  refine lv_iload hx hb dL_law_1176 (lv_at hl 4 rfl) ?_
                  refine lv_iconst (v := 0) hx hb dL_law_1178 (by decide) ?_
                  refine fk_di (fcV X hw (c_X5_engine l g ad M hC (show k < tEn T2 by omega) (what := 0) (by decide)) hF rfl wq211 kVX5_engine ⟨(Nat.le_of_ble_eq_true rfl), (Nat.le_of_ble_eq_true rfl)⟩ rfl hl.1 rfl (Nat.le_of_ble_eq_true rfl) dL_law_1179 ⟨(by first | (show _ ≤ 792864; omega) | (show _ ≤ 6723031; omega)), (by first | (show _ ≤ 792864; omega) | (show _ ≤ 6723031; omega))⟩) hw (fun H locs hw => ?_)
                  refine f_top (y := tE T2 k 0) eT_0 ?_
                  refine lv_aload hx hb dL_law_1182 (lv_at hl 9 rfl) ?_
                  refine lv_iload hx hb dL_law_1184 (lv_at hl 4 rfl) ?_
                  refine f_aaldQ X hw hEo (vp_in_nI (n := k) (by omega) (by omega)) (q := ad (3500 + k)) (by rw [nI_clamp (by omega)]; exact hEf k (by omega)) dL_law_1186 ?_
                  refine lv_iconst (v := 0) hx hb dL_law_1187 (by decide) ?_
                  refine f_iald X hw (hEr k (by omega)) (by unfold vp_in; decide) dL_law_1188 ?_
                  rw [show (0 : Int32).toNatClampNeg = 0 from rfl]
                  refine f_top (y := tE T k 0) ((hEv k (by omega) 0 (by omega)).trans eT_0) ?_
                  refine lv_icmp_ne (tgt := 1226) hx hb dL_law_1189 (by decide) (fun c_15 => absurd (e0 c_14) c_15) (fun c_15 => ?_)
                  exact j1192 ls _ _ hw (lv_sub hl [0, 1, 2, 3, 4, 5, 6, 7, 8, 9, 10, 11, 12, 13, 14, 15, 16, 17] rfl)
              refine lv_aload hx hb dL_law_1146 (lv_at hl 9 rfl) ?_
              refine lv_iload hx hb dL_law_1148 (lv_at hl 4 rfl) ?_
              refine f_aaldQ X hw hEo (vp_in_nI (n := k) (by omega) (by omega)) (q := ad (3500 + k)) (by rw [nI_clamp (by omega)]; exact hEf k (by omega)) dL_law_1150 ?_
              refine lv_bipush (v := 6) hx hb dL_law_1151 (by decide) ?_
              refine f_iald X hw (hEr k (by omega)) (by unfold vp_in; decide) dL_law_1153 ?_
              rw [show (6 : Int32).toNatClampNeg = 6 from rfl]
              refine f_top (y := tE T k 7) ((hEv k (by omega) 6 (by omega)).trans eT_6) ?_
              refine lv_if_ge (tgt := 1164) hx hb dL_law_1154 (by decide) (fun c_16 => ?_) (fun c_16 => ?_)
              · exact j1164 ls _ _ hw (lv_sub hl [0, 1, 2, 3, 4, 5, 6, 7, 8, 9, 10, 11, 12, 13, 14, 15, 16, 17] rfl)
              · refine lv_iload hx hb dL_law_1157 (lv_at hl 3 rfl) ?_
                refine lv_if_eq (tgt := 1164) hx hb dL_law_1159 (by decide) (fun c_17 => ?_) (fun c_17 => absurd (e7n (Int32.not_le.mp c_16)) c_17)
                exact j1164 ls _ _ hw (lv_sub hl [0, 1, 2, 3, 4, 5, 6, 7, 8, 9, 10, 11, 12, 13, 14, 15, 16, 17] rfl)
            refine lv_aload_n hx hb dL_law_1076 rfl (lv_at hl 16 rfl) ?_
            refine lv_iload hx hb dL_law_1077 (lv_at hl 4 rfl) ?_
            refine lv_iconst (v := 4) hx hb dL_law_1079 (by decide) ?_
            refine fk_di (fcV X hw (c_X5_engine l g ad M hC (show k < tEn T2 by omega) (what := 4) (by decide)) hF rfl wq211 kVX5_engine ⟨(Nat.le_of_ble_eq_true rfl), (Nat.le_of_ble_eq_true rfl)⟩ rfl hl.1 rfl (Nat.le_of_ble_eq_true rfl) dL_law_1080 ⟨(by first | (show _ ≤ 792864; omega) | (show _ ≤ 6723031; omega)), (by first | (show _ ≤ 792864; omega) | (show _ ≤ 6723031; omega))⟩) hw (fun H locs hw => ?_)
            refine f_top (y := tE T2 k 4) eT_4 ?_
            refine lv_iconst (v := 0) hx hb dL_law_1083 (by decide) ?_
            refine lv_iload hx hb dL_law_1084 (lv_at hl 2 rfl) ?_
            refine lv_iload hx hb dL_law_1086 (lv_at hl 3 rfl) ?_
            refine lv_if_le (tgt := 1095) hx hb dL_law_1088 (by decide) (fun c_18 => ?_) (fun c_18 => ?_)
            · refine lv_iconst (v := 0) hx hb dL_law_1095 (by decide) ?_
              refine lv_isub hx hb dL_law_1096 ?_
              refine va_mmax hx hb (X.2.2.1.trans hl.1.symm) X.2.2.2.1 (X.2.2.2.2.1 _ wq885) (X.2.2.2.2.1 _ wq290) (X.2.2.2.2.1 _ wq18) (X.2.2.2.2.1 _ wq291) (Nat.le_of_ble_eq_true rfl) (Nat.le_of_ble_eq_true rfl) (by first | (show _ ≤ 792864; omega) | (show _ ≤ 6723031; omega)) (by first | (show _ ≤ 792864; omega) | (show _ ≤ 6723031; omega)) dL_law_1097 ?_
              refine lv_icmp_ne (tgt := 1162) hx hb dL_law_1100 (by decide) (fun c_19 => absurd (e4.trans (by rw [if_neg (Int32.not_lt.mpr c_18)]; rfl)) c_19) (fun c_19 => ?_)
              exact j1103 ls _ _ hw (lv_sub hl [0, 1, 2, 3, 4, 5, 6, 7, 8, 9, 10, 11, 12, 13, 14, 15, 16, 17] rfl)
            · refine lv_iconst (v := 2) hx hb dL_law_1091 (by decide) ?_
              refine lv_goto (tgt := 1096) hx hb dL_law_1092 (by decide) ?_
              refine lv_isub hx hb dL_law_1096 ?_
              refine va_mmax hx hb (X.2.2.1.trans hl.1.symm) X.2.2.2.1 (X.2.2.2.2.1 _ wq885) (X.2.2.2.2.1 _ wq290) (X.2.2.2.2.1 _ wq18) (X.2.2.2.2.1 _ wq291) (Nat.le_of_ble_eq_true rfl) (Nat.le_of_ble_eq_true rfl) (by first | (show _ ≤ 792864; omega) | (show _ ≤ 6723031; omega)) (by first | (show _ ≤ 792864; omega) | (show _ ≤ 6723031; omega)) dL_law_1097 ?_
              refine lv_icmp_ne (tgt := 1162) hx hb dL_law_1100 (by decide) (fun c_20 => absurd (e4.trans (by rw [if_pos (Int32.not_le.mp c_18)]; rfl)) c_20) (fun c_20 => ?_)
              exact j1103 ls _ _ hw (lv_sub hl [0, 1, 2, 3, 4, 5, 6, 7, 8, 9, 10, 11, 12, 13, 14, 15, 16, 17] rfl)
          refine lv_iload hx hb dL_law_1022 (lv_at hl 0 rfl) ?_
          refine lv_if_gt (tgt := 1034) hx hb dL_law_1024 (by decide) (fun c_21 => ?_) (fun c_21 => ?_)
          · refine lv_iconst (v := 0) hx hb dL_law_1034 (by decide) ?_
            refine lv_goto (tgt := 1051) hx hb dL_law_1035 (by decide) ?_
            refine f_top (y := lMost (tE T k)) (if_pos c_21).symm ?_
            exact j1051 ls _ _ hw (lv_sub hl [0, 1, 2, 3, 4, 5, 6, 7, 8, 9, 10, 11, 12, 13, 14, 15, 16] rfl)
          · refine lv_iload hx hb dL_law_1027 (lv_at hl 1 rfl) ?_
            refine lv_bipush (v := 20) hx hb dL_law_1029 (by decide) ?_
            refine lv_icmp_ge (tgt := 1038) hx hb dL_law_1031 (by decide) (fun c_22 => ?_) (fun c_22 => ?_)
            · refine lv_aload hx hb dL_law_1038 (lv_at hl 8 rfl) ?_
              refine lv_iload hx hb dL_law_1040 (lv_at hl 3 rfl) ?_
              refine f_aaldQ X hw hEo (vp_in_nI (n := k) (by omega) (by omega)) (q := ad (3500 + k)) (by rw [nI_clamp (by omega)]; exact hEf k (by omega)) dL_law_1042 ?_
              refine lv_iconst (v := 2) hx hb dL_law_1043 (by decide) ?_
              refine f_iald X hw (hEr k (by omega)) (by unfold vp_in; decide) dL_law_1044 ?_
              rw [show (2 : Int32).toNatClampNeg = 2 from rfl]
              refine f_top (y := tE T k 2) ((hEv k (by omega) 2 (by omega)).trans eT_2) ?_
              refine lv_iload hx hb dL_law_1045 (lv_at hl 1 rfl) ?_
              refine lv_imul hx hb dL_law_1047 ?_
              refine lv_bipush (v := 20) hx hb dL_law_1048 (by decide) ?_
              refine lv_idiv hx hb dL_law_1050 (by decide) ?_
              refine f_top (y := lMost (tE T k)) ((if_neg c_21).trans (if_pos c_22)).symm ?_
              exact j1051 ls _ _ hw (lv_sub hl [0, 1, 2, 3, 4, 5, 6, 7, 8, 9, 10, 11, 12, 13, 14, 15, 16] rfl)
            · refine lv_iconst (v := 0) hx hb dL_law_1034 (by decide) ?_
              refine lv_goto (tgt := 1051) hx hb dL_law_1035 (by decide) ?_
              refine f_top (y := lMost (tE T k)) ((if_neg c_21).trans (if_neg c_22)).symm ?_
              exact j1051 ls _ _ hw (lv_sub hl [0, 1, 2, 3, 4, 5, 6, 7, 8, 9, 10, 11, 12, 13, 14, 15, 16] rfl)
        refine lv_aload hx hb dL_law_965 (lv_at hl 6 rfl) ?_
        refine lv_iload hx hb dL_law_967 (lv_at hl 1 rfl) ?_
        refine f_aaldQ X hw hEo (vp_in_nI (n := k) (by omega) (by omega)) (q := ad (3500 + k)) (by rw [nI_clamp (by omega)]; exact hEf k (by omega)) dL_law_969 ?_
        refine lv_iconst (v := 3) hx hb dL_law_970 (by decide) ?_
        refine f_iald X hw (hEr k (by omega)) (by unfold vp_in; decide) dL_law_971 ?_
        rw [show (3 : Int32).toNatClampNeg = 3 from rfl]
        refine f_top (y := tE T k 3) ((hEv k (by omega) 3 (by omega)).trans eT_3) ?_
        refine lv_if_le (tgt := 992) hx hb dL_law_972 (by decide) (fun c_23 => ?_) (fun c_23 => ?_)
        · refine lv_iconst (v := 0) hx hb dL_law_992 (by decide) ?_
          refine lv_aload hx hb dL_law_993 (lv_at hl 6 rfl) ?_
          refine lv_iload hx hb dL_law_995 (lv_at hl 1 rfl) ?_
          refine f_aaldQ X hw hEo (vp_in_nI (n := k) (by omega) (by omega)) (q := ad (3500 + k)) (by rw [nI_clamp (by omega)]; exact hEf k (by omega)) dL_law_997 ?_
          refine lv_iconst (v := 4) hx hb dL_law_998 (by decide) ?_
          refine f_iald X hw (hEr k (by omega)) (by unfold vp_in; decide) dL_law_999 ?_
          rw [show (4 : Int32).toNatClampNeg = 4 from rfl]
          refine f_top (y := tE T k 4) ((hEv k (by omega) 4 (by omega)).trans eT_4) ?_
          refine lv_iconst (v := 3) hx hb dL_law_1000 (by decide) ?_
          refine lv_isub hx hb dL_law_1001 ?_
          refine va_mmax hx hb (X.2.2.1.trans hl.1.symm) X.2.2.2.1 (X.2.2.2.2.1 _ wq885) (X.2.2.2.2.1 _ wq290) (X.2.2.2.2.1 _ wq18) (X.2.2.2.2.1 _ wq291) (Nat.le_of_ble_eq_true rfl) (Nat.le_of_ble_eq_true rfl) (by first | (show _ ≤ 792864; omega) | (show _ ≤ 6723031; omega)) (by first | (show _ ≤ 792864; omega) | (show _ ≤ 6723031; omega)) dL_law_1002 ?_
          refine f_top (y := lSt (tE T k)) (if_neg (Int32.not_lt.mpr c_23)).symm ?_
          exact j1005 ls _ _ hw (lv_sub hl [0, 1, 2, 3, 4, 5, 6, 7, 8, 9, 10, 11, 12, 13, 14] rfl)
        · refine lv_bipush (v := 100) hx hb dL_law_975 (by decide) ?_
          refine lv_aload hx hb dL_law_977 (lv_at hl 6 rfl) ?_
          refine lv_iload hx hb dL_law_979 (lv_at hl 1 rfl) ?_
          refine f_aaldQ X hw hEo (vp_in_nI (n := k) (by omega) (by omega)) (q := ad (3500 + k)) (by rw [nI_clamp (by omega)]; exact hEf k (by omega)) dL_law_981 ?_
          refine lv_iconst (v := 4) hx hb dL_law_982 (by decide) ?_
          refine f_iald X hw (hEr k (by omega)) (by unfold vp_in; decide) dL_law_983 ?_
          rw [show (4 : Int32).toNatClampNeg = 4 from rfl]
          refine f_top (y := tE T k 4) ((hEv k (by omega) 4 (by omega)).trans eT_4) ?_
          refine lv_iconst (v := 4) hx hb dL_law_984 (by decide) ?_
          refine lv_iadd hx hb dL_law_985 ?_
          refine va_mmin hx hb (X.2.2.1.trans hl.1.symm) X.2.2.2.1 (X.2.2.2.2.1 _ wq886) (X.2.2.2.2.1 _ wq287) (X.2.2.2.2.1 _ wq18) (X.2.2.2.2.1 _ wq288) (Nat.le_of_ble_eq_true rfl) (Nat.le_of_ble_eq_true rfl) (by first | (show _ ≤ 792864; omega) | (show _ ≤ 6723031; omega)) (by first | (show _ ≤ 792864; omega) | (show _ ≤ 6723031; omega)) dL_law_986 ?_
          refine lv_goto (tgt := 1005) hx hb dL_law_989 (by decide) ?_
          refine f_top (y := lSt (tE T k)) (if_pos (Int32.not_le.mp c_23)).symm ?_
          exact j1005 ls _ _ hw (lv_sub hl [0, 1, 2, 3, 4, 5, 6, 7, 8, 9, 10, 11, 12, 13, 14] rfl)
  exact loop948 (tEn T + 1) 0 (by omega) (by omega) ls _ _ hw (lv_sub hl [0, 2, 1, 3, 4, 5, 6, 7, 8, 9, 10, 11, 12, 13] rfl)
