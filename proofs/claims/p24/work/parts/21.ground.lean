set_option maxHeartbeats 4000000 in
set_option maxRecDepth 100000 in
theorem c_fill (l : Launch) (g : fG) (ad : Nat → Nat) (M : fM) {la N : Nat} {f : Nat → Int32} (hA : M la = some (.inl (gI g, N, .inl f))) (hN : N < 2 ^ 31) (v : Int32) : fCv l g yJ7_fill_53178 cJ7_fill_53178 4 0 0 0 0 ad M [.ref (ad la), .int v] (fDv ad (fU M la (.inl (gI g, N, .inl (fillF f v N))))) := by
  refine f_body (own := RJ7) (by decide +kernel) rfl (Nat.le_of_ble_eq_true rfl) ?_
  intro p e s m args below meth c ls X hw hin hl
  have hx := X.1
  have hb := X.2.1
  have hl : lv_has ls 4 [(0, .ref (ad la)), (1, .int v)] := hl
  refine lv_iconst (v := 0) hx hb dJ7_fill_53178_0 (by decide) ?_
  refine lv_istore_n (lv' := [(2, .int 0), (0, .ref (ad la)), (1, .int v)]) hx hb dJ7_fill_53178_1 rfl hl (by decide) rfl (fun ls hl => ?_)
  refine lv_aload_n hx hb dJ7_fill_53178_2 rfl (lv_at hl 1 rfl) ?_
  refine f_alen X hw 0 hA rfl dJ7_fill_53178_3 ?_
  refine lv_istore_n (lv' := [(3, .int (nI N)), (2, .int 0), (0, .ref (ad la)), (1, .int v)]) hx hb dJ7_fill_53178_4 rfl hl (by decide) rfl (fun ls hl => ?_)
  have loop5 : ∀ (n5 k : Nat), k ≤ N → N < k + n5 → ∀ (ls : Array Slot) (H : Heap) (locs : List Loc), fw g ad (fU M la (.inl (gI g, N, .inl (fillF f v k)))) s H locs → lv_has ls 4 [(0, .ref (ad la)), (1, .int v), (2, .int (nI k)), (3, .int (nI N))] → W p l e (fR 0 0 0 0) s m args below meth c H locs 0 0 (MQ below (fQv g (fDv ad (fU M la (.inl (gI g, N, .inl (fillF f v N)))))) args s 0 0 (fA g)) (F0 m 5 ls []) := by
    intro n5
    induction n5 with
    | zero => intro k h1 h2; omega
    | succ n5 ih5 =>
      intro k hk_k hn_k ls H locs hw hl
      have hA : (fU M la (.inl (gI g, N, .inl (fillF f v k)))) la = some (.inl (gI g, N, .inl (fillF f v k))) := fU_s
      refine lv_iload_n hx hb dJ7_fill_53178_5 rfl (lv_at hl 2 rfl) ?_
      refine lv_iload_n hx hb dJ7_fill_53178_6 rfl (lv_at hl 3 rfl) ?_
      refine lv_icmp_ge (tgt := 20) hx hb dJ7_fill_53178_7 (by decide) (fun c_1 => ?_) (fun c_1 => ?_)
      · have c_1 := nI_le' (a := N) (b := k) c_1 (by omega) (by omega)
        exact f_vret X hw ⟨rfl, by rw [show k = N by omega]⟩ (Nat.le_refl _) (Nat.le_refl _) dJ7_fill_53178_20
      · have c_1 := nI_nle' (a := N) (b := k) c_1 (by omega) (by omega)
        refine lv_aload_n hx hb dJ7_fill_53178_10 rfl (lv_at hl 0 rfl) ?_
        refine lv_iload_n hx hb dJ7_fill_53178_11 rfl (lv_at hl 2 rfl) ?_
        refine lv_iload_n hx hb dJ7_fill_53178_12 rfl (lv_at hl 1 rfl) ?_
        refine f_iast X hw hA (vp_in_nI (n := k) (by omega) (by omega)) dJ7_fill_53178_13 (fun H locs hw => ?_)
        rw [nI_clamp (n := k) (by omega)] at hw
        have hw : fw g ad (fU (fU M la (.inl (gI g, N, .inl (fillF f v k)))) la (.inl (gI g, N, .inl (upd (fillF f v k) k v)))) s H locs := hw
        rw [fU_U] at hw
        have hA : (fU M la (.inl (gI g, N, .inl (upd (fillF f v k) k v)))) la = some (.inl (gI g, N, .inl (upd (fillF f v k) k v))) := fU_s
        refine lv_iinc (v := nI (k + 1)) (lv' := [(2, .int (nI (k + 1))), (0, .ref (ad la)), (1, .int v), (3, .int (nI N))]) hx hb dJ7_fill_53178_14 hl (k := 2) rfl (nI_1 k) (by decide) rfl (fun ls hl => ?_)
        refine lv_goto (tgt := 5) hx hb dJ7_fill_53178_17 (by decide) ?_
        rw [fillF_step] at hw
        exact ih5 (k + 1) (by omega) (by omega) ls _ _ hw (lv_sub hl [1, 2, 0, 3] rfl)
  rw [show M = fU M la (.inl (gI g, N, .inl (fillF f v 0))) from by rw [fillF_0]; exact (fU_same hA).symm] at hw
  exact loop5 (N + 1) 0 (by omega) (by omega) ls _ _ hw (lv_sub hl [2, 3, 1, 0] rfl)
set_option maxHeartbeats 4000000 in
set_option maxRecDepth 100000 in
theorem c_kindOf (l : Launch) (g : fG) (ad : Nat → Nat) (M : fM) {kf nf sf : Nat → Int32} (hG : isGround g ad M kf nf sf) (c0 : Int32) : fCi l g yX1_kindOf cX1_kindOf 2 ((some .int)) 0 0 0 0 ad M [.ref (ad 1), .int c0] (fDi ad M (kOf kf c0)) := by
  refine f_body (own := RX1) (by decide +kernel) rfl (Nat.le_of_ble_eq_true rfl) ?_
  intro p e s m args below meth c ls X hw hin hl
  have hx := X.1
  have hb := X.2.1
  have hl : lv_has ls 2 [(0, .ref (ad 1)), (1, .int c0)] := hl
  obtain ⟨hG0, hGk, hGn, hGs⟩ := id hG
  refine lv_iload_n hx hb dX1_kindOf_0 rfl (lv_at hl 1 rfl) ?_
  refine lv_if_lt (tgt := 20) hx hb dX1_kindOf_1 (by decide) (fun c_1 => ?_) (fun c_1 => ?_)
  · refine lv_iconst (v := (-1)) hx hb dX1_kindOf_20 (by decide) ?_
    exact f_iret X hw ⟨rfl, rfl, by simp only [kOf, c_1, if_true, if_false]⟩ (Nat.le_refl _) (Nat.le_refl _) dX1_kindOf_21
  · refine lv_iload_n hx hb dX1_kindOf_4 rfl (lv_at hl 1 rfl) ?_
    refine lv_sipush (v := 140) hx hb dX1_kindOf_5 (by decide) ?_
    refine lv_icmp_ge (tgt := 20) hx hb dX1_kindOf_8 (by decide) (fun c_2 => ?_) (fun c_2 => ?_)
    · refine lv_iconst (v := (-1)) hx hb dX1_kindOf_20 (by decide) ?_
      exact f_iret X hw ⟨rfl, rfl, by simp only [kOf, c_1, c_2, if_true, if_false]⟩ (Nat.le_refl _) (Nat.le_refl _) dX1_kindOf_21
    · refine lv_aload_n hx hb dX1_kindOf_11 rfl (lv_at hl 0 rfl) ?_
      refine f_get X hw hG0 fc2 0 (by decide) wq39 rfl (v := .ref (ad 2)) rfl dX1_kindOf_12 ?_
      refine lv_iload_n hx hb dX1_kindOf_15 rfl (lv_at hl 1 rfl) ?_
      refine f_iald X hw hGk (f_ix140 c_1 c_2) dX1_kindOf_16 ?_
      refine lv_goto (tgt := 21) hx hb dX1_kindOf_17 (by decide) ?_
      exact f_iret X hw ⟨rfl, rfl, by simp only [kOf, c_1, c_2, if_true, if_false]⟩ (Nat.le_refl _) (Nat.le_refl _) dX1_kindOf_21
set_option maxHeartbeats 4000000 in
set_option maxRecDepth 100000 in
theorem c_isStreet (l : Launch) (g : fG) (ad : Nat → Nat) (M : fM) {kf nf sf : Nat → Int32} (hG : isGround g ad M kf nf sf) (c0 : Int32) : fCi l g yX1_isStreet cX1_isStreet 2 ((some .boolean)) 1 21 0 0 ad M [.ref (ad 1), .int c0] (fDi ad M (bI (kSt kf c0))) := by
  refine f_body (own := RX1) (by decide +kernel) rfl (Nat.le_of_ble_eq_true rfl) ?_
  intro p e s m args below meth c ls X hw hin hl
  have hx := X.1
  have hb := X.2.1
  have hl : lv_has ls 2 [(0, .ref (ad 1)), (1, .int c0)] := hl
  obtain ⟨hG0, hGk, hGn, hGs⟩ := id hG
  refine lv_aload_n hx hb dX1_isStreet_0 rfl (lv_at hl 0 rfl) ?_
  refine lv_iload_n hx hb dX1_isStreet_1 rfl (lv_at hl 1 rfl) ?_
  refine fk_di (fcV X hw (c_kindOf l g ad M hG c0) hG0 rfl wq671 kVX1_kindOf ⟨(Nat.le_of_ble_eq_true rfl), (Nat.le_of_ble_eq_true rfl)⟩ rfl hl.1 rfl (Nat.le_of_ble_eq_true rfl) dX1_isStreet_2 ⟨Nat.le_refl _, Nat.le_refl _⟩) hw (fun H locs hw => ?_)
  refine lv_if_ne (tgt := 12) hx hb dX1_isStreet_5 (by decide) (fun c_1 => ?_) (fun c_1 => ?_)
  · refine lv_iconst (v := 0) hx hb dX1_isStreet_12 (by decide) ?_
    exact f_zret X hw rfl ⟨rfl, rfl, by simp [kSt, bI, c_1]⟩ (Nat.le_refl _) (Nat.le_refl _) dX1_isStreet_13
  · refine lv_iconst (v := 1) hx hb dX1_isStreet_8 (by decide) ?_
    refine lv_goto (tgt := 13) hx hb dX1_isStreet_9 (by decide) ?_
    exact f_zret X hw rfl ⟨rfl, rfl, by simp [kSt, bI, c_1]⟩ (Nat.le_refl _) (Nat.le_refl _) dX1_isStreet_13
set_option maxHeartbeats 4000000 in
set_option maxRecDepth 100000 in
theorem c_put (l : Launch) (g : fG) (ad : Nat → Nat) (M : fM) {kf nf sf : Nat → Int32} (hG : isGround g ad M kf nf sf) {j : Nat} (hj : j < 140) (x y : Int32) : fCv l g yX1_put cX1_put 4 2 42 0 0 ad M [.ref (ad 1), .int (nI j), .int x, .int y] (fDv ad (if kSt kf (nI j) = true then fU (fU M 2 (.inl (gI g, 140, .inl (upd kf j x)))) 3 (.inl (gI g, 140, .inl (upd nf j y))) else M)) := by
  refine f_body (own := RX1) (by decide +kernel) rfl (Nat.le_of_ble_eq_true rfl) ?_
  intro p e s m args below meth c ls X hw hin hl
  have hx := X.1
  have hb := X.2.1
  have hl : lv_has ls 4 [(0, .ref (ad 1)), (1, .int (nI j)), (2, .int x), (3, .int y)] := hl
  obtain ⟨hG0, hGk, hGn, hGs⟩ := id hG
  refine lv_aload_n hx hb dX1_put_0 rfl (lv_at hl 0 rfl) ?_
  refine lv_iload_n hx hb dX1_put_1 rfl (lv_at hl 1 rfl) ?_
  refine fk_di (fcV X hw (c_isStreet l g ad M hG (nI j)) hG0 rfl wq708 kVX1_isStreet ⟨(Nat.le_of_ble_eq_true rfl), (Nat.le_of_ble_eq_true rfl)⟩ rfl hl.1 rfl (Nat.le_of_ble_eq_true rfl) dX1_put_2 ⟨Nat.le_refl _, Nat.le_refl _⟩) hw (fun H locs hw => ?_)
  refine lv_if_eq (tgt := 22) hx hb dX1_put_5 (by decide) (fun c_1 => ?_) (fun c_1 => ?_)
  · have c_1 := bI_f.mp c_1
    exact f_vret X hw ⟨rfl, by simp only [c_1, Bool.false_eq_true, if_false]⟩ (Nat.le_refl _) (Nat.le_refl _) dX1_put_22
  · have c_1 := bI_nf.mp c_1
    refine lv_aload_n hx hb dX1_put_8 rfl (lv_at hl 0 rfl) ?_
    refine f_get X hw hG0 fc2 0 (by decide) wq39 rfl (v := .ref (ad 2)) rfl dX1_put_9 ?_
    refine lv_iload_n hx hb dX1_put_12 rfl (lv_at hl 1 rfl) ?_
    refine lv_iload_n hx hb dX1_put_13 rfl (lv_at hl 2 rfl) ?_
    refine f_iast X hw hGk (vp_in_nI (n := j) (by omega) (by omega)) dX1_put_14 (fun H locs hw => ?_)
    rw [nI_clamp (n := j) (by omega)] at hw
    have hw : fw g ad (fU M 2 (.inl (gI g, 140, .inl (upd kf j x)))) s H locs := hw
    have hG0 : (fU M 2 (.inl (gI g, 140, .inl (upd kf j x)))) 1 = some (.inr (2, [.ref (ad 2), .ref (ad 3), .ref (ad 4)])) := (fU_n (by omega)).trans hG0
    have hGn : (fU M 2 (.inl (gI g, 140, .inl (upd kf j x)))) 3 = some (.inl (gI g, 140, .inl nf)) := (fU_n (by omega)).trans hGn
    have hGs : (fU M 2 (.inl (gI g, 140, .inl (upd kf j x)))) 4 = some (.inl (gI g, 140, .inl sf)) := (fU_n (by omega)).trans hGs
    have hGk : (fU M 2 (.inl (gI g, 140, .inl (upd kf j x)))) 2 = some (.inl (gI g, 140, .inl (upd kf j x))) := fU_s
    refine lv_aload_n hx hb dX1_put_15 rfl (lv_at hl 0 rfl) ?_
    refine f_get X hw hG0 fc2 1 (by decide) wq40 rfl (v := .ref (ad 3)) rfl dX1_put_16 ?_
    refine lv_iload_n hx hb dX1_put_19 rfl (lv_at hl 1 rfl) ?_
    refine lv_iload_n hx hb dX1_put_20 rfl (lv_at hl 3 rfl) ?_
    refine f_iast X hw hGn (vp_in_nI (n := j) (by omega) (by omega)) dX1_put_21 (fun H locs hw => ?_)
    rw [nI_clamp (n := j) (by omega)] at hw
    have hw : fw g ad (fU (fU M 2 (.inl (gI g, 140, .inl (upd kf j x)))) 3 (.inl (gI g, 140, .inl (upd nf j y)))) s H locs := hw
    have hG0 : (fU (fU M 2 (.inl (gI g, 140, .inl (upd kf j x)))) 3 (.inl (gI g, 140, .inl (upd nf j y)))) 1 = some (.inr (2, [.ref (ad 2), .ref (ad 3), .ref (ad 4)])) := (fU_n (by omega)).trans hG0
    have hGk : (fU (fU M 2 (.inl (gI g, 140, .inl (upd kf j x)))) 3 (.inl (gI g, 140, .inl (upd nf j y)))) 2 = some (.inl (gI g, 140, .inl (upd kf j x))) := (fU_n (by omega)).trans hGk
    have hGs : (fU (fU M 2 (.inl (gI g, 140, .inl (upd kf j x)))) 3 (.inl (gI g, 140, .inl (upd nf j y)))) 4 = some (.inl (gI g, 140, .inl sf)) := (fU_n (by omega)).trans hGs
    have hGn : (fU (fU M 2 (.inl (gI g, 140, .inl (upd kf j x)))) 3 (.inl (gI g, 140, .inl (upd nf j y)))) 3 = some (.inl (gI g, 140, .inl (upd nf j y))) := fU_s
    exact f_vret X hw ⟨rfl, by simp only [c_1, if_true]⟩ (Nat.le_refl _) (Nat.le_refl _) dX1_put_22
set_option maxHeartbeats 4000000 in
set_option maxRecDepth 100000 in
theorem c_enter (l : Launch) (g : fG) (ad : Nat → Nat) (M : fM) {kf nf sf : Nat → Int32} (hG : isGround g ad M kf nf sf) (x y w : Int32) : fCi l g yX1_enter cX1_enter 5 ((some .int)) 2 42 0 0 ad M [.ref (ad 1), .int x, .int y, .int w] (fDi ad (fU M 4 (.inl (gI g, 140, .inl (entS kf sf x y w)))) (bI (entC kf sf x y))) := by
  refine f_body (own := RX1) (by decide +kernel) rfl (Nat.le_of_ble_eq_true rfl) ?_
  intro p e s m args below meth c ls X hw hin hl
  have hx := X.1
  have hb := X.2.1
  have hl : lv_has ls 5 [(0, .ref (ad 1)), (1, .int x), (2, .int y), (3, .int w)] := hl
  obtain ⟨hG0, hGk, hGn, hGs⟩ := id hG
  refine lv_iload_n hx hb dX1_enter_0 rfl (lv_at hl 1 rfl) ?_
  refine lv_iload_n hx hb dX1_enter_1 rfl (lv_at hl 2 rfl) ?_
  refine fk_di (fcSN X hw (c_isOnMap l g ad M x y) wn848 kSX5_isOnMap ⟨(Nat.le_of_ble_eq_true rfl), (Nat.le_of_ble_eq_true rfl)⟩ rfl hl.1 rfl (Nat.le_of_ble_eq_true rfl) dX1_enter_2 ⟨Nat.le_refl _, Nat.le_refl _⟩) hw (fun H locs hw => ?_)
  refine lv_if_ne (tgt := 10) hx hb dX1_enter_5 (by decide) (fun c_1 => ?_) (fun c_1 => ?_)
  · have c_1 := bI_nf.mp c_1
    obtain ⟨j, hj, ej⟩ := aOn_ix c_1
    refine lv_iload_n hx hb dX1_enter_10 rfl (lv_at hl 1 rfl) ?_
    refine lv_iload_n hx hb dX1_enter_11 rfl (lv_at hl 2 rfl) ?_
    refine fk_di (fcSN X hw (c_cellAt l g ad M x y) wn849 kSX5_cellAt ⟨(Nat.le_of_ble_eq_true rfl), (Nat.le_of_ble_eq_true rfl)⟩ rfl hl.1 rfl (Nat.le_of_ble_eq_true rfl) dX1_enter_12 ⟨Nat.le_refl _, Nat.le_refl _⟩) hw (fun H locs hw => ?_)
    refine lv_istore (lv' := [(4, .int (x + 14 * y)), (0, .ref (ad 1)), (1, .int x), (2, .int y), (3, .int w)]) hx hb dX1_enter_15 hl (by decide) rfl (fun ls hl => ?_)
    refine lv_aload_n hx hb dX1_enter_17 rfl (lv_at hl 1 rfl) ?_
    refine lv_iload hx hb dX1_enter_18 (lv_at hl 0 rfl) ?_
    refine fk_di (fcV X hw (c_isStreet l g ad M hG (x + 14 * y)) hG0 rfl wq708 kVX1_isStreet ⟨(Nat.le_of_ble_eq_true rfl), (Nat.le_of_ble_eq_true rfl)⟩ rfl hl.1 rfl (Nat.le_of_ble_eq_true rfl) dX1_enter_20 ⟨Nat.le_refl _, Nat.le_refl _⟩) hw (fun H locs hw => ?_)
    refine lv_if_eq (tgt := 37) hx hb dX1_enter_23 (by decide) (fun c_2 => ?_) (fun c_2 => ?_)
    · have c_2 := bI_f.mp c_2
      refine lv_iconst (v := 0) hx hb dX1_enter_37 (by decide) ?_
      have hc : entC kf sf x y = false := by simp [entC, c_1, c_2]
      exact f_iret X hw ⟨rfl, by unfold entS; rw [if_neg (by rw [hc]; exact Bool.false_ne_true), fU_same hGs], by rw [hc]; rfl⟩ (Nat.le_refl _) (Nat.le_refl _) dX1_enter_38
    · have c_2 := bI_nf.mp c_2
      refine lv_aload_n hx hb dX1_enter_26 rfl (lv_at hl 1 rfl) ?_
      refine f_get X hw hG0 fc2 2 (by decide) wq41 rfl (v := .ref (ad 4)) rfl dX1_enter_27 ?_
      refine lv_iload hx hb dX1_enter_30 (lv_at hl 0 rfl) ?_
      refine f_iald X hw hGs (by rw [ej]; exact vp_in_nI hj (by omega)) dX1_enter_32 ?_
      refine lv_iconst (v := (-1)) hx hb dX1_enter_33 (by decide) ?_
      refine lv_icmp_eq (tgt := 39) hx hb dX1_enter_34 (by decide) (fun c_3 => ?_) (fun c_3 => ?_)
      · refine lv_aload_n hx hb dX1_enter_39 rfl (lv_at hl 1 rfl) ?_
        refine f_get X hw hG0 fc2 2 (by decide) wq41 rfl (v := .ref (ad 4)) rfl dX1_enter_40 ?_
        refine lv_iload hx hb dX1_enter_43 (lv_at hl 0 rfl) ?_
        refine lv_iload_n hx hb dX1_enter_45 rfl (lv_at hl 4 rfl) ?_
        refine f_iast X hw hGs (by rw [ej]; exact vp_in_nI hj (by omega)) dX1_enter_46 (fun H locs hw => ?_)
        have hw : fw g ad (fU M 4 (.inl (gI g, 140, .inl (upd sf ((x + 14 * y).toNatClampNeg) w)))) s H locs := hw
        have hG0 : (fU M 4 (.inl (gI g, 140, .inl (upd sf ((x + 14 * y).toNatClampNeg) w)))) 1 = some (.inr (2, [.ref (ad 2), .ref (ad 3), .ref (ad 4)])) := (fU_n (by omega)).trans hG0
        have hGk : (fU M 4 (.inl (gI g, 140, .inl (upd sf ((x + 14 * y).toNatClampNeg) w)))) 2 = some (.inl (gI g, 140, .inl kf)) := (fU_n (by omega)).trans hGk
        have hGn : (fU M 4 (.inl (gI g, 140, .inl (upd sf ((x + 14 * y).toNatClampNeg) w)))) 3 = some (.inl (gI g, 140, .inl nf)) := (fU_n (by omega)).trans hGn
        have hGs : (fU M 4 (.inl (gI g, 140, .inl (upd sf ((x + 14 * y).toNatClampNeg) w)))) 4 = some (.inl (gI g, 140, .inl (upd sf ((x + 14 * y).toNatClampNeg) w))) := fU_s
        refine lv_iconst (v := 1) hx hb dX1_enter_47 (by decide) ?_
        have hc : entC kf sf x y = true := by simp [entC, c_1, c_2, c_3]
        exact f_iret X hw ⟨rfl, by unfold entS; rw [if_pos hc], by rw [hc]; rfl⟩ (Nat.le_refl _) (Nat.le_refl _) dX1_enter_48
      · refine lv_iconst (v := 0) hx hb dX1_enter_37 (by decide) ?_
        have hc : entC kf sf x y = false := by simp [entC, c_1, c_2, c_3]
        exact f_iret X hw ⟨rfl, by unfold entS; rw [if_neg (by rw [hc]; exact Bool.false_ne_true), fU_same hGs], by rw [hc]; rfl⟩ (Nat.le_refl _) (Nat.le_refl _) dX1_enter_38
  · have c_1 := bI_f.mp c_1
    refine lv_iconst (v := 0) hx hb dX1_enter_8 (by decide) ?_
    have hc : entC kf sf x y = false := by simp [entC, c_1]
    exact f_iret X hw ⟨rfl, by unfold entS; rw [if_neg (by rw [hc]; exact Bool.false_ne_true), fU_same hGs], by rw [hc]; rfl⟩ (Nat.le_refl _) (Nat.le_refl _) dX1_enter_9
set_option maxHeartbeats 4000000 in
set_option maxRecDepth 100000 in
theorem c_spread (l : Launch) (g : fG) (ad : Nat → Nat) (M : fM) {kf nf sf : Nat → Int32} (hG : isGround g ad M kf nf sf) (w : Int32) : fCi l g yX1_spread cX1_spread 6 ((some .int)) 3 66 0 0 ad M [.ref (ad 1), .int w] (fDi ad (fU M 4 (.inl (gI g, 140, .inl ((sprF kf sf w 140).1)))) (sprF kf sf w 140).2) := by
  refine f_body (own := RX1) (by decide +kernel) rfl (Nat.le_of_ble_eq_true rfl) ?_
  intro p e s m args below meth c ls X hw hin hl
  have hx := X.1
  have hb := X.2.1
  have hl : lv_has ls 6 [(0, .ref (ad 1)), (1, .int w)] := hl
  obtain ⟨hG0, hGk, hGn, hGs⟩ := id hG
  have h0 : ∀ e, (fU M 4 e) 1 = some (.inr (2, [.ref (ad 2), .ref (ad 3), .ref (ad 4)])) := fun e => (fU_n (by decide)).trans hG0
  have hGG : ∀ F, isGround g ad (fU M 4 (.inl (gI g, 140, .inl F))) kf nf F := fun F => ⟨h0 _, (fU_n (by decide)).trans hGk, (fU_n (by decide)).trans hGn, fU_s⟩
  refine lv_iconst (v := 0) hx hb dX1_spread_0 (by decide) ?_
  refine lv_istore_n (lv' := [(2, .int 0), (0, .ref (ad 1)), (1, .int w)]) hx hb dX1_spread_1 rfl hl (by decide) rfl (fun ls hl => ?_)
  refine lv_iconst (v := 0) hx hb dX1_spread_2 (by decide) ?_
  refine lv_istore_n (lv' := [(3, .int 0), (2, .int 0), (0, .ref (ad 1)), (1, .int w)]) hx hb dX1_spread_3 rfl hl (by decide) rfl (fun ls hl => ?_)
  have loop4 : ∀ (n4 k : Nat), k ≤ 140 → 140 < k + n4 → ∀ (ls : Array Slot) (H : Heap) (locs : List Loc), fw g ad (fU M 4 (.inl (gI g, 140, .inl ((sprF kf sf w k).1)))) s H locs → lv_has ls 6 [(0, .ref (ad 1)), (1, .int w), (2, .int ((sprF kf sf w k).2)), (3, .int (nI k))] → W p l e (fR 3 66 0 0) s m args below meth c H locs 0 0 (MQ below (fQi g (fDi ad (fU M 4 (.inl (gI g, 140, .inl ((sprF kf sf w 140).1)))) (sprF kf sf w 140).2)) args s 0 0 (fA g)) (F0 m 4 ls []) := by
    intro n4
    induction n4 with
    | zero => intro k h1 h2; omega
    | succ n4 ih4 =>
      intro k hk_k hn_k ls H locs hw hl
      refine lv_iload_n hx hb dX1_spread_4 rfl (lv_at hl 3 rfl) ?_
      refine lv_sipush (v := 140) hx hb dX1_spread_5 (by decide) ?_
      refine lv_icmp_ge (tgt := 103) hx hb dX1_spread_8 (by decide) (fun c_1 => ?_) (fun c_1 => ?_)
      · have c_1 := nI_le' (a := 140) (b := k) c_1 (by omega) (by omega)
        refine lv_iload_n hx hb dX1_spread_103 rfl (lv_at hl 2 rfl) ?_
        exact f_iret X hw ⟨rfl, by rw [show k = 140 by omega], by rw [show k = 140 by omega]⟩ (Nat.le_refl _) (Nat.le_refl _) dX1_spread_104
      · have c_1 := nI_nle' (a := 140) (b := k) c_1 (by omega) (by omega)
        refine lv_aload_n hx hb dX1_spread_11 rfl (lv_at hl 0 rfl) ?_
        refine f_get X hw (h0 _) fc2 2 (by decide) wq41 rfl (v := .ref (ad 4)) rfl dX1_spread_12 ?_
        refine lv_iload_n hx hb dX1_spread_15 rfl (lv_at hl 3 rfl) ?_
        refine f_iald X hw fU_s (vp_in_nI (n := k) (by omega) (by omega)) dX1_spread_16 ?_
        rw [nI_clamp (n := k) (by omega)]
        refine lv_iload_n hx hb dX1_spread_17 rfl (lv_at hl 1 rfl) ?_
        refine lv_icmp_ne (tgt := 97) hx hb dX1_spread_18 (by decide) (fun c_2 => ?_) (fun c_2 => ?_)
        · refine lv_iinc (v := nI (k + 1)) (lv' := [(3, .int (nI (k + 1))), (0, .ref (ad 1)), (1, .int w), (2, .int ((sprF kf sf w k).2))]) hx hb dX1_spread_97 hl (k := 3) rfl (nI_1 k) (by decide) rfl (fun ls hl => ?_)
          refine lv_goto (tgt := 4) hx hb dX1_spread_100 (by decide) ?_
          have hsp : sprF kf sf w (k + 1) = sprF kf sf w k := by rw [sprF, if_neg c_2]
          rw [← hsp] at hw
          exact ih4 (k + 1) (by omega) (by omega) ls _ _ hw (by rw [show ((sprF kf sf w (k + 1)).2) = ((sprF kf sf w k).2) from (by rw [hsp]; try rfl)]; exact lv_sub hl [1, 2, 3, 0] rfl)
        · refine lv_iload_n hx hb dX1_spread_21 rfl (lv_at hl 3 rfl) ?_
          refine lv_bipush (v := 14) hx hb dX1_spread_22 (by decide) ?_
          refine lv_irem hx hb dX1_spread_24 (by decide) ?_
          refine f_top (y := iMod (nI k)) rfl ?_
          refine lv_istore (lv' := [(4, .int (iMod (nI k))), (0, .ref (ad 1)), (1, .int w), (2, .int ((sprF kf sf w k).2)), (3, .int (nI k))]) hx hb dX1_spread_25 hl (by decide) rfl (fun ls hl => ?_)
          refine lv_iload_n hx hb dX1_spread_27 rfl (lv_at hl 4 rfl) ?_
          refine lv_bipush (v := 14) hx hb dX1_spread_28 (by decide) ?_
          refine lv_idiv hx hb dX1_spread_30 (by decide) ?_
          refine lv_istore (lv' := [(5, .int ((nI k) / 14)), (4, .int (iMod (nI k))), (0, .ref (ad 1)), (1, .int w), (2, .int ((sprF kf sf w k).2)), (3, .int (nI k))]) hx hb dX1_spread_31 hl (by decide) rfl (fun ls hl => ?_)
          refine lv_iload_n hx hb dX1_spread_33 rfl (lv_at hl 4 rfl) ?_
          refine lv_aload_n hx hb dX1_spread_34 rfl (lv_at hl 2 rfl) ?_
          refine lv_iload hx hb dX1_spread_35 (lv_at hl 1 rfl) ?_
          refine lv_iconst (v := 1) hx hb dX1_spread_37 (by decide) ?_
          refine lv_isub hx hb dX1_spread_38 ?_
          refine lv_iload hx hb dX1_spread_39 (lv_at hl 0 rfl) ?_
          refine lv_iload_n hx hb dX1_spread_41 rfl (lv_at hl 3 rfl) ?_
          refine lv_iconst (v := 1) hx hb dX1_spread_42 (by decide) ?_
          refine lv_iadd hx hb dX1_spread_43 ?_
          refine fk_di (fcV X hw (c_enter l g ad (fU M 4 (.inl (gI g, 140, .inl ((sprF kf sf w k).1)))) (hGG _) ((iMod (nI k)) - 1) ((nI k / 14)) (w + 1)) (h0 _) rfl wq844 kVX1_enter ⟨(Nat.le_of_ble_eq_true rfl), (Nat.le_of_ble_eq_true rfl)⟩ rfl hl.1 rfl (Nat.le_of_ble_eq_true rfl) dX1_spread_44 ⟨Nat.le_refl _, Nat.le_refl _⟩) hw (fun H locs hw => ?_)
          rw [fU_U] at hw
          have hw : fw g ad (fU M 4 (.inl (gI g, 140, .inl ((entF kf (sprF kf sf w k) ((iMod (nI k)) - 1) ((nI k / 14)) (w + 1)).1)))) s H locs := hw
          refine lv_iadd hx hb dX1_spread_47 ?_
          refine lv_istore_n (lv' := [(2, .int (((sprF kf sf w k).2) + (bI (entC kf (sprF kf sf w k).1 ((iMod (nI k)) - 1) ((nI k / 14)))))), (5, .int ((nI k) / 14)), (4, .int (iMod (nI k))), (0, .ref (ad 1)), (1, .int w), (3, .int (nI k))]) hx hb dX1_spread_48 rfl hl (by decide) rfl (fun ls hl => ?_)
          refine lv_iload_n hx hb dX1_spread_49 rfl (lv_at hl 0 rfl) ?_
          refine lv_aload_n hx hb dX1_spread_50 rfl (lv_at hl 3 rfl) ?_
          refine lv_iload hx hb dX1_spread_51 (lv_at hl 2 rfl) ?_
          refine lv_iconst (v := 1) hx hb dX1_spread_53 (by decide) ?_
          refine lv_iadd hx hb dX1_spread_54 ?_
          refine lv_iload hx hb dX1_spread_55 (lv_at hl 1 rfl) ?_
          refine lv_iload_n hx hb dX1_spread_57 rfl (lv_at hl 4 rfl) ?_
          refine lv_iconst (v := 1) hx hb dX1_spread_58 (by decide) ?_
          refine lv_iadd hx hb dX1_spread_59 ?_
          refine fk_di (fcV X hw (c_enter l g ad (fU M 4 (.inl (gI g, 140, .inl ((entF kf (sprF kf sf w k) ((iMod (nI k)) - 1) ((nI k / 14)) (w + 1)).1)))) (hGG _) ((iMod (nI k)) + 1) ((nI k / 14)) (w + 1)) (h0 _) rfl wq844 kVX1_enter ⟨(Nat.le_of_ble_eq_true rfl), (Nat.le_of_ble_eq_true rfl)⟩ rfl hl.1 rfl (Nat.le_of_ble_eq_true rfl) dX1_spread_60 ⟨Nat.le_refl _, Nat.le_refl _⟩) hw (fun H locs hw => ?_)
          rw [fU_U] at hw
          have hw : fw g ad (fU M 4 (.inl (gI g, 140, .inl ((entF kf (entF kf (sprF kf sf w k) ((iMod (nI k)) - 1) ((nI k / 14)) (w + 1)) ((iMod (nI k)) + 1) ((nI k / 14)) (w + 1)).1)))) s H locs := hw
          refine lv_iadd hx hb dX1_spread_63 ?_
          refine lv_istore_n (lv' := [(2, .int ((((sprF kf sf w k).2) + (bI (entC kf (sprF kf sf w k).1 ((iMod (nI k)) - 1) ((nI k / 14))))) + (bI (entC kf (entF kf (sprF kf sf w k) ((iMod (nI k)) - 1) ((nI k / 14)) (w + 1)).1 ((iMod (nI k)) + 1) ((nI k / 14)))))), (5, .int ((nI k) / 14)), (4, .int (iMod (nI k))), (0, .ref (ad 1)), (1, .int w), (3, .int (nI k))]) hx hb dX1_spread_64 rfl hl (by decide) rfl (fun ls hl => ?_)
          refine lv_iload_n hx hb dX1_spread_65 rfl (lv_at hl 0 rfl) ?_
          refine lv_aload_n hx hb dX1_spread_66 rfl (lv_at hl 3 rfl) ?_
          refine lv_iload hx hb dX1_spread_67 (lv_at hl 2 rfl) ?_
          refine lv_iload hx hb dX1_spread_69 (lv_at hl 1 rfl) ?_
          refine lv_iconst (v := 1) hx hb dX1_spread_71 (by decide) ?_
          refine lv_isub hx hb dX1_spread_72 ?_
          refine lv_iload_n hx hb dX1_spread_73 rfl (lv_at hl 4 rfl) ?_
          refine lv_iconst (v := 1) hx hb dX1_spread_74 (by decide) ?_
          refine lv_iadd hx hb dX1_spread_75 ?_
          refine fk_di (fcV X hw (c_enter l g ad (fU M 4 (.inl (gI g, 140, .inl ((entF kf (entF kf (sprF kf sf w k) ((iMod (nI k)) - 1) ((nI k / 14)) (w + 1)) ((iMod (nI k)) + 1) ((nI k / 14)) (w + 1)).1)))) (hGG _) ((iMod (nI k))) ((nI k / 14) - 1) (w + 1)) (h0 _) rfl wq844 kVX1_enter ⟨(Nat.le_of_ble_eq_true rfl), (Nat.le_of_ble_eq_true rfl)⟩ rfl hl.1 rfl (Nat.le_of_ble_eq_true rfl) dX1_spread_76 ⟨Nat.le_refl _, Nat.le_refl _⟩) hw (fun H locs hw => ?_)
          rw [fU_U] at hw
          have hw : fw g ad (fU M 4 (.inl (gI g, 140, .inl ((entF kf (entF kf (entF kf (sprF kf sf w k) ((iMod (nI k)) - 1) ((nI k / 14)) (w + 1)) ((iMod (nI k)) + 1) ((nI k / 14)) (w + 1)) ((iMod (nI k))) ((nI k / 14) - 1) (w + 1)).1)))) s H locs := hw
          refine lv_iadd hx hb dX1_spread_79 ?_
          refine lv_istore_n (lv' := [(2, .int (((((sprF kf sf w k).2) + (bI (entC kf (sprF kf sf w k).1 ((iMod (nI k)) - 1) ((nI k / 14))))) + (bI (entC kf (entF kf (sprF kf sf w k) ((iMod (nI k)) - 1) ((nI k / 14)) (w + 1)).1 ((iMod (nI k)) + 1) ((nI k / 14))))) + (bI (entC kf (entF kf (entF kf (sprF kf sf w k) ((iMod (nI k)) - 1) ((nI k / 14)) (w + 1)) ((iMod (nI k)) + 1) ((nI k / 14)) (w + 1)).1 ((iMod (nI k))) ((nI k / 14) - 1))))), (5, .int ((nI k) / 14)), (4, .int (iMod (nI k))), (0, .ref (ad 1)), (1, .int w), (3, .int (nI k))]) hx hb dX1_spread_80 rfl hl (by decide) rfl (fun ls hl => ?_)
          refine lv_iload_n hx hb dX1_spread_81 rfl (lv_at hl 0 rfl) ?_
          refine lv_aload_n hx hb dX1_spread_82 rfl (lv_at hl 3 rfl) ?_
          refine lv_iload hx hb dX1_spread_83 (lv_at hl 2 rfl) ?_
          refine lv_iload hx hb dX1_spread_85 (lv_at hl 1 rfl) ?_
          refine lv_iconst (v := 1) hx hb dX1_spread_87 (by decide) ?_
          refine lv_iadd hx hb dX1_spread_88 ?_
          refine lv_iload_n hx hb dX1_spread_89 rfl (lv_at hl 4 rfl) ?_
          refine lv_iconst (v := 1) hx hb dX1_spread_90 (by decide) ?_
          refine lv_iadd hx hb dX1_spread_91 ?_
          refine fk_di (fcV X hw (c_enter l g ad (fU M 4 (.inl (gI g, 140, .inl ((entF kf (entF kf (entF kf (sprF kf sf w k) ((iMod (nI k)) - 1) ((nI k / 14)) (w + 1)) ((iMod (nI k)) + 1) ((nI k / 14)) (w + 1)) ((iMod (nI k))) ((nI k / 14) - 1) (w + 1)).1)))) (hGG _) ((iMod (nI k))) ((nI k / 14) + 1) (w + 1)) (h0 _) rfl wq844 kVX1_enter ⟨(Nat.le_of_ble_eq_true rfl), (Nat.le_of_ble_eq_true rfl)⟩ rfl hl.1 rfl (Nat.le_of_ble_eq_true rfl) dX1_spread_92 ⟨Nat.le_refl _, Nat.le_refl _⟩) hw (fun H locs hw => ?_)
          rw [fU_U] at hw
          have hw : fw g ad (fU M 4 (.inl (gI g, 140, .inl ((entF kf (entF kf (entF kf (entF kf (sprF kf sf w k) ((iMod (nI k)) - 1) ((nI k / 14)) (w + 1)) ((iMod (nI k)) + 1) ((nI k / 14)) (w + 1)) ((iMod (nI k))) ((nI k / 14) - 1) (w + 1)) ((iMod (nI k))) ((nI k / 14) + 1) (w + 1)).1)))) s H locs := hw
          refine lv_iadd hx hb dX1_spread_95 ?_
          refine lv_istore_n (lv' := [(2, .int ((((((sprF kf sf w k).2) + (bI (entC kf (sprF kf sf w k).1 ((iMod (nI k)) - 1) ((nI k / 14))))) + (bI (entC kf (entF kf (sprF kf sf w k) ((iMod (nI k)) - 1) ((nI k / 14)) (w + 1)).1 ((iMod (nI k)) + 1) ((nI k / 14))))) + (bI (entC kf (entF kf (entF kf (sprF kf sf w k) ((iMod (nI k)) - 1) ((nI k / 14)) (w + 1)) ((iMod (nI k)) + 1) ((nI k / 14)) (w + 1)).1 ((iMod (nI k))) ((nI k / 14) - 1)))) + (bI (entC kf (entF kf (entF kf (entF kf (sprF kf sf w k) ((iMod (nI k)) - 1) ((nI k / 14)) (w + 1)) ((iMod (nI k)) + 1) ((nI k / 14)) (w + 1)) ((iMod (nI k))) ((nI k / 14) - 1) (w + 1)).1 ((iMod (nI k))) ((nI k / 14) + 1))))), (5, .int ((nI k) / 14)), (4, .int (iMod (nI k))), (0, .ref (ad 1)), (1, .int w), (3, .int (nI k))]) hx hb dX1_spread_96 rfl hl (by decide) rfl (fun ls hl => ?_)
          refine lv_iinc (v := nI (k + 1)) (lv' := [(3, .int (nI (k + 1))), (2, .int ((((((sprF kf sf w k).2) + (bI (entC kf (sprF kf sf w k).1 ((iMod (nI k)) - 1) ((nI k / 14))))) + (bI (entC kf (entF kf (sprF kf sf w k) ((iMod (nI k)) - 1) ((nI k / 14)) (w + 1)).1 ((iMod (nI k)) + 1) ((nI k / 14))))) + (bI (entC kf (entF kf (entF kf (sprF kf sf w k) ((iMod (nI k)) - 1) ((nI k / 14)) (w + 1)) ((iMod (nI k)) + 1) ((nI k / 14)) (w + 1)).1 ((iMod (nI k))) ((nI k / 14) - 1)))) + (bI (entC kf (entF kf (entF kf (entF kf (sprF kf sf w k) ((iMod (nI k)) - 1) ((nI k / 14)) (w + 1)) ((iMod (nI k)) + 1) ((nI k / 14)) (w + 1)) ((iMod (nI k))) ((nI k / 14) - 1) (w + 1)).1 ((iMod (nI k))) ((nI k / 14) + 1))))), (5, .int ((nI k) / 14)), (4, .int (iMod (nI k))), (0, .ref (ad 1)), (1, .int w)]) hx hb dX1_spread_97 hl (k := 5) rfl (nI_1 k) (by decide) rfl (fun ls hl => ?_)
          refine lv_goto (tgt := 4) hx hb dX1_spread_100 (by decide) ?_
          have hsp : sprF kf sf w (k + 1) = (entF kf (entF kf (entF kf (entF kf (sprF kf sf w k) ((iMod (nI k)) - 1) ((nI k / 14)) (w + 1)) ((iMod (nI k)) + 1) ((nI k / 14)) (w + 1)) ((iMod (nI k))) ((nI k / 14) - 1) (w + 1)) ((iMod (nI k))) ((nI k / 14) + 1) (w + 1)) := by rw [sprF, if_pos c_2]
          rw [← hsp] at hw
          exact ih4 (k + 1) (by omega) (by omega) ls _ _ hw (by rw [show ((sprF kf sf w (k + 1)).2) = ((((((sprF kf sf w k).2) + (bI (entC kf (sprF kf sf w k).1 ((iMod (nI k)) - 1) ((nI k / 14))))) + (bI (entC kf (entF kf (sprF kf sf w k) ((iMod (nI k)) - 1) ((nI k / 14)) (w + 1)).1 ((iMod (nI k)) + 1) ((nI k / 14))))) + (bI (entC kf (entF kf (entF kf (sprF kf sf w k) ((iMod (nI k)) - 1) ((nI k / 14)) (w + 1)) ((iMod (nI k)) + 1) ((nI k / 14)) (w + 1)).1 ((iMod (nI k))) ((nI k / 14) - 1)))) + (bI (entC kf (entF kf (entF kf (entF kf (sprF kf sf w k) ((iMod (nI k)) - 1) ((nI k / 14)) (w + 1)) ((iMod (nI k)) + 1) ((nI k / 14)) (w + 1)) ((iMod (nI k))) ((nI k / 14) - 1) (w + 1)).1 ((iMod (nI k))) ((nI k / 14) + 1)))) from (by rw [hsp]; try rfl)]; exact lv_sub hl [4, 5, 1, 0] rfl)
  rw [show M = (fU M 4 (.inl (gI g, 140, .inl ((sprF kf sf w 0).1)))) from (fU_same hGs).symm] at hw
  exact loop4 (140 + 1) 0 (by omega) (by omega) ls _ _ hw (lv_sub hl [2, 3, 1, 0] rfl)
set_option maxHeartbeats 4000000 in
set_option maxRecDepth 100000 in
theorem c_stepsBetween (l : Launch) (g : fG) (ad : Nat → Nat) (M : fM) {kf nf sf : Nat → Int32} (hG : isGround g ad M kf nf sf) {a b2 : Nat} (ha : a < 140) (hb2 : b2 < 140) : fCi l g yX1_stepsBetween cX1_stepsBetween 5 ((some .int)) 4 91 0 0 ad M [.ref (ad 1), .int (nI a), .int (nI b2)] (fDi ad (fU M 4 (.inl (gI g, 140, .inl (stepsF kf sf a b2)))) (stepsR kf sf a b2)) := by
  refine f_body (own := RX1) (by decide +kernel) rfl (Nat.le_of_ble_eq_true rfl) ?_
  intro p e s m args below meth c ls X hw hin hl
  have hx := X.1
  have hb := X.2.1
  have hl : lv_has ls 5 [(0, .ref (ad 1)), (1, .int (nI a)), (2, .int (nI b2))] := hl
  obtain ⟨hG0, hGk, hGn, hGs⟩ := id hG
  have h0 : ∀ e, (fU M 4 e) 1 = some (.inr (2, [.ref (ad 2), .ref (ad 3), .ref (ad 4)])) := fun e => (fU_n (by decide)).trans hG0
  have hGG : ∀ F, isGround g ad (fU M 4 (.inl (gI g, 140, .inl F))) kf nf F := fun F => ⟨h0 _, (fU_n (by decide)).trans hGk, (fU_n (by decide)).trans hGn, fU_s⟩
  refine lv_aload_n hx hb dX1_stepsBetween_0 rfl (lv_at hl 0 rfl) ?_
  refine lv_iload_n hx hb dX1_stepsBetween_1 rfl (lv_at hl 1 rfl) ?_
  refine fk_di (fcV X hw (c_isStreet l g ad M hG (nI a)) hG0 rfl wq708 kVX1_isStreet ⟨(Nat.le_of_ble_eq_true rfl), (Nat.le_of_ble_eq_true rfl)⟩ rfl hl.1 rfl (Nat.le_of_ble_eq_true rfl) dX1_stepsBetween_2 ⟨Nat.le_refl _, Nat.le_refl _⟩) hw (fun H locs hw => ?_)
  refine lv_if_eq (tgt := 16) hx hb dX1_stepsBetween_5 (by decide) (fun c_1 => ?_) (fun c_1 => ?_)
  · have c_1 := bI_f.mp c_1
    refine lv_iconst (v := (-1)) hx hb dX1_stepsBetween_16 (by decide) ?_
    exact f_iret X hw ⟨rfl, by rw [stepsF_no (by rw [c_1]; rfl)]; exact (fU_same hGs).symm, by rw [stepsR_no (by rw [c_1]; rfl)]⟩ (Nat.le_refl _) (Nat.le_refl _) dX1_stepsBetween_17
  · have c_1 := bI_nf.mp c_1
    refine lv_aload_n hx hb dX1_stepsBetween_8 rfl (lv_at hl 0 rfl) ?_
    refine lv_iload_n hx hb dX1_stepsBetween_9 rfl (lv_at hl 2 rfl) ?_
    refine fk_di (fcV X hw (c_isStreet l g ad M hG (nI b2)) hG0 rfl wq708 kVX1_isStreet ⟨(Nat.le_of_ble_eq_true rfl), (Nat.le_of_ble_eq_true rfl)⟩ rfl hl.1 rfl (Nat.le_of_ble_eq_true rfl) dX1_stepsBetween_10 ⟨Nat.le_refl _, Nat.le_refl _⟩) hw (fun H locs hw => ?_)
    refine lv_if_ne (tgt := 18) hx hb dX1_stepsBetween_13 (by decide) (fun c_2 => ?_) (fun c_2 => ?_)
    · have c_2 := bI_nf.mp c_2
      refine lv_aload_n hx hb dX1_stepsBetween_18 rfl (lv_at hl 0 rfl) ?_
      refine f_get X hw hG0 fc2 2 (by decide) wq41 rfl (v := .ref (ad 4)) rfl dX1_stepsBetween_19 ?_
      refine lv_iconst (v := (-1)) hx hb dX1_stepsBetween_22 (by decide) ?_
      refine fk_dv (fcS X hw (c_fill l g ad M hGs (by omega) (-1)) wq837 kSJ7_fill_53178 ⟨(Nat.le_of_ble_eq_true rfl), (Nat.le_of_ble_eq_true rfl)⟩ rfl hl.1 rfl (Nat.le_of_ble_eq_true rfl) dX1_stepsBetween_23 ⟨Nat.le_refl _, Nat.le_refl _⟩) hw (fun H locs hw => ?_)
      refine lv_aload_n hx hb dX1_stepsBetween_26 rfl (lv_at hl 0 rfl) ?_
      refine f_get X hw (h0 _) fc2 2 (by decide) wq41 rfl (v := .ref (ad 4)) rfl dX1_stepsBetween_27 ?_
      refine lv_iload_n hx hb dX1_stepsBetween_30 rfl (lv_at hl 1 rfl) ?_
      refine lv_iconst (v := 0) hx hb dX1_stepsBetween_31 (by decide) ?_
      refine f_iast X hw fU_s (vp_in_nI (n := a) (by omega) (by omega)) dX1_stepsBetween_32 (fun H locs hw => ?_)
      rw [nI_clamp (n := a) (by omega)] at hw
      rw [fU_U] at hw
      refine lv_iconst (v := 1) hx hb dX1_stepsBetween_33 (by decide) ?_
      refine lv_istore_n (lv' := [(3, .int 1), (0, .ref (ad 1)), (1, .int (nI a)), (2, .int (nI b2))]) hx hb dX1_stepsBetween_34 rfl hl (by decide) rfl (fun ls hl => ?_)
      refine lv_iconst (v := 0) hx hb dX1_stepsBetween_35 (by decide) ?_
      refine lv_istore (lv' := [(4, .int 0), (3, .int 1), (0, .ref (ad 1)), (1, .int (nI a)), (2, .int (nI b2))]) hx hb dX1_stepsBetween_36 hl (by decide) rfl (fun ls hl => ?_)
      have loop38 : ∀ (n38 k : Nat), k ≤ 140 → 140 < k + n38 → ∀ (ls : Array Slot) (H : Heap) (locs : List Loc), fw g ad (fU M 4 (.inl (gI g, 140, .inl ((wavG kf sf a b2 k).1)))) s H locs → lv_has ls 5 [(0, .ref (ad 1)), (1, .int (nI a)), (2, .int (nI b2)), (3, .int ((wavG kf sf a b2 k).2)), (4, .int (nI k))] → W p l e (fR 4 91 0 0) s m args below meth c H locs 0 0 (MQ below (fQi g (fDi ad (fU M 4 (.inl (gI g, 140, .inl (stepsF kf sf a b2)))) (stepsR kf sf a b2))) args s 0 0 (fA g)) (F0 m 38 ls []) := by
        intro n38
        induction n38 with
        | zero => intro k h1 h2; omega
        | succ n38 ih38 =>
          intro k hk_k hn_k ls H locs hw hl
          refine lv_iload hx hb dX1_stepsBetween_38 (lv_at hl 4 rfl) ?_
          refine lv_sipush (v := 140) hx hb dX1_stepsBetween_40 (by decide) ?_
          refine lv_icmp_ge (tgt := 73) hx hb dX1_stepsBetween_43 (by decide) (fun c_3 => ?_) (fun c_3 => ?_)
          · have c_3 := nI_le' (a := 140) (b := k) c_3 (by omega) (by omega)
            refine lv_aload_n hx hb dX1_stepsBetween_73 rfl (lv_at hl 0 rfl) ?_
            refine f_get X hw (h0 _) fc2 2 (by decide) wq41 rfl (v := .ref (ad 4)) rfl dX1_stepsBetween_74 ?_
            refine lv_iload_n hx hb dX1_stepsBetween_77 rfl (lv_at hl 2 rfl) ?_
            refine f_iald X hw fU_s (vp_in_nI (n := b2) (by omega) (by omega)) dX1_stepsBetween_78 ?_
            rw [nI_clamp (n := b2) (by omega)]
            exact f_iret X hw ⟨rfl, by rw [stepsF_yes (by rw [c_1, c_2]; rfl)]; rw [show k = 140 by omega], by rw [stepsR_yes (by rw [c_1, c_2]; rfl)]; rw [show k = 140 by omega]⟩ (Nat.le_refl _) (Nat.le_refl _) dX1_stepsBetween_79
          · have c_3 := nI_nle' (a := 140) (b := k) c_3 (by omega) (by omega)
            refine lv_iload_n hx hb dX1_stepsBetween_46 rfl (lv_at hl 3 rfl) ?_
            refine lv_if_le (tgt := 73) hx hb dX1_stepsBetween_47 (by decide) (fun c_4 => ?_) (fun c_4 => ?_)
            · refine lv_aload_n hx hb dX1_stepsBetween_73 rfl (lv_at hl 0 rfl) ?_
              refine f_get X hw (h0 _) fc2 2 (by decide) wq41 rfl (v := .ref (ad 4)) rfl dX1_stepsBetween_74 ?_
              refine lv_iload_n hx hb dX1_stepsBetween_77 rfl (lv_at hl 2 rfl) ?_
              refine f_iald X hw fU_s (vp_in_nI (n := b2) (by omega) (by omega)) dX1_stepsBetween_78 ?_
              rw [nI_clamp (n := b2) (by omega)]
              exact f_iret X hw ⟨rfl, by rw [stepsF_yes (by rw [c_1, c_2]; rfl)]; have hst := wavG_stop (kf := kf) (sf := sf) (fr := a) (to := b2) (k := k) (fun z => absurd z.1 (Int32.not_lt.mpr c_4)) (140 - k); rw [show k + (140 - k) = 140 by omega] at hst; rw [hst], by rw [stepsR_yes (by rw [c_1, c_2]; rfl)]; have hst := wavG_stop (kf := kf) (sf := sf) (fr := a) (to := b2) (k := k) (fun z => absurd z.1 (Int32.not_lt.mpr c_4)) (140 - k); rw [show k + (140 - k) = 140 by omega] at hst; rw [hst]⟩ (Nat.le_refl _) (Nat.le_refl _) dX1_stepsBetween_79
            · refine lv_aload_n hx hb dX1_stepsBetween_50 rfl (lv_at hl 0 rfl) ?_
              refine f_get X hw (h0 _) fc2 2 (by decide) wq41 rfl (v := .ref (ad 4)) rfl dX1_stepsBetween_51 ?_
              refine lv_iload_n hx hb dX1_stepsBetween_54 rfl (lv_at hl 2 rfl) ?_
              refine f_iald X hw fU_s (vp_in_nI (n := b2) (by omega) (by omega)) dX1_stepsBetween_55 ?_
              rw [nI_clamp (n := b2) (by omega)]
              refine lv_iconst (v := (-1)) hx hb dX1_stepsBetween_56 (by decide) ?_
              refine lv_icmp_ne (tgt := 73) hx hb dX1_stepsBetween_57 (by decide) (fun c_5 => ?_) (fun c_5 => ?_)
              · refine lv_aload_n hx hb dX1_stepsBetween_73 rfl (lv_at hl 0 rfl) ?_
                refine f_get X hw (h0 _) fc2 2 (by decide) wq41 rfl (v := .ref (ad 4)) rfl dX1_stepsBetween_74 ?_
                refine lv_iload_n hx hb dX1_stepsBetween_77 rfl (lv_at hl 2 rfl) ?_
                refine f_iald X hw fU_s (vp_in_nI (n := b2) (by omega) (by omega)) dX1_stepsBetween_78 ?_
                rw [nI_clamp (n := b2) (by omega)]
                exact f_iret X hw ⟨rfl, by rw [stepsF_yes (by rw [c_1, c_2]; rfl)]; have hst := wavG_stop (kf := kf) (sf := sf) (fr := a) (to := b2) (k := k) (fun z => absurd z.2 c_5) (140 - k); rw [show k + (140 - k) = 140 by omega] at hst; rw [hst], by rw [stepsR_yes (by rw [c_1, c_2]; rfl)]; have hst := wavG_stop (kf := kf) (sf := sf) (fr := a) (to := b2) (k := k) (fun z => absurd z.2 c_5) (140 - k); rw [show k + (140 - k) = 140 by omega] at hst; rw [hst]⟩ (Nat.le_refl _) (Nat.le_refl _) dX1_stepsBetween_79
              · refine lv_aload_n hx hb dX1_stepsBetween_60 rfl (lv_at hl 0 rfl) ?_
                refine lv_iload hx hb dX1_stepsBetween_61 (lv_at hl 4 rfl) ?_
                refine fk_di (fcV X hw (c_spread l g ad (fU M 4 (.inl (gI g, 140, .inl ((wavG kf sf a b2 k).1)))) (hGG _) (nI k)) (h0 _) rfl wq840 kVX1_spread ⟨(Nat.le_of_ble_eq_true rfl), (Nat.le_of_ble_eq_true rfl)⟩ rfl hl.1 rfl (Nat.le_of_ble_eq_true rfl) dX1_stepsBetween_63 ⟨Nat.le_refl _, Nat.le_refl _⟩) hw (fun H locs hw => ?_)
                rw [fU_U] at hw
                refine lv_istore_n (lv' := [(3, .int ((sprF kf (wavG kf sf a b2 k).1 (nI k) 140).2)), (0, .ref (ad 1)), (1, .int (nI a)), (2, .int (nI b2)), (4, .int (nI k))]) hx hb dX1_stepsBetween_66 rfl hl (by decide) rfl (fun ls hl => ?_)
                refine lv_iinc (v := nI (k + 1)) (lv' := [(4, .int (nI (k + 1))), (3, .int ((sprF kf (wavG kf sf a b2 k).1 (nI k) 140).2)), (0, .ref (ad 1)), (1, .int (nI a)), (2, .int (nI b2))]) hx hb dX1_stepsBetween_67 hl (k := 4) rfl (nI_1 k) (by decide) rfl (fun ls hl => ?_)
                refine lv_goto (tgt := 38) hx hb dX1_stepsBetween_70 (by decide) ?_
                have hwv : wavG kf sf a b2 (k + 1) = sprF kf (wavG kf sf a b2 k).1 (nI k) 140 := by rw [wavG, if_pos (Int32.not_le.mp c_4), if_pos c_5]
                rw [← hwv] at hw
                exact ih38 (k + 1) (by omega) (by omega) ls _ _ hw (by rw [show ((wavG kf sf a b2 (k + 1)).2) = ((sprF kf (wavG kf sf a b2 k).1 (nI k) 140).2) from (by rw [hwv])]; exact lv_sub hl [2, 3, 4, 1, 0] rfl)
      exact loop38 (140 + 1) 0 (by omega) (by omega) ls _ _ hw (lv_sub hl [2, 3, 4, 1, 0] rfl)
    · have c_2 := bI_f.mp c_2
      refine lv_iconst (v := (-1)) hx hb dX1_stepsBetween_16 (by decide) ?_
      exact f_iret X hw ⟨rfl, by rw [stepsF_no (by rw [c_1, c_2]; rfl)]; exact (fU_same hGs).symm, by rw [stepsR_no (by rw [c_1, c_2]; rfl)]⟩ (Nat.le_refl _) (Nat.le_refl _) dX1_stepsBetween_17
