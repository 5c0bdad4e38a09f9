/-! the ways, as the reference looks for them -/
def wy0 (sp : Nat → Int32) (a k : Nat) : Nat → Int32 := fun j => if j < k then (if j = a then 0 else -1) else sp j
theorem wy0_0 {sp : Nat → Int32} {a : Nat} : wy0 sp a 0 = sp := by funext j; exact if_neg (Nat.not_lt_zero _)
theorem wy0_step {sp : Nat → Int32} {a k : Nat} {v : Int32} (h : v = if k = a then 0 else -1) : upd (wy0 sp a k) k v = wy0 sp a (k + 1) := by
  funext j
  unfold wy0
  by_cases e : j = k
  · subst e; rw [upd_at, if_pos (by omega), h]
  · rw [upd_ne e]
    by_cases e2 : j < k
    · rw [if_pos e2, if_pos (show j < k + 1 by omega)]
    · rw [if_neg e2, if_neg (show ¬ j < k + 1 by omega)]
def wyN (s : Nat → Int32) (n k : Nat) : Bool := (decide (14 ≤ k) && decide (s (k - 14) = nI n)) || ((decide (k + 14 < 140) && decide (s (k + 14) = nI n)) || ((decide (0 < k % 14) && decide (s (k - 1) = nI n)) || (decide (k % 14 < 13) && decide (s (k + 1) = nI n))))
def wyB (U : fTn) (s : Nat → Int32) (n k : Nat) : Bool := decide (s k = -1) && (mSt U (nI k) && wyN s n k)
theorem wyB_no {U : fTn} {s : Nat → Int32} {n k : Nat} (h : s k = -1 → ¬ mSt U (nI k) = false → ((14 ≤ k → s (k - 14) = nI n → False) ∧ (k + 14 < 140 → s (k + 14) = nI n → False) ∧ (0 < k % 14 → s (k - 1) = nI n → False) ∧ (k % 14 < 13 → s (k + 1) = nI n → False))) : ¬ wyB U s n k = true := by
  intro z
  simp only [wyB, wyN, Bool.and_eq_true, Bool.or_eq_true, decide_eq_true_eq] at z
  obtain ⟨z1, z2, z3⟩ := z
  obtain ⟨h1, h2, h3, h4⟩ := h z1 (by rw [z2]; decide)
  rcases z3 with ⟨a, b⟩ | ⟨a, b⟩ | ⟨a, b⟩ | ⟨a, b⟩
  · exact h1 a b
  · exact h2 a b
  · exact h3 a b
  · exact h4 a b
theorem wyB_yes {U : fTn} {s : Nat → Int32} {n k : Nat} (h1 : s k = -1) (h2 : mSt U (nI k) = true) (h3 : (14 ≤ k ∧ s (k - 14) = nI n) ∨ (k + 14 < 140 ∧ s (k + 14) = nI n) ∨ (0 < k % 14 ∧ s (k - 1) = nI n) ∨ (k % 14 < 13 ∧ s (k + 1) = nI n)) : wyB U s n k = true := by
  simp only [wyB, wyN, Bool.and_eq_true, Bool.or_eq_true, decide_eq_true_eq]
  exact ⟨h1, h2, h3⟩
def wyI (U : fTn) (n : Nat) (s : Nat → Int32) : Nat → (Nat → Int32)
  | 0 => s
  | k + 1 => if wyB U (wyI U n s k) n k = true then upd (wyI U n s k) k (nI (n + 1)) else wyI U n s k
def wyO (U : fTn) (sp : Nat → Int32) (a b : Nat) : Nat → (Nat → Int32)
  | 0 => wy0 sp a 140
  | n + 1 => if wyO U sp a b n b = -1 then wyI U n (wyO U sp a b n) 140 else wyO U sp a b n
theorem wyO_stop {U : fTn} {sp : Nat → Int32} {a b n : Nat} (h : ¬ wyO U sp a b n b = -1) : ∀ m, wyO U sp a b (n + m) = wyO U sp a b n := by
  intro m
  induction m with
  | zero => rfl
  | succ m ih =>
    show (if wyO U sp a b (n + m) b = -1 then _ else wyO U sp a b (n + m)) = _
    rw [ih, if_neg h]
abbrev fMs (g : fG) (ad : Nat → Nat) (M : fM) (th : Int32) (U : fTn) (sp ca : Nat → Int32) (v : Int32) : Int32 → (Nat → Nat) → fM → Prop := fun r ad1 M1 => ad1 = ad ∧ isMo g ad M1 th U sp ca ∧ fReg 5 15 ad M ad M1 ∧ r = v
set_option maxHeartbeats 4000000 in
set_option maxRecDepth 100000 in
theorem c_m_way (l : Launch) (g : fG) (ad : Nat → Nat) (M : fM) {th : Int32} {U : fTn} {sp ca : Nat → Int32} (hM : isMo g ad M th U sp ca) {a b2 : Nat} (ha : a < 140) (hb2 : b2 < 140) : fCi l g yX6_way cX6_way 6 ((some .int)) 4 90 0 0 ad M [.ref (ad 5), .int (nI a), .int (nI b2)] (fMs g ad M th U (wyO U sp a b2 140) ca (wyO U sp a b2 140 b2)) := by
  refine f_body (own := RX6) (by decide +kernel) rfl (Nat.le_of_ble_eq_true rfl) ?_
  intro p e s m args below meth c ls X hw hin hl
  have hx := X.1
  have hb := X.2.1
  have hl : lv_has ls 6 [(0, .ref (ad 5)), (1, .int (nI a)), (2, .int (nI b2))] := hl
  obtain ⟨pcs, wa, ht, et, mi, co, as, hMo, ⟨hm6, hm7, hm8, hm9, hm10, hm11, hm12, hm13, hm14⟩, hRel, hCnt⟩ := id hM
  obtain ⟨hn1, hn2, hn3⟩ := id hCnt
  have hn1 : tHn U ≤ 30 := hn1
  have hn2 : tPn U ≤ 6 := hn2
  have hn3 : tEn U ≤ 6 := hn3
  have hMo : M 5 = some (.inr (7, [.int th, .int (nI (tHn U)), .int (nI (tPn U)), .int (nI (tEn U)), .ref (ad 6), .ref (ad 7), .ref (ad 8), .ref (ad 9), .ref (ad 10), .ref (ad 11), .ref (ad 12), .ref (ad 13), .ref (ad 14)])) := hMo
  obtain ⟨rH, rP, rE, rM⟩ := id hRel
  obtain ⟨Mo, hMq⟩ : ∃ z, z = M := ⟨_, rfl⟩
  have hrA : fReg 5 15 ad Mo ad M := by rw [hMq]; exact fReg_rf
  obtain ⟨Q9, hQ9⟩ : ∃ z, z = MQ below (fQi g (fMs g ad M th U (wyO U sp a b2 140) ca (wyO U sp a b2 140 b2))) args s 0 0 (fA g) := ⟨_, rfl⟩
  show W p l e (fR 4 90 0 0) s m args below meth c _ _ 0 0 (MQ below (fQi g (fMs g ad M th U (wyO U sp a b2 140) ca (wyO U sp a b2 140 b2))) args s 0 0 (fA g)) (F0 m 0 ls [])
  rw [← hQ9]
  refine lv_iconst (v := 0) hx hb dX6_way_0 (by decide) ?_
  refine lv_istore_n (lv' := [(3, .int 0), (0, .ref (ad 5)), (1, .int (nI a)), (2, .int (nI b2))]) hx hb dX6_way_1 rfl hl (by decide) rfl (fun ls hl => ?_)
  have loop2 : ∀ (n2 k : Nat), k ≤ 140 → 140 < k + n2 → ∀ (M : fM) (hM : isMo g ad M th (U) (wy0 sp a k) ca) (hrA : fReg 5 15 ad Mo ad M) (ls : Array Slot) (H : Heap) (locs : List Loc), fw g ad M s H locs → lv_has ls 6 [(3, .int (nI k)), (0, .ref (ad 5)), (1, .int (nI a)), (2, .int (nI b2))] → W p l e (fR 4 90 0 0) s m args below meth c H locs 0 0 Q9 (F0 m 2 ls []) := by
    intro n2
    induction n2 with
    | zero => intro k h1 h2; omega
    | succ n2 ih2 =>
      intro k hk_k hn_k M hM hrA ls H locs hw hl
      obtain ⟨pcs, wa, ht, et, mi, co, as, hMo, ⟨hm6, hm7, hm8, hm9, hm10, hm11, hm12, hm13, hm14⟩, hRel, hCnt⟩ := id hM
      obtain ⟨hn1, hn2, hn3⟩ := id hCnt
      have hn1 : tHn U ≤ 30 := hn1
      have hn2 : tPn U ≤ 6 := hn2
      have hn3 : tEn U ≤ 6 := hn3
      have hMo : M 5 = some (.inr (7, [.int th, .int (nI (tHn U)), .int (nI (tPn U)), .int (nI (tEn U)), .ref (ad 6), .ref (ad 7), .ref (ad 8), .ref (ad 9), .ref (ad 10), .ref (ad 11), .ref (ad 12), .ref (ad 13), .ref (ad 14)])) := hMo
      obtain ⟨rH, rP, rE, rM⟩ := id hRel
      refine lv_iload_n hx hb dX6_way_2 rfl (lv_at hl 0 rfl) ?_
      refine lv_sipush (v := 140) hx hb dX6_way_3 (by decide) ?_
      refine lv_icmp_ge (tgt := 31) hx hb dX6_way_6 (by decide) (fun c_1 => ?_) (fun c_1 => ?_)
      · have c_1 := nI_le' (a := 140) (b := k) c_1 (by omega) (by omega)
        refine lv_iconst (v := 0) hx hb dX6_way_31 (by decide) ?_
        refine lv_istore_n (lv' := [(3, .int 0), (0, .ref (ad 5)), (1, .int (nI a)), (2, .int (nI b2))]) hx hb dX6_way_32 rfl hl (by decide) rfl (fun ls hl => ?_)
        have loop33 : ∀ (n33 n : Nat), n ≤ 140 → 140 < n + n33 → ∀ (M : fM) (hM : isMo g ad M th (U) (wyO U sp a b2 n) ca) (hrA : fReg 5 15 ad Mo ad M) (ls : Array Slot) (H : Heap) (locs : List Loc), fw g ad M s H locs → lv_has ls 6 [(3, .int (nI n)), (0, .ref (ad 5)), (1, .int (nI a)), (2, .int (nI b2))] → W p l e (fR 4 90 0 0) s m args below meth c H locs 0 0 Q9 (F0 m 33 ls []) := by
          intro n33
          induction n33 with
          | zero => intro n h1 h2; omega
          | succ n33 ih33 =>
            intro n hk_n hn_n M hM hrA ls H locs hw hl
            obtain ⟨pcs, wa, ht, et, mi, co, as, hMo, ⟨hm6, hm7, hm8, hm9, hm10, hm11, hm12, hm13, hm14⟩, hRel, hCnt⟩ := id hM
            obtain ⟨hn1, hn2, hn3⟩ := id hCnt
            have hn1 : tHn U ≤ 30 := hn1
            have hn2 : tPn U ≤ 6 := hn2
            have hn3 : tEn U ≤ 6 := hn3
            have hMo : M 5 = some (.inr (7, [.int th, .int (nI (tHn U)), .int (nI (tPn U)), .int (nI (tEn U)), .ref (ad 6), .ref (ad 7), .ref (ad 8), .ref (ad 9), .ref (ad 10), .ref (ad 11), .ref (ad 12), .ref (ad 13), .ref (ad 14)])) := hMo
            obtain ⟨rH, rP, rE, rM⟩ := id hRel
            refine lv_iload_n hx hb dX6_way_33 rfl (lv_at hl 0 rfl) ?_
            refine lv_sipush (v := 140) hx hb dX6_way_34 (by decide) ?_
            refine lv_icmp_ge (tgt := 220) hx hb dX6_way_37 (by decide) (fun c_2 => ?_) (fun c_2 => ?_)
            · have c_2 := nI_le' (a := 140) (b := n) c_2 (by omega) (by omega)
              refine lv_aload_n hx hb dX6_way_220 rfl (lv_at hl 1 rfl) ?_
              refine f_get X hw hMo fc7 11 (by decide) wq805 rfl (v := .ref (ad 13)) rfl dX6_way_221 ?_
              refine lv_iload_n hx hb dX6_way_224 rfl (lv_at hl 3 rfl) ?_
              refine f_iald X hw hm13 (vp_in_nI (n := b2) (by omega) (by omega)) dX6_way_225 ?_
              rw [nI_clamp (n := b2) (by omega)]
              rw [hQ9, ← hMq]
              have e9 : wyO U sp a b2 140 = wyO U sp a b2 n := by rw [show n = 140 by omega]
              exact f_iret X hw ⟨rfl, by rw [e9]; exact hM, hrA, by rw [e9]⟩ (Nat.le_refl _) (Nat.le_refl _) dX6_way_226
            · have c_2 := nI_nle' (a := 140) (b := n) c_2 (by omega) (by omega)
              refine lv_aload_n hx hb dX6_way_40 rfl (lv_at hl 1 rfl) ?_
              refine f_get X hw hMo fc7 11 (by decide) wq805 rfl (v := .ref (ad 13)) rfl dX6_way_41 ?_
              refine lv_iload_n hx hb dX6_way_44 rfl (lv_at hl 3 rfl) ?_
              refine f_iald X hw hm13 (vp_in_nI (n := b2) (by omega) (by omega)) dX6_way_45 ?_
              rw [nI_clamp (n := b2) (by omega)]
              refine lv_iconst (v := (-1)) hx hb dX6_way_46 (by decide) ?_
              refine lv_icmp_ne (tgt := 220) hx hb dX6_way_47 (by decide) (fun c_3 => ?_) (fun c_3 => ?_)
              · refine lv_aload_n hx hb dX6_way_220 rfl (lv_at hl 1 rfl) ?_
                refine f_get X hw hMo fc7 11 (by decide) wq805 rfl (v := .ref (ad 13)) rfl dX6_way_221 ?_
                refine lv_iload_n hx hb dX6_way_224 rfl (lv_at hl 3 rfl) ?_
                refine f_iald X hw hm13 (vp_in_nI (n := b2) (by omega) (by omega)) dX6_way_225 ?_
                rw [nI_clamp (n := b2) (by omega)]
                rw [hQ9, ← hMq]
                have e9 : wyO U sp a b2 140 = wyO U sp a b2 n := by have := wyO_stop c_3 (140 - n); rwa [show n + (140 - n) = 140 by omega] at this
                exact f_iret X hw ⟨rfl, by rw [e9]; exact hM, hrA, by rw [e9]⟩ (Nat.le_refl _) (Nat.le_refl _) dX6_way_226
              · refine lv_iconst (v := 0) hx hb dX6_way_50 (by decide) ?_
                refine lv_istore (lv' := [(4, .int 0), (3, .int (nI n)), (0, .ref (ad 5)), (1, .int (nI a)), (2, .int (nI b2))]) hx hb dX6_way_51 hl (by decide) rfl (fun ls hl => ?_)
                obtain ⟨s0, hs0⟩ : ∃ z, z = wyO U sp a b2 n := ⟨_, rfl⟩
                rw [← hs0] at hM
                have loop53 : ∀ (n53 k : Nat), k ≤ 140 → 140 < k + n53 → ∀ (M : fM) (hM : isMo g ad M th (U) (wyI U n s0 k) ca) (hrA : fReg 5 15 ad Mo ad M) (ls : Array Slot) (H : Heap) (locs : List Loc), fw g ad M s H locs → lv_has ls 6 [(4, .int (nI k)), (3, .int (nI n)), (0, .ref (ad 5)), (1, .int (nI a)), (2, .int (nI b2))] → W p l e (fR 4 90 0 0) s m args below meth c H locs 0 0 Q9 (F0 m 53 ls []) := by
                  intro n53
                  induction n53 with
                  | zero => intro k h1 h2; omega
                  | succ n53 ih53 =>
                    intro k hk_k hn_k M hM hrA ls H locs hw hl
                    obtain ⟨S, hS⟩ : ∃ z, z = wyI U n s0 k := ⟨_, rfl⟩
                    rw [← hS] at hM
                    obtain ⟨pcs, wa, ht, et, mi, co, as, hMo, ⟨hm6, hm7, hm8, hm9, hm10, hm11, hm12, hm13, hm14⟩, hRel, hCnt⟩ := id hM
                    obtain ⟨hn1, hn2, hn3⟩ := id hCnt
                    have hn1 : tHn U ≤ 30 := hn1
                    have hn2 : tPn U ≤ 6 := hn2
                    have hn3 : tEn U ≤ 6 := hn3
                    have hMo : M 5 = some (.inr (7, [.int th, .int (nI (tHn U)), .int (nI (tPn U)), .int (nI (tEn U)), .ref (ad 6), .ref (ad 7), .ref (ad 8), .ref (ad 9), .ref (ad 10), .ref (ad 11), .ref (ad 12), .ref (ad 13), .ref (ad 14)])) := hMo
                    obtain ⟨rH, rP, rE, rM⟩ := id hRel
                    refine lv_iload hx hb dX6_way_53 (lv_at hl 0 rfl) ?_
                    refine lv_sipush (v := 140) hx hb dX6_way_55 (by decide) ?_
                    refine lv_icmp_ge (tgt := 214) hx hb dX6_way_58 (by decide) (fun c_4 => ?_) (fun c_4 => ?_)
                    · have c_4 := nI_le' (a := 140) (b := k) c_4 (by omega) (by omega)
                      refine lv_iinc (v := nI (n + 1)) (lv' := [(3, .int (nI (n + 1))), (4, .int (nI k)), (0, .ref (ad 5)), (1, .int (nI a)), (2, .int (nI b2))]) hx hb dX6_way_214 hl (k := 1) rfl (nI_1 n) (by decide) rfl (fun ls hl => ?_)
                      refine lv_goto (tgt := 33) hx hb dX6_way_217 (by decide) ?_
                      rw [hS, show k = 140 by omega] at hM
                      have hM : isMo g ad M th U (wyO U sp a b2 (n + 1)) ca := by rw [show wyO U sp a b2 (n + 1) = wyI U n (wyO U sp a b2 n) 140 from if_pos c_3, ← hs0]; exact hM
                      exact ih33 (n + 1) (by omega) (by omega) M hM hrA ls _ _ hw (lv_sub hl [0, 2, 3, 4] rfl)
                    · have c_4 := nI_nle' (a := 140) (b := k) c_4 (by omega) (by omega)
                      refine lv_aload_n hx hb dX6_way_61 rfl (lv_at hl 2 rfl) ?_
                      refine f_get X hw hMo fc7 11 (by decide) wq805 rfl (v := .ref (ad 13)) rfl dX6_way_62 ?_
                      refine lv_iload hx hb dX6_way_65 (lv_at hl 0 rfl) ?_
                      refine f_iald X hw hm13 (vp_in_nI (n := k) (by omega) (by omega)) dX6_way_67 ?_
                      rw [nI_clamp (n := k) (by omega)]
                      refine lv_iconst (v := (-1)) hx hb dX6_way_68 (by decide) ?_
                      refine lv_icmp_ne (tgt := 208) hx hb dX6_way_69 (by decide) (fun c_5 => ?_) (fun c_5 => ?_)
                      · refine lv_iinc (v := nI (k + 1)) (lv' := [(4, .int (nI (k + 1))), (3, .int (nI n)), (0, .ref (ad 5)), (1, .int (nI a)), (2, .int (nI b2))]) hx hb dX6_way_208 hl (k := 0) rfl (nI_1 k) (by decide) rfl (fun ls hl => ?_)
                        refine lv_goto (tgt := 53) hx hb dX6_way_211 (by decide) ?_
                        have eW : S = wyI U n s0 (k + 1) := by show _ = (if wyB U (wyI U n s0 k) n k = true then upd (wyI U n s0 k) k (nI (n + 1)) else wyI U n s0 k); rw [← hS, if_neg (wyB_no (fun z1 z2 => ⟨fun q b => by first | omega | contradiction, fun q b => by first | omega | contradiction, fun q b => by first | omega | contradiction, fun q b => by first | omega | contradiction⟩))]
                        rw [eW] at hM
                        exact ih53 (k + 1) (by omega) (by omega) M hM hrA ls _ _ hw (lv_sub hl [0, 1, 2, 3, 4] rfl)
                      · refine lv_aload_n hx hb dX6_way_72 rfl (lv_at hl 2 rfl) ?_
                        refine lv_iload hx hb dX6_way_73 (lv_at hl 0 rfl) ?_
                        refine fk_di (fcV X hw (c_m_isStreet l g ad M hM (nI k)) hMo rfl wq857 kVX6_isStreet ⟨(Nat.le_of_ble_eq_true rfl), (Nat.le_of_ble_eq_true rfl)⟩ rfl hl.1 rfl (Nat.le_of_ble_eq_true rfl) dX6_way_75 ⟨Nat.le_refl _, Nat.le_refl _⟩) hw (fun H locs hw => ?_)
                        refine lv_if_ne (tgt := 84) hx hb dX6_way_78 (by decide) (fun c_6 => ?_) (fun c_6 => ?_)
                        · have c_6 := bI_nf.mp c_6
                          refine lv_iload hx hb dX6_way_84 (lv_at hl 0 rfl) ?_
                          refine lv_bipush (v := 14) hx hb dX6_way_86 (by decide) ?_
                          refine lv_icmp_lt (tgt := 105) hx hb dX6_way_88 (by decide) (fun c_7 => ?_) (fun c_7 => ?_)
                          · have c_7 := nI_lt' (a := k) (b := 14) c_7 (by omega) (by omega)
                            refine lv_iload hx hb dX6_way_105 (lv_at hl 0 rfl) ?_
                            refine lv_bipush (v := 14) hx hb dX6_way_107 (by decide) ?_
                            refine lv_iadd hx hb dX6_way_109 ?_
                            refine f_top (y := nI (k + 14)) (show nI k + nI 14 = nI (k + 14) from nI_add k 14) ?_
                            refine lv_sipush (v := 140) hx hb dX6_way_110 (by decide) ?_
                            refine lv_icmp_ge (tgt := 134) hx hb dX6_way_113 (by decide) (fun c_8 => ?_) (fun c_8 => ?_)
                            · have c_8 := nI_le' (a := 140) (b := (k + 14)) c_8 (by omega) (by omega)
                              refine lv_iconst (v := 0) hx hb dX6_way_134 (by decide) ?_
                              refine lv_istore (lv' := [(5, .int 0), (4, .int (nI k)), (3, .int (nI n)), (0, .ref (ad 5)), (1, .int (nI a)), (2, .int (nI b2))]) hx hb dX6_way_135 hl (by decide) rfl (fun ls hl => ?_)
                              refine lv_iload hx hb dX6_way_137 (lv_at hl 0 rfl) ?_
                              refine lv_if_ne (tgt := 186) hx hb dX6_way_139 (by decide) (fun c_9 => absurd rfl c_9) (fun c_9 => ?_)
                              refine lv_iload hx hb dX6_way_142 (lv_at hl 1 rfl) ?_
                              refine lv_bipush (v := 14) hx hb dX6_way_144 (by decide) ?_
                              refine lv_irem hx hb dX6_way_146 (by decide) ?_
                              refine f_top (y := nI (k % 14)) (show nI k - nI k / nI 14 * nI 14 = nI (k % 14) from pk_rem (by omega) (by decide) (by decide)) ?_
                              refine lv_if_le (tgt := 163) hx hb dX6_way_147 (by decide) (fun c_10 => ?_) (fun c_10 => ?_)
                              · have c_10 := nI_le' (a := (k % 14)) (b := 0) c_10 (by omega) (by omega)
                                refine lv_iload hx hb dX6_way_163 (lv_at hl 1 rfl) ?_
                                refine lv_bipush (v := 14) hx hb dX6_way_165 (by decide) ?_
                                refine lv_irem hx hb dX6_way_167 (by decide) ?_
                                refine f_top (y := nI (k % 14)) (show nI k - nI k / nI 14 * nI 14 = nI (k % 14) from pk_rem (by omega) (by decide) (by decide)) ?_
                                refine lv_bipush (v := 13) hx hb dX6_way_168 (by decide) ?_
                                refine lv_icmp_ge (tgt := 190) hx hb dX6_way_170 (by decide) (fun c_11 => ?_) (fun c_11 => ?_)
                                · have c_11 := nI_le' (a := 13) (b := (k % 14)) c_11 (by omega) (by omega)
                                  refine lv_iconst (v := 0) hx hb dX6_way_190 (by decide) ?_
                                  refine lv_istore (lv' := [(5, .int 0), (4, .int (nI k)), (3, .int (nI n)), (0, .ref (ad 5)), (1, .int (nI a)), (2, .int (nI b2))]) hx hb dX6_way_191 hl (by decide) rfl (fun ls hl => ?_)
                                  refine lv_iload hx hb dX6_way_193 (lv_at hl 0 rfl) ?_
                                  refine lv_if_eq (tgt := 208) hx hb dX6_way_195 (by decide) (fun c_12 => ?_) (fun c_12 => absurd rfl c_12)
                                  refine lv_iinc (v := nI (k + 1)) (lv' := [(4, .int (nI (k + 1))), (5, .int 0), (3, .int (nI n)), (0, .ref (ad 5)), (1, .int (nI a)), (2, .int (nI b2))]) hx hb dX6_way_208 hl (k := 1) rfl (nI_1 k) (by decide) rfl (fun ls hl => ?_)
                                  refine lv_goto (tgt := 53) hx hb dX6_way_211 (by decide) ?_
                                  have eW : S = wyI U n s0 (k + 1) := by show _ = (if wyB U (wyI U n s0 k) n k = true then upd (wyI U n s0 k) k (nI (n + 1)) else wyI U n s0 k); rw [← hS, if_neg (wyB_no (fun z1 z2 => ⟨fun q b => by first | omega | contradiction, fun q b => by first | omega | contradiction, fun q b => by first | omega | contradiction, fun q b => by first | omega | contradiction⟩))]
                                  rw [eW] at hM
                                  exact ih53 (k + 1) (by omega) (by omega) M hM hrA ls _ _ hw (lv_sub hl [0, 2, 3, 4, 5] rfl)
                                · have c_11 := nI_nle' (a := 13) (b := (k % 14)) c_11 (by omega) (by omega)
                                  refine lv_aload_n hx hb dX6_way_173 rfl (lv_at hl 3 rfl) ?_
                                  refine f_get X hw hMo fc7 11 (by decide) wq805 rfl (v := .ref (ad 13)) rfl dX6_way_174 ?_
                                  refine lv_iload hx hb dX6_way_177 (lv_at hl 1 rfl) ?_
                                  refine lv_iconst (v := 1) hx hb dX6_way_179 (by decide) ?_
                                  refine lv_iadd hx hb dX6_way_180 ?_
                                  refine f_top (y := nI (k + 1)) (nI_1 k) ?_
                                  refine f_iald X hw hm13 (vp_in_nI (n := (k + 1)) (by omega) (by omega)) dX6_way_181 ?_
                                  rw [nI_clamp (n := (k + 1)) (by omega)]
                                  refine lv_iload_n hx hb dX6_way_182 rfl (lv_at hl 2 rfl) ?_
                                  refine lv_icmp_ne (tgt := 190) hx hb dX6_way_183 (by decide) (fun c_13 => ?_) (fun c_13 => ?_)
                                  · refine lv_iconst (v := 0) hx hb dX6_way_190 (by decide) ?_
                                    refine lv_istore (lv' := [(5, .int 0), (4, .int (nI k)), (3, .int (nI n)), (0, .ref (ad 5)), (1, .int (nI a)), (2, .int (nI b2))]) hx hb dX6_way_191 hl (by decide) rfl (fun ls hl => ?_)
                                    refine lv_iload hx hb dX6_way_193 (lv_at hl 0 rfl) ?_
                                    refine lv_if_eq (tgt := 208) hx hb dX6_way_195 (by decide) (fun c_14 => ?_) (fun c_14 => absurd rfl c_14)
                                    refine lv_iinc (v := nI (k + 1)) (lv' := [(4, .int (nI (k + 1))), (5, .int 0), (3, .int (nI n)), (0, .ref (ad 5)), (1, .int (nI a)), (2, .int (nI b2))]) hx hb dX6_way_208 hl (k := 1) rfl (nI_1 k) (by decide) rfl (fun ls hl => ?_)
                                    refine lv_goto (tgt := 53) hx hb dX6_way_211 (by decide) ?_
                                    have eW : S = wyI U n s0 (k + 1) := by show _ = (if wyB U (wyI U n s0 k) n k = true then upd (wyI U n s0 k) k (nI (n + 1)) else wyI U n s0 k); rw [← hS, if_neg (wyB_no (fun z1 z2 => ⟨fun q b => by first | omega | contradiction, fun q b => by first | omega | contradiction, fun q b => by first | omega | contradiction, fun q b => by first | omega | contradiction⟩))]
                                    rw [eW] at hM
                                    exact ih53 (k + 1) (by omega) (by omega) M hM hrA ls _ _ hw (lv_sub hl [0, 2, 3, 4, 5] rfl)
                                  · refine lv_iconst (v := 1) hx hb dX6_way_186 (by decide) ?_
                                    refine lv_goto (tgt := 191) hx hb dX6_way_187 (by decide) ?_
                                    refine lv_istore (lv' := [(5, .int 1), (4, .int (nI k)), (3, .int (nI n)), (0, .ref (ad 5)), (1, .int (nI a)), (2, .int (nI b2))]) hx hb dX6_way_191 hl (by decide) rfl (fun ls hl => ?_)
                                    refine lv_iload hx hb dX6_way_193 (lv_at hl 0 rfl) ?_
                                    refine lv_if_eq (tgt := 208) hx hb dX6_way_195 (by decide) (fun c_15 => absurd c_15 (by decide)) (fun c_15 => ?_)
                                    refine lv_aload_n hx hb dX6_way_198 rfl (lv_at hl 3 rfl) ?_
                                    refine f_get X hw hMo fc7 11 (by decide) wq805 rfl (v := .ref (ad 13)) rfl dX6_way_199 ?_
                                    refine lv_iload hx hb dX6_way_202 (lv_at hl 1 rfl) ?_
                                    refine lv_iload_n hx hb dX6_way_204 rfl (lv_at hl 2 rfl) ?_
                                    refine lv_iconst (v := 1) hx hb dX6_way_205 (by decide) ?_
                                    refine lv_iadd hx hb dX6_way_206 ?_
                                    refine f_top (y := nI (n + 1)) (nI_1 n) ?_
                                    refine f_iast X hw hm13 (vp_in_nI (n := k) (by omega) (by omega)) dX6_way_207 (fun H locs hw => ?_)
                                    rw [nI_clamp (n := k) (by omega)] at hw
                                    have hw : fw g ad (fU M 13 (.inl (gI g, 140, .inl (upd S k (nI (n + 1)))))) s H locs := hw
                                    have hMo : (fU M 13 (.inl (gI g, 140, .inl (upd S k (nI (n + 1)))))) 5 = some (.inr (7, [.int th, .int (nI (tHn U)), .int (nI (tPn U)), .int (nI (tEn U)), .ref (ad 6), .ref (ad 7), .ref (ad 8), .ref (ad 9), .ref (ad 10), .ref (ad 11), .ref (ad 12), .ref (ad 13), .ref (ad 14)])) := (fU_n (by omega)).trans hMo
                                    have hm6 : (fU M 13 (.inl (gI g, 140, .inl (upd S k (nI (n + 1)))))) 6 = some (.inl (gI g, 6, .inl pcs)) := (fU_n (by omega)).trans hm6
                                    have hm7 : (fU M 13 (.inl (gI g, 140, .inl (upd S k (nI (n + 1)))))) 7 = some (.inl (gI g, 6, .inl wa)) := (fU_n (by omega)).trans hm7
                                    have hm8 : (fU M 13 (.inl (gI g, 140, .inl (upd S k (nI (n + 1)))))) 8 = some (.inl (gI g, 210, .inl ht)) := (fU_n (by omega)).trans hm8
                                    have hm9 : (fU M 13 (.inl (gI g, 140, .inl (upd S k (nI (n + 1)))))) 9 = some (.inl (gI g, 54, .inl et)) := (fU_n (by omega)).trans hm9
                                    have hm10 : (fU M 13 (.inl (gI g, 140, .inl (upd S k (nI (n + 1)))))) 10 = some (.inl (gI g, 1, .inl mi)) := (fU_n (by omega)).trans hm10
                                    have hm11 : (fU M 13 (.inl (gI g, 140, .inl (upd S k (nI (n + 1)))))) 11 = some (.inl (gI g, 6, .inl co)) := (fU_n (by omega)).trans hm11
                                    have hm12 : (fU M 13 (.inl (gI g, 140, .inl (upd S k (nI (n + 1)))))) 12 = some (.inl (gZ g, 6, .inl as)) := (fU_n (by omega)).trans hm12
                                    have hm14 : (fU M 13 (.inl (gI g, 140, .inl (upd S k (nI (n + 1)))))) 14 = some (.inl (gZ g, 30, .inl ca)) := (fU_n (by omega)).trans hm14
                                    have hm13 : (fU M 13 (.inl (gI g, 140, .inl (upd S k (nI (n + 1)))))) 13 = some (.inl (gI g, 140, .inl (upd S k (nI (n + 1))))) := fU_s
                                    refine lv_iinc (v := nI (k + 1)) (lv' := [(4, .int (nI (k + 1))), (5, .int 1), (3, .int (nI n)), (0, .ref (ad 5)), (1, .int (nI a)), (2, .int (nI b2))]) hx hb dX6_way_208 hl (k := 1) rfl (nI_1 k) (by decide) rfl (fun ls hl => ?_)
                                    refine lv_goto (tgt := 53) hx hb dX6_way_211 (by decide) ?_
                                    have hM : isMo g ad (fU M 13 (.inl (gI g, 140, .inl (upd S k (nI (n + 1)))))) th U (upd (S) k (nI (n + 1))) ca := ⟨_, _, _, _, _, _, _, (fU_n (by omega)).trans (hMo), ⟨(fU_n (by omega)).trans (hm6), (fU_n (by omega)).trans (hm7), (fU_n (by omega)).trans (hm8), (fU_n (by omega)).trans (hm9), (fU_n (by omega)).trans (hm10), (fU_n (by omega)).trans (hm11), (fU_n (by omega)).trans (hm12), fU_s, (fU_n (by omega)).trans (hm14)⟩, hRel, hCnt⟩
                                    have hrA : fReg 5 15 ad Mo ad (fU M 13 (.inl (gI g, 140, .inl (upd S k (nI (n + 1)))))) := fReg_U hrA (by omega)
                                    have eW : upd S k (nI (n + 1)) = wyI U n s0 (k + 1) := by show _ = (if wyB U (wyI U n s0 k) n k = true then upd (wyI U n s0 k) k (nI (n + 1)) else wyI U n s0 k); rw [← hS, if_pos (wyB_yes (by assumption) (by assumption) (by first | exact Or.inl ⟨by omega, by assumption⟩ | exact Or.inr (Or.inl ⟨by omega, by assumption⟩) | exact Or.inr (Or.inr (Or.inl ⟨by omega, by assumption⟩)) | exact Or.inr (Or.inr (Or.inr ⟨by omega, by assumption⟩))))]
                                    rw [eW] at hM hw hrA
                                    exact ih53 (k + 1) (by omega) (by omega) _ hM hrA ls _ _ hw (lv_sub hl [0, 2, 3, 4, 5] rfl)
                              · have c_10 := nI_nle' (a := (k % 14)) (b := 0) c_10 (by omega) (by omega)
                                refine lv_aload_n hx hb dX6_way_150 rfl (lv_at hl 3 rfl) ?_
                                refine f_get X hw hMo fc7 11 (by decide) wq805 rfl (v := .ref (ad 13)) rfl dX6_way_151 ?_
                                refine lv_iload hx hb dX6_way_154 (lv_at hl 1 rfl) ?_
                                refine lv_iconst (v := 1) hx hb dX6_way_156 (by decide) ?_
                                refine lv_isub hx hb dX6_way_157 ?_
                                refine f_top (y := nI (k - 1)) (show nI k - nI 1 = nI (k - 1) from pk_sub (by omega)) ?_
                                refine f_iald X hw hm13 (vp_in_nI (n := (k - 1)) (by omega) (by omega)) dX6_way_158 ?_
                                rw [nI_clamp (n := (k - 1)) (by omega)]
                                refine lv_iload_n hx hb dX6_way_159 rfl (lv_at hl 2 rfl) ?_
                                refine lv_icmp_eq (tgt := 186) hx hb dX6_way_160 (by decide) (fun c_16 => ?_) (fun c_16 => ?_)
                                · refine lv_iconst (v := 1) hx hb dX6_way_186 (by decide) ?_
                                  refine lv_goto (tgt := 191) hx hb dX6_way_187 (by decide) ?_
                                  refine lv_istore (lv' := [(5, .int 1), (4, .int (nI k)), (3, .int (nI n)), (0, .ref (ad 5)), (1, .int (nI a)), (2, .int (nI b2))]) hx hb dX6_way_191 hl (by decide) rfl (fun ls hl => ?_)
                                  refine lv_iload hx hb dX6_way_193 (lv_at hl 0 rfl) ?_
                                  refine lv_if_eq (tgt := 208) hx hb dX6_way_195 (by decide) (fun c_17 => absurd c_17 (by decide)) (fun c_17 => ?_)
                                  refine lv_aload_n hx hb dX6_way_198 rfl (lv_at hl 3 rfl) ?_
                                  refine f_get X hw hMo fc7 11 (by decide) wq805 rfl (v := .ref (ad 13)) rfl dX6_way_199 ?_
                                  refine lv_iload hx hb dX6_way_202 (lv_at hl 1 rfl) ?_
                                  refine lv_iload_n hx hb dX6_way_204 rfl (lv_at hl 2 rfl) ?_
                                  refine lv_iconst (v := 1) hx hb dX6_way_205 (by decide) ?_
                                  refine lv_iadd hx hb dX6_way_206 ?_
                                  refine f_top (y := nI (n + 1)) (nI_1 n) ?_
                                  refine f_iast X hw hm13 (vp_in_nI (n := k) (by omega) (by omega)) dX6_way_207 (fun H locs hw => ?_)
                                  rw [nI_clamp (n := k) (by omega)] at hw
                                  have hw : fw g ad (fU M 13 (.inl (gI g, 140, .inl (upd S k (nI (n + 1)))))) s H locs := hw
                                  have hMo : (fU M 13 (.inl (gI g, 140, .inl (upd S k (nI (n + 1)))))) 5 = some (.inr (7, [.int th, .int (nI (tHn U)), .int (nI (tPn U)), .int (nI (tEn U)), .ref (ad 6), .ref (ad 7), .ref (ad 8), .ref (ad 9), .ref (ad 10), .ref (ad 11), .ref (ad 12), .ref (ad 13), .ref (ad 14)])) := (fU_n (by omega)).trans hMo
                                  have hm6 : (fU M 13 (.inl (gI g, 140, .inl (upd S k (nI (n + 1)))))) 6 = some (.inl (gI g, 6, .inl pcs)) := (fU_n (by omega)).trans hm6
                                  have hm7 : (fU M 13 (.inl (gI g, 140, .inl (upd S k (nI (n + 1)))))) 7 = some (.inl (gI g, 6, .inl wa)) := (fU_n (by omega)).trans hm7
                                  have hm8 : (fU M 13 (.inl (gI g, 140, .inl (upd S k (nI (n + 1)))))) 8 = some (.inl (gI g, 210, .inl ht)) := (fU_n (by omega)).trans hm8
                                  have hm9 : (fU M 13 (.inl (gI g, 140, .inl (upd S k (nI (n + 1)))))) 9 = some (.inl (gI g, 54, .inl et)) := (fU_n (by omega)).trans hm9
                                  have hm10 : (fU M 13 (.inl (gI g, 140, .inl (upd S k (nI (n + 1)))))) 10 = some (.inl (gI g, 1, .inl mi)) := (fU_n (by omega)).trans hm10
                                  have hm11 : (fU M 13 (.inl (gI g, 140, .inl (upd S k (nI (n + 1)))))) 11 = some (.inl (gI g, 6, .inl co)) := (fU_n (by omega)).trans hm11
                                  have hm12 : (fU M 13 (.inl (gI g, 140, .inl (upd S k (nI (n + 1)))))) 12 = some (.inl (gZ g, 6, .inl as)) := (fU_n (by omega)).trans hm12
                                  have hm14 : (fU M 13 (.inl (gI g, 140, .inl (upd S k (nI (n + 1)))))) 14 = some (.inl (gZ g, 30, .inl ca)) := (fU_n (by omega)).trans hm14
                                  have hm13 : (fU M 13 (.inl (gI g, 140, .inl (upd S k (nI (n + 1)))))) 13 = some (.inl (gI g, 140, .inl (upd S k (nI (n + 1))))) := fU_s
                                  refine lv_iinc (v := nI (k + 1)) (lv' := [(4, .int (nI (k + 1))), (5, .int 1), (3, .int (nI n)), (0, .ref (ad 5)), (1, .int (nI a)), (2, .int (nI b2))]) hx hb dX6_way_208 hl (k := 1) rfl (nI_1 k) (by decide) rfl (fun ls hl => ?_)
                                  refine lv_goto (tgt := 53) hx hb dX6_way_211 (by decide) ?_
                                  have hM : isMo g ad (fU M 13 (.inl (gI g, 140, .inl (upd S k (nI (n + 1)))))) th U (upd (S) k (nI (n + 1))) ca := ⟨_, _, _, _, _, _, _, (fU_n (by omega)).trans (hMo), ⟨(fU_n (by omega)).trans (hm6), (fU_n (by omega)).trans (hm7), (fU_n (by omega)).trans (hm8), (fU_n (by omega)).trans (hm9), (fU_n (by omega)).trans (hm10), (fU_n (by omega)).trans (hm11), (fU_n (by omega)).trans (hm12), fU_s, (fU_n (by omega)).trans (hm14)⟩, hRel, hCnt⟩
                                  have hrA : fReg 5 15 ad Mo ad (fU M 13 (.inl (gI g, 140, .inl (upd S k (nI (n + 1)))))) := fReg_U hrA (by omega)
                                  have eW : upd S k (nI (n + 1)) = wyI U n s0 (k + 1) := by show _ = (if wyB U (wyI U n s0 k) n k = true then upd (wyI U n s0 k) k (nI (n + 1)) else wyI U n s0 k); rw [← hS, if_pos (wyB_yes (by assumption) (by assumption) (by first | exact Or.inl ⟨by omega, by assumption⟩ | exact Or.inr (Or.inl ⟨by omega, by assumption⟩) | exact Or.inr (Or.inr (Or.inl ⟨by omega, by assumption⟩)) | exact Or.inr (Or.inr (Or.inr ⟨by omega, by assumption⟩))))]
                                  rw [eW] at hM hw hrA
                                  exact ih53 (k + 1) (by omega) (by omega) _ hM hrA ls _ _ hw (lv_sub hl [0, 2, 3, 4, 5] rfl)
                                · refine lv_iload hx hb dX6_way_163 (lv_at hl 1 rfl) ?_
                                  refine lv_bipush (v := 14) hx hb dX6_way_165 (by decide) ?_
                                  refine lv_irem hx hb dX6_way_167 (by decide) ?_
                                  refine f_top (y := nI (k % 14)) (show nI k - nI k / nI 14 * nI 14 = nI (k % 14) from pk_rem (by omega) (by decide) (by decide)) ?_
                                  refine lv_bipush (v := 13) hx hb dX6_way_168 (by decide) ?_
                                  refine lv_icmp_ge (tgt := 190) hx hb dX6_way_170 (by decide) (fun c_18 => ?_) (fun c_18 => ?_)
                                  · have c_18 := nI_le' (a := 13) (b := (k % 14)) c_18 (by omega) (by omega)
                                    refine lv_iconst (v := 0) hx hb dX6_way_190 (by decide) ?_
                                    refine lv_istore (lv' := [(5, .int 0), (4, .int (nI k)), (3, .int (nI n)), (0, .ref (ad 5)), (1, .int (nI a)), (2, .int (nI b2))]) hx hb dX6_way_191 hl (by decide) rfl (fun ls hl => ?_)
                                    refine lv_iload hx hb dX6_way_193 (lv_at hl 0 rfl) ?_
                                    refine lv_if_eq (tgt := 208) hx hb dX6_way_195 (by decide) (fun c_19 => ?_) (fun c_19 => absurd rfl c_19)
                                    refine lv_iinc (v := nI (k + 1)) (lv' := [(4, .int (nI (k + 1))), (5, .int 0), (3, .int (nI n)), (0, .ref (ad 5)), (1, .int (nI a)), (2, .int (nI b2))]) hx hb dX6_way_208 hl (k := 1) rfl (nI_1 k) (by decide) rfl (fun ls hl => ?_)
                                    refine lv_goto (tgt := 53) hx hb dX6_way_211 (by decide) ?_
                                    have eW : S = wyI U n s0 (k + 1) := by show _ = (if wyB U (wyI U n s0 k) n k = true then upd (wyI U n s0 k) k (nI (n + 1)) else wyI U n s0 k); rw [← hS, if_neg (wyB_no (fun z1 z2 => ⟨fun q b => by first | omega | contradiction, fun q b => by first | omega | contradiction, fun q b => by first | omega | contradiction, fun q b => by first | omega | contradiction⟩))]
                                    rw [eW] at hM
                                    exact ih53 (k + 1) (by omega) (by omega) M hM hrA ls _ _ hw (lv_sub hl [0, 2, 3, 4, 5] rfl)
                                  · have c_18 := nI_nle' (a := 13) (b := (k % 14)) c_18 (by omega) (by omega)
                                    refine lv_aload_n hx hb dX6_way_173 rfl (lv_at hl 3 rfl) ?_
                                    refine f_get X hw hMo fc7 11 (by decide) wq805 rfl (v := .ref (ad 13)) rfl dX6_way_174 ?_
                                    refine lv_iload hx hb dX6_way_177 (lv_at hl 1 rfl) ?_
                                    refine lv_iconst (v := 1) hx hb dX6_way_179 (by decide) ?_
                                    refine lv_iadd hx hb dX6_way_180 ?_
                                    refine f_top (y := nI (k + 1)) (nI_1 k) ?_
                                    refine f_iald X hw hm13 (vp_in_nI (n := (k + 1)) (by omega) (by omega)) dX6_way_181 ?_
                                    rw [nI_clamp (n := (k + 1)) (by omega)]
                                    refine lv_iload_n hx hb dX6_way_182 rfl (lv_at hl 2 rfl) ?_
                                    refine lv_icmp_ne (tgt := 190) hx hb dX6_way_183 (by decide) (fun c_20 => ?_) (fun c_20 => ?_)
                                    · refine lv_iconst (v := 0) hx hb dX6_way_190 (by decide) ?_
                                      refine lv_istore (lv' := [(5, .int 0), (4, .int (nI k)), (3, .int (nI n)), (0, .ref (ad 5)), (1, .int (nI a)), (2, .int (nI b2))]) hx hb dX6_way_191 hl (by decide) rfl (fun ls hl => ?_)
                                      refine lv_iload hx hb dX6_way_193 (lv_at hl 0 rfl) ?_
                                      refine lv_if_eq (tgt := 208) hx hb dX6_way_195 (by decide) (fun c_21 => ?_) (fun c_21 => absurd rfl c_21)
                                      refine lv_iinc (v := nI (k + 1)) (lv' := [(4, .int (nI (k + 1))), (5, .int 0), (3, .int (nI n)), (0, .ref (ad 5)), (1, .int (nI a)), (2, .int (nI b2))]) hx hb dX6_way_208 hl (k := 1) rfl (nI_1 k) (by decide) rfl (fun ls hl => ?_)
                                      refine lv_goto (tgt := 53) hx hb dX6_way_211 (by decide) ?_
                                      have eW : S = wyI U n s0 (k + 1) := by show _ = (if wyB U (wyI U n s0 k) n k = true then upd (wyI U n s0 k) k (nI (n + 1)) else wyI U n s0 k); rw [← hS, if_neg (wyB_no (fun z1 z2 => ⟨fun q b => by first | omega | contradiction, fun q b => by first | omega | contradiction, fun q b => by first | omega | contradiction, fun q b => by first | omega | contradiction⟩))]
                                      rw [eW] at hM
                                      exact ih53 (k + 1) (by omega) (by omega) M hM hrA ls _ _ hw (lv_sub hl [0, 2, 3, 4, 5] rfl)
                                    · refine lv_iconst (v := 1) hx hb dX6_way_186 (by decide) ?_
                                      refine lv_goto (tgt := 191) hx hb dX6_way_187 (by decide) ?_
                                      refine lv_istore (lv' := [(5, .int 1), (4, .int (nI k)), (3, .int (nI n)), (0, .ref (ad 5)), (1, .int (nI a)), (2, .int (nI b2))]) hx hb dX6_way_191 hl (by decide) rfl (fun ls hl => ?_)
                                      refine lv_iload hx hb dX6_way_193 (lv_at hl 0 rfl) ?_
                                      refine lv_if_eq (tgt := 208) hx hb dX6_way_195 (by decide) (fun c_22 => absurd c_22 (by decide)) (fun c_22 => ?_)
                                      refine lv_aload_n hx hb dX6_way_198 rfl (lv_at hl 3 rfl) ?_
                                      refine f_get X hw hMo fc7 11 (by decide) wq805 rfl (v := .ref (ad 13)) rfl dX6_way_199 ?_
                                      refine lv_iload hx hb dX6_way_202 (lv_at hl 1 rfl) ?_
                                      refine lv_iload_n hx hb dX6_way_204 rfl (lv_at hl 2 rfl) ?_
                                      refine lv_iconst (v := 1) hx hb dX6_way_205 (by decide) ?_
                                      refine lv_iadd hx hb dX6_way_206 ?_
                                      refine f_top (y := nI (n + 1)) (nI_1 n) ?_
                                      refine f_iast X hw hm13 (vp_in_nI (n := k) (by omega) (by omega)) dX6_way_207 (fun H locs hw => ?_)
                                      rw [nI_clamp (n := k) (by omega)] at hw
                                      have hw : fw g ad (fU M 13 (.inl (gI g, 140, .inl (upd S k (nI (n + 1)))))) s H locs := hw
                                      have hMo : (fU M 13 (.inl (gI g, 140, .inl (upd S k (nI (n + 1)))))) 5 = some (.inr (7, [.int th, .int (nI (tHn U)), .int (nI (tPn U)), .int (nI (tEn U)), .ref (ad 6), .ref (ad 7), .ref (ad 8), .ref (ad 9), .ref (ad 10), .ref (ad 11), .ref (ad 12), .ref (ad 13), .ref (ad 14)])) := (fU_n (by omega)).trans hMo
                                      have hm6 : (fU M 13 (.inl (gI g, 140, .inl (upd S k (nI (n + 1)))))) 6 = some (.inl (gI g, 6, .inl pcs)) := (fU_n (by omega)).trans hm6
                                      have hm7 : (fU M 13 (.inl (gI g, 140, .inl (upd S k (nI (n + 1)))))) 7 = some (.inl (gI g, 6, .inl wa)) := (fU_n (by omega)).trans hm7
                                      have hm8 : (fU M 13 (.inl (gI g, 140, .inl (upd S k (nI (n + 1)))))) 8 = some (.inl (gI g, 210, .inl ht)) := (fU_n (by omega)).trans hm8
                                      have hm9 : (fU M 13 (.inl (gI g, 140, .inl (upd S k (nI (n + 1)))))) 9 = some (.inl (gI g, 54, .inl et)) := (fU_n (by omega)).trans hm9
                                      have hm10 : (fU M 13 (.inl (gI g, 140, .inl (upd S k (nI (n + 1)))))) 10 = some (.inl (gI g, 1, .inl mi)) := (fU_n (by omega)).trans hm10
                                      have hm11 : (fU M 13 (.inl (gI g, 140, .inl (upd S k (nI (n + 1)))))) 11 = some (.inl (gI g, 6, .inl co)) := (fU_n (by omega)).trans hm11
                                      have hm12 : (fU M 13 (.inl (gI g, 140, .inl (upd S k (nI (n + 1)))))) 12 = some (.inl (gZ g, 6, .inl as)) := (fU_n (by omega)).trans hm12
                                      have hm14 : (fU M 13 (.inl (gI g, 140, .inl (upd S k (nI (n + 1)))))) 14 = some (.inl (gZ g, 30, .inl ca)) := (fU_n (by omega)).trans hm14
                                      have hm13 : (fU M 13 (.inl (gI g, 140, .inl (upd S k (nI (n + 1)))))) 13 = some (.inl (gI g, 140, .inl (upd S k (nI (n + 1))))) := fU_s
                                      refine lv_iinc (v := nI (k + 1)) (lv' := [(4, .int (nI (k + 1))), (5, .int 1), (3, .int (nI n)), (0, .ref (ad 5)), (1, .int (nI a)), (2, .int (nI b2))]) hx hb dX6_way_208 hl (k := 1) rfl (nI_1 k) (by decide) rfl (fun ls hl => ?_)
                                      refine lv_goto (tgt := 53) hx hb dX6_way_211 (by decide) ?_
                                      have hM : isMo g ad (fU M 13 (.inl (gI g, 140, .inl (upd S k (nI (n + 1)))))) th U (upd (S) k (nI (n + 1))) ca := ⟨_, _, _, _, _, _, _, (fU_n (by omega)).trans (hMo), ⟨(fU_n (by omega)).trans (hm6), (fU_n (by omega)).trans (hm7), (fU_n (by omega)).trans (hm8), (fU_n (by omega)).trans (hm9), (fU_n (by omega)).trans (hm10), (fU_n (by omega)).trans (hm11), (fU_n (by omega)).trans (hm12), fU_s, (fU_n (by omega)).trans (hm14)⟩, hRel, hCnt⟩
                                      have hrA : fReg 5 15 ad Mo ad (fU M 13 (.inl (gI g, 140, .inl (upd S k (nI (n + 1)))))) := fReg_U hrA (by omega)
                                      have eW : upd S k (nI (n + 1)) = wyI U n s0 (k + 1) := by show _ = (if wyB U (wyI U n s0 k) n k = true then upd (wyI U n s0 k) k (nI (n + 1)) else wyI U n s0 k); rw [← hS, if_pos (wyB_yes (by assumption) (by assumption) (by first | exact Or.inl ⟨by omega, by assumption⟩ | exact Or.inr (Or.inl ⟨by omega, by assumption⟩) | exact Or.inr (Or.inr (Or.inl ⟨by omega, by assumption⟩)) | exact Or.inr (Or.inr (Or.inr ⟨by omega, by assumption⟩))))]
                                      rw [eW] at hM hw hrA
                                      exact ih53 (k + 1) (by omega) (by omega) _ hM hrA ls _ _ hw (lv_sub hl [0, 2, 3, 4, 5] rfl)
                            · have c_8 := nI_nle' (a := 140) (b := (k + 14)) c_8 (by omega) (by omega)
                              refine lv_aload_n hx hb dX6_way_116 rfl (lv_at hl 2 rfl) ?_
                              refine f_get X hw hMo fc7 11 (by decide) wq805 rfl (v := .ref (ad 13)) rfl dX6_way_117 ?_
                              refine lv_iload hx hb dX6_way_120 (lv_at hl 0 rfl) ?_
                              refine lv_bipush (v := 14) hx hb dX6_way_122 (by decide) ?_
                              refine lv_iadd hx hb dX6_way_124 ?_
                              refine f_top (y := nI (k + 14)) (show nI k + nI 14 = nI (k + 14) from nI_add k 14) ?_
                              refine f_iald X hw hm13 (vp_in_nI (n := (k + 14)) (by omega) (by omega)) dX6_way_125 ?_
                              rw [nI_clamp (n := (k + 14)) (by omega)]
                              refine lv_iload_n hx hb dX6_way_126 rfl (lv_at hl 1 rfl) ?_
                              refine lv_icmp_ne (tgt := 134) hx hb dX6_way_127 (by decide) (fun c_23 => ?_) (fun c_23 => ?_)
                              · refine lv_iconst (v := 0) hx hb dX6_way_134 (by decide) ?_
                                refine lv_istore (lv' := [(5, .int 0), (4, .int (nI k)), (3, .int (nI n)), (0, .ref (ad 5)), (1, .int (nI a)), (2, .int (nI b2))]) hx hb dX6_way_135 hl (by decide) rfl (fun ls hl => ?_)
                                refine lv_iload hx hb dX6_way_137 (lv_at hl 0 rfl) ?_
                                refine lv_if_ne (tgt := 186) hx hb dX6_way_139 (by decide) (fun c_24 => absurd rfl c_24) (fun c_24 => ?_)
                                refine lv_iload hx hb dX6_way_142 (lv_at hl 1 rfl) ?_
                                refine lv_bipush (v := 14) hx hb dX6_way_144 (by decide) ?_
                                refine lv_irem hx hb dX6_way_146 (by decide) ?_
                                refine f_top (y := nI (k % 14)) (show nI k - nI k / nI 14 * nI 14 = nI (k % 14) from pk_rem (by omega) (by decide) (by decide)) ?_
                                refine lv_if_le (tgt := 163) hx hb dX6_way_147 (by decide) (fun c_25 => ?_) (fun c_25 => ?_)
                                · have c_25 := nI_le' (a := (k % 14)) (b := 0) c_25 (by omega) (by omega)
                                  refine lv_iload hx hb dX6_way_163 (lv_at hl 1 rfl) ?_
                                  refine lv_bipush (v := 14) hx hb dX6_way_165 (by decide) ?_
                                  refine lv_irem hx hb dX6_way_167 (by decide) ?_
                                  refine f_top (y := nI (k % 14)) (show nI k - nI k / nI 14 * nI 14 = nI (k % 14) from pk_rem (by omega) (by decide) (by decide)) ?_
                                  refine lv_bipush (v := 13) hx hb dX6_way_168 (by decide) ?_
                                  refine lv_icmp_ge (tgt := 190) hx hb dX6_way_170 (by decide) (fun c_26 => ?_) (fun c_26 => ?_)
                                  · have c_26 := nI_le' (a := 13) (b := (k % 14)) c_26 (by omega) (by omega)
                                    refine lv_iconst (v := 0) hx hb dX6_way_190 (by decide) ?_
                                    refine lv_istore (lv' := [(5, .int 0), (4, .int (nI k)), (3, .int (nI n)), (0, .ref (ad 5)), (1, .int (nI a)), (2, .int (nI b2))]) hx hb dX6_way_191 hl (by decide) rfl (fun ls hl => ?_)
                                    refine lv_iload hx hb dX6_way_193 (lv_at hl 0 rfl) ?_
                                    refine lv_if_eq (tgt := 208) hx hb dX6_way_195 (by decide) (fun c_27 => ?_) (fun c_27 => absurd rfl c_27)
                                    refine lv_iinc (v := nI (k + 1)) (lv' := [(4, .int (nI (k + 1))), (5, .int 0), (3, .int (nI n)), (0, .ref (ad 5)), (1, .int (nI a)), (2, .int (nI b2))]) hx hb dX6_way_208 hl (k := 1) rfl (nI_1 k) (by decide) rfl (fun ls hl => ?_)
                                    refine lv_goto (tgt := 53) hx hb dX6_way_211 (by decide) ?_
                                    have eW : S = wyI U n s0 (k + 1) := by show _ = (if wyB U (wyI U n s0 k) n k = true then upd (wyI U n s0 k) k (nI (n + 1)) else wyI U n s0 k); rw [← hS, if_neg (wyB_no (fun z1 z2 => ⟨fun q b => by first | omega | contradiction, fun q b => by first | omega | contradiction, fun q b => by first | omega | contradiction, fun q b => by first | omega | contradiction⟩))]
                                    rw [eW] at hM
                                    exact ih53 (k + 1) (by omega) (by omega) M hM hrA ls _ _ hw (lv_sub hl [0, 2, 3, 4, 5] rfl)
                                  · have c_26 := nI_nle' (a := 13) (b := (k % 14)) c_26 (by omega) (by omega)
                                    refine lv_aload_n hx hb dX6_way_173 rfl (lv_at hl 3 rfl) ?_
                                    refine f_get X hw hMo fc7 11 (by decide) wq805 rfl (v := .ref (ad 13)) rfl dX6_way_174 ?_
                                    refine lv_iload hx hb dX6_way_177 (lv_at hl 1 rfl) ?_
                                    refine lv_iconst (v := 1) hx hb dX6_way_179 (by decide) ?_
                                    refine lv_iadd hx hb dX6_way_180 ?_
                                    refine f_top (y := nI (k + 1)) (nI_1 k) ?_
                                    refine f_iald X hw hm13 (vp_in_nI (n := (k + 1)) (by omega) (by omega)) dX6_way_181 ?_
                                    rw [nI_clamp (n := (k + 1)) (by omega)]
                                    refine lv_iload_n hx hb dX6_way_182 rfl (lv_at hl 2 rfl) ?_
                                    refine lv_icmp_ne (tgt := 190) hx hb dX6_way_183 (by decide) (fun c_28 => ?_) (fun c_28 => ?_)
                                    · refine lv_iconst (v := 0) hx hb dX6_way_190 (by decide) ?_
                                      refine lv_istore (lv' := [(5, .int 0), (4, .int (nI k)), (3, .int (nI n)), (0, .ref (ad 5)), (1, .int (nI a)), (2, .int (nI b2))]) hx hb dX6_way_191 hl (by decide) rfl (fun ls hl => ?_)
                                      refine lv_iload hx hb dX6_way_193 (lv_at hl 0 rfl) ?_
                                      refine lv_if_eq (tgt := 208) hx hb dX6_way_195 (by decide) (fun c_29 => ?_) (fun c_29 => absurd rfl c_29)
                                      refine lv_iinc (v := nI (k + 1)) (lv' := [(4, .int (nI (k + 1))), (5, .int 0), (3, .int (nI n)), (0, .ref (ad 5)), (1, .int (nI a)), (2, .int (nI b2))]) hx hb dX6_way_208 hl (k := 1) rfl (nI_1 k) (by decide) rfl (fun ls hl => ?_)
                                      refine lv_goto (tgt := 53) hx hb dX6_way_211 (by decide) ?_
                                      have eW : S = wyI U n s0 (k + 1) := by show _ = (if wyB U (wyI U n s0 k) n k = true then upd (wyI U n s0 k) k (nI (n + 1)) else wyI U n s0 k); rw [← hS, if_neg (wyB_no (fun z1 z2 => ⟨fun q b => by first | omega | contradiction, fun q b => by first | omega | contradiction, fun q b => by first | omega | contradiction, fun q b => by first | omega | contradiction⟩))]
                                      rw [eW] at hM
                                      exact ih53 (k + 1) (by omega) (by omega) M hM hrA ls _ _ hw (lv_sub hl [0, 2, 3, 4, 5] rfl)
                                    · refine lv_iconst (v := 1) hx hb dX6_way_186 (by decide) ?_
                                      refine lv_goto (tgt := 191) hx hb dX6_way_187 (by decide) ?_
                                      refine lv_istore (lv' := [(5, .int 1), (4, .int (nI k)), (3, .int (nI n)), (0, .ref (ad 5)), (1, .int (nI a)), (2, .int (nI b2))]) hx hb dX6_way_191 hl (by decide) rfl (fun ls hl => ?_)
                                      refine lv_iload hx hb dX6_way_193 (lv_at hl 0 rfl) ?_
                                      refine lv_if_eq (tgt := 208) hx hb dX6_way_195 (by decide) (fun c_30 => absurd c_30 (by decide)) (fun c_30 => ?_)
                                      refine lv_aload_n hx hb dX6_way_198 rfl (lv_at hl 3 rfl) ?_
                                      refine f_get X hw hMo fc7 11 (by decide) wq805 rfl (v := .ref (ad 13)) rfl dX6_way_199 ?_
                                      refine lv_iload hx hb dX6_way_202 (lv_at hl 1 rfl) ?_
                                      refine lv_iload_n hx hb dX6_way_204 rfl (lv_at hl 2 rfl) ?_
                                      refine lv_iconst (v := 1) hx hb dX6_way_205 (by decide) ?_
                                      refine lv_iadd hx hb dX6_way_206 ?_
                                      refine f_top (y := nI (n + 1)) (nI_1 n) ?_
                                      refine f_iast X hw hm13 (vp_in_nI (n := k) (by omega) (by omega)) dX6_way_207 (fun H locs hw => ?_)
                                      rw [nI_clamp (n := k) (by omega)] at hw
                                      have hw : fw g ad (fU M 13 (.inl (gI g, 140, .inl (upd S k (nI (n + 1)))))) s H locs := hw
                                      have hMo : (fU M 13 (.inl (gI g, 140, .inl (upd S k (nI (n + 1)))))) 5 = some (.inr (7, [.int th, .int (nI (tHn U)), .int (nI (tPn U)), .int (nI (tEn U)), .ref (ad 6), .ref (ad 7), .ref (ad 8), .ref (ad 9), .ref (ad 10), .ref (ad 11), .ref (ad 12), .ref (ad 13), .ref (ad 14)])) := (fU_n (by omega)).trans hMo
                                      have hm6 : (fU M 13 (.inl (gI g, 140, .inl (upd S k (nI (n + 1)))))) 6 = some (.inl (gI g, 6, .inl pcs)) := (fU_n (by omega)).trans hm6
                                      have hm7 : (fU M 13 (.inl (gI g, 140, .inl (upd S k (nI (n + 1)))))) 7 = some (.inl (gI g, 6, .inl wa)) := (fU_n (by omega)).trans hm7
                                      have hm8 : (fU M 13 (.inl (gI g, 140, .inl (upd S k (nI (n + 1)))))) 8 = some (.inl (gI g, 210, .inl ht)) := (fU_n (by omega)).trans hm8
                                      have hm9 : (fU M 13 (.inl (gI g, 140, .inl (upd S k (nI (n + 1)))))) 9 = some (.inl (gI g, 54, .inl et)) := (fU_n (by omega)).trans hm9
                                      have hm10 : (fU M 13 (.inl (gI g, 140, .inl (upd S k (nI (n + 1)))))) 10 = some (.inl (gI g, 1, .inl mi)) := (fU_n (by omega)).trans hm10
                                      have hm11 : (fU M 13 (.inl (gI g, 140, .inl (upd S k (nI (n + 1)))))) 11 = some (.inl (gI g, 6, .inl co)) := (fU_n (by omega)).trans hm11
                                      have hm12 : (fU M 13 (.inl (gI g, 140, .inl (upd S k (nI (n + 1)))))) 12 = some (.inl (gZ g, 6, .inl as)) := (fU_n (by omega)).trans hm12
                                      have hm14 : (fU M 13 (.inl (gI g, 140, .inl (upd S k (nI (n + 1)))))) 14 = some (.inl (gZ g, 30, .inl ca)) := (fU_n (by omega)).trans hm14
                                      have hm13 : (fU M 13 (.inl (gI g, 140, .inl (upd S k (nI (n + 1)))))) 13 = some (.inl (gI g, 140, .inl (upd S k (nI (n + 1))))) := fU_s
                                      refine lv_iinc (v := nI (k + 1)) (lv' := [(4, .int (nI (k + 1))), (5, .int 1), (3, .int (nI n)), (0, .ref (ad 5)), (1, .int (nI a)), (2, .int (nI b2))]) hx hb dX6_way_208 hl (k := 1) rfl (nI_1 k) (by decide) rfl (fun ls hl => ?_)
                                      refine lv_goto (tgt := 53) hx hb dX6_way_211 (by decide) ?_
                                      have hM : isMo g ad (fU M 13 (.inl (gI g, 140, .inl (upd S k (nI (n + 1)))))) th U (upd (S) k (nI (n + 1))) ca := ⟨_, _, _, _, _, _, _, (fU_n (by omega)).trans (hMo), ⟨(fU_n (by omega)).trans (hm6), (fU_n (by omega)).trans (hm7), (fU_n (by omega)).trans (hm8), (fU_n (by omega)).trans (hm9), (fU_n (by omega)).trans (hm10), (fU_n (by omega)).trans (hm11), (fU_n (by omega)).trans (hm12), fU_s, (fU_n (by omega)).trans (hm14)⟩, hRel, hCnt⟩
                                      have hrA : fReg 5 15 ad Mo ad (fU M 13 (.inl (gI g, 140, .inl (upd S k (nI (n + 1)))))) := fReg_U hrA (by omega)
                                      have eW : upd S k (nI (n + 1)) = wyI U n s0 (k + 1) := by show _ = (if wyB U (wyI U n s0 k) n k = true then upd (wyI U n s0 k) k (nI (n + 1)) else wyI U n s0 k); rw [← hS, if_pos (wyB_yes (by assumption) (by assumption) (by first | exact Or.inl ⟨by omega, by assumption⟩ | exact Or.inr (Or.inl ⟨by omega, by assumption⟩) | exact Or.inr (Or.inr (Or.inl ⟨by omega, by assumption⟩)) | exact Or.inr (Or.inr (Or.inr ⟨by omega, by assumption⟩))))]
                                      rw [eW] at hM hw hrA
                                      exact ih53 (k + 1) (by omega) (by omega) _ hM hrA ls _ _ hw (lv_sub hl [0, 2, 3, 4, 5] rfl)
                                · have c_25 := nI_nle' (a := (k % 14)) (b := 0) c_25 (by omega) (by omega)
                                  refine lv_aload_n hx hb dX6_way_150 rfl (lv_at hl 3 rfl) ?_
                                  refine f_get X hw hMo fc7 11 (by decide) wq805 rfl (v := .ref (ad 13)) rfl dX6_way_151 ?_
                                  refine lv_iload hx hb dX6_way_154 (lv_at hl 1 rfl) ?_
                                  refine lv_iconst (v := 1) hx hb dX6_way_156 (by decide) ?_
                                  refine lv_isub hx hb dX6_way_157 ?_
                                  refine f_top (y := nI (k - 1)) (show nI k - nI 1 = nI (k - 1) from pk_sub (by omega)) ?_
                                  refine f_iald X hw hm13 (vp_in_nI (n := (k - 1)) (by omega) (by omega)) dX6_way_158 ?_
                                  rw [nI_clamp (n := (k - 1)) (by omega)]
                                  refine lv_iload_n hx hb dX6_way_159 rfl (lv_at hl 2 rfl) ?_
                                  refine lv_icmp_eq (tgt := 186) hx hb dX6_way_160 (by decide) (fun c_31 => ?_) (fun c_31 => ?_)
                                  · refine lv_iconst (v := 1) hx hb dX6_way_186 (by decide) ?_
                                    refine lv_goto (tgt := 191) hx hb dX6_way_187 (by decide) ?_
                                    refine lv_istore (lv' := [(5, .int 1), (4, .int (nI k)), (3, .int (nI n)), (0, .ref (ad 5)), (1, .int (nI a)), (2, .int (nI b2))]) hx hb dX6_way_191 hl (by decide) rfl (fun ls hl => ?_)
                                    refine lv_iload hx hb dX6_way_193 (lv_at hl 0 rfl) ?_
                                    refine lv_if_eq (tgt := 208) hx hb dX6_way_195 (by decide) (fun c_32 => absurd c_32 (by decide)) (fun c_32 => ?_)
                                    refine lv_aload_n hx hb dX6_way_198 rfl (lv_at hl 3 rfl) ?_
                                    refine f_get X hw hMo fc7 11 (by decide) wq805 rfl (v := .ref (ad 13)) rfl dX6_way_199 ?_
                                    refine lv_iload hx hb dX6_way_202 (lv_at hl 1 rfl) ?_
                                    refine lv_iload_n hx hb dX6_way_204 rfl (lv_at hl 2 rfl) ?_
                                    refine lv_iconst (v := 1) hx hb dX6_way_205 (by decide) ?_
                                    refine lv_iadd hx hb dX6_way_206 ?_
                                    refine f_top (y := nI (n + 1)) (nI_1 n) ?_
                                    refine f_iast X hw hm13 (vp_in_nI (n := k) (by omega) (by omega)) dX6_way_207 (fun H locs hw => ?_)
                                    rw [nI_clamp (n := k) (by omega)] at hw
                                    have hw : fw g ad (fU M 13 (.inl (gI g, 140, .inl (upd S k (nI (n + 1)))))) s H locs := hw
                                    have hMo : (fU M 13 (.inl (gI g, 140, .inl (upd S k (nI (n + 1)))))) 5 = some (.inr (7, [.int th, .int (nI (tHn U)), .int (nI (tPn U)), .int (nI (tEn U)), .ref (ad 6), .ref (ad 7), .ref (ad 8), .ref (ad 9), .ref (ad 10), .ref (ad 11), .ref (ad 12), .ref (ad 13), .ref (ad 14)])) := (fU_n (by omega)).trans hMo
                                    have hm6 : (fU M 13 (.inl (gI g, 140, .inl (upd S k (nI (n + 1)))))) 6 = some (.inl (gI g, 6, .inl pcs)) := (fU_n (by omega)).trans hm6
                                    have hm7 : (fU M 13 (.inl (gI g, 140, .inl (upd S k (nI (n + 1)))))) 7 = some (.inl (gI g, 6, .inl wa)) := (fU_n (by omega)).trans hm7
                                    have hm8 : (fU M 13 (.inl (gI g, 140, .inl (upd S k (nI (n + 1)))))) 8 = some (.inl (gI g, 210, .inl ht)) := (fU_n (by omega)).trans hm8
                                    have hm9 : (fU M 13 (.inl (gI g, 140, .inl (upd S k (nI (n + 1)))))) 9 = some (.inl (gI g, 54, .inl et)) := (fU_n (by omega)).trans hm9
                                    have hm10 : (fU M 13 (.inl (gI g, 140, .inl (upd S k (nI (n + 1)))))) 10 = some (.inl (gI g, 1, .inl mi)) := (fU_n (by omega)).trans hm10
                                    have hm11 : (fU M 13 (.inl (gI g, 140, .inl (upd S k (nI (n + 1)))))) 11 = some (.inl (gI g, 6, .inl co)) := (fU_n (by omega)).trans hm11
                                    have hm12 : (fU M 13 (.inl (gI g, 140, .inl (upd S k (nI (n + 1)))))) 12 = some (.inl (gZ g, 6, .inl as)) := (fU_n (by omega)).trans hm12
                                    have hm14 : (fU M 13 (.inl (gI g, 140, .inl (upd S k (nI (n + 1)))))) 14 = some (.inl (gZ g, 30, .inl ca)) := (fU_n (by omega)).trans hm14
                                    have hm13 : (fU M 13 (.inl (gI g, 140, .inl (upd S k (nI (n + 1)))))) 13 = some (.inl (gI g, 140, .inl (upd S k (nI (n + 1))))) := fU_s
                                    refine lv_iinc (v := nI (k + 1)) (lv' := [(4, .int (nI (k + 1))), (5, .int 1), (3, .int (nI n)), (0, .ref (ad 5)), (1, .int (nI a)), (2, .int (nI b2))]) hx hb dX6_way_208 hl (k := 1) rfl (nI_1 k) (by decide) rfl (fun ls hl => ?_)
                                    refine lv_goto (tgt := 53) hx hb dX6_way_211 (by decide) ?_
                                    have hM : isMo g ad (fU M 13 (.inl (gI g, 140, .inl (upd S k (nI (n + 1)))))) th U (upd (S) k (nI (n + 1))) ca := ⟨_, _, _, _, _, _, _, (fU_n (by omega)).trans (hMo), ⟨(fU_n (by omega)).trans (hm6), (fU_n (by omega)).trans (hm7), (fU_n (by omega)).trans (hm8), (fU_n (by omega)).trans (hm9), (fU_n (by omega)).trans (hm10), (fU_n (by omega)).trans (hm11), (fU_n (by omega)).trans (hm12), fU_s, (fU_n (by omega)).trans (hm14)⟩, hRel, hCnt⟩
                                    have hrA : fReg 5 15 ad Mo ad (fU M 13 (.inl (gI g, 140, .inl (upd S k (nI (n + 1)))))) := fReg_U hrA (by omega)
                                    have eW : upd S k (nI (n + 1)) = wyI U n s0 (k + 1) := by show _ = (if wyB U (wyI U n s0 k) n k = true then upd (wyI U n s0 k) k (nI (n + 1)) else wyI U n s0 k); rw [← hS, if_pos (wyB_yes (by assumption) (by assumption) (by first | exact Or.inl ⟨by omega, by assumption⟩ | exact Or.inr (Or.inl ⟨by omega, by assumption⟩) | exact Or.inr (Or.inr (Or.inl ⟨by omega, by assumption⟩)) | exact Or.inr (Or.inr (Or.inr ⟨by omega, by assumption⟩))))]
                                    rw [eW] at hM hw hrA
                                    exact ih53 (k + 1) (by omega) (by omega) _ hM hrA ls _ _ hw (lv_sub hl [0, 2, 3, 4, 5] rfl)
                                  · refine lv_iload hx hb dX6_way_163 (lv_at hl 1 rfl) ?_
                                    refine lv_bipush (v := 14) hx hb dX6_way_165 (by decide) ?_
                                    refine lv_irem hx hb dX6_way_167 (by decide) ?_
                                    refine f_top (y := nI (k % 14)) (show nI k - nI k / nI 14 * nI 14 = nI (k % 14) from pk_rem (by omega) (by decide) (by decide)) ?_
                                    refine lv_bipush (v := 13) hx hb dX6_way_168 (by decide) ?_
                                    refine lv_icmp_ge (tgt := 190) hx hb dX6_way_170 (by decide) (fun c_33 => ?_) (fun c_33 => ?_)
                                    · have c_33 := nI_le' (a := 13) (b := (k % 14)) c_33 (by omega) (by omega)
                                      refine lv_iconst (v := 0) hx hb dX6_way_190 (by decide) ?_
                                      refine lv_istore (lv' := [(5, .int 0), (4, .int (nI k)), (3, .int (nI n)), (0, .ref (ad 5)), (1, .int (nI a)), (2, .int (nI b2))]) hx hb dX6_way_191 hl (by decide) rfl (fun ls hl => ?_)
                                      refine lv_iload hx hb dX6_way_193 (lv_at hl 0 rfl) ?_
                                      refine lv_if_eq (tgt := 208) hx hb dX6_way_195 (by decide) (fun c_34 => ?_) (fun c_34 => absurd rfl c_34)
                                      refine lv_iinc (v := nI (k + 1)) (lv' := [(4, .int (nI (k + 1))), (5, .int 0), (3, .int (nI n)), (0, .ref (ad 5)), (1, .int (nI a)), (2, .int (nI b2))]) hx hb dX6_way_208 hl (k := 1) rfl (nI_1 k) (by decide) rfl (fun ls hl => ?_)
                                      refine lv_goto (tgt := 53) hx hb dX6_way_211 (by decide) ?_
                                      have eW : S = wyI U n s0 (k + 1) := by show _ = (if wyB U (wyI U n s0 k) n k = true then upd (wyI U n s0 k) k (nI (n + 1)) else wyI U n s0 k); rw [← hS, if_neg (wyB_no (fun z1 z2 => ⟨fun q b => by first | omega | contradiction, fun q b => by first | omega | contradiction, fun q b => by first | omega | contradiction, fun q b => by first | omega | contradiction⟩))]
                                      rw [eW] at hM
                                      exact ih53 (k + 1) (by omega) (by omega) M hM hrA ls _ _ hw (lv_sub hl [0, 2, 3, 4, 5] rfl)
                                    · have c_33 := nI_nle' (a := 13) (b := (k % 14)) c_33 (by omega) (by omega)
                                      refine lv_aload_n hx hb dX6_way_173 rfl (lv_at hl 3 rfl) ?_
                                      refine f_get X hw hMo fc7 11 (by decide) wq805 rfl (v := .ref (ad 13)) rfl dX6_way_174 ?_
                                      refine lv_iload hx hb dX6_way_177 (lv_at hl 1 rfl) ?_
                                      refine lv_iconst (v := 1) hx hb dX6_way_179 (by decide) ?_
                                      refine lv_iadd hx hb dX6_way_180 ?_
                                      refine f_top (y := nI (k + 1)) (nI_1 k) ?_
                                      refine f_iald X hw hm13 (vp_in_nI (n := (k + 1)) (by omega) (by omega)) dX6_way_181 ?_
                                      rw [nI_clamp (n := (k + 1)) (by omega)]
                                      refine lv_iload_n hx hb dX6_way_182 rfl (lv_at hl 2 rfl) ?_
                                      refine lv_icmp_ne (tgt := 190) hx hb dX6_way_183 (by decide) (fun c_35 => ?_) (fun c_35 => ?_)
                                      · refine lv_iconst (v := 0) hx hb dX6_way_190 (by decide) ?_
                                        refine lv_istore (lv' := [(5, .int 0), (4, .int (nI k)), (3, .int (nI n)), (0, .ref (ad 5)), (1, .int (nI a)), (2, .int (nI b2))]) hx hb dX6_way_191 hl (by decide) rfl (fun ls hl => ?_)
                                        refine lv_iload hx hb dX6_way_193 (lv_at hl 0 rfl) ?_
                                        refine lv_if_eq (tgt := 208) hx hb dX6_way_195 (by decide) (fun c_36 => ?_) (fun c_36 => absurd rfl c_36)
                                        refine lv_iinc (v := nI (k + 1)) (lv' := [(4, .int (nI (k + 1))), (5, .int 0), (3, .int (nI n)), (0, .ref (ad 5)), (1, .int (nI a)), (2, .int (nI b2))]) hx hb dX6_way_208 hl (k := 1) rfl (nI_1 k) (by decide) rfl (fun ls hl => ?_)
                                        refine lv_goto (tgt := 53) hx hb dX6_way_211 (by decide) ?_
                                        have eW : S = wyI U n s0 (k + 1) := by show _ = (if wyB U (wyI U n s0 k) n k = true then upd (wyI U n s0 k) k (nI (n + 1)) else wyI U n s0 k); rw [← hS, if_neg (wyB_no (fun z1 z2 => ⟨fun q b => by first | omega | contradiction, fun q b => by first | omega | contradiction, fun q b => by first | omega | contradiction, fun q b => by first | omega | contradiction⟩))]
                                        rw [eW] at hM
                                        exact ih53 (k + 1) (by omega) (by omega) M hM hrA ls _ _ hw (lv_sub hl [0, 2, 3, 4, 5] rfl)
                                      · refine lv_iconst (v := 1) hx hb dX6_way_186 (by decide) ?_
                                        refine lv_goto (tgt := 191) hx hb dX6_way_187 (by decide) ?_
                                        refine lv_istore (lv' := [(5, .int 1), (4, .int (nI k)), (3, .int (nI n)), (0, .ref (ad 5)), (1, .int (nI a)), (2, .int (nI b2))]) hx hb dX6_way_191 hl (by decide) rfl (fun ls hl => ?_)
                                        refine lv_iload hx hb dX6_way_193 (lv_at hl 0 rfl) ?_
                                        refine lv_if_eq (tgt := 208) hx hb dX6_way_195 (by decide) (fun c_37 => absurd c_37 (by decide)) (fun c_37 => ?_)
                                        refine lv_aload_n hx hb dX6_way_198 rfl (lv_at hl 3 rfl) ?_
                                        refine f_get X hw hMo fc7 11 (by decide) wq805 rfl (v := .ref (ad 13)) rfl dX6_way_199 ?_
                                        refine lv_iload hx hb dX6_way_202 (lv_at hl 1 rfl) ?_
                                        refine lv_iload_n hx hb dX6_way_204 rfl (lv_at hl 2 rfl) ?_
                                        refine lv_iconst (v := 1) hx hb dX6_way_205 (by decide) ?_
                                        refine lv_iadd hx hb dX6_way_206 ?_
                                        refine f_top (y := nI (n + 1)) (nI_1 n) ?_
                                        refine f_iast X hw hm13 (vp_in_nI (n := k) (by omega) (by omega)) dX6_way_207 (fun H locs hw => ?_)
                                        rw [nI_clamp (n := k) (by omega)] at hw
                                        have hw : fw g ad (fU M 13 (.inl (gI g, 140, .inl (upd S k (nI (n + 1)))))) s H locs := hw
                                        have hMo : (fU M 13 (.inl (gI g, 140, .inl (upd S k (nI (n + 1)))))) 5 = some (.inr (7, [.int th, .int (nI (tHn U)), .int (nI (tPn U)), .int (nI (tEn U)), .ref (ad 6), .ref (ad 7), .ref (ad 8), .ref (ad 9), .ref (ad 10), .ref (ad 11), .ref (ad 12), .ref (ad 13), .ref (ad 14)])) := (fU_n (by omega)).trans hMo
                                        have hm6 : (fU M 13 (.inl (gI g, 140, .inl (upd S k (nI (n + 1)))))) 6 = some (.inl (gI g, 6, .inl pcs)) := (fU_n (by omega)).trans hm6
                                        have hm7 : (fU M 13 (.inl (gI g, 140, .inl (upd S k (nI (n + 1)))))) 7 = some (.inl (gI g, 6, .inl wa)) := (fU_n (by omega)).trans hm7
                                        have hm8 : (fU M 13 (.inl (gI g, 140, .inl (upd S k (nI (n + 1)))))) 8 = some (.inl (gI g, 210, .inl ht)) := (fU_n (by omega)).trans hm8
                                        have hm9 : (fU M 13 (.inl (gI g, 140, .inl (upd S k (nI (n + 1)))))) 9 = some (.inl (gI g, 54, .inl et)) := (fU_n (by omega)).trans hm9
                                        have hm10 : (fU M 13 (.inl (gI g, 140, .inl (upd S k (nI (n + 1)))))) 10 = some (.inl (gI g, 1, .inl mi)) := (fU_n (by omega)).trans hm10
                                        have hm11 : (fU M 13 (.inl (gI g, 140, .inl (upd S k (nI (n + 1)))))) 11 = some (.inl (gI g, 6, .inl co)) := (fU_n (by omega)).trans hm11
                                        have hm12 : (fU M 13 (.inl (gI g, 140, .inl (upd S k (nI (n + 1)))))) 12 = some (.inl (gZ g, 6, .inl as)) := (fU_n (by omega)).trans hm12
                                        have hm14 : (fU M 13 (.inl (gI g, 140, .inl (upd S k (nI (n + 1)))))) 14 = some (.inl (gZ g, 30, .inl ca)) := (fU_n (by omega)).trans hm14
                                        have hm13 : (fU M 13 (.inl (gI g, 140, .inl (upd S k (nI (n + 1)))))) 13 = some (.inl (gI g, 140, .inl (upd S k (nI (n + 1))))) := fU_s
                                        refine lv_iinc (v := nI (k + 1)) (lv' := [(4, .int (nI (k + 1))), (5, .int 1), (3, .int (nI n)), (0, .ref (ad 5)), (1, .int (nI a)), (2, .int (nI b2))]) hx hb dX6_way_208 hl (k := 1) rfl (nI_1 k) (by decide) rfl (fun ls hl => ?_)
                                        refine lv_goto (tgt := 53) hx hb dX6_way_211 (by decide) ?_
                                        have hM : isMo g ad (fU M 13 (.inl (gI g, 140, .inl (upd S k (nI (n + 1)))))) th U (upd (S) k (nI (n + 1))) ca := ⟨_, _, _, _, _, _, _, (fU_n (by omega)).trans (hMo), ⟨(fU_n (by omega)).trans (hm6), (fU_n (by omega)).trans (hm7), (fU_n (by omega)).trans (hm8), (fU_n (by omega)).trans (hm9), (fU_n (by omega)).trans (hm10), (fU_n (by omega)).trans (hm11), (fU_n (by omega)).trans (hm12), fU_s, (fU_n (by omega)).trans (hm14)⟩, hRel, hCnt⟩
                                        have hrA : fReg 5 15 ad Mo ad (fU M 13 (.inl (gI g, 140, .inl (upd S k (nI (n + 1)))))) := fReg_U hrA (by omega)
                                        have eW : upd S k (nI (n + 1)) = wyI U n s0 (k + 1) := by show _ = (if wyB U (wyI U n s0 k) n k = true then upd (wyI U n s0 k) k (nI (n + 1)) else wyI U n s0 k); rw [← hS, if_pos (wyB_yes (by assumption) (by assumption) (by first | exact Or.inl ⟨by omega, by assumption⟩ | exact Or.inr (Or.inl ⟨by omega, by assumption⟩) | exact Or.inr (Or.inr (Or.inl ⟨by omega, by assumption⟩)) | exact Or.inr (Or.inr (Or.inr ⟨by omega, by assumption⟩))))]
                                        rw [eW] at hM hw hrA
                                        exact ih53 (k + 1) (by omega) (by omega) _ hM hrA ls _ _ hw (lv_sub hl [0, 2, 3, 4, 5] rfl)
                              · refine lv_iconst (v := 1) hx hb dX6_way_130 (by decide) ?_
                                refine lv_goto (tgt := 135) hx hb dX6_way_131 (by decide) ?_
                                refine lv_istore (lv' := [(5, .int 1), (4, .int (nI k)), (3, .int (nI n)), (0, .ref (ad 5)), (1, .int (nI a)), (2, .int (nI b2))]) hx hb dX6_way_135 hl (by decide) rfl (fun ls hl => ?_)
                                refine lv_iload hx hb dX6_way_137 (lv_at hl 0 rfl) ?_
                                refine lv_if_ne (tgt := 186) hx hb dX6_way_139 (by decide) (fun c_38 => ?_) (fun c_38 => absurd c_38 (by decide))
                                refine lv_iconst (v := 1) hx hb dX6_way_186 (by decide) ?_
                                refine lv_goto (tgt := 191) hx hb dX6_way_187 (by decide) ?_
                                refine lv_istore (lv' := [(5, .int 1), (4, .int (nI k)), (3, .int (nI n)), (0, .ref (ad 5)), (1, .int (nI a)), (2, .int (nI b2))]) hx hb dX6_way_191 hl (by decide) rfl (fun ls hl => ?_)
                                refine lv_iload hx hb dX6_way_193 (lv_at hl 0 rfl) ?_
                                refine lv_if_eq (tgt := 208) hx hb dX6_way_195 (by decide) (fun c_39 => absurd c_39 (by decide)) (fun c_39 => ?_)
                                refine lv_aload_n hx hb dX6_way_198 rfl (lv_at hl 3 rfl) ?_
                                refine f_get X hw hMo fc7 11 (by decide) wq805 rfl (v := .ref (ad 13)) rfl dX6_way_199 ?_
                                refine lv_iload hx hb dX6_way_202 (lv_at hl 1 rfl) ?_
                                refine lv_iload_n hx hb dX6_way_204 rfl (lv_at hl 2 rfl) ?_
                                refine lv_iconst (v := 1) hx hb dX6_way_205 (by decide) ?_
                                refine lv_iadd hx hb dX6_way_206 ?_
                                refine f_top (y := nI (n + 1)) (nI_1 n) ?_
                                refine f_iast X hw hm13 (vp_in_nI (n := k) (by omega) (by omega)) dX6_way_207 (fun H locs hw => ?_)
                                rw [nI_clamp (n := k) (by omega)] at hw
                                have hw : fw g ad (fU M 13 (.inl (gI g, 140, .inl (upd S k (nI (n + 1)))))) s H locs := hw
                                have hMo : (fU M 13 (.inl (gI g, 140, .inl (upd S k (nI (n + 1)))))) 5 = some (.inr (7, [.int th, .int (nI (tHn U)), .int (nI (tPn U)), .int (nI (tEn U)), .ref (ad 6), .ref (ad 7), .ref (ad 8), .ref (ad 9), .ref (ad 10), .ref (ad 11), .ref (ad 12), .ref (ad 13), .ref (ad 14)])) := (fU_n (by omega)).trans hMo
                                have hm6 : (fU M 13 (.inl (gI g, 140, .inl (upd S k (nI (n + 1)))))) 6 = some (.inl (gI g, 6, .inl pcs)) := (fU_n (by omega)).trans hm6
                                have hm7 : (fU M 13 (.inl (gI g, 140, .inl (upd S k (nI (n + 1)))))) 7 = some (.inl (gI g, 6, .inl wa)) := (fU_n (by omega)).trans hm7
                                have hm8 : (fU M 13 (.inl (gI g, 140, .inl (upd S k (nI (n + 1)))))) 8 = some (.inl (gI g, 210, .inl ht)) := (fU_n (by omega)).trans hm8
                                have hm9 : (fU M 13 (.inl (gI g, 140, .inl (upd S k (nI (n + 1)))))) 9 = some (.inl (gI g, 54, .inl et)) := (fU_n (by omega)).trans hm9
                                have hm10 : (fU M 13 (.inl (gI g, 140, .inl (upd S k (nI (n + 1)))))) 10 = some (.inl (gI g, 1, .inl mi)) := (fU_n (by omega)).trans hm10
                                have hm11 : (fU M 13 (.inl (gI g, 140, .inl (upd S k (nI (n + 1)))))) 11 = some (.inl (gI g, 6, .inl co)) := (fU_n (by omega)).trans hm11
                                have hm12 : (fU M 13 (.inl (gI g, 140, .inl (upd S k (nI (n + 1)))))) 12 = some (.inl (gZ g, 6, .inl as)) := (fU_n (by omega)).trans hm12
                                have hm14 : (fU M 13 (.inl (gI g, 140, .inl (upd S k (nI (n + 1)))))) 14 = some (.inl (gZ g, 30, .inl ca)) := (fU_n (by omega)).trans hm14
                                have hm13 : (fU M 13 (.inl (gI g, 140, .inl (upd S k (nI (n + 1)))))) 13 = some (.inl (gI g, 140, .inl (upd S k (nI (n + 1))))) := fU_s
                                refine lv_iinc (v := nI (k + 1)) (lv' := [(4, .int (nI (k + 1))), (5, .int 1), (3, .int (nI n)), (0, .ref (ad 5)), (1, .int (nI a)), (2, .int (nI b2))]) hx hb dX6_way_208 hl (k := 1) rfl (nI_1 k) (by decide) rfl (fun ls hl => ?_)
                                refine lv_goto (tgt := 53) hx hb dX6_way_211 (by decide) ?_
                                have hM : isMo g ad (fU M 13 (.inl (gI g, 140, .inl (upd S k (nI (n + 1)))))) th U (upd (S) k (nI (n + 1))) ca := ⟨_, _, _, _, _, _, _, (fU_n (by omega)).trans (hMo), ⟨(fU_n (by omega)).trans (hm6), (fU_n (by omega)).trans (hm7), (fU_n (by omega)).trans (hm8), (fU_n (by omega)).trans (hm9), (fU_n (by omega)).trans (hm10), (fU_n (by omega)).trans (hm11), (fU_n (by omega)).trans (hm12), fU_s, (fU_n (by omega)).trans (hm14)⟩, hRel, hCnt⟩
                                have hrA : fReg 5 15 ad Mo ad (fU M 13 (.inl (gI g, 140, .inl (upd S k (nI (n + 1)))))) := fReg_U hrA (by omega)
                                have eW : upd S k (nI (n + 1)) = wyI U n s0 (k + 1) := by show _ = (if wyB U (wyI U n s0 k) n k = true then upd (wyI U n s0 k) k (nI (n + 1)) else wyI U n s0 k); rw [← hS, if_pos (wyB_yes (by assumption) (by assumption) (by first | exact Or.inl ⟨by omega, by assumption⟩ | exact Or.inr (Or.inl ⟨by omega, by assumption⟩) | exact Or.inr (Or.inr (Or.inl ⟨by omega, by assumption⟩)) | exact Or.inr (Or.inr (Or.inr ⟨by omega, by assumption⟩))))]
                                rw [eW] at hM hw hrA
                                exact ih53 (k + 1) (by omega) (by omega) _ hM hrA ls _ _ hw (lv_sub hl [0, 2, 3, 4, 5] rfl)
                          · have c_7 := nI_nlt' (a := k) (b := 14) c_7 (by omega) (by omega)
                            refine lv_aload_n hx hb dX6_way_91 rfl (lv_at hl 2 rfl) ?_
                            refine f_get X hw hMo fc7 11 (by decide) wq805 rfl (v := .ref (ad 13)) rfl dX6_way_92 ?_
                            refine lv_iload hx hb dX6_way_95 (lv_at hl 0 rfl) ?_
                            refine lv_bipush (v := 14) hx hb dX6_way_97 (by decide) ?_
                            refine lv_isub hx hb dX6_way_99 ?_
                            refine f_top (y := nI (k - 14)) (show nI k - nI 14 = nI (k - 14) from pk_sub (by omega)) ?_
                            refine f_iald X hw hm13 (vp_in_nI (n := (k - 14)) (by omega) (by omega)) dX6_way_100 ?_
                            rw [nI_clamp (n := (k - 14)) (by omega)]
                            refine lv_iload_n hx hb dX6_way_101 rfl (lv_at hl 1 rfl) ?_
                            refine lv_icmp_eq (tgt := 130) hx hb dX6_way_102 (by decide) (fun c_40 => ?_) (fun c_40 => ?_)
                            · refine lv_iconst (v := 1) hx hb dX6_way_130 (by decide) ?_
                              refine lv_goto (tgt := 135) hx hb dX6_way_131 (by decide) ?_
                              refine lv_istore (lv' := [(5, .int 1), (4, .int (nI k)), (3, .int (nI n)), (0, .ref (ad 5)), (1, .int (nI a)), (2, .int (nI b2))]) hx hb dX6_way_135 hl (by decide) rfl (fun ls hl => ?_)
                              refine lv_iload hx hb dX6_way_137 (lv_at hl 0 rfl) ?_
                              refine lv_if_ne (tgt := 186) hx hb dX6_way_139 (by decide) (fun c_41 => ?_) (fun c_41 => absurd c_41 (by decide))
                              refine lv_iconst (v := 1) hx hb dX6_way_186 (by decide) ?_
                              refine lv_goto (tgt := 191) hx hb dX6_way_187 (by decide) ?_
                              refine lv_istore (lv' := [(5, .int 1), (4, .int (nI k)), (3, .int (nI n)), (0, .ref (ad 5)), (1, .int (nI a)), (2, .int (nI b2))]) hx hb dX6_way_191 hl (by decide) rfl (fun ls hl => ?_)
                              refine lv_iload hx hb dX6_way_193 (lv_at hl 0 rfl) ?_
                              refine lv_if_eq (tgt := 208) hx hb dX6_way_195 (by decide) (fun c_42 => absurd c_42 (by decide)) (fun c_42 => ?_)
                              refine lv_aload_n hx hb dX6_way_198 rfl (lv_at hl 3 rfl) ?_
                              refine f_get X hw hMo fc7 11 (by decide) wq805 rfl (v := .ref (ad 13)) rfl dX6_way_199 ?_
                              refine lv_iload hx hb dX6_way_202 (lv_at hl 1 rfl) ?_
                              refine lv_iload_n hx hb dX6_way_204 rfl (lv_at hl 2 rfl) ?_
                              refine lv_iconst (v := 1) hx hb dX6_way_205 (by decide) ?_
                              refine lv_iadd hx hb dX6_way_206 ?_
                              refine f_top (y := nI (n + 1)) (nI_1 n) ?_
                              refine f_iast X hw hm13 (vp_in_nI (n := k) (by omega) (by omega)) dX6_way_207 (fun H locs hw => ?_)
                              rw [nI_clamp (n := k) (by omega)] at hw
                              have hw : fw g ad (fU M 13 (.inl (gI g, 140, .inl (upd S k (nI (n + 1)))))) s H locs := hw
                              have hMo : (fU M 13 (.inl (gI g, 140, .inl (upd S k (nI (n + 1)))))) 5 = some (.inr (7, [.int th, .int (nI (tHn U)), .int (nI (tPn U)), .int (nI (tEn U)), .ref (ad 6), .ref (ad 7), .ref (ad 8), .ref (ad 9), .ref (ad 10), .ref (ad 11), .ref (ad 12), .ref (ad 13), .ref (ad 14)])) := (fU_n (by omega)).trans hMo
                              have hm6 : (fU M 13 (.inl (gI g, 140, .inl (upd S k (nI (n + 1)))))) 6 = some (.inl (gI g, 6, .inl pcs)) := (fU_n (by omega)).trans hm6
                              have hm7 : (fU M 13 (.inl (gI g, 140, .inl (upd S k (nI (n + 1)))))) 7 = some (.inl (gI g, 6, .inl wa)) := (fU_n (by omega)).trans hm7
                              have hm8 : (fU M 13 (.inl (gI g, 140, .inl (upd S k (nI (n + 1)))))) 8 = some (.inl (gI g, 210, .inl ht)) := (fU_n (by omega)).trans hm8
                              have hm9 : (fU M 13 (.inl (gI g, 140, .inl (upd S k (nI (n + 1)))))) 9 = some (.inl (gI g, 54, .inl et)) := (fU_n (by omega)).trans hm9
                              have hm10 : (fU M 13 (.inl (gI g, 140, .inl (upd S k (nI (n + 1)))))) 10 = some (.inl (gI g, 1, .inl mi)) := (fU_n (by omega)).trans hm10
                              have hm11 : (fU M 13 (.inl (gI g, 140, .inl (upd S k (nI (n + 1)))))) 11 = some (.inl (gI g, 6, .inl co)) := (fU_n (by omega)).trans hm11
                              have hm12 : (fU M 13 (.inl (gI g, 140, .inl (upd S k (nI (n + 1)))))) 12 = some (.inl (gZ g, 6, .inl as)) := (fU_n (by omega)).trans hm12
                              have hm14 : (fU M 13 (.inl (gI g, 140, .inl (upd S k (nI (n + 1)))))) 14 = some (.inl (gZ g, 30, .inl ca)) := (fU_n (by omega)).trans hm14
                              have hm13 : (fU M 13 (.inl (gI g, 140, .inl (upd S k (nI (n + 1)))))) 13 = some (.inl (gI g, 140, .inl (upd S k (nI (n + 1))))) := fU_s
                              refine lv_iinc (v := nI (k + 1)) (lv' := [(4, .int (nI (k + 1))), (5, .int 1), (3, .int (nI n)), (0, .ref (ad 5)), (1, .int (nI a)), (2, .int (nI b2))]) hx hb dX6_way_208 hl (k := 1) rfl (nI_1 k) (by decide) rfl (fun ls hl => ?_)
                              refine lv_goto (tgt := 53) hx hb dX6_way_211 (by decide) ?_
                              have hM : isMo g ad (fU M 13 (.inl (gI g, 140, .inl (upd S k (nI (n + 1)))))) th U (upd (S) k (nI (n + 1))) ca := ⟨_, _, _, _, _, _, _, (fU_n (by omega)).trans (hMo), ⟨(fU_n (by omega)).trans (hm6), (fU_n (by omega)).trans (hm7), (fU_n (by omega)).trans (hm8), (fU_n (by omega)).trans (hm9), (fU_n (by omega)).trans (hm10), (fU_n (by omega)).trans (hm11), (fU_n (by omega)).trans (hm12), fU_s, (fU_n (by omega)).trans (hm14)⟩, hRel, hCnt⟩
                              have hrA : fReg 5 15 ad Mo ad (fU M 13 (.inl (gI g, 140, .inl (upd S k (nI (n + 1)))))) := fReg_U hrA (by omega)
                              have eW : upd S k (nI (n + 1)) = wyI U n s0 (k + 1) := by show _ = (if wyB U (wyI U n s0 k) n k = true then upd (wyI U n s0 k) k (nI (n + 1)) else wyI U n s0 k); rw [← hS, if_pos (wyB_yes (by assumption) (by assumption) (by first | exact Or.inl ⟨by omega, by assumption⟩ | exact Or.inr (Or.inl ⟨by omega, by assumption⟩) | exact Or.inr (Or.inr (Or.inl ⟨by omega, by assumption⟩)) | exact Or.inr (Or.inr (Or.inr ⟨by omega, by assumption⟩))))]
                              rw [eW] at hM hw hrA
                              exact ih53 (k + 1) (by omega) (by omega) _ hM hrA ls _ _ hw (lv_sub hl [0, 2, 3, 4, 5] rfl)
                            · refine lv_iload hx hb dX6_way_105 (lv_at hl 0 rfl) ?_
                              refine lv_bipush (v := 14) hx hb dX6_way_107 (by decide) ?_
                              refine lv_iadd hx hb dX6_way_109 ?_
                              refine f_top (y := nI (k + 14)) (show nI k + nI 14 = nI (k + 14) from nI_add k 14) ?_
                              refine lv_sipush (v := 140) hx hb dX6_way_110 (by decide) ?_
                              refine lv_icmp_ge (tgt := 134) hx hb dX6_way_113 (by decide) (fun c_43 => ?_) (fun c_43 => ?_)
                              · have c_43 := nI_le' (a := 140) (b := (k + 14)) c_43 (by omega) (by omega)
                                refine lv_iconst (v := 0) hx hb dX6_way_134 (by decide) ?_
                                refine lv_istore (lv' := [(5, .int 0), (4, .int (nI k)), (3, .int (nI n)), (0, .ref (ad 5)), (1, .int (nI a)), (2, .int (nI b2))]) hx hb dX6_way_135 hl (by decide) rfl (fun ls hl => ?_)
                                refine lv_iload hx hb dX6_way_137 (lv_at hl 0 rfl) ?_
                                refine lv_if_ne (tgt := 186) hx hb dX6_way_139 (by decide) (fun c_44 => absurd rfl c_44) (fun c_44 => ?_)
                                refine lv_iload hx hb dX6_way_142 (lv_at hl 1 rfl) ?_
                                refine lv_bipush (v := 14) hx hb dX6_way_144 (by decide) ?_
                                refine lv_irem hx hb dX6_way_146 (by decide) ?_
                                refine f_top (y := nI (k % 14)) (show nI k - nI k / nI 14 * nI 14 = nI (k % 14) from pk_rem (by omega) (by decide) (by decide)) ?_
                                refine lv_if_le (tgt := 163) hx hb dX6_way_147 (by decide) (fun c_45 => ?_) (fun c_45 => ?_)
                                · have c_45 := nI_le' (a := (k % 14)) (b := 0) c_45 (by omega) (by omega)
                                  refine lv_iload hx hb dX6_way_163 (lv_at hl 1 rfl) ?_
                                  refine lv_bipush (v := 14) hx hb dX6_way_165 (by decide) ?_
                                  refine lv_irem hx hb dX6_way_167 (by decide) ?_
                                  refine f_top (y := nI (k % 14)) (show nI k - nI k / nI 14 * nI 14 = nI (k % 14) from pk_rem (by omega) (by decide) (by decide)) ?_
                                  refine lv_bipush (v := 13) hx hb dX6_way_168 (by decide) ?_
                                  refine lv_icmp_ge (tgt := 190) hx hb dX6_way_170 (by decide) (fun c_46 => ?_) (fun c_46 => ?_)
                                  · have c_46 := nI_le' (a := 13) (b := (k % 14)) c_46 (by omega) (by omega)
                                    refine lv_iconst (v := 0) hx hb dX6_way_190 (by decide) ?_
                                    refine lv_istore (lv' := [(5, .int 0), (4, .int (nI k)), (3, .int (nI n)), (0, .ref (ad 5)), (1, .int (nI a)), (2, .int (nI b2))]) hx hb dX6_way_191 hl (by decide) rfl (fun ls hl => ?_)
                                    refine lv_iload hx hb dX6_way_193 (lv_at hl 0 rfl) ?_
                                    refine lv_if_eq (tgt := 208) hx hb dX6_way_195 (by decide) (fun c_47 => ?_) (fun c_47 => absurd rfl c_47)
                                    refine lv_iinc (v := nI (k + 1)) (lv' := [(4, .int (nI (k + 1))), (5, .int 0), (3, .int (nI n)), (0, .ref (ad 5)), (1, .int (nI a)), (2, .int (nI b2))]) hx hb dX6_way_208 hl (k := 1) rfl (nI_1 k) (by decide) rfl (fun ls hl => ?_)
                                    refine lv_goto (tgt := 53) hx hb dX6_way_211 (by decide) ?_
                                    have eW : S = wyI U n s0 (k + 1) := by show _ = (if wyB U (wyI U n s0 k) n k = true then upd (wyI U n s0 k) k (nI (n + 1)) else wyI U n s0 k); rw [← hS, if_neg (wyB_no (fun z1 z2 => ⟨fun q b => by first | omega | contradiction, fun q b => by first | omega | contradiction, fun q b => by first | omega | contradiction, fun q b => by first | omega | contradiction⟩))]
                                    rw [eW] at hM
                                    exact ih53 (k + 1) (by omega) (by omega) M hM hrA ls _ _ hw (lv_sub hl [0, 2, 3, 4, 5] rfl)
                                  · have c_46 := nI_nle' (a := 13) (b := (k % 14)) c_46 (by omega) (by omega)
                                    refine lv_aload_n hx hb dX6_way_173 rfl (lv_at hl 3 rfl) ?_
                                    refine f_get X hw hMo fc7 11 (by decide) wq805 rfl (v := .ref (ad 13)) rfl dX6_way_174 ?_
                                    refine lv_iload hx hb dX6_way_177 (lv_at hl 1 rfl) ?_
                                    refine lv_iconst (v := 1) hx hb dX6_way_179 (by decide) ?_
                                    refine lv_iadd hx hb dX6_way_180 ?_
                                    refine f_top (y := nI (k + 1)) (nI_1 k) ?_
                                    refine f_iald X hw hm13 (vp_in_nI (n := (k + 1)) (by omega) (by omega)) dX6_way_181 ?_
                                    rw [nI_clamp (n := (k + 1)) (by omega)]
                                    refine lv_iload_n hx hb dX6_way_182 rfl (lv_at hl 2 rfl) ?_
                                    refine lv_icmp_ne (tgt := 190) hx hb dX6_way_183 (by decide) (fun c_48 => ?_) (fun c_48 => ?_)
                                    · refine lv_iconst (v := 0) hx hb dX6_way_190 (by decide) ?_
                                      refine lv_istore (lv' := [(5, .int 0), (4, .int (nI k)), (3, .int (nI n)), (0, .ref (ad 5)), (1, .int (nI a)), (2, .int (nI b2))]) hx hb dX6_way_191 hl (by decide) rfl (fun ls hl => ?_)
                                      refine lv_iload hx hb dX6_way_193 (lv_at hl 0 rfl) ?_
                                      refine lv_if_eq (tgt := 208) hx hb dX6_way_195 (by decide) (fun c_49 => ?_) (fun c_49 => absurd rfl c_49)
                                      refine lv_iinc (v := nI (k + 1)) (lv' := [(4, .int (nI (k + 1))), (5, .int 0), (3, .int (nI n)), (0, .ref (ad 5)), (1, .int (nI a)), (2, .int (nI b2))]) hx hb dX6_way_208 hl (k := 1) rfl (nI_1 k) (by decide) rfl (fun ls hl => ?_)
                                      refine lv_goto (tgt := 53) hx hb dX6_way_211 (by decide) ?_
                                      have eW : S = wyI U n s0 (k + 1) := by show _ = (if wyB U (wyI U n s0 k) n k = true then upd (wyI U n s0 k) k (nI (n + 1)) else wyI U n s0 k); rw [← hS, if_neg (wyB_no (fun z1 z2 => ⟨fun q b => by first | omega | contradiction, fun q b => by first | omega | contradiction, fun q b => by first | omega | contradiction, fun q b => by first | omega | contradiction⟩))]
                                      rw [eW] at hM
                                      exact ih53 (k + 1) (by omega) (by omega) M hM hrA ls _ _ hw (lv_sub hl [0, 2, 3, 4, 5] rfl)
                                    · refine lv_iconst (v := 1) hx hb dX6_way_186 (by decide) ?_
                                      refine lv_goto (tgt := 191) hx hb dX6_way_187 (by decide) ?_
                                      refine lv_istore (lv' := [(5, .int 1), (4, .int (nI k)), (3, .int (nI n)), (0, .ref (ad 5)), (1, .int (nI a)), (2, .int (nI b2))]) hx hb dX6_way_191 hl (by decide) rfl (fun ls hl => ?_)
                                      refine lv_iload hx hb dX6_way_193 (lv_at hl 0 rfl) ?_
                                      refine lv_if_eq (tgt := 208) hx hb dX6_way_195 (by decide) (fun c_50 => absurd c_50 (by decide)) (fun c_50 => ?_)
                                      refine lv_aload_n hx hb dX6_way_198 rfl (lv_at hl 3 rfl) ?_
                                      refine f_get X hw hMo fc7 11 (by decide) wq805 rfl (v := .ref (ad 13)) rfl dX6_way_199 ?_
                                      refine lv_iload hx hb dX6_way_202 (lv_at hl 1 rfl) ?_
                                      refine lv_iload_n hx hb dX6_way_204 rfl (lv_at hl 2 rfl) ?_
                                      refine lv_iconst (v := 1) hx hb dX6_way_205 (by decide) ?_
                                      refine lv_iadd hx hb dX6_way_206 ?_
                                      refine f_top (y := nI (n + 1)) (nI_1 n) ?_
                                      refine f_iast X hw hm13 (vp_in_nI (n := k) (by omega) (by omega)) dX6_way_207 (fun H locs hw => ?_)
                                      rw [nI_clamp (n := k) (by omega)] at hw
                                      have hw : fw g ad (fU M 13 (.inl (gI g, 140, .inl (upd S k (nI (n + 1)))))) s H locs := hw
                                      have hMo : (fU M 13 (.inl (gI g, 140, .inl (upd S k (nI (n + 1)))))) 5 = some (.inr (7, [.int th, .int (nI (tHn U)), .int (nI (tPn U)), .int (nI (tEn U)), .ref (ad 6), .ref (ad 7), .ref (ad 8), .ref (ad 9), .ref (ad 10), .ref (ad 11), .ref (ad 12), .ref (ad 13), .ref (ad 14)])) := (fU_n (by omega)).trans hMo
                                      have hm6 : (fU M 13 (.inl (gI g, 140, .inl (upd S k (nI (n + 1)))))) 6 = some (.inl (gI g, 6, .inl pcs)) := (fU_n (by omega)).trans hm6
                                      have hm7 : (fU M 13 (.inl (gI g, 140, .inl (upd S k (nI (n + 1)))))) 7 = some (.inl (gI g, 6, .inl wa)) := (fU_n (by omega)).trans hm7
                                      have hm8 : (fU M 13 (.inl (gI g, 140, .inl (upd S k (nI (n + 1)))))) 8 = some (.inl (gI g, 210, .inl ht)) := (fU_n (by omega)).trans hm8
                                      have hm9 : (fU M 13 (.inl (gI g, 140, .inl (upd S k (nI (n + 1)))))) 9 = some (.inl (gI g, 54, .inl et)) := (fU_n (by omega)).trans hm9
                                      have hm10 : (fU M 13 (.inl (gI g, 140, .inl (upd S k (nI (n + 1)))))) 10 = some (.inl (gI g, 1, .inl mi)) := (fU_n (by omega)).trans hm10
                                      have hm11 : (fU M 13 (.inl (gI g, 140, .inl (upd S k (nI (n + 1)))))) 11 = some (.inl (gI g, 6, .inl co)) := (fU_n (by omega)).trans hm11
                                      have hm12 : (fU M 13 (.inl (gI g, 140, .inl (upd S k (nI (n + 1)))))) 12 = some (.inl (gZ g, 6, .inl as)) := (fU_n (by omega)).trans hm12
                                      have hm14 : (fU M 13 (.inl (gI g, 140, .inl (upd S k (nI (n + 1)))))) 14 = some (.inl (gZ g, 30, .inl ca)) := (fU_n (by omega)).trans hm14
                                      have hm13 : (fU M 13 (.inl (gI g, 140, .inl (upd S k (nI (n + 1)))))) 13 = some (.inl (gI g, 140, .inl (upd S k (nI (n + 1))))) := fU_s
                                      refine lv_iinc (v := nI (k + 1)) (lv' := [(4, .int (nI (k + 1))), (5, .int 1), (3, .int (nI n)), (0, .ref (ad 5)), (1, .int (nI a)), (2, .int (nI b2))]) hx hb dX6_way_208 hl (k := 1) rfl (nI_1 k) (by decide) rfl (fun ls hl => ?_)
                                      refine lv_goto (tgt := 53) hx hb dX6_way_211 (by decide) ?_
                                      have hM : isMo g ad (fU M 13 (.inl (gI g, 140, .inl (upd S k (nI (n + 1)))))) th U (upd (S) k (nI (n + 1))) ca := ⟨_, _, _, _, _, _, _, (fU_n (by omega)).trans (hMo), ⟨(fU_n (by omega)).trans (hm6), (fU_n (by omega)).trans (hm7), (fU_n (by omega)).trans (hm8), (fU_n (by omega)).trans (hm9), (fU_n (by omega)).trans (hm10), (fU_n (by omega)).trans (hm11), (fU_n (by omega)).trans (hm12), fU_s, (fU_n (by omega)).trans (hm14)⟩, hRel, hCnt⟩
                                      have hrA : fReg 5 15 ad Mo ad (fU M 13 (.inl (gI g, 140, .inl (upd S k (nI (n + 1)))))) := fReg_U hrA (by omega)
                                      have eW : upd S k (nI (n + 1)) = wyI U n s0 (k + 1) := by show _ = (if wyB U (wyI U n s0 k) n k = true then upd (wyI U n s0 k) k (nI (n + 1)) else wyI U n s0 k); rw [← hS, if_pos (wyB_yes (by assumption) (by assumption) (by first | exact Or.inl ⟨by omega, by assumption⟩ | exact Or.inr (Or.inl ⟨by omega, by assumption⟩) | exact Or.inr (Or.inr (Or.inl ⟨by omega, by assumption⟩)) | exact Or.inr (Or.inr (Or.inr ⟨by omega, by assumption⟩))))]
                                      rw [eW] at hM hw hrA
                                      exact ih53 (k + 1) (by omega) (by omega) _ hM hrA ls _ _ hw (lv_sub hl [0, 2, 3, 4, 5] rfl)
                                · have c_45 := nI_nle' (a := (k % 14)) (b := 0) c_45 (by omega) (by omega)
                                  refine lv_aload_n hx hb dX6_way_150 rfl (lv_at hl 3 rfl) ?_
                                  refine f_get X hw hMo fc7 11 (by decide) wq805 rfl (v := .ref (ad 13)) rfl dX6_way_151 ?_
                                  refine lv_iload hx hb dX6_way_154 (lv_at hl 1 rfl) ?_
                                  refine lv_iconst (v := 1) hx hb dX6_way_156 (by decide) ?_
                                  refine lv_isub hx hb dX6_way_157 ?_
                                  refine f_top (y := nI (k - 1)) (show nI k - nI 1 = nI (k - 1) from pk_sub (by omega)) ?_
                                  refine f_iald X hw hm13 (vp_in_nI (n := (k - 1)) (by omega) (by omega)) dX6_way_158 ?_
                                  rw [nI_clamp (n := (k - 1)) (by omega)]
                                  refine lv_iload_n hx hb dX6_way_159 rfl (lv_at hl 2 rfl) ?_
                                  refine lv_icmp_eq (tgt := 186) hx hb dX6_way_160 (by decide) (fun c_51 => ?_) (fun c_51 => ?_)
                                  · refine lv_iconst (v := 1) hx hb dX6_way_186 (by decide) ?_
                                    refine lv_goto (tgt := 191) hx hb dX6_way_187 (by decide) ?_
                                    refine lv_istore (lv' := [(5, .int 1), (4, .int (nI k)), (3, .int (nI n)), (0, .ref (ad 5)), (1, .int (nI a)), (2, .int (nI b2))]) hx hb dX6_way_191 hl (by decide) rfl (fun ls hl => ?_)
                                    refine lv_iload hx hb dX6_way_193 (lv_at hl 0 rfl) ?_
                                    refine lv_if_eq (tgt := 208) hx hb dX6_way_195 (by decide) (fun c_52 => absurd c_52 (by decide)) (fun c_52 => ?_)
                                    refine lv_aload_n hx hb dX6_way_198 rfl (lv_at hl 3 rfl) ?_
                                    refine f_get X hw hMo fc7 11 (by decide) wq805 rfl (v := .ref (ad 13)) rfl dX6_way_199 ?_
                                    refine lv_iload hx hb dX6_way_202 (lv_at hl 1 rfl) ?_
                                    refine lv_iload_n hx hb dX6_way_204 rfl (lv_at hl 2 rfl) ?_
                                    refine lv_iconst (v := 1) hx hb dX6_way_205 (by decide) ?_
                                    refine lv_iadd hx hb dX6_way_206 ?_
                                    refine f_top (y := nI (n + 1)) (nI_1 n) ?_
                                    refine f_iast X hw hm13 (vp_in_nI (n := k) (by omega) (by omega)) dX6_way_207 (fun H locs hw => ?_)
                                    rw [nI_clamp (n := k) (by omega)] at hw
                                    have hw : fw g ad (fU M 13 (.inl (gI g, 140, .inl (upd S k (nI (n + 1)))))) s H locs := hw
                                    have hMo : (fU M 13 (.inl (gI g, 140, .inl (upd S k (nI (n + 1)))))) 5 = some (.inr (7, [.int th, .int (nI (tHn U)), .int (nI (tPn U)), .int (nI (tEn U)), .ref (ad 6), .ref (ad 7), .ref (ad 8), .ref (ad 9), .ref (ad 10), .ref (ad 11), .ref (ad 12), .ref (ad 13), .ref (ad 14)])) := (fU_n (by omega)).trans hMo
                                    have hm6 : (fU M 13 (.inl (gI g, 140, .inl (upd S k (nI (n + 1)))))) 6 = some (.inl (gI g, 6, .inl pcs)) := (fU_n (by omega)).trans hm6
                                    have hm7 : (fU M 13 (.inl (gI g, 140, .inl (upd S k (nI (n + 1)))))) 7 = some (.inl (gI g, 6, .inl wa)) := (fU_n (by omega)).trans hm7
                                    have hm8 : (fU M 13 (.inl (gI g, 140, .inl (upd S k (nI (n + 1)))))) 8 = some (.inl (gI g, 210, .inl ht)) := (fU_n (by omega)).trans hm8
                                    have hm9 : (fU M 13 (.inl (gI g, 140, .inl (upd S k (nI (n + 1)))))) 9 = some (.inl (gI g, 54, .inl et)) := (fU_n (by omega)).trans hm9
                                    have hm10 : (fU M 13 (.inl (gI g, 140, .inl (upd S k (nI (n + 1)))))) 10 = some (.inl (gI g, 1, .inl mi)) := (fU_n (by omega)).trans hm10
                                    have hm11 : (fU M 13 (.inl (gI g, 140, .inl (upd S k (nI (n + 1)))))) 11 = some (.inl (gI g, 6, .inl co)) := (fU_n (by omega)).trans hm11
                                    have hm12 : (fU M 13 (.inl (gI g, 140, .inl (upd S k (nI (n + 1)))))) 12 = some (.inl (gZ g, 6, .inl as)) := (fU_n (by omega)).trans hm12
                                    have hm14 : (fU M 13 (.inl (gI g, 140, .inl (upd S k (nI (n + 1)))))) 14 = some (.inl (gZ g, 30, .inl ca)) := (fU_n (by omega)).trans hm14
                                    have hm13 : (fU M 13 (.inl (gI g, 140, .inl (upd S k (nI (n + 1)))))) 13 = some (.inl (gI g, 140, .inl (upd S k (nI (n + 1))))) := fU_s
                                    refine lv_iinc (v := nI (k + 1)) (lv' := [(4, .int (nI (k + 1))), (5, .int 1), (3, .int (nI n)), (0, .ref (ad 5)), (1, .int (nI a)), (2, .int (nI b2))]) hx hb dX6_way_208 hl (k := 1) rfl (nI_1 k) (by decide) rfl (fun ls hl => ?_)
                                    refine lv_goto (tgt := 53) hx hb dX6_way_211 (by decide) ?_
                                    have hM : isMo g ad (fU M 13 (.inl (gI g, 140, .inl (upd S k (nI (n + 1)))))) th U (upd (S) k (nI (n + 1))) ca := ⟨_, _, _, _, _, _, _, (fU_n (by omega)).trans (hMo), ⟨(fU_n (by omega)).trans (hm6), (fU_n (by omega)).trans (hm7), (fU_n (by omega)).trans (hm8), (fU_n (by omega)).trans (hm9), (fU_n (by omega)).trans (hm10), (fU_n (by omega)).trans (hm11), (fU_n (by omega)).trans (hm12), fU_s, (fU_n (by omega)).trans (hm14)⟩, hRel, hCnt⟩
                                    have hrA : fReg 5 15 ad Mo ad (fU M 13 (.inl (gI g, 140, .inl (upd S k (nI (n + 1)))))) := fReg_U hrA (by omega)
                                    have eW : upd S k (nI (n + 1)) = wyI U n s0 (k + 1) := by show _ = (if wyB U (wyI U n s0 k) n k = true then upd (wyI U n s0 k) k (nI (n + 1)) else wyI U n s0 k); rw [← hS, if_pos (wyB_yes (by assumption) (by assumption) (by first | exact Or.inl ⟨by omega, by assumption⟩ | exact Or.inr (Or.inl ⟨by omega, by assumption⟩) | exact Or.inr (Or.inr (Or.inl ⟨by omega, by assumption⟩)) | exact Or.inr (Or.inr (Or.inr ⟨by omega, by assumption⟩))))]
                                    rw [eW] at hM hw hrA
                                    exact ih53 (k + 1) (by omega) (by omega) _ hM hrA ls _ _ hw (lv_sub hl [0, 2, 3, 4, 5] rfl)
                                  · refine lv_iload hx hb dX6_way_163 (lv_at hl 1 rfl) ?_
                                    refine lv_bipush (v := 14) hx hb dX6_way_165 (by decide) ?_
                                    refine lv_irem hx hb dX6_way_167 (by decide) ?_
                                    refine f_top (y := nI (k % 14)) (show nI k - nI k / nI 14 * nI 14 = nI (k % 14) from pk_rem (by omega) (by decide) (by decide)) ?_
                                    refine lv_bipush (v := 13) hx hb dX6_way_168 (by decide) ?_
                                    refine lv_icmp_ge (tgt := 190) hx hb dX6_way_170 (by decide) (fun c_53 => ?_) (fun c_53 => ?_)
                                    · have c_53 := nI_le' (a := 13) (b := (k % 14)) c_53 (by omega) (by omega)
                                      refine lv_iconst (v := 0) hx hb dX6_way_190 (by decide) ?_
                                      refine lv_istore (lv' := [(5, .int 0), (4, .int (nI k)), (3, .int (nI n)), (0, .ref (ad 5)), (1, .int (nI a)), (2, .int (nI b2))]) hx hb dX6_way_191 hl (by decide) rfl (fun ls hl => ?_)
                                      refine lv_iload hx hb dX6_way_193 (lv_at hl 0 rfl) ?_
                                      refine lv_if_eq (tgt := 208) hx hb dX6_way_195 (by decide) (fun c_54 => ?_) (fun c_54 => absurd rfl c_54)
                                      refine lv_iinc (v := nI (k + 1)) (lv' := [(4, .int (nI (k + 1))), (5, .int 0), (3, .int (nI n)), (0, .ref (ad 5)), (1, .int (nI a)), (2, .int (nI b2))]) hx hb dX6_way_208 hl (k := 1) rfl (nI_1 k) (by decide) rfl (fun ls hl => ?_)
                                      refine lv_goto (tgt := 53) hx hb dX6_way_211 (by decide) ?_
                                      have eW : S = wyI U n s0 (k + 1) := by show _ = (if wyB U (wyI U n s0 k) n k = true then upd (wyI U n s0 k) k (nI (n + 1)) else wyI U n s0 k); rw [← hS, if_neg (wyB_no (fun z1 z2 => ⟨fun q b => by first | omega | contradiction, fun q b => by first | omega | contradiction, fun q b => by first | omega | contradiction, fun q b => by first | omega | contradiction⟩))]
                                      rw [eW] at hM
                                      exact ih53 (k + 1) (by omega) (by omega) M hM hrA ls _ _ hw (lv_sub hl [0, 2, 3, 4, 5] rfl)
                                    · have c_53 := nI_nle' (a := 13) (b := (k % 14)) c_53 (by omega) (by omega)
                                      refine lv_aload_n hx hb dX6_way_173 rfl (lv_at hl 3 rfl) ?_
                                      refine f_get X hw hMo fc7 11 (by decide) wq805 rfl (v := .ref (ad 13)) rfl dX6_way_174 ?_
                                      refine lv_iload hx hb dX6_way_177 (lv_at hl 1 rfl) ?_
                                      refine lv_iconst (v := 1) hx hb dX6_way_179 (by decide) ?_
                                      refine lv_iadd hx hb dX6_way_180 ?_
                                      refine f_top (y := nI (k + 1)) (nI_1 k) ?_
                                      refine f_iald X hw hm13 (vp_in_nI (n := (k + 1)) (by omega) (by omega)) dX6_way_181 ?_
                                      rw [nI_clamp (n := (k + 1)) (by omega)]
                                      refine lv_iload_n hx hb dX6_way_182 rfl (lv_at hl 2 rfl) ?_
                                      refine lv_icmp_ne (tgt := 190) hx hb dX6_way_183 (by decide) (fun c_55 => ?_) (fun c_55 => ?_)
                                      · refine lv_iconst (v := 0) hx hb dX6_way_190 (by decide) ?_
                                        refine lv_istore (lv' := [(5, .int 0), (4, .int (nI k)), (3, .int (nI n)), (0, .ref (ad 5)), (1, .int (nI a)), (2, .int (nI b2))]) hx hb dX6_way_191 hl (by decide) rfl (fun ls hl => ?_)
                                        refine lv_iload hx hb dX6_way_193 (lv_at hl 0 rfl) ?_
                                        refine lv_if_eq (tgt := 208) hx hb dX6_way_195 (by decide) (fun c_56 => ?_) (fun c_56 => absurd rfl c_56)
                                        refine lv_iinc (v := nI (k + 1)) (lv' := [(4, .int (nI (k + 1))), (5, .int 0), (3, .int (nI n)), (0, .ref (ad 5)), (1, .int (nI a)), (2, .int (nI b2))]) hx hb dX6_way_208 hl (k := 1) rfl (nI_1 k) (by decide) rfl (fun ls hl => ?_)
                                        refine lv_goto (tgt := 53) hx hb dX6_way_211 (by decide) ?_
                                        have eW : S = wyI U n s0 (k + 1) := by show _ = (if wyB U (wyI U n s0 k) n k = true then upd (wyI U n s0 k) k (nI (n + 1)) else wyI U n s0 k); rw [← hS, if_neg (wyB_no (fun z1 z2 => ⟨fun q b => by first | omega | contradiction, fun q b => by first | omega | contradiction, fun q b => by first | omega | contradiction, fun q b => by first | omega | contradiction⟩))]
                                        rw [eW] at hM
                                        exact ih53 (k + 1) (by omega) (by omega) M hM hrA ls _ _ hw (lv_sub hl [0, 2, 3, 4, 5] rfl)
                                      · refine lv_iconst (v := 1) hx hb dX6_way_186 (by decide) ?_
                                        refine lv_goto (tgt := 191) hx hb dX6_way_187 (by decide) ?_
                                        refine lv_istore (lv' := [(5, .int 1), (4, .int (nI k)), (3, .int (nI n)), (0, .ref (ad 5)), (1, .int (nI a)), (2, .int (nI b2))]) hx hb dX6_way_191 hl (by decide) rfl (fun ls hl => ?_)
                                        refine lv_iload hx hb dX6_way_193 (lv_at hl 0 rfl) ?_
                                        refine lv_if_eq (tgt := 208) hx hb dX6_way_195 (by decide) (fun c_57 => absurd c_57 (by decide)) (fun c_57 => ?_)
                                        refine lv_aload_n hx hb dX6_way_198 rfl (lv_at hl 3 rfl) ?_
                                        refine f_get X hw hMo fc7 11 (by decide) wq805 rfl (v := .ref (ad 13)) rfl dX6_way_199 ?_
                                        refine lv_iload hx hb dX6_way_202 (lv_at hl 1 rfl) ?_
                                        refine lv_iload_n hx hb dX6_way_204 rfl (lv_at hl 2 rfl) ?_
                                        refine lv_iconst (v := 1) hx hb dX6_way_205 (by decide) ?_
                                        refine lv_iadd hx hb dX6_way_206 ?_
                                        refine f_top (y := nI (n + 1)) (nI_1 n) ?_
                                        refine f_iast X hw hm13 (vp_in_nI (n := k) (by omega) (by omega)) dX6_way_207 (fun H locs hw => ?_)
                                        rw [nI_clamp (n := k) (by omega)] at hw
                                        have hw : fw g ad (fU M 13 (.inl (gI g, 140, .inl (upd S k (nI (n + 1)))))) s H locs := hw
                                        have hMo : (fU M 13 (.inl (gI g, 140, .inl (upd S k (nI (n + 1)))))) 5 = some (.inr (7, [.int th, .int (nI (tHn U)), .int (nI (tPn U)), .int (nI (tEn U)), .ref (ad 6), .ref (ad 7), .ref (ad 8), .ref (ad 9), .ref (ad 10), .ref (ad 11), .ref (ad 12), .ref (ad 13), .ref (ad 14)])) := (fU_n (by omega)).trans hMo
                                        have hm6 : (fU M 13 (.inl (gI g, 140, .inl (upd S k (nI (n + 1)))))) 6 = some (.inl (gI g, 6, .inl pcs)) := (fU_n (by omega)).trans hm6
                                        have hm7 : (fU M 13 (.inl (gI g, 140, .inl (upd S k (nI (n + 1)))))) 7 = some (.inl (gI g, 6, .inl wa)) := (fU_n (by omega)).trans hm7
                                        have hm8 : (fU M 13 (.inl (gI g, 140, .inl (upd S k (nI (n + 1)))))) 8 = some (.inl (gI g, 210, .inl ht)) := (fU_n (by omega)).trans hm8
                                        have hm9 : (fU M 13 (.inl (gI g, 140, .inl (upd S k (nI (n + 1)))))) 9 = some (.inl (gI g, 54, .inl et)) := (fU_n (by omega)).trans hm9
                                        have hm10 : (fU M 13 (.inl (gI g, 140, .inl (upd S k (nI (n + 1)))))) 10 = some (.inl (gI g, 1, .inl mi)) := (fU_n (by omega)).trans hm10
                                        have hm11 : (fU M 13 (.inl (gI g, 140, .inl (upd S k (nI (n + 1)))))) 11 = some (.inl (gI g, 6, .inl co)) := (fU_n (by omega)).trans hm11
                                        have hm12 : (fU M 13 (.inl (gI g, 140, .inl (upd S k (nI (n + 1)))))) 12 = some (.inl (gZ g, 6, .inl as)) := (fU_n (by omega)).trans hm12
                                        have hm14 : (fU M 13 (.inl (gI g, 140, .inl (upd S k (nI (n + 1)))))) 14 = some (.inl (gZ g, 30, .inl ca)) := (fU_n (by omega)).trans hm14
                                        have hm13 : (fU M 13 (.inl (gI g, 140, .inl (upd S k (nI (n + 1)))))) 13 = some (.inl (gI g, 140, .inl (upd S k (nI (n + 1))))) := fU_s
                                        refine lv_iinc (v := nI (k + 1)) (lv' := [(4, .int (nI (k + 1))), (5, .int 1), (3, .int (nI n)), (0, .ref (ad 5)), (1, .int (nI a)), (2, .int (nI b2))]) hx hb dX6_way_208 hl (k := 1) rfl (nI_1 k) (by decide) rfl (fun ls hl => ?_)
                                        refine lv_goto (tgt := 53) hx hb dX6_way_211 (by decide) ?_
                                        have hM : isMo g ad (fU M 13 (.inl (gI g, 140, .inl (upd S k (nI (n + 1)))))) th U (upd (S) k (nI (n + 1))) ca := ⟨_, _, _, _, _, _, _, (fU_n (by omega)).trans (hMo), ⟨(fU_n (by omega)).trans (hm6), (fU_n (by omega)).trans (hm7), (fU_n (by omega)).trans (hm8), (fU_n (by omega)).trans (hm9), (fU_n (by omega)).trans (hm10), (fU_n (by omega)).trans (hm11), (fU_n (by omega)).trans (hm12), fU_s, (fU_n (by omega)).trans (hm14)⟩, hRel, hCnt⟩
                                        have hrA : fReg 5 15 ad Mo ad (fU M 13 (.inl (gI g, 140, .inl (upd S k (nI (n + 1)))))) := fReg_U hrA (by omega)
                                        have eW : upd S k (nI (n + 1)) = wyI U n s0 (k + 1) := by show _ = (if wyB U (wyI U n s0 k) n k = true then upd (wyI U n s0 k) k (nI (n + 1)) else wyI U n s0 k); rw [← hS, if_pos (wyB_yes (by assumption) (by assumption) (by first | exact Or.inl ⟨by omega, by assumption⟩ | exact Or.inr (Or.inl ⟨by omega, by assumption⟩) | exact Or.inr (Or.inr (Or.inl ⟨by omega, by assumption⟩)) | exact Or.inr (Or.inr (Or.inr ⟨by omega, by assumption⟩))))]
                                        rw [eW] at hM hw hrA
                                        exact ih53 (k + 1) (by omega) (by omega) _ hM hrA ls _ _ hw (lv_sub hl [0, 2, 3, 4, 5] rfl)
                              · have c_43 := nI_nle' (a := 140) (b := (k + 14)) c_43 (by omega) (by omega)
                                refine lv_aload_n hx hb dX6_way_116 rfl (lv_at hl 2 rfl) ?_
                                refine f_get X hw hMo fc7 11 (by decide) wq805 rfl (v := .ref (ad 13)) rfl dX6_way_117 ?_
                                refine lv_iload hx hb dX6_way_120 (lv_at hl 0 rfl) ?_
                                refine lv_bipush (v := 14) hx hb dX6_way_122 (by decide) ?_
                                refine lv_iadd hx hb dX6_way_124 ?_
                                refine f_top (y := nI (k + 14)) (show nI k + nI 14 = nI (k + 14) from nI_add k 14) ?_
                                refine f_iald X hw hm13 (vp_in_nI (n := (k + 14)) (by omega) (by omega)) dX6_way_125 ?_
                                rw [nI_clamp (n := (k + 14)) (by omega)]
                                refine lv_iload_n hx hb dX6_way_126 rfl (lv_at hl 1 rfl) ?_
                                refine lv_icmp_ne (tgt := 134) hx hb dX6_way_127 (by decide) (fun c_58 => ?_) (fun c_58 => ?_)
                                · refine lv_iconst (v := 0) hx hb dX6_way_134 (by decide) ?_
                                  refine lv_istore (lv' := [(5, .int 0), (4, .int (nI k)), (3, .int (nI n)), (0, .ref (ad 5)), (1, .int (nI a)), (2, .int (nI b2))]) hx hb dX6_way_135 hl (by decide) rfl (fun ls hl => ?_)
                                  refine lv_iload hx hb dX6_way_137 (lv_at hl 0 rfl) ?_
                                  refine lv_if_ne (tgt := 186) hx hb dX6_way_139 (by decide) (fun c_59 => absurd rfl c_59) (fun c_59 => ?_)
                                  refine lv_iload hx hb dX6_way_142 (lv_at hl 1 rfl) ?_
                                  refine lv_bipush (v := 14) hx hb dX6_way_144 (by decide) ?_
                                  refine lv_irem hx hb dX6_way_146 (by decide) ?_
                                  refine f_top (y := nI (k % 14)) (show nI k - nI k / nI 14 * nI 14 = nI (k % 14) from pk_rem (by omega) (by decide) (by decide)) ?_
                                  refine lv_if_le (tgt := 163) hx hb dX6_way_147 (by decide) (fun c_60 => ?_) (fun c_60 => ?_)
                                  · have c_60 := nI_le' (a := (k % 14)) (b := 0) c_60 (by omega) (by omega)
                                    refine lv_iload hx hb dX6_way_163 (lv_at hl 1 rfl) ?_
                                    refine lv_bipush (v := 14) hx hb dX6_way_165 (by decide) ?_
                                    refine lv_irem hx hb dX6_way_167 (by decide) ?_
                                    refine f_top (y := nI (k % 14)) (show nI k - nI k / nI 14 * nI 14 = nI (k % 14) from pk_rem (by omega) (by decide) (by decide)) ?_
                                    refine lv_bipush (v := 13) hx hb dX6_way_168 (by decide) ?_
                                    refine lv_icmp_ge (tgt := 190) hx hb dX6_way_170 (by decide) (fun c_61 => ?_) (fun c_61 => ?_)
                                    · have c_61 := nI_le' (a := 13) (b := (k % 14)) c_61 (by omega) (by omega)
                                      refine lv_iconst (v := 0) hx hb dX6_way_190 (by decide) ?_
                                      refine lv_istore (lv' := [(5, .int 0), (4, .int (nI k)), (3, .int (nI n)), (0, .ref (ad 5)), (1, .int (nI a)), (2, .int (nI b2))]) hx hb dX6_way_191 hl (by decide) rfl (fun ls hl => ?_)
                                      refine lv_iload hx hb dX6_way_193 (lv_at hl 0 rfl) ?_
                                      refine lv_if_eq (tgt := 208) hx hb dX6_way_195 (by decide) (fun c_62 => ?_) (fun c_62 => absurd rfl c_62)
                                      refine lv_iinc (v := nI (k + 1)) (lv' := [(4, .int (nI (k + 1))), (5, .int 0), (3, .int (nI n)), (0, .ref (ad 5)), (1, .int (nI a)), (2, .int (nI b2))]) hx hb dX6_way_208 hl (k := 1) rfl (nI_1 k) (by decide) rfl (fun ls hl => ?_)
                                      refine lv_goto (tgt := 53) hx hb dX6_way_211 (by decide) ?_
                                      have eW : S = wyI U n s0 (k + 1) := by show _ = (if wyB U (wyI U n s0 k) n k = true then upd (wyI U n s0 k) k (nI (n + 1)) else wyI U n s0 k); rw [← hS, if_neg (wyB_no (fun z1 z2 => ⟨fun q b => by first | omega | contradiction, fun q b => by first | omega | contradiction, fun q b => by first | omega | contradiction, fun q b => by first | omega | contradiction⟩))]
                                      rw [eW] at hM
                                      exact ih53 (k + 1) (by omega) (by omega) M hM hrA ls _ _ hw (lv_sub hl [0, 2, 3, 4, 5] rfl)
                                    · have c_61 := nI_nle' (a := 13) (b := (k % 14)) c_61 (by omega) (by omega)
                                      refine lv_aload_n hx hb dX6_way_173 rfl (lv_at hl 3 rfl) ?_
                                      refine f_get X hw hMo fc7 11 (by decide) wq805 rfl (v := .ref (ad 13)) rfl dX6_way_174 ?_
                                      refine lv_iload hx hb dX6_way_177 (lv_at hl 1 rfl) ?_
                                      refine lv_iconst (v := 1) hx hb dX6_way_179 (by decide) ?_
                                      refine lv_iadd hx hb dX6_way_180 ?_
                                      refine f_top (y := nI (k + 1)) (nI_1 k) ?_
                                      refine f_iald X hw hm13 (vp_in_nI (n := (k + 1)) (by omega) (by omega)) dX6_way_181 ?_
                                      rw [nI_clamp (n := (k + 1)) (by omega)]
                                      refine lv_iload_n hx hb dX6_way_182 rfl (lv_at hl 2 rfl) ?_
                                      refine lv_icmp_ne (tgt := 190) hx hb dX6_way_183 (by decide) (fun c_63 => ?_) (fun c_63 => ?_)
                                      · refine lv_iconst (v := 0) hx hb dX6_way_190 (by decide) ?_
                                        refine lv_istore (lv' := [(5, .int 0), (4, .int (nI k)), (3, .int (nI n)), (0, .ref (ad 5)), (1, .int (nI a)), (2, .int (nI b2))]) hx hb dX6_way_191 hl (by decide) rfl (fun ls hl => ?_)
                                        refine lv_iload hx hb dX6_way_193 (lv_at hl 0 rfl) ?_
                                        refine lv_if_eq (tgt := 208) hx hb dX6_way_195 (by decide) (fun c_64 => ?_) (fun c_64 => absurd rfl c_64)
                                        refine lv_iinc (v := nI (k + 1)) (lv' := [(4, .int (nI (k + 1))), (5, .int 0), (3, .int (nI n)), (0, .ref (ad 5)), (1, .int (nI a)), (2, .int (nI b2))]) hx hb dX6_way_208 hl (k := 1) rfl (nI_1 k) (by decide) rfl (fun ls hl => ?_)
                                        refine lv_goto (tgt := 53) hx hb dX6_way_211 (by decide) ?_
                                        have eW : S = wyI U n s0 (k + 1) := by show _ = (if wyB U (wyI U n s0 k) n k = true then upd (wyI U n s0 k) k (nI (n + 1)) else wyI U n s0 k); rw [← hS, if_neg (wyB_no (fun z1 z2 => ⟨fun q b => by first | omega | contradiction, fun q b => by first | omega | contradiction, fun q b => by first | omega | contradiction, fun q b => by first | omega | contradiction⟩))]
                                        rw [eW] at hM
                                        exact ih53 (k + 1) (by omega) (by omega) M hM hrA ls _ _ hw (lv_sub hl [0, 2, 3, 4, 5] rfl)
                                      · refine lv_iconst (v := 1) hx hb dX6_way_186 (by decide) ?_
                                        refine lv_goto (tgt := 191) hx hb dX6_way_187 (by decide) ?_
                                        refine lv_istore (lv' := [(5, .int 1), (4, .int (nI k)), (3, .int (nI n)), (0, .ref (ad 5)), (1, .int (nI a)), (2, .int (nI b2))]) hx hb dX6_way_191 hl (by decide) rfl (fun ls hl => ?_)
                                        refine lv_iload hx hb dX6_way_193 (lv_at hl 0 rfl) ?_
                                        refine lv_if_eq (tgt := 208) hx hb dX6_way_195 (by decide) (fun c_65 => absurd c_65 (by decide)) (fun c_65 => ?_)
                                        refine lv_aload_n hx hb dX6_way_198 rfl (lv_at hl 3 rfl) ?_
                                        refine f_get X hw hMo fc7 11 (by decide) wq805 rfl (v := .ref (ad 13)) rfl dX6_way_199 ?_
                                        refine lv_iload hx hb dX6_way_202 (lv_at hl 1 rfl) ?_
                                        refine lv_iload_n hx hb dX6_way_204 rfl (lv_at hl 2 rfl) ?_
                                        refine lv_iconst (v := 1) hx hb dX6_way_205 (by decide) ?_
                                        refine lv_iadd hx hb dX6_way_206 ?_
                                        refine f_top (y := nI (n + 1)) (nI_1 n) ?_
                                        refine f_iast X hw hm13 (vp_in_nI (n := k) (by omega) (by omega)) dX6_way_207 (fun H locs hw => ?_)
                                        rw [nI_clamp (n := k) (by omega)] at hw
                                        have hw : fw g ad (fU M 13 (.inl (gI g, 140, .inl (upd S k (nI (n + 1)))))) s H locs := hw
                                        have hMo : (fU M 13 (.inl (gI g, 140, .inl (upd S k (nI (n + 1)))))) 5 = some (.inr (7, [.int th, .int (nI (tHn U)), .int (nI (tPn U)), .int (nI (tEn U)), .ref (ad 6), .ref (ad 7), .ref (ad 8), .ref (ad 9), .ref (ad 10), .ref (ad 11), .ref (ad 12), .ref (ad 13), .ref (ad 14)])) := (fU_n (by omega)).trans hMo
                                        have hm6 : (fU M 13 (.inl (gI g, 140, .inl (upd S k (nI (n + 1)))))) 6 = some (.inl (gI g, 6, .inl pcs)) := (fU_n (by omega)).trans hm6
                                        have hm7 : (fU M 13 (.inl (gI g, 140, .inl (upd S k (nI (n + 1)))))) 7 = some (.inl (gI g, 6, .inl wa)) := (fU_n (by omega)).trans hm7
                                        have hm8 : (fU M 13 (.inl (gI g, 140, .inl (upd S k (nI (n + 1)))))) 8 = some (.inl (gI g, 210, .inl ht)) := (fU_n (by omega)).trans hm8
                                        have hm9 : (fU M 13 (.inl (gI g, 140, .inl (upd S k (nI (n + 1)))))) 9 = some (.inl (gI g, 54, .inl et)) := (fU_n (by omega)).trans hm9
                                        have hm10 : (fU M 13 (.inl (gI g, 140, .inl (upd S k (nI (n + 1)))))) 10 = some (.inl (gI g, 1, .inl mi)) := (fU_n (by omega)).trans hm10
                                        have hm11 : (fU M 13 (.inl (gI g, 140, .inl (upd S k (nI (n + 1)))))) 11 = some (.inl (gI g, 6, .inl co)) := (fU_n (by omega)).trans hm11
                                        have hm12 : (fU M 13 (.inl (gI g, 140, .inl (upd S k (nI (n + 1)))))) 12 = some (.inl (gZ g, 6, .inl as)) := (fU_n (by omega)).trans hm12
                                        have hm14 : (fU M 13 (.inl (gI g, 140, .inl (upd S k (nI (n + 1)))))) 14 = some (.inl (gZ g, 30, .inl ca)) := (fU_n (by omega)).trans hm14
                                        have hm13 : (fU M 13 (.inl (gI g, 140, .inl (upd S k (nI (n + 1)))))) 13 = some (.inl (gI g, 140, .inl (upd S k (nI (n + 1))))) := fU_s
                                        refine lv_iinc (v := nI (k + 1)) (lv' := [(4, .int (nI (k + 1))), (5, .int 1), (3, .int (nI n)), (0, .ref (ad 5)), (1, .int (nI a)), (2, .int (nI b2))]) hx hb dX6_way_208 hl (k := 1) rfl (nI_1 k) (by decide) rfl (fun ls hl => ?_)
                                        refine lv_goto (tgt := 53) hx hb dX6_way_211 (by decide) ?_
                                        have hM : isMo g ad (fU M 13 (.inl (gI g, 140, .inl (upd S k (nI (n + 1)))))) th U (upd (S) k (nI (n + 1))) ca := ⟨_, _, _, _, _, _, _, (fU_n (by omega)).trans (hMo), ⟨(fU_n (by omega)).trans (hm6), (fU_n (by omega)).trans (hm7), (fU_n (by omega)).trans (hm8), (fU_n (by omega)).trans (hm9), (fU_n (by omega)).trans (hm10), (fU_n (by omega)).trans (hm11), (fU_n (by omega)).trans (hm12), fU_s, (fU_n (by omega)).trans (hm14)⟩, hRel, hCnt⟩
                                        have hrA : fReg 5 15 ad Mo ad (fU M 13 (.inl (gI g, 140, .inl (upd S k (nI (n + 1)))))) := fReg_U hrA (by omega)
                                        have eW : upd S k (nI (n + 1)) = wyI U n s0 (k + 1) := by show _ = (if wyB U (wyI U n s0 k) n k = true then upd (wyI U n s0 k) k (nI (n + 1)) else wyI U n s0 k); rw [← hS, if_pos (wyB_yes (by assumption) (by assumption) (by first | exact Or.inl ⟨by omega, by assumption⟩ | exact Or.inr (Or.inl ⟨by omega, by assumption⟩) | exact Or.inr (Or.inr (Or.inl ⟨by omega, by assumption⟩)) | exact Or.inr (Or.inr (Or.inr ⟨by omega, by assumption⟩))))]
                                        rw [eW] at hM hw hrA
                                        exact ih53 (k + 1) (by omega) (by omega) _ hM hrA ls _ _ hw (lv_sub hl [0, 2, 3, 4, 5] rfl)
                                  · have c_60 := nI_nle' (a := (k % 14)) (b := 0) c_60 (by omega) (by omega)
                                    refine lv_aload_n hx hb dX6_way_150 rfl (lv_at hl 3 rfl) ?_
                                    refine f_get X hw hMo fc7 11 (by decide) wq805 rfl (v := .ref (ad 13)) rfl dX6_way_151 ?_
                                    refine lv_iload hx hb dX6_way_154 (lv_at hl 1 rfl) ?_
                                    refine lv_iconst (v := 1) hx hb dX6_way_156 (by decide) ?_
                                    refine lv_isub hx hb dX6_way_157 ?_
                                    refine f_top (y := nI (k - 1)) (show nI k - nI 1 = nI (k - 1) from pk_sub (by omega)) ?_
                                    refine f_iald X hw hm13 (vp_in_nI (n := (k - 1)) (by omega) (by omega)) dX6_way_158 ?_
                                    rw [nI_clamp (n := (k - 1)) (by omega)]
                                    refine lv_iload_n hx hb dX6_way_159 rfl (lv_at hl 2 rfl) ?_
                                    refine lv_icmp_eq (tgt := 186) hx hb dX6_way_160 (by decide) (fun c_66 => ?_) (fun c_66 => ?_)
                                    · refine lv_iconst (v := 1) hx hb dX6_way_186 (by decide) ?_
                                      refine lv_goto (tgt := 191) hx hb dX6_way_187 (by decide) ?_
                                      refine lv_istore (lv' := [(5, .int 1), (4, .int (nI k)), (3, .int (nI n)), (0, .ref (ad 5)), (1, .int (nI a)), (2, .int (nI b2))]) hx hb dX6_way_191 hl (by decide) rfl (fun ls hl => ?_)
                                      refine lv_iload hx hb dX6_way_193 (lv_at hl 0 rfl) ?_
                                      refine lv_if_eq (tgt := 208) hx hb dX6_way_195 (by decide) (fun c_67 => absurd c_67 (by decide)) (fun c_67 => ?_)
                                      refine lv_aload_n hx hb dX6_way_198 rfl (lv_at hl 3 rfl) ?_
                                      refine f_get X hw hMo fc7 11 (by decide) wq805 rfl (v := .ref (ad 13)) rfl dX6_way_199 ?_
                                      refine lv_iload hx hb dX6_way_202 (lv_at hl 1 rfl) ?_
                                      refine lv_iload_n hx hb dX6_way_204 rfl (lv_at hl 2 rfl) ?_
                                      refine lv_iconst (v := 1) hx hb dX6_way_205 (by decide) ?_
                                      refine lv_iadd hx hb dX6_way_206 ?_
                                      refine f_top (y := nI (n + 1)) (nI_1 n) ?_
                                      refine f_iast X hw hm13 (vp_in_nI (n := k) (by omega) (by omega)) dX6_way_207 (fun H locs hw => ?_)
                                      rw [nI_clamp (n := k) (by omega)] at hw
                                      have hw : fw g ad (fU M 13 (.inl (gI g, 140, .inl (upd S k (nI (n + 1)))))) s H locs := hw
                                      have hMo : (fU M 13 (.inl (gI g, 140, .inl (upd S k (nI (n + 1)))))) 5 = some (.inr (7, [.int th, .int (nI (tHn U)), .int (nI (tPn U)), .int (nI (tEn U)), .ref (ad 6), .ref (ad 7), .ref (ad 8), .ref (ad 9), .ref (ad 10), .ref (ad 11), .ref (ad 12), .ref (ad 13), .ref (ad 14)])) := (fU_n (by omega)).trans hMo
                                      have hm6 : (fU M 13 (.inl (gI g, 140, .inl (upd S k (nI (n + 1)))))) 6 = some (.inl (gI g, 6, .inl pcs)) := (fU_n (by omega)).trans hm6
                                      have hm7 : (fU M 13 (.inl (gI g, 140, .inl (upd S k (nI (n + 1)))))) 7 = some (.inl (gI g, 6, .inl wa)) := (fU_n (by omega)).trans hm7
                                      have hm8 : (fU M 13 (.inl (gI g, 140, .inl (upd S k (nI (n + 1)))))) 8 = some (.inl (gI g, 210, .inl ht)) := (fU_n (by omega)).trans hm8
                                      have hm9 : (fU M 13 (.inl (gI g, 140, .inl (upd S k (nI (n + 1)))))) 9 = some (.inl (gI g, 54, .inl et)) := (fU_n (by omega)).trans hm9
                                      have hm10 : (fU M 13 (.inl (gI g, 140, .inl (upd S k (nI (n + 1)))))) 10 = some (.inl (gI g, 1, .inl mi)) := (fU_n (by omega)).trans hm10
                                      have hm11 : (fU M 13 (.inl (gI g, 140, .inl (upd S k (nI (n + 1)))))) 11 = some (.inl (gI g, 6, .inl co)) := (fU_n (by omega)).trans hm11
                                      have hm12 : (fU M 13 (.inl (gI g, 140, .inl (upd S k (nI (n + 1)))))) 12 = some (.inl (gZ g, 6, .inl as)) := (fU_n (by omega)).trans hm12
                                      have hm14 : (fU M 13 (.inl (gI g, 140, .inl (upd S k (nI (n + 1)))))) 14 = some (.inl (gZ g, 30, .inl ca)) := (fU_n (by omega)).trans hm14
                                      have hm13 : (fU M 13 (.inl (gI g, 140, .inl (upd S k (nI (n + 1)))))) 13 = some (.inl (gI g, 140, .inl (upd S k (nI (n + 1))))) := fU_s
                                      refine lv_iinc (v := nI (k + 1)) (lv' := [(4, .int (nI (k + 1))), (5, .int 1), (3, .int (nI n)), (0, .ref (ad 5)), (1, .int (nI a)), (2, .int (nI b2))]) hx hb dX6_way_208 hl (k := 1) rfl (nI_1 k) (by decide) rfl (fun ls hl => ?_)
                                      refine lv_goto (tgt := 53) hx hb dX6_way_211 (by decide) ?_
                                      have hM : isMo g ad (fU M 13 (.inl (gI g, 140, .inl (upd S k (nI (n + 1)))))) th U (upd (S) k (nI (n + 1))) ca := ⟨_, _, _, _, _, _, _, (fU_n (by omega)).trans (hMo), ⟨(fU_n (by omega)).trans (hm6), (fU_n (by omega)).trans (hm7), (fU_n (by omega)).trans (hm8), (fU_n (by omega)).trans (hm9), (fU_n (by omega)).trans (hm10), (fU_n (by omega)).trans (hm11), (fU_n (by omega)).trans (hm12), fU_s, (fU_n (by omega)).trans (hm14)⟩, hRel, hCnt⟩
                                      have hrA : fReg 5 15 ad Mo ad (fU M 13 (.inl (gI g, 140, .inl (upd S k (nI (n + 1)))))) := fReg_U hrA (by omega)
                                      have eW : upd S k (nI (n + 1)) = wyI U n s0 (k + 1) := by show _ = (if wyB U (wyI U n s0 k) n k = true then upd (wyI U n s0 k) k (nI (n + 1)) else wyI U n s0 k); rw [← hS, if_pos (wyB_yes (by assumption) (by assumption) (by first | exact Or.inl ⟨by omega, by assumption⟩ | exact Or.inr (Or.inl ⟨by omega, by assumption⟩) | exact Or.inr (Or.inr (Or.inl ⟨by omega, by assumption⟩)) | exact Or.inr (Or.inr (Or.inr ⟨by omega, by assumption⟩))))]
                                      rw [eW] at hM hw hrA
                                      exact ih53 (k + 1) (by omega) (by omega) _ hM hrA ls _ _ hw (lv_sub hl [0, 2, 3, 4, 5] rfl)
                                    · refine lv_iload hx hb dX6_way_163 (lv_at hl 1 rfl) ?_
                                      refine lv_bipush (v := 14) hx hb dX6_way_165 (by decide) ?_
                                      refine lv_irem hx hb dX6_way_167 (by decide) ?_
                                      refine f_top (y := nI (k % 14)) (show nI k - nI k / nI 14 * nI 14 = nI (k % 14) from pk_rem (by omega) (by decide) (by decide)) ?_
                                      refine lv_bipush (v := 13) hx hb dX6_way_168 (by decide) ?_
                                      refine lv_icmp_ge (tgt := 190) hx hb dX6_way_170 (by decide) (fun c_68 => ?_) (fun c_68 => ?_)
                                      · have c_68 := nI_le' (a := 13) (b := (k % 14)) c_68 (by omega) (by omega)
                                        refine lv_iconst (v := 0) hx hb dX6_way_190 (by decide) ?_
                                        refine lv_istore (lv' := [(5, .int 0), (4, .int (nI k)), (3, .int (nI n)), (0, .ref (ad 5)), (1, .int (nI a)), (2, .int (nI b2))]) hx hb dX6_way_191 hl (by decide) rfl (fun ls hl => ?_)
                                        refine lv_iload hx hb dX6_way_193 (lv_at hl 0 rfl) ?_
                                        refine lv_if_eq (tgt := 208) hx hb dX6_way_195 (by decide) (fun c_69 => ?_) (fun c_69 => absurd rfl c_69)
                                        refine lv_iinc (v := nI (k + 1)) (lv' := [(4, .int (nI (k + 1))), (5, .int 0), (3, .int (nI n)), (0, .ref (ad 5)), (1, .int (nI a)), (2, .int (nI b2))]) hx hb dX6_way_208 hl (k := 1) rfl (nI_1 k) (by decide) rfl (fun ls hl => ?_)
                                        refine lv_goto (tgt := 53) hx hb dX6_way_211 (by decide) ?_
                                        have eW : S = wyI U n s0 (k + 1) := by show _ = (if wyB U (wyI U n s0 k) n k = true then upd (wyI U n s0 k) k (nI (n + 1)) else wyI U n s0 k); rw [← hS, if_neg (wyB_no (fun z1 z2 => ⟨fun q b => by first | omega | contradiction, fun q b => by first | omega | contradiction, fun q b => by first | omega | contradiction, fun q b => by first | omega | contradiction⟩))]
                                        rw [eW] at hM
                                        exact ih53 (k + 1) (by omega) (by omega) M hM hrA ls _ _ hw (lv_sub hl [0, 2, 3, 4, 5] rfl)
                                      · have c_68 := nI_nle' (a := 13) (b := (k % 14)) c_68 (by omega) (by omega)
                                        refine lv_aload_n hx hb dX6_way_173 rfl (lv_at hl 3 rfl) ?_
                                        refine f_get X hw hMo fc7 11 (by decide) wq805 rfl (v := .ref (ad 13)) rfl dX6_way_174 ?_
                                        refine lv_iload hx hb dX6_way_177 (lv_at hl 1 rfl) ?_
                                        refine lv_iconst (v := 1) hx hb dX6_way_179 (by decide) ?_
                                        refine lv_iadd hx hb dX6_way_180 ?_
                                        refine f_top (y := nI (k + 1)) (nI_1 k) ?_
                                        refine f_iald X hw hm13 (vp_in_nI (n := (k + 1)) (by omega) (by omega)) dX6_way_181 ?_
                                        rw [nI_clamp (n := (k + 1)) (by omega)]
                                        refine lv_iload_n hx hb dX6_way_182 rfl (lv_at hl 2 rfl) ?_
                                        refine lv_icmp_ne (tgt := 190) hx hb dX6_way_183 (by decide) (fun c_70 => ?_) (fun c_70 => ?_)
                                        · refine lv_iconst (v := 0) hx hb dX6_way_190 (by decide) ?_
                                          refine lv_istore (lv' := [(5, .int 0), (4, .int (nI k)), (3, .int (nI n)), (0, .ref (ad 5)), (1, .int (nI a)), (2, .int (nI b2))]) hx hb dX6_way_191 hl (by decide) rfl (fun ls hl => ?_)
                                          refine lv_iload hx hb dX6_way_193 (lv_at hl 0 rfl) ?_
                                          refine lv_if_eq (tgt := 208) hx hb dX6_way_195 (by decide) (fun c_71 => ?_) (fun c_71 => absurd rfl c_71)
                                          refine lv_iinc (v := nI (k + 1)) (lv' := [(4, .int (nI (k + 1))), (5, .int 0), (3, .int (nI n)), (0, .ref (ad 5)), (1, .int (nI a)), (2, .int (nI b2))]) hx hb dX6_way_208 hl (k := 1) rfl (nI_1 k) (by decide) rfl (fun ls hl => ?_)
                                          refine lv_goto (tgt := 53) hx hb dX6_way_211 (by decide) ?_
                                          have eW : S = wyI U n s0 (k + 1) := by show _ = (if wyB U (wyI U n s0 k) n k = true then upd (wyI U n s0 k) k (nI (n + 1)) else wyI U n s0 k); rw [← hS, if_neg (wyB_no (fun z1 z2 => ⟨fun q b => by first | omega | contradiction, fun q b => by first | omega | contradiction, fun q b => by first | omega | contradiction, fun q b => by first | omega | contradiction⟩))]
                                          rw [eW] at hM
                                          exact ih53 (k + 1) (by omega) (by omega) M hM hrA ls _ _ hw (lv_sub hl [0, 2, 3, 4, 5] rfl)
                                        · refine lv_iconst (v := 1) hx hb dX6_way_186 (by decide) ?_
                                          refine lv_goto (tgt := 191) hx hb dX6_way_187 (by decide) ?_
                                          refine lv_istore (lv' := [(5, .int 1), (4, .int (nI k)), (3, .int (nI n)), (0, .ref (ad 5)), (1, .int (nI a)), (2, .int (nI b2))]) hx hb dX6_way_191 hl (by decide) rfl (fun ls hl => ?_)
                                          refine lv_iload hx hb dX6_way_193 (lv_at hl 0 rfl) ?_
                                          refine lv_if_eq (tgt := 208) hx hb dX6_way_195 (by decide) (fun c_72 => absurd c_72 (by decide)) (fun c_72 => ?_)
                                          refine lv_aload_n hx hb dX6_way_198 rfl (lv_at hl 3 rfl) ?_
                                          refine f_get X hw hMo fc7 11 (by decide) wq805 rfl (v := .ref (ad 13)) rfl dX6_way_199 ?_
                                          refine lv_iload hx hb dX6_way_202 (lv_at hl 1 rfl) ?_
                                          refine lv_iload_n hx hb dX6_way_204 rfl (lv_at hl 2 rfl) ?_
                                          refine lv_iconst (v := 1) hx hb dX6_way_205 (by decide) ?_
                                          refine lv_iadd hx hb dX6_way_206 ?_
                                          refine f_top (y := nI (n + 1)) (nI_1 n) ?_
                                          refine f_iast X hw hm13 (vp_in_nI (n := k) (by omega) (by omega)) dX6_way_207 (fun H locs hw => ?_)
                                          rw [nI_clamp (n := k) (by omega)] at hw
                                          have hw : fw g ad (fU M 13 (.inl (gI g, 140, .inl (upd S k (nI (n + 1)))))) s H locs := hw
                                          have hMo : (fU M 13 (.inl (gI g, 140, .inl (upd S k (nI (n + 1)))))) 5 = some (.inr (7, [.int th, .int (nI (tHn U)), .int (nI (tPn U)), .int (nI (tEn U)), .ref (ad 6), .ref (ad 7), .ref (ad 8), .ref (ad 9), .ref (ad 10), .ref (ad 11), .ref (ad 12), .ref (ad 13), .ref (ad 14)])) := (fU_n (by omega)).trans hMo
                                          have hm6 : (fU M 13 (.inl (gI g, 140, .inl (upd S k (nI (n + 1)))))) 6 = some (.inl (gI g, 6, .inl pcs)) := (fU_n (by omega)).trans hm6
                                          have hm7 : (fU M 13 (.inl (gI g, 140, .inl (upd S k (nI (n + 1)))))) 7 = some (.inl (gI g, 6, .inl wa)) := (fU_n (by omega)).trans hm7
                                          have hm8 : (fU M 13 (.inl (gI g, 140, .inl (upd S k (nI (n + 1)))))) 8 = some (.inl (gI g, 210, .inl ht)) := (fU_n (by omega)).trans hm8
                                          have hm9 : (fU M 13 (.inl (gI g, 140, .inl (upd S k (nI (n + 1)))))) 9 = some (.inl (gI g, 54, .inl et)) := (fU_n (by omega)).trans hm9
                                          have hm10 : (fU M 13 (.inl (gI g, 140, .inl (upd S k (nI (n + 1)))))) 10 = some (.inl (gI g, 1, .inl mi)) := (fU_n (by omega)).trans hm10
                                          have hm11 : (fU M 13 (.inl (gI g, 140, .inl (upd S k (nI (n + 1)))))) 11 = some (.inl (gI g, 6, .inl co)) := (fU_n (by omega)).trans hm11
                                          have hm12 : (fU M 13 (.inl (gI g, 140, .inl (upd S k (nI (n + 1)))))) 12 = some (.inl (gZ g, 6, .inl as)) := (fU_n (by omega)).trans hm12
                                          have hm14 : (fU M 13 (.inl (gI g, 140, .inl (upd S k (nI (n + 1)))))) 14 = some (.inl (gZ g, 30, .inl ca)) := (fU_n (by omega)).trans hm14
                                          have hm13 : (fU M 13 (.inl (gI g, 140, .inl (upd S k (nI (n + 1)))))) 13 = some (.inl (gI g, 140, .inl (upd S k (nI (n + 1))))) := fU_s
                                          refine lv_iinc (v := nI (k + 1)) (lv' := [(4, .int (nI (k + 1))), (5, .int 1), (3, .int (nI n)), (0, .ref (ad 5)), (1, .int (nI a)), (2, .int (nI b2))]) hx hb dX6_way_208 hl (k := 1) rfl (nI_1 k) (by decide) rfl (fun ls hl => ?_)
                                          refine lv_goto (tgt := 53) hx hb dX6_way_211 (by decide) ?_
                                          have hM : isMo g ad (fU M 13 (.inl (gI g, 140, .inl (upd S k (nI (n + 1)))))) th U (upd (S) k (nI (n + 1))) ca := ⟨_, _, _, _, _, _, _, (fU_n (by omega)).trans (hMo), ⟨(fU_n (by omega)).trans (hm6), (fU_n (by omega)).trans (hm7), (fU_n (by omega)).trans (hm8), (fU_n (by omega)).trans (hm9), (fU_n (by omega)).trans (hm10), (fU_n (by omega)).trans (hm11), (fU_n (by omega)).trans (hm12), fU_s, (fU_n (by omega)).trans (hm14)⟩, hRel, hCnt⟩
                                          have hrA : fReg 5 15 ad Mo ad (fU M 13 (.inl (gI g, 140, .inl (upd S k (nI (n + 1)))))) := fReg_U hrA (by omega)
                                          have eW : upd S k (nI (n + 1)) = wyI U n s0 (k + 1) := by show _ = (if wyB U (wyI U n s0 k) n k = true then upd (wyI U n s0 k) k (nI (n + 1)) else wyI U n s0 k); rw [← hS, if_pos (wyB_yes (by assumption) (by assumption) (by first | exact Or.inl ⟨by omega, by assumption⟩ | exact Or.inr (Or.inl ⟨by omega, by assumption⟩) | exact Or.inr (Or.inr (Or.inl ⟨by omega, by assumption⟩)) | exact Or.inr (Or.inr (Or.inr ⟨by omega, by assumption⟩))))]
                                          rw [eW] at hM hw hrA
                                          exact ih53 (k + 1) (by omega) (by omega) _ hM hrA ls _ _ hw (lv_sub hl [0, 2, 3, 4, 5] rfl)
                                · refine lv_iconst (v := 1) hx hb dX6_way_130 (by decide) ?_
                                  refine lv_goto (tgt := 135) hx hb dX6_way_131 (by decide) ?_
                                  refine lv_istore (lv' := [(5, .int 1), (4, .int (nI k)), (3, .int (nI n)), (0, .ref (ad 5)), (1, .int (nI a)), (2, .int (nI b2))]) hx hb dX6_way_135 hl (by decide) rfl (fun ls hl => ?_)
                                  refine lv_iload hx hb dX6_way_137 (lv_at hl 0 rfl) ?_
                                  refine lv_if_ne (tgt := 186) hx hb dX6_way_139 (by decide) (fun c_73 => ?_) (fun c_73 => absurd c_73 (by decide))
                                  refine lv_iconst (v := 1) hx hb dX6_way_186 (by decide) ?_
                                  refine lv_goto (tgt := 191) hx hb dX6_way_187 (by decide) ?_
                                  refine lv_istore (lv' := [(5, .int 1), (4, .int (nI k)), (3, .int (nI n)), (0, .ref (ad 5)), (1, .int (nI a)), (2, .int (nI b2))]) hx hb dX6_way_191 hl (by decide) rfl (fun ls hl => ?_)
                                  refine lv_iload hx hb dX6_way_193 (lv_at hl 0 rfl) ?_
                                  refine lv_if_eq (tgt := 208) hx hb dX6_way_195 (by decide) (fun c_74 => absurd c_74 (by decide)) (fun c_74 => ?_)
                                  refine lv_aload_n hx hb dX6_way_198 rfl (lv_at hl 3 rfl) ?_
                                  refine f_get X hw hMo fc7 11 (by decide) wq805 rfl (v := .ref (ad 13)) rfl dX6_way_199 ?_
                                  refine lv_iload hx hb dX6_way_202 (lv_at hl 1 rfl) ?_
                                  refine lv_iload_n hx hb dX6_way_204 rfl (lv_at hl 2 rfl) ?_
                                  refine lv_iconst (v := 1) hx hb dX6_way_205 (by decide) ?_
                                  refine lv_iadd hx hb dX6_way_206 ?_
                                  refine f_top (y := nI (n + 1)) (nI_1 n) ?_
                                  refine f_iast X hw hm13 (vp_in_nI (n := k) (by omega) (by omega)) dX6_way_207 (fun H locs hw => ?_)
                                  rw [nI_clamp (n := k) (by omega)] at hw
                                  have hw : fw g ad (fU M 13 (.inl (gI g, 140, .inl (upd S k (nI (n + 1)))))) s H locs := hw
                                  have hMo : (fU M 13 (.inl (gI g, 140, .inl (upd S k (nI (n + 1)))))) 5 = some (.inr (7, [.int th, .int (nI (tHn U)), .int (nI (tPn U)), .int (nI (tEn U)), .ref (ad 6), .ref (ad 7), .ref (ad 8), .ref (ad 9), .ref (ad 10), .ref (ad 11), .ref (ad 12), .ref (ad 13), .ref (ad 14)])) := (fU_n (by omega)).trans hMo
                                  have hm6 : (fU M 13 (.inl (gI g, 140, .inl (upd S k (nI (n + 1)))))) 6 = some (.inl (gI g, 6, .inl pcs)) := (fU_n (by omega)).trans hm6
                                  have hm7 : (fU M 13 (.inl (gI g, 140, .inl (upd S k (nI (n + 1)))))) 7 = some (.inl (gI g, 6, .inl wa)) := (fU_n (by omega)).trans hm7
                                  have hm8 : (fU M 13 (.inl (gI g, 140, .inl (upd S k (nI (n + 1)))))) 8 = some (.inl (gI g, 210, .inl ht)) := (fU_n (by omega)).trans hm8
                                  have hm9 : (fU M 13 (.inl (gI g, 140, .inl (upd S k (nI (n + 1)))))) 9 = some (.inl (gI g, 54, .inl et)) := (fU_n (by omega)).trans hm9
                                  have hm10 : (fU M 13 (.inl (gI g, 140, .inl (upd S k (nI (n + 1)))))) 10 = some (.inl (gI g, 1, .inl mi)) := (fU_n (by omega)).trans hm10
                                  have hm11 : (fU M 13 (.inl (gI g, 140, .inl (upd S k (nI (n + 1)))))) 11 = some (.inl (gI g, 6, .inl co)) := (fU_n (by omega)).trans hm11
                                  have hm12 : (fU M 13 (.inl (gI g, 140, .inl (upd S k (nI (n + 1)))))) 12 = some (.inl (gZ g, 6, .inl as)) := (fU_n (by omega)).trans hm12
                                  have hm14 : (fU M 13 (.inl (gI g, 140, .inl (upd S k (nI (n + 1)))))) 14 = some (.inl (gZ g, 30, .inl ca)) := (fU_n (by omega)).trans hm14
                                  have hm13 : (fU M 13 (.inl (gI g, 140, .inl (upd S k (nI (n + 1)))))) 13 = some (.inl (gI g, 140, .inl (upd S k (nI (n + 1))))) := fU_s
                                  refine lv_iinc (v := nI (k + 1)) (lv' := [(4, .int (nI (k + 1))), (5, .int 1), (3, .int (nI n)), (0, .ref (ad 5)), (1, .int (nI a)), (2, .int (nI b2))]) hx hb dX6_way_208 hl (k := 1) rfl (nI_1 k) (by decide) rfl (fun ls hl => ?_)
                                  refine lv_goto (tgt := 53) hx hb dX6_way_211 (by decide) ?_
                                  have hM : isMo g ad (fU M 13 (.inl (gI g, 140, .inl (upd S k (nI (n + 1)))))) th U (upd (S) k (nI (n + 1))) ca := ⟨_, _, _, _, _, _, _, (fU_n (by omega)).trans (hMo), ⟨(fU_n (by omega)).trans (hm6), (fU_n (by omega)).trans (hm7), (fU_n (by omega)).trans (hm8), (fU_n (by omega)).trans (hm9), (fU_n (by omega)).trans (hm10), (fU_n (by omega)).trans (hm11), (fU_n (by omega)).trans (hm12), fU_s, (fU_n (by omega)).trans (hm14)⟩, hRel, hCnt⟩
                                  have hrA : fReg 5 15 ad Mo ad (fU M 13 (.inl (gI g, 140, .inl (upd S k (nI (n + 1)))))) := fReg_U hrA (by omega)
                                  have eW : upd S k (nI (n + 1)) = wyI U n s0 (k + 1) := by show _ = (if wyB U (wyI U n s0 k) n k = true then upd (wyI U n s0 k) k (nI (n + 1)) else wyI U n s0 k); rw [← hS, if_pos (wyB_yes (by assumption) (by assumption) (by first | exact Or.inl ⟨by omega, by assumption⟩ | exact Or.inr (Or.inl ⟨by omega, by assumption⟩) | exact Or.inr (Or.inr (Or.inl ⟨by omega, by assumption⟩)) | exact Or.inr (Or.inr (Or.inr ⟨by omega, by assumption⟩))))]
                                  rw [eW] at hM hw hrA
                                  exact ih53 (k + 1) (by omega) (by omega) _ hM hrA ls _ _ hw (lv_sub hl [0, 2, 3, 4, 5] rfl)
                        · have c_6 := bI_f.mp c_6
                          refine lv_goto (tgt := 208) hx hb dX6_way_81 (by decide) ?_
                          refine lv_iinc (v := nI (k + 1)) (lv' := [(4, .int (nI (k + 1))), (3, .int (nI n)), (0, .ref (ad 5)), (1, .int (nI a)), (2, .int (nI b2))]) hx hb dX6_way_208 hl (k := 0) rfl (nI_1 k) (by decide) rfl (fun ls hl => ?_)
                          refine lv_goto (tgt := 53) hx hb dX6_way_211 (by decide) ?_
                          have eW : S = wyI U n s0 (k + 1) := by show _ = (if wyB U (wyI U n s0 k) n k = true then upd (wyI U n s0 k) k (nI (n + 1)) else wyI U n s0 k); rw [← hS, if_neg (wyB_no (fun z1 z2 => ⟨fun q b => by first | omega | contradiction, fun q b => by first | omega | contradiction, fun q b => by first | omega | contradiction, fun q b => by first | omega | contradiction⟩))]
                          rw [eW] at hM
                          exact ih53 (k + 1) (by omega) (by omega) M hM hrA ls _ _ hw (lv_sub hl [0, 1, 2, 3, 4] rfl)
                have hM : isMo g ad M th U (wyI U n s0 0) ca := hM
                exact loop53 (140 + 1) 0 (by omega) (by omega) M hM hrA ls _ _ hw (lv_sub hl [0, 1, 2, 3, 4] rfl)
        rw [show k = 140 by omega] at hM
        have hM : isMo g ad M th U (wyO U sp a b2 0) ca := hM
        exact loop33 (140 + 1) 0 (by omega) (by omega) M hM hrA ls _ _ hw (lv_sub hl [0, 1, 2, 3] rfl)
      · have c_1 := nI_nle' (a := 140) (b := k) c_1 (by omega) (by omega)
        refine lv_aload_n hx hb dX6_way_9 rfl (lv_at hl 1 rfl) ?_
        refine f_get X hw hMo fc7 11 (by decide) wq805 rfl (v := .ref (ad 13)) rfl dX6_way_10 ?_
        refine lv_iload_n hx hb dX6_way_13 rfl (lv_at hl 0 rfl) ?_
        refine lv_iload_n hx hb dX6_way_14 rfl (lv_at hl 0 rfl) ?_
        refine lv_iload_n hx hb dX6_way_15 rfl (lv_at hl 2 rfl) ?_
        refine lv_icmp_ne (tgt := 23) hx hb dX6_way_16 (by decide) (fun c_75 => ?_) (fun c_75 => ?_)
        · have c_75 := nI_neq' (a := k) (b := a) c_75 (by omega) (by omega)
          refine lv_iconst (v := (-1)) hx hb dX6_way_23 (by decide) ?_
          refine f_iast X hw hm13 (vp_in_nI (n := k) (by omega) (by omega)) dX6_way_24 (fun H locs hw => ?_)
          rw [nI_clamp (n := k) (by omega)] at hw
          have hw : fw g ad (fU M 13 (.inl (gI g, 140, .inl (upd (wy0 sp a k) k (-1))))) s H locs := hw
          have hMo : (fU M 13 (.inl (gI g, 140, .inl (upd (wy0 sp a k) k (-1))))) 5 = some (.inr (7, [.int th, .int (nI (tHn U)), .int (nI (tPn U)), .int (nI (tEn U)), .ref (ad 6), .ref (ad 7), .ref (ad 8), .ref (ad 9), .ref (ad 10), .ref (ad 11), .ref (ad 12), .ref (ad 13), .ref (ad 14)])) := (fU_n (by omega)).trans hMo
          have hm6 : (fU M 13 (.inl (gI g, 140, .inl (upd (wy0 sp a k) k (-1))))) 6 = some (.inl (gI g, 6, .inl pcs)) := (fU_n (by omega)).trans hm6
          have hm7 : (fU M 13 (.inl (gI g, 140, .inl (upd (wy0 sp a k) k (-1))))) 7 = some (.inl (gI g, 6, .inl wa)) := (fU_n (by omega)).trans hm7
          have hm8 : (fU M 13 (.inl (gI g, 140, .inl (upd (wy0 sp a k) k (-1))))) 8 = some (.inl (gI g, 210, .inl ht)) := (fU_n (by omega)).trans hm8
          have hm9 : (fU M 13 (.inl (gI g, 140, .inl (upd (wy0 sp a k) k (-1))))) 9 = some (.inl (gI g, 54, .inl et)) := (fU_n (by omega)).trans hm9
          have hm10 : (fU M 13 (.inl (gI g, 140, .inl (upd (wy0 sp a k) k (-1))))) 10 = some (.inl (gI g, 1, .inl mi)) := (fU_n (by omega)).trans hm10
          have hm11 : (fU M 13 (.inl (gI g, 140, .inl (upd (wy0 sp a k) k (-1))))) 11 = some (.inl (gI g, 6, .inl co)) := (fU_n (by omega)).trans hm11
          have hm12 : (fU M 13 (.inl (gI g, 140, .inl (upd (wy0 sp a k) k (-1))))) 12 = some (.inl (gZ g, 6, .inl as)) := (fU_n (by omega)).trans hm12
          have hm14 : (fU M 13 (.inl (gI g, 140, .inl (upd (wy0 sp a k) k (-1))))) 14 = some (.inl (gZ g, 30, .inl ca)) := (fU_n (by omega)).trans hm14
          have hm13 : (fU M 13 (.inl (gI g, 140, .inl (upd (wy0 sp a k) k (-1))))) 13 = some (.inl (gI g, 140, .inl (upd (wy0 sp a k) k (-1)))) := fU_s
          refine lv_iinc (v := nI (k + 1)) (lv' := [(3, .int (nI (k + 1))), (0, .ref (ad 5)), (1, .int (nI a)), (2, .int (nI b2))]) hx hb dX6_way_25 hl (k := 0) rfl (nI_1 k) (by decide) rfl (fun ls hl => ?_)
          refine lv_goto (tgt := 2) hx hb dX6_way_28 (by decide) ?_
          have hM : isMo g ad (fU M 13 (.inl (gI g, 140, .inl (upd (wy0 sp a k) k (-1))))) th U (upd (wy0 sp a k) k (-1)) ca := ⟨_, _, _, _, _, _, _, (fU_n (by omega)).trans (hMo), ⟨(fU_n (by omega)).trans (hm6), (fU_n (by omega)).trans (hm7), (fU_n (by omega)).trans (hm8), (fU_n (by omega)).trans (hm9), (fU_n (by omega)).trans (hm10), (fU_n (by omega)).trans (hm11), (fU_n (by omega)).trans (hm12), fU_s, (fU_n (by omega)).trans (hm14)⟩, hRel, hCnt⟩
          have hrA : fReg 5 15 ad Mo ad (fU M 13 (.inl (gI g, 140, .inl (upd (wy0 sp a k) k (-1))))) := fReg_U hrA (by omega)
          rw [wy0_step (show ((-1) : Int32) = if k = a then 0 else -1 from by simp [c_75])] at hM hw hrA
          exact ih2 (k + 1) (by omega) (by omega) _ hM hrA ls _ _ hw (lv_sub hl [0, 1, 2, 3] rfl)
        · have c_75 := nI_eq' (a := k) (b := a) c_75 (by omega) (by omega)
          refine lv_iconst (v := 0) hx hb dX6_way_19 (by decide) ?_
          refine lv_goto (tgt := 24) hx hb dX6_way_20 (by decide) ?_
          refine f_iast X hw hm13 (vp_in_nI (n := k) (by omega) (by omega)) dX6_way_24 (fun H locs hw => ?_)
          rw [nI_clamp (n := k) (by omega)] at hw
          have hw : fw g ad (fU M 13 (.inl (gI g, 140, .inl (upd (wy0 sp a k) k 0)))) s H locs := hw
          have hMo : (fU M 13 (.inl (gI g, 140, .inl (upd (wy0 sp a k) k 0)))) 5 = some (.inr (7, [.int th, .int (nI (tHn U)), .int (nI (tPn U)), .int (nI (tEn U)), .ref (ad 6), .ref (ad 7), .ref (ad 8), .ref (ad 9), .ref (ad 10), .ref (ad 11), .ref (ad 12), .ref (ad 13), .ref (ad 14)])) := (fU_n (by omega)).trans hMo
          have hm6 : (fU M 13 (.inl (gI g, 140, .inl (upd (wy0 sp a k) k 0)))) 6 = some (.inl (gI g, 6, .inl pcs)) := (fU_n (by omega)).trans hm6
          have hm7 : (fU M 13 (.inl (gI g, 140, .inl (upd (wy0 sp a k) k 0)))) 7 = some (.inl (gI g, 6, .inl wa)) := (fU_n (by omega)).trans hm7
          have hm8 : (fU M 13 (.inl (gI g, 140, .inl (upd (wy0 sp a k) k 0)))) 8 = some (.inl (gI g, 210, .inl ht)) := (fU_n (by omega)).trans hm8
          have hm9 : (fU M 13 (.inl (gI g, 140, .inl (upd (wy0 sp a k) k 0)))) 9 = some (.inl (gI g, 54, .inl et)) := (fU_n (by omega)).trans hm9
          have hm10 : (fU M 13 (.inl (gI g, 140, .inl (upd (wy0 sp a k) k 0)))) 10 = some (.inl (gI g, 1, .inl mi)) := (fU_n (by omega)).trans hm10
          have hm11 : (fU M 13 (.inl (gI g, 140, .inl (upd (wy0 sp a k) k 0)))) 11 = some (.inl (gI g, 6, .inl co)) := (fU_n (by omega)).trans hm11
          have hm12 : (fU M 13 (.inl (gI g, 140, .inl (upd (wy0 sp a k) k 0)))) 12 = some (.inl (gZ g, 6, .inl as)) := (fU_n (by omega)).trans hm12
          have hm14 : (fU M 13 (.inl (gI g, 140, .inl (upd (wy0 sp a k) k 0)))) 14 = some (.inl (gZ g, 30, .inl ca)) := (fU_n (by omega)).trans hm14
          have hm13 : (fU M 13 (.inl (gI g, 140, .inl (upd (wy0 sp a k) k 0)))) 13 = some (.inl (gI g, 140, .inl (upd (wy0 sp a k) k 0))) := fU_s
          refine lv_iinc (v := nI (k + 1)) (lv' := [(3, .int (nI (k + 1))), (0, .ref (ad 5)), (1, .int (nI a)), (2, .int (nI b2))]) hx hb dX6_way_25 hl (k := 0) rfl (nI_1 k) (by decide) rfl (fun ls hl => ?_)
          refine lv_goto (tgt := 2) hx hb dX6_way_28 (by decide) ?_
          have hM : isMo g ad (fU M 13 (.inl (gI g, 140, .inl (upd (wy0 sp a k) k 0)))) th U (upd (wy0 sp a k) k 0) ca := ⟨_, _, _, _, _, _, _, (fU_n (by omega)).trans (hMo), ⟨(fU_n (by omega)).trans (hm6), (fU_n (by omega)).trans (hm7), (fU_n (by omega)).trans (hm8), (fU_n (by omega)).trans (hm9), (fU_n (by omega)).trans (hm10), (fU_n (by omega)).trans (hm11), (fU_n (by omega)).trans (hm12), fU_s, (fU_n (by omega)).trans (hm14)⟩, hRel, hCnt⟩
          have hrA : fReg 5 15 ad Mo ad (fU M 13 (.inl (gI g, 140, .inl (upd (wy0 sp a k) k 0)))) := fReg_U hrA (by omega)
          rw [wy0_step (show (0 : Int32) = if k = a then 0 else -1 from by simp [c_75])] at hM hw hrA
          exact ih2 (k + 1) (by omega) (by omega) _ hM hrA ls _ _ hw (lv_sub hl [0, 1, 2, 3] rfl)
  have hM : isMo g ad M th U (wy0 sp a 0) ca := by rw [wy0_0]; exact hM
  exact loop2 (140 + 1) 0 (by omega) (by omega) M hM hrA ls _ _ hw (lv_sub hl [0, 1, 2, 3] rfl)
