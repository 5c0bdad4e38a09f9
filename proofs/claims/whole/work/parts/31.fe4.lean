theorem mE_n (F : (Nat → Int32) → Nat → Int32) (n : Nat) (T : fTn) : tHn (mE F n T) = tHn T ∧ tPn (mE F n T) = tPn T ∧ tEn (mE F n T) = tEn T := ⟨rfl, rfl, rfl⟩
theorem minT_n (T : fTn) : tHn (minT T).1 = tHn T ∧ tPn (minT T).1 = tPn T ∧ tEn (minT T).1 = tEn T := by
  obtain ⟨a1, a2, a3, -⟩ := moveT_n (mE eGo (tEn T) T)
  obtain ⟨b1, b2, b3, -⟩ := catch1_n (mH hBurn (tHn T) (moveT (mE eGo (tEn T) T))) (tHn (mH hBurn (tHn T) (moveT (mE eGo (tEn T) T))))
  exact ⟨b1.trans a1, b2.trans a2, b3.trans a3⟩
theorem goT_n (T : fTn) (n : Nat) : tHn (goT T n).1 = tHn T ∧ tPn (goT T n).1 = tPn T ∧ tEn (goT T n).1 = tEn T := by
  induction n with
  | zero => exact ⟨rfl, rfl, rfl⟩
  | succ n ih =>
    obtain ⟨a1, a2, a3⟩ := minT_n (goT T n).1
    exact ⟨a1.trans ih.1, a2.trans ih.2.1, a3.trans ih.2.2⟩
def weakB (T : fTn) (e k : Nat) (q : Int32 × Int32) : Bool := (decide (ePump (tE T k) < q.2) || (decide (ePump (tE T k) = q.2) && decide (¬ q.1 ≤ nI k))) && leadsN T (nI e) 7 (nI k)
def wkF (T : fTn) (e : Nat) : Nat → Int32 × Int32
  | 0 => (nI e, ePump (tE T e))
  | k + 1 => if weakB T e k (wkF T e k) = true then (nI k, ePump (tE T k)) else wkF T e k
abbrev fallI (T : fTn) (e h N : Nat) : Int32 := cntH (tH (goT (aimT T e h) N).1) 3 (tHn (goT (aimT T e h) N).1)
def advB (T : fTn) (e k : Nat) : Bool := eStands (tE T e) && (decide (tH T k 3 = 1) && decide (¬ 6 < aDist (tE T e 0) (tH T k 0)))
def advF (T : fTn) (e N : Nat) : Nat → Int32 × Int32
  | 0 => (-1, 31)
  | k + 1 => if advB T e k = true then (if (advF T e N k).2 ≤ fallI T e k N then advF T e N k else (nI k, fallI T e k N)) else advF T e N k
abbrev fAdv (g : fG) (ad : Nat → Nat) (M : fM) (T : fTn) (kf nf sf : Nat → Int32) (v : Int32) : Int32 → (Nat → Nat) → fM → Prop := fun r ad1 M1 => (∃ A, isC g ad1 M1 T A kf nf sf ∧ leT A T) ∧ fReg 0 3000 ad M ad1 M1 ∧ ad1 0 = ad 0 ∧ r = v
set_option maxHeartbeats 4000000 in
set_option maxRecDepth 100000 in
theorem x_X5_weakest_1 (l : Launch) (hst : l.stackTraces = false) (g : fG) (ad : Nat → Nat) (M : fM) {T A : fTn} {kf nf sf : Nat → Int32} (hC : isC g ad M T A kf nf sf) {en : Int32} (h1 : isIx (tEn T) en = false) : fXt l g yX5_weakest cX5_weakest 7 ((some .int)) 7 180 ad M [.ref (ad 0), .int en] IOO ad M := by
  refine f_bodyX (own := RX5) (by decide +kernel) rfl (Nat.le_of_ble_eq_true rfl) ?_
  intro p e s m args below meth c ls X ht hw hl
  have hx := X.1
  have hb := X.2.1
  have hl : lv_has ls 7 [(0, .ref (ad 0)), (1, .int en)] := hl
  obtain ⟨hF, hG, hT, hTA⟩ := id hC
  have hF : M 0 = some (.inr (6, [.ref (ad 1), .ref (ad 1000), .ref (ad 2000)])) := hF
  have hG0 := hG.1
  obtain ⟨hT0, hTh, hTp, hTe, hHs, hPs, hEs, hn1, hn2, hn3, hA⟩ := id hT
  obtain ⟨hT0a, hTha, hTpa, hTea, hHsa, hPsa, hEsa, hn1a, hn2a, hn3a, hAa⟩ := id hTA
  refine lv_aload_n hx hb dX5_weakest_0 rfl (lv_at hl 0 rfl) ?_
  refine lv_iload_n hx hb dX5_weakest_1 rfl (lv_at hl 1 rfl) ?_
  exact fk_x X ht (fxV X hw (x_rE l hst g ad M hC h1) hF rfl wq669 kVX5_requireEngine ⟨(Nat.le_of_ble_eq_true rfl), (Nat.le_of_ble_eq_true rfl)⟩ rfl hl.1 rfl (Nat.le_of_ble_eq_true rfl) dX5_weakest_2 ⟨(by dsimp only [fR]; omega), (by dsimp only [fR]; omega)⟩) hw (by omega) (by omega)
set_option maxHeartbeats 4000000 in
set_option maxRecDepth 100000 in
theorem c_X5_weakest (l : Launch) (g : fG) (ad : Nat → Nat) (M : fM) {T A : fTn} {kf nf sf : Nat → Int32} (hC : isC g ad M T A kf nf sf) {jen : Nat} (h1 : jen < tEn T) : fCi l g yX5_weakest cX5_weakest 7 ((some .int)) 7 180 0 0 ad M [.ref (ad 0), .int (nI jen)] (fDi ad M (wkF T jen (tEn T)).1) := by
  refine f_body (own := RX5) (by decide +kernel) rfl (Nat.le_of_ble_eq_true rfl) ?_
  intro p e s m args below meth c ls X hw hin hl
  have hx := X.1
  have hb := X.2.1
  have hl : lv_has ls 7 [(0, .ref (ad 0)), (1, .int (nI jen))] := hl
  obtain ⟨hF, hG, hT, hTA⟩ := id hC
  have hF : M 0 = some (.inr (6, [.ref (ad 1), .ref (ad 1000), .ref (ad 2000)])) := hF
  have hG0 := hG.1
  obtain ⟨hT0, hTh, hTp, hTe, hHs, hPs, hEs, hn1, hn2, hn3, hA⟩ := id hT
  obtain ⟨hT0a, hTha, hTpa, hTea, hHsa, hPsa, hEsa, hn1a, hn2a, hn3a, hAa⟩ := id hTA
  refine lv_aload_n hx hb dX5_weakest_0 rfl (lv_at hl 0 rfl) ?_
  refine lv_iload_n hx hb dX5_weakest_1 rfl (lv_at hl 1 rfl) ?_
  refine fk_dv (fcV X hw (c_rE l g ad M hC h1) hF rfl wq669 kVX5_requireEngine ⟨(Nat.le_of_ble_eq_true rfl), (Nat.le_of_ble_eq_true rfl)⟩ rfl hl.1 rfl (Nat.le_of_ble_eq_true rfl) dX5_weakest_2 ⟨Nat.le_refl _, Nat.le_refl _⟩) hw (fun H locs hw => ?_)
  refine lv_iload_n hx hb dX5_weakest_5 rfl (lv_at hl 1 rfl) ?_
  refine lv_istore_n (lv' := [(2, .int (nI jen)), (0, .ref (ad 0)), (1, .int (nI jen))]) hx hb dX5_weakest_6 rfl hl (by decide) rfl (fun ls hl => ?_)
  refine lv_aload_n hx hb dX5_weakest_7 rfl (lv_at hl 1 rfl) ?_
  refine f_get X hw hF fc6 1 (by decide) wq97 rfl (v := .ref (ad 1000)) rfl dX5_weakest_8 ?_
  refine f_getN X hw hT0 fc5 3 (by decide) wn86 rfl (v := .ref (ad (1000 + 3))) rfl dX5_weakest_11 ?_
  refine lv_iload_n hx hb dX5_weakest_14 rfl (lv_at hl 2 rfl) ?_
  refine fk_dr (fcVe X hw (c_get l g ad M hTe (by omega)) (fList_obj hTe) rfl wq422 kVJx4a65c_get_915e3 ⟨(Nat.le_of_ble_eq_true rfl), (Nat.le_of_ble_eq_true rfl)⟩ rfl hl.1 rfl (Nat.le_of_ble_eq_true rfl) dX5_weakest_15 ⟨Nat.le_refl _, Nat.le_refl _⟩) hw (fun H locs hw => ?_)
  refine f_cast X hw (hEs jen (by omega)) fc1 wq449 dX5_weakest_18 ?_
  refine fk_di (fcV X hw (c_X0_canPump l g ad M (hEs jen h1)) (hEs jen (by omega)) rfl wq776 kVX0_canPump ⟨(Nat.le_of_ble_eq_true rfl), (Nat.le_of_ble_eq_true rfl)⟩ rfl hl.1 rfl (Nat.le_of_ble_eq_true rfl) dX5_weakest_21 ⟨Nat.le_refl _, Nat.le_refl _⟩) hw (fun H locs hw => ?_)
  refine lv_istore_n (lv' := [(3, .int (ePump (tE T jen))), (2, .int (nI jen)), (0, .ref (ad 0)), (1, .int (nI jen))]) hx hb dX5_weakest_24 rfl hl (by decide) rfl (fun ls hl => ?_)
  refine lv_iconst (v := 0) hx hb dX5_weakest_25 (by decide) ?_
  refine lv_istore (lv' := [(4, .int 0), (3, .int (ePump (tE T jen))), (2, .int (nI jen)), (0, .ref (ad 0)), (1, .int (nI jen))]) hx hb dX5_weakest_26 hl (by decide) rfl (fun ls hl => ?_)
  have loop28 : ∀ (n28 k : Nat), k ≤ tEn T → tEn T < k + n28 → ∀ (ls : Array Slot) (H : Heap) (locs : List Loc), fw g ad M s H locs → lv_has ls 7 [(2, .int ((wkF T jen k).1)), (3, .int ((wkF T jen k).2)), (4, .int (nI k)), (0, .ref (ad 0)), (1, .int (nI jen))] → W p l e (fR 7 180 0 0) s m args below meth c H locs 0 0 (MQ below (fQi g (fDi ad M (wkF T jen (tEn T)).1)) args s 0 0 (fA g)) (F0 m 28 ls []) := by
    intro n28
    induction n28 with
    | zero => intro k h1 h2; omega
    | succ n28 ih28 =>
      intro k hk_k hn_k ls H locs hw hl
      refine lv_iload hx hb dX5_weakest_28 (lv_at hl 2 rfl) ?_
      refine lv_aload_n hx hb dX5_weakest_30 rfl (lv_at hl 3 rfl) ?_
      refine f_get X hw hF fc6 1 (by decide) wq97 rfl (v := .ref (ad 1000)) rfl dX5_weakest_31 ?_
      refine f_getN X hw hT0 fc5 3 (by decide) wn86 rfl (v := .ref (ad (1000 + 3))) rfl dX5_weakest_34 ?_
      refine fk_di (fcVe X hw (c_size l g ad M hTe) (fList_obj hTe) rfl wq421 kVJx4a65c_size_8abf5 ⟨(Nat.le_of_ble_eq_true rfl), (Nat.le_of_ble_eq_true rfl)⟩ rfl hl.1 rfl (Nat.le_of_ble_eq_true rfl) dX5_weakest_37 ⟨Nat.le_refl _, Nat.le_refl _⟩) hw (fun H locs hw => ?_)
      refine lv_icmp_ge (tgt := 118) hx hb dX5_weakest_40 (by decide) (fun c_1 => ?_) (fun c_1 => ?_)
      · have c_1 := nI_le' (a := (tEn T)) (b := k) c_1 (by omega) (by omega)
        refine lv_iload_n hx hb dX5_weakest_118 rfl (lv_at hl 0 rfl) ?_
        exact f_iret X hw ⟨rfl, rfl, by rw [show k = tEn T by omega]⟩ (Nat.le_refl _) (Nat.le_refl _) dX5_weakest_119
      · have c_1 := nI_nle' (a := (tEn T)) (b := k) c_1 (by omega) (by omega)
        refine lv_aload_n hx hb dX5_weakest_43 rfl (lv_at hl 3 rfl) ?_
        refine f_get X hw hF fc6 1 (by decide) wq97 rfl (v := .ref (ad 1000)) rfl dX5_weakest_44 ?_
        refine f_getN X hw hT0 fc5 3 (by decide) wn86 rfl (v := .ref (ad (1000 + 3))) rfl dX5_weakest_47 ?_
        refine lv_iload hx hb dX5_weakest_50 (lv_at hl 2 rfl) ?_
        refine fk_dr (fcVe X hw (c_get l g ad M hTe (by omega)) (fList_obj hTe) rfl wq422 kVJx4a65c_get_915e3 ⟨(Nat.le_of_ble_eq_true rfl), (Nat.le_of_ble_eq_true rfl)⟩ rfl hl.1 rfl (Nat.le_of_ble_eq_true rfl) dX5_weakest_52 ⟨Nat.le_refl _, Nat.le_refl _⟩) hw (fun H locs hw => ?_)
        refine f_cast X hw (hEs k (by omega)) fc1 wq449 dX5_weakest_55 ?_
        refine fk_di (fcV X hw (c_X0_canPump l g ad M (hEs k (by omega))) (hEs k (by omega)) rfl wq776 kVX0_canPump ⟨(Nat.le_of_ble_eq_true rfl), (Nat.le_of_ble_eq_true rfl)⟩ rfl hl.1 rfl (Nat.le_of_ble_eq_true rfl) dX5_weakest_58 ⟨Nat.le_refl _, Nat.le_refl _⟩) hw (fun H locs hw => ?_)
        refine lv_istore (lv' := [(5, .int (ePump (tE T k))), (2, .int ((wkF T jen k).1)), (3, .int ((wkF T jen k).2)), (4, .int (nI k)), (0, .ref (ad 0)), (1, .int (nI jen))]) hx hb dX5_weakest_61 hl (by decide) rfl (fun ls hl => ?_)
        refine lv_iload hx hb dX5_weakest_63 (lv_at hl 0 rfl) ?_
        refine lv_iload_n hx hb dX5_weakest_65 rfl (lv_at hl 2 rfl) ?_
        refine lv_icmp_lt (tgt := 81) hx hb dX5_weakest_66 (by decide) (fun c_2 => ?_) (fun c_2 => ?_)
        · refine lv_iconst (v := 1) hx hb dX5_weakest_81 (by decide) ?_
          refine lv_goto (tgt := 86) hx hb dX5_weakest_82 (by decide) ?_
          refine lv_istore (lv' := [(6, .int 1), (5, .int (ePump (tE T k))), (2, .int ((wkF T jen k).1)), (3, .int ((wkF T jen k).2)), (4, .int (nI k)), (0, .ref (ad 0)), (1, .int (nI jen))]) hx hb dX5_weakest_86 hl (by decide) rfl (fun ls hl => ?_)
          refine lv_iload hx hb dX5_weakest_88 (lv_at hl 0 rfl) ?_
          refine lv_if_eq (tgt := 112) hx hb dX5_weakest_90 (by decide) (fun c_3 => absurd c_3 (by decide)) (fun c_3 => ?_)
          refine lv_aload_n hx hb dX5_weakest_93 rfl (lv_at hl 5 rfl) ?_
          refine f_get X hw hF fc6 1 (by decide) wq97 rfl (v := .ref (ad 1000)) rfl dX5_weakest_94 ?_
          refine lv_iload hx hb dX5_weakest_97 (lv_at hl 4 rfl) ?_
          refine lv_iload_n hx hb dX5_weakest_99 rfl (lv_at hl 6 rfl) ?_
          refine fk_di (fcV X hw (c_hosesLead l g ad M hT (nI k) (nI jen)) hT0 rfl wq715 kVX4_hosesLead ⟨(Nat.le_of_ble_eq_true rfl), (Nat.le_of_ble_eq_true rfl)⟩ rfl hl.1 rfl (Nat.le_of_ble_eq_true rfl) dX5_weakest_100 ⟨Nat.le_refl _, Nat.le_refl _⟩) hw (fun H locs hw => ?_)
          refine lv_if_eq (tgt := 112) hx hb dX5_weakest_103 (by decide) (fun c_4 => ?_) (fun c_4 => ?_)
          · have c_4 := bI_f.mp c_4
            refine lv_iinc (v := nI (k + 1)) (lv' := [(4, .int (nI (k + 1))), (6, .int 1), (5, .int (ePump (tE T k))), (2, .int ((wkF T jen k).1)), (3, .int ((wkF T jen k).2)), (0, .ref (ad 0)), (1, .int (nI jen))]) hx hb dX5_weakest_112 hl (k := 4) rfl (nI_1 k) (by decide) rfl (fun ls hl => ?_)
            refine lv_goto (tgt := 28) hx hb dX5_weakest_115 (by decide) ?_
            exact ih28 (k + 1) (by omega) (by omega) ls _ _ hw (by rw [show ((wkF T jen (k + 1)).1) = ((wkF T jen k).1) from (by simp [wkF, weakB, c_1, c_2, c_3, c_4]), show ((wkF T jen (k + 1)).2) = ((wkF T jen k).2) from (by simp [wkF, weakB, c_1, c_2, c_3, c_4])]; exact lv_sub hl [3, 4, 0, 5, 6] rfl)
          · have c_4 := bI_nf.mp c_4
            refine lv_iload hx hb dX5_weakest_106 (lv_at hl 4 rfl) ?_
            refine lv_istore_n (lv' := [(2, .int (nI k)), (6, .int 1), (5, .int (ePump (tE T k))), (3, .int ((wkF T jen k).2)), (4, .int (nI k)), (0, .ref (ad 0)), (1, .int (nI jen))]) hx hb dX5_weakest_108 rfl hl (by decide) rfl (fun ls hl => ?_)
            refine lv_iload hx hb dX5_weakest_109 (lv_at hl 2 rfl) ?_
            refine lv_istore_n (lv' := [(3, .int (ePump (tE T k))), (2, .int (nI k)), (6, .int 1), (5, .int (ePump (tE T k))), (4, .int (nI k)), (0, .ref (ad 0)), (1, .int (nI jen))]) hx hb dX5_weakest_111 rfl hl (by decide) rfl (fun ls hl => ?_)
            refine lv_iinc (v := nI (k + 1)) (lv' := [(4, .int (nI (k + 1))), (3, .int (ePump (tE T k))), (2, .int (nI k)), (6, .int 1), (5, .int (ePump (tE T k))), (0, .ref (ad 0)), (1, .int (nI jen))]) hx hb dX5_weakest_112 hl (k := 4) rfl (nI_1 k) (by decide) rfl (fun ls hl => ?_)
            refine lv_goto (tgt := 28) hx hb dX5_weakest_115 (by decide) ?_
            exact ih28 (k + 1) (by omega) (by omega) ls _ _ hw (by rw [show ((wkF T jen (k + 1)).1) = (nI k) from (by simp [wkF, weakB, c_1, c_2, c_3, c_4]), show ((wkF T jen (k + 1)).2) = (ePump (tE T k)) from (by simp [wkF, weakB, c_1, c_2, c_3, c_4])]; exact lv_sub hl [2, 1, 0, 5, 6] rfl)
        · refine lv_iload hx hb dX5_weakest_69 (lv_at hl 0 rfl) ?_
          refine lv_iload_n hx hb dX5_weakest_71 rfl (lv_at hl 2 rfl) ?_
          refine lv_icmp_ne (tgt := 85) hx hb dX5_weakest_72 (by decide) (fun c_5 => ?_) (fun c_5 => ?_)
          · refine lv_iconst (v := 0) hx hb dX5_weakest_85 (by decide) ?_
            refine lv_istore (lv' := [(6, .int 0), (5, .int (ePump (tE T k))), (2, .int ((wkF T jen k).1)), (3, .int ((wkF T jen k).2)), (4, .int (nI k)), (0, .ref (ad 0)), (1, .int (nI jen))]) hx hb dX5_weakest_86 hl (by decide) rfl (fun ls hl => ?_)
            refine lv_iload hx hb dX5_weakest_88 (lv_at hl 0 rfl) ?_
            refine lv_if_eq (tgt := 112) hx hb dX5_weakest_90 (by decide) (fun c_6 => ?_) (fun c_6 => absurd rfl c_6)
            refine lv_iinc (v := nI (k + 1)) (lv' := [(4, .int (nI (k + 1))), (6, .int 0), (5, .int (ePump (tE T k))), (2, .int ((wkF T jen k).1)), (3, .int ((wkF T jen k).2)), (0, .ref (ad 0)), (1, .int (nI jen))]) hx hb dX5_weakest_112 hl (k := 4) rfl (nI_1 k) (by decide) rfl (fun ls hl => ?_)
            refine lv_goto (tgt := 28) hx hb dX5_weakest_115 (by decide) ?_
            exact ih28 (k + 1) (by omega) (by omega) ls _ _ hw (by rw [show ((wkF T jen (k + 1)).1) = ((wkF T jen k).1) from (by simp [wkF, weakB, c_1, c_2, c_5, c_6]), show ((wkF T jen (k + 1)).2) = ((wkF T jen k).2) from (by simp [wkF, weakB, c_1, c_2, c_5, c_6])]; exact lv_sub hl [3, 4, 0, 5, 6] rfl)
          · refine lv_iload hx hb dX5_weakest_75 (lv_at hl 3 rfl) ?_
            refine lv_iload_n hx hb dX5_weakest_77 rfl (lv_at hl 1 rfl) ?_
            refine lv_icmp_ge (tgt := 85) hx hb dX5_weakest_78 (by decide) (fun c_7 => ?_) (fun c_7 => ?_)
            · refine lv_iconst (v := 0) hx hb dX5_weakest_85 (by decide) ?_
              refine lv_istore (lv' := [(6, .int 0), (5, .int (ePump (tE T k))), (2, .int ((wkF T jen k).1)), (3, .int ((wkF T jen k).2)), (4, .int (nI k)), (0, .ref (ad 0)), (1, .int (nI jen))]) hx hb dX5_weakest_86 hl (by decide) rfl (fun ls hl => ?_)
              refine lv_iload hx hb dX5_weakest_88 (lv_at hl 0 rfl) ?_
              refine lv_if_eq (tgt := 112) hx hb dX5_weakest_90 (by decide) (fun c_8 => ?_) (fun c_8 => absurd rfl c_8)
              refine lv_iinc (v := nI (k + 1)) (lv' := [(4, .int (nI (k + 1))), (6, .int 0), (5, .int (ePump (tE T k))), (2, .int ((wkF T jen k).1)), (3, .int ((wkF T jen k).2)), (0, .ref (ad 0)), (1, .int (nI jen))]) hx hb dX5_weakest_112 hl (k := 4) rfl (nI_1 k) (by decide) rfl (fun ls hl => ?_)
              refine lv_goto (tgt := 28) hx hb dX5_weakest_115 (by decide) ?_
              exact ih28 (k + 1) (by omega) (by omega) ls _ _ hw (by rw [show ((wkF T jen (k + 1)).1) = ((wkF T jen k).1) from (by simp [wkF, weakB, c_1, c_2, c_5, c_7, c_8]), show ((wkF T jen (k + 1)).2) = ((wkF T jen k).2) from (by simp [wkF, weakB, c_1, c_2, c_5, c_7, c_8])]; exact lv_sub hl [3, 4, 0, 5, 6] rfl)
            · refine lv_iconst (v := 1) hx hb dX5_weakest_81 (by decide) ?_
              refine lv_goto (tgt := 86) hx hb dX5_weakest_82 (by decide) ?_
              refine lv_istore (lv' := [(6, .int 1), (5, .int (ePump (tE T k))), (2, .int ((wkF T jen k).1)), (3, .int ((wkF T jen k).2)), (4, .int (nI k)), (0, .ref (ad 0)), (1, .int (nI jen))]) hx hb dX5_weakest_86 hl (by decide) rfl (fun ls hl => ?_)
              refine lv_iload hx hb dX5_weakest_88 (lv_at hl 0 rfl) ?_
              refine lv_if_eq (tgt := 112) hx hb dX5_weakest_90 (by decide) (fun c_9 => absurd c_9 (by decide)) (fun c_9 => ?_)
              refine lv_aload_n hx hb dX5_weakest_93 rfl (lv_at hl 5 rfl) ?_
              refine f_get X hw hF fc6 1 (by decide) wq97 rfl (v := .ref (ad 1000)) rfl dX5_weakest_94 ?_
              refine lv_iload hx hb dX5_weakest_97 (lv_at hl 4 rfl) ?_
              refine lv_iload_n hx hb dX5_weakest_99 rfl (lv_at hl 6 rfl) ?_
              refine fk_di (fcV X hw (c_hosesLead l g ad M hT (nI k) (nI jen)) hT0 rfl wq715 kVX4_hosesLead ⟨(Nat.le_of_ble_eq_true rfl), (Nat.le_of_ble_eq_true rfl)⟩ rfl hl.1 rfl (Nat.le_of_ble_eq_true rfl) dX5_weakest_100 ⟨Nat.le_refl _, Nat.le_refl _⟩) hw (fun H locs hw => ?_)
              refine lv_if_eq (tgt := 112) hx hb dX5_weakest_103 (by decide) (fun c_10 => ?_) (fun c_10 => ?_)
              · have c_10 := bI_f.mp c_10
                refine lv_iinc (v := nI (k + 1)) (lv' := [(4, .int (nI (k + 1))), (6, .int 1), (5, .int (ePump (tE T k))), (2, .int ((wkF T jen k).1)), (3, .int ((wkF T jen k).2)), (0, .ref (ad 0)), (1, .int (nI jen))]) hx hb dX5_weakest_112 hl (k := 4) rfl (nI_1 k) (by decide) rfl (fun ls hl => ?_)
                refine lv_goto (tgt := 28) hx hb dX5_weakest_115 (by decide) ?_
                exact ih28 (k + 1) (by omega) (by omega) ls _ _ hw (by rw [show ((wkF T jen (k + 1)).1) = ((wkF T jen k).1) from (by simp [wkF, weakB, c_1, c_2, c_5, c_7, c_9, c_10]), show ((wkF T jen (k + 1)).2) = ((wkF T jen k).2) from (by simp [wkF, weakB, c_1, c_2, c_5, c_7, c_9, c_10])]; exact lv_sub hl [3, 4, 0, 5, 6] rfl)
              · have c_10 := bI_nf.mp c_10
                refine lv_iload hx hb dX5_weakest_106 (lv_at hl 4 rfl) ?_
                refine lv_istore_n (lv' := [(2, .int (nI k)), (6, .int 1), (5, .int (ePump (tE T k))), (3, .int ((wkF T jen k).2)), (4, .int (nI k)), (0, .ref (ad 0)), (1, .int (nI jen))]) hx hb dX5_weakest_108 rfl hl (by decide) rfl (fun ls hl => ?_)
                refine lv_iload hx hb dX5_weakest_109 (lv_at hl 2 rfl) ?_
                refine lv_istore_n (lv' := [(3, .int (ePump (tE T k))), (2, .int (nI k)), (6, .int 1), (5, .int (ePump (tE T k))), (4, .int (nI k)), (0, .ref (ad 0)), (1, .int (nI jen))]) hx hb dX5_weakest_111 rfl hl (by decide) rfl (fun ls hl => ?_)
                refine lv_iinc (v := nI (k + 1)) (lv' := [(4, .int (nI (k + 1))), (3, .int (ePump (tE T k))), (2, .int (nI k)), (6, .int 1), (5, .int (ePump (tE T k))), (0, .ref (ad 0)), (1, .int (nI jen))]) hx hb dX5_weakest_112 hl (k := 4) rfl (nI_1 k) (by decide) rfl (fun ls hl => ?_)
                refine lv_goto (tgt := 28) hx hb dX5_weakest_115 (by decide) ?_
                exact ih28 (k + 1) (by omega) (by omega) ls _ _ hw (by rw [show ((wkF T jen (k + 1)).1) = (nI k) from (by simp [wkF, weakB, c_1, c_2, c_5, c_7, c_9, c_10]), show ((wkF T jen (k + 1)).2) = (ePump (tE T k)) from (by simp [wkF, weakB, c_1, c_2, c_5, c_7, c_9, c_10])]; exact lv_sub hl [2, 1, 0, 5, 6] rfl)
  exact loop28 (tEn T + 1) 0 (by omega) (by omega) ls _ _ hw (lv_sub hl [2, 1, 0, 3, 4] rfl)
set_option maxHeartbeats 4000000 in
set_option maxRecDepth 100000 in
theorem x_X5_advise_1 (l : Launch) (hst : l.stackTraces = false) (g : fG) (ad : Nat → Nat) (M : fM) {T A : fTn} {kf nf sf : Nat → Int32} (hC : isC g ad M T A kf nf sf) {en mi : Int32} (h1 : isIx (tEn T) en = false) : fXt l g yX5_advise cX5_advise 10 ((some .int)) 7 180 ad M [.ref (ad 0), .int en, .int mi] IOO ad M := by
  refine f_bodyX (own := RX5) (by decide +kernel) rfl (Nat.le_of_ble_eq_true rfl) ?_
  intro p e s m args below meth c ls X ht hw hl
  have hx := X.1
  have hb := X.2.1
  have hl : lv_has ls 10 [(0, .ref (ad 0)), (1, .int en), (2, .int mi)] := hl
  obtain ⟨hF, hG, hT, hTA⟩ := id hC
  have hF : M 0 = some (.inr (6, [.ref (ad 1), .ref (ad 1000), .ref (ad 2000)])) := hF
  have hG0 := hG.1
  obtain ⟨hT0, hTh, hTp, hTe, hHs, hPs, hEs, hn1, hn2, hn3, hA⟩ := id hT
  obtain ⟨hT0a, hTha, hTpa, hTea, hHsa, hPsa, hEsa, hn1a, hn2a, hn3a, hAa⟩ := id hTA
  refine lv_aload_n hx hb dX5_advise_0 rfl (lv_at hl 0 rfl) ?_
  refine lv_iload_n hx hb dX5_advise_1 rfl (lv_at hl 1 rfl) ?_
  exact fk_x X ht (fxV X hw (x_rE l hst g ad M hC h1) hF rfl wq669 kVX5_requireEngine ⟨(Nat.le_of_ble_eq_true rfl), (Nat.le_of_ble_eq_true rfl)⟩ rfl hl.1 rfl (Nat.le_of_ble_eq_true rfl) dX5_advise_2 ⟨(by dsimp only [fR]; omega), (by dsimp only [fR]; omega)⟩) hw (by omega) (by omega)
set_option maxHeartbeats 4000000 in
set_option maxRecDepth 100000 in
theorem x_X5_advise_2 (l : Launch) (hst : l.stackTraces = false) (g : fG) (ad : Nat → Nat) (M : fM) {T A : fTn} {kf nf sf : Nat → Int32} (hC : isC g ad M T A kf nf sf) {mi : Int32} {jen : Nat} (h1 : jen < tEn T) (h2 : inR mi 1 50 = false) : fXt l g yX5_advise cX5_advise 10 ((some .int)) 7 180 ad M [.ref (ad 0), .int (nI jen), .int mi] IAE ad M := by
  refine f_bodyX (own := RX5) (by decide +kernel) rfl (Nat.le_of_ble_eq_true rfl) ?_
  intro p e s m args below meth c ls X ht hw hl
  have hx := X.1
  have hb := X.2.1
  have hl : lv_has ls 10 [(0, .ref (ad 0)), (1, .int (nI jen)), (2, .int mi)] := hl
  obtain ⟨hF, hG, hT, hTA⟩ := id hC
  have hF : M 0 = some (.inr (6, [.ref (ad 1), .ref (ad 1000), .ref (ad 2000)])) := hF
  have hG0 := hG.1
  obtain ⟨hT0, hTh, hTp, hTe, hHs, hPs, hEs, hn1, hn2, hn3, hA⟩ := id hT
  obtain ⟨hT0a, hTha, hTpa, hTea, hHsa, hPsa, hEsa, hn1a, hn2a, hn3a, hAa⟩ := id hTA
  refine lv_aload_n hx hb dX5_advise_0 rfl (lv_at hl 0 rfl) ?_
  refine lv_iload_n hx hb dX5_advise_1 rfl (lv_at hl 1 rfl) ?_
  refine fk_dv (fcV X hw (c_rE l g ad M hC h1) hF rfl wq669 kVX5_requireEngine ⟨(Nat.le_of_ble_eq_true rfl), (Nat.le_of_ble_eq_true rfl)⟩ rfl hl.1 rfl (Nat.le_of_ble_eq_true rfl) dX5_advise_2 ⟨(by dsimp only [fR]; omega), (by dsimp only [fR]; omega)⟩) hw (fun H locs hw => ?_)
  refine lv_iload_n hx hb dX5_advise_5 rfl (lv_at hl 2 rfl) ?_
  refine lv_iconst (v := 1) hx hb dX5_advise_6 (by decide) ?_
  refine lv_bipush (v := 50) hx hb dX5_advise_7 (by decide) ?_
  exact fk_x X ht (fxS X hw (x_rR l hst g ad M h2) wq538 kSX5_requireRange ⟨(Nat.le_of_ble_eq_true rfl), (Nat.le_of_ble_eq_true rfl)⟩ rfl hl.1 rfl (Nat.le_of_ble_eq_true rfl) dX5_advise_9 ⟨(by dsimp only [fR]; omega), (by dsimp only [fR]; omega)⟩) hw (by omega) (by omega)
set_option maxHeartbeats 4000000 in
set_option maxRecDepth 100000 in
theorem c_X5_advise (l : Launch) (g : fG) (ad : Nat → Nat) (M : fM) {T A : fTn} {kf nf sf : Nat → Int32} (hC : isC g ad M T A kf nf sf) {jen N : Nat} {mi : Int32} (h1 : jen < tEn T) (h2 : inR mi 1 50 = true) (hN : mi = nI N) (hN2 : N < 2 ^ 31) (hLe : leT A T) : fCi l g yX5_advise cX5_advise 10 ((some .int)) 9 225 (2 * (tHn T - tHn A) + 2 * (tPn T - tPn A) + 2 * (tEn T - tEn A)) (50 * (tHn T - tHn A) + 45 * (tPn T - tPn A) + 54 * (tEn T - tEn A)) ad M [.ref (ad 0), .int (nI jen), .int mi] (fAdv g ad M T kf nf sf (advF T jen N (tHn T)).1) := by
  refine f_body (own := RX5) (by decide +kernel) rfl (Nat.le_of_ble_eq_true rfl) ?_
  intro p e s m args below meth c ls X hw hin hl
  have hx := X.1
  have hb := X.2.1
  have hl : lv_has ls 10 [(0, .ref (ad 0)), (1, .int (nI jen)), (2, .int mi)] := hl
  obtain ⟨hF, hG, hT, hTA⟩ := id hC
  have hF : M 0 = some (.inr (6, [.ref (ad 1), .ref (ad 1000), .ref (ad 2000)])) := hF
  have hG0 := hG.1
  obtain ⟨hT0, hTh, hTp, hTe, hHs, hPs, hEs, hn1, hn2, hn3, hA⟩ := id hT
  obtain ⟨hT0a, hTha, hTpa, hTea, hHsa, hPsa, hEsa, hn1a, hn2a, hn3a, hAa⟩ := id hTA
  obtain ⟨ado, hado⟩ : ∃ z, z = ad := ⟨_, rfl⟩
  obtain ⟨Mo, hMo⟩ : ∃ z, z = M := ⟨_, rfl⟩
  have hr0 : fReg 2000 3000 ado Mo ad M := by rw [hado, hMo]; exact fReg_rf
  have hk0 : ad 2000 = ado 2000 := by rw [hado]
  obtain ⟨Q9, hQ9⟩ : ∃ z, z = MQ below (fQi g (fAdv g ad M T kf nf sf (advF T jen N (tHn T)).1)) args s (2 * (tHn T - tHn A) + 2 * (tPn T - tPn A) + 2 * (tEn T - tEn A)) (50 * (tHn T - tHn A) + 45 * (tPn T - tPn A) + 54 * (tEn T - tEn A)) (fA g) := ⟨_, rfl⟩
  show W p l e (fR 9 225 (2 * (tHn T - tHn A) + 2 * (tPn T - tPn A) + 2 * (tEn T - tEn A)) (50 * (tHn T - tHn A) + 45 * (tPn T - tPn A) + 54 * (tEn T - tEn A))) s m args below meth c _ _ 0 0 (MQ below (fQi g (fAdv g ad M T kf nf sf (advF T jen N (tHn T)).1)) args s (2 * (tHn T - tHn A) + 2 * (tPn T - tPn A) + 2 * (tEn T - tEn A)) (50 * (tHn T - tHn A) + 45 * (tPn T - tPn A) + 54 * (tEn T - tEn A)) (fA g)) (F0 m 0 ls [])
  rw [← hQ9]
  refine lv_aload_n hx hb dX5_advise_0 rfl (lv_at hl 0 rfl) ?_
  refine lv_iload_n hx hb dX5_advise_1 rfl (lv_at hl 1 rfl) ?_
  refine fk_dv (fcV X hw (c_rE l g ad M hC h1) hF rfl wq669 kVX5_requireEngine ⟨(Nat.le_of_ble_eq_true rfl), (Nat.le_of_ble_eq_true rfl)⟩ rfl hl.1 rfl (Nat.le_of_ble_eq_true rfl) dX5_advise_2 ⟨(by dsimp only [fR]; omega), (by dsimp only [fR]; omega)⟩) hw (fun H locs hw => ?_)
  refine lv_iload_n hx hb dX5_advise_5 rfl (lv_at hl 2 rfl) ?_
  refine lv_iconst (v := 1) hx hb dX5_advise_6 (by decide) ?_
  refine lv_bipush (v := 50) hx hb dX5_advise_7 (by decide) ?_
  refine fk_dv (fcS X hw (c_rR l g ad M h2) wq538 kSX5_requireRange ⟨(Nat.le_of_ble_eq_true rfl), (Nat.le_of_ble_eq_true rfl)⟩ rfl hl.1 rfl (Nat.le_of_ble_eq_true rfl) dX5_advise_9 ⟨(by dsimp only [fR]; omega), (by dsimp only [fR]; omega)⟩) hw (fun H locs hw => ?_)
  refine lv_aload_n hx hb dX5_advise_12 rfl (lv_at hl 0 rfl) ?_
  refine f_get X hw hF fc6 1 (by decide) wq97 rfl (v := .ref (ad 1000)) rfl dX5_advise_13 ?_
  refine f_getN X hw hT0 fc5 3 (by decide) wn86 rfl (v := .ref (ad (1000 + 3))) rfl dX5_advise_16 ?_
  refine lv_iload_n hx hb dX5_advise_19 rfl (lv_at hl 1 rfl) ?_
  refine fk_dr (fcVe X hw (c_get l g ad M hTe (by omega)) (fList_obj hTe) rfl wq422 kVJx4a65c_get_915e3 ⟨(Nat.le_of_ble_eq_true rfl), (Nat.le_of_ble_eq_true rfl)⟩ rfl hl.1 rfl (Nat.le_of_ble_eq_true rfl) dX5_advise_20 ⟨(by dsimp only [fR]; omega), (by dsimp only [fR]; omega)⟩) hw (fun H locs hw => ?_)
  refine f_cast X hw (hEs jen (by omega)) fc1 wq449 dX5_advise_23 ?_
  refine lv_astore_n (lv' := [(3, .ref (ad (1000 + 300 + jen))), (0, .ref (ad 0)), (1, .int (nI jen)), (2, .int mi)]) hx hb dX5_advise_26 rfl hl (by decide) rfl (fun ls hl => ?_)
  refine lv_iconst (v := (-1)) hx hb dX5_advise_27 (by decide) ?_
  refine lv_istore (lv' := [(4, .int (-1)), (3, .ref (ad (1000 + 300 + jen))), (0, .ref (ad 0)), (1, .int (nI jen)), (2, .int mi)]) hx hb dX5_advise_28 hl (by decide) rfl (fun ls hl => ?_)
  refine lv_bipush (v := 31) hx hb dX5_advise_30 (by decide) ?_
  refine lv_istore (lv' := [(5, .int 31), (4, .int (-1)), (3, .ref (ad (1000 + 300 + jen))), (0, .ref (ad 0)), (1, .int (nI jen)), (2, .int mi)]) hx hb dX5_advise_32 hl (by decide) rfl (fun ls hl => ?_)
  refine lv_iconst (v := 0) hx hb dX5_advise_34 (by decide) ?_
  refine lv_istore (lv' := [(6, .int 0), (5, .int 31), (4, .int (-1)), (3, .ref (ad (1000 + 300 + jen))), (0, .ref (ad 0)), (1, .int (nI jen)), (2, .int mi)]) hx hb dX5_advise_35 hl (by decide) rfl (fun ls hl => ?_)
  have loop37 : ∀ (n k : Nat), k ≤ tHn T → tHn T < k + n → ∀ (A9 : fTn) (ad : Nat → Nat) (M : fM) (hC : isC g ad M T A9 kf nf sf) (hr : fReg 2000 3000 ado Mo ad M) (hk : ad 2000 = ado 2000) (hLe : leT A9 T) (hL0 : leT A A9) (ls : Array Slot) (H : Heap) (locs : List Loc), fw g ad M s H locs → lv_has ls 10 [(4, .int ((advF T jen N k).1)), (5, .int ((advF T jen N k).2)), (6, .int (nI k)), (0, .ref (ad 0)), (1, .int (nI jen)), (2, .int mi), (3, .ref (ad (1000 + 300 + jen)))] → W p l e (fR 9 225 (2 * (tHn T - tHn A) + 2 * (tPn T - tPn A) + 2 * (tEn T - tEn A)) (50 * (tHn T - tHn A) + 45 * (tPn T - tPn A) + 54 * (tEn T - tEn A))) s m args below meth c H locs (2 * (tHn A9 - tHn A) + 2 * (tPn A9 - tPn A) + 2 * (tEn A9 - tEn A)) (50 * (tHn A9 - tHn A) + 45 * (tPn A9 - tPn A) + 54 * (tEn A9 - tEn A)) Q9 (F0 m 37 ls []) := by
    intro n
    induction n with
    | zero => intro k h1 h2; omega
    | succ n ih =>
      intro k hk_ hn_ A9 ad M hC hr hk hLe hL0 ls H locs hw hl
      obtain ⟨l1, l2, l3⟩ := id hLe
      obtain ⟨l4, l5, l6⟩ := id hL0
      obtain ⟨hF, hG, hT, hTA⟩ := id hC
      have hF : M 0 = some (.inr (6, [.ref (ad 1), .ref (ad 1000), .ref (ad 2000)])) := hF
      have hG0 := hG.1
      obtain ⟨hT0, hTh, hTp, hTe, hHs, hPs, hEs, hn1, hn2, hn3, hA⟩ := id hT
      obtain ⟨hT0a, hTha, hTpa, hTea, hHsa, hPsa, hEsa, hn1a, hn2a, hn3a, hAa⟩ := id hTA
      refine lv_iload hx hb dX5_advise_37 (lv_at hl 2 rfl) ?_
      refine lv_aload_n hx hb dX5_advise_39 rfl (lv_at hl 3 rfl) ?_
      refine f_get X hw hF fc6 1 (by decide) wq97 rfl (v := .ref (ad 1000)) rfl dX5_advise_40 ?_
      refine f_getN X hw hT0 fc5 1 (by decide) wn82 rfl (v := .ref (ad (1000 + 1))) rfl dX5_advise_43 ?_
      refine fk_di (fcVe X hw (c_size l g ad M hTh) (fList_obj hTh) rfl wq421 kVJx4a65c_size_8abf5 ⟨(Nat.le_of_ble_eq_true rfl), (Nat.le_of_ble_eq_true rfl)⟩ rfl hl.1 rfl (Nat.le_of_ble_eq_true rfl) dX5_advise_46 ⟨(by dsimp only [fR]; omega), (by dsimp only [fR]; omega)⟩) hw (fun H locs hw => ?_)
      refine lv_icmp_ge (tgt := 145) hx hb dX5_advise_49 (by decide) (fun c_1 => ?_) (fun c_1 => ?_)
      · have c_1 := nI_le' (a := (tHn T)) (b := k) c_1 (by omega) (by omega)
        refine lv_iload hx hb dX5_advise_145 (lv_at hl 0 rfl) ?_
        rw [hQ9, ← hado, ← hMo]
        exact f_iret X hw ⟨⟨A9, hC, hLe⟩, by rw [hado, hMo] at hr ⊢; exact fReg_w hr (by omega) (by omega), by rw [hado] at hr ⊢; exact (hr 0 (by omega) (by omega)).1, by rw [show k = tHn T by omega]⟩ (by omega) (by omega) dX5_advise_147
      · have c_1 := nI_nle' (a := (tHn T)) (b := k) c_1 (by omega) (by omega)
        refine lv_aload_n hx hb dX5_advise_52 rfl (lv_at hl 3 rfl) ?_
        refine f_get X hw hF fc6 1 (by decide) wq97 rfl (v := .ref (ad 1000)) rfl dX5_advise_53 ?_
        refine f_getN X hw hT0 fc5 1 (by decide) wn82 rfl (v := .ref (ad (1000 + 1))) rfl dX5_advise_56 ?_
        refine lv_iload hx hb dX5_advise_59 (lv_at hl 2 rfl) ?_
        refine fk_dr (fcVe X hw (c_get l g ad M hTh (by omega)) (fList_obj hTh) rfl wq422 kVJx4a65c_get_915e3 ⟨(Nat.le_of_ble_eq_true rfl), (Nat.le_of_ble_eq_true rfl)⟩ rfl hl.1 rfl (Nat.le_of_ble_eq_true rfl) dX5_advise_61 ⟨(by dsimp only [fR]; omega), (by dsimp only [fR]; omega)⟩) hw (fun H locs hw => ?_)
        refine f_cast X hw (hHs k (by omega)) fc3 wq423 dX5_advise_64 ?_
        refine lv_astore (lv' := [(7, .ref (ad (1000 + 100 + k))), (4, .int ((advF T jen N k).1)), (5, .int ((advF T jen N k).2)), (6, .int (nI k)), (0, .ref (ad 0)), (1, .int (nI jen)), (2, .int mi), (3, .ref (ad (1000 + 300 + jen)))]) hx hb dX5_advise_67 hl (by decide) rfl (fun ls hl => ?_)
        refine lv_aload_n hx hb dX5_advise_69 rfl (lv_at hl 7 rfl) ?_
        refine f_getN X hw (hEs jen h1) fc1 0 (by decide) wn258 rfl (v := .int ((tE T jen) 0)) rfl dX5_advise_70 ?_
        refine lv_aload hx hb dX5_advise_73 (lv_at hl 0 rfl) ?_
        refine f_getN X hw (hHs k (by omega)) fc3 0 (by decide) wn126 rfl (v := .int ((tH T k) 0)) rfl dX5_advise_75 ?_
        refine fk_di (fcS X hw (c_distance l g ad M (tE T jen 0) (tH T k 0)) wq714 kSX5_distance ⟨(Nat.le_of_ble_eq_true rfl), (Nat.le_of_ble_eq_true rfl)⟩ rfl hl.1 rfl (Nat.le_of_ble_eq_true rfl) dX5_advise_78 ⟨(by dsimp only [fR]; omega), (by dsimp only [fR]; omega)⟩) hw (fun H locs hw => ?_)
        refine lv_bipush (v := 6) hx hb dX5_advise_81 (by decide) ?_
        refine lv_icmp_gt (tgt := 90) hx hb dX5_advise_83 (by decide) (fun c_2 => ?_) (fun c_2 => ?_)
        · refine lv_iconst (v := 0) hx hb dX5_advise_90 (by decide) ?_
          refine lv_istore (lv' := [(8, .int 0), (7, .ref (ad (1000 + 100 + k))), (4, .int ((advF T jen N k).1)), (5, .int ((advF T jen N k).2)), (6, .int (nI k)), (0, .ref (ad 0)), (1, .int (nI jen)), (2, .int mi), (3, .ref (ad (1000 + 300 + jen)))]) hx hb dX5_advise_91 hl (by decide) rfl (fun ls hl => ?_)
          refine lv_aload_n hx hb dX5_advise_93 rfl (lv_at hl 8 rfl) ?_
          refine fk_di (fcV X hw (c_X0_stands l g ad M (hEs jen h1)) (hEs jen h1) rfl wq681 kVX0_stands ⟨(Nat.le_of_ble_eq_true rfl), (Nat.le_of_ble_eq_true rfl)⟩ rfl hl.1 rfl (Nat.le_of_ble_eq_true rfl) dX5_advise_94 ⟨(by dsimp only [fR]; omega), (by dsimp only [fR]; omega)⟩) hw (fun H locs hw => ?_)
          refine lv_if_eq (tgt := 139) hx hb dX5_advise_97 (by decide) (fun c_3 => ?_) (fun c_3 => ?_)
          · have c_3 := bI_f.mp c_3
            refine lv_iinc (v := nI (k + 1)) (lv' := [(6, .int (nI (k + 1))), (8, .int 0), (7, .ref (ad (1000 + 100 + k))), (4, .int ((advF T jen N k).1)), (5, .int ((advF T jen N k).2)), (0, .ref (ad 0)), (1, .int (nI jen)), (2, .int mi), (3, .ref (ad (1000 + 300 + jen)))]) hx hb dX5_advise_139 hl (k := 4) rfl (nI_1 k) (by decide) rfl (fun ls hl => ?_)
            refine lv_goto (tgt := 37) hx hb dX5_advise_142 (by decide) ?_
            exact ih (k + 1) (by omega) (by omega) A9 ad M hC hr hk hLe hL0 ls _ _ hw (by rw [show ((advF T jen N (k + 1)).1) = ((advF T jen N k).1) from (by simp [advF, advB, c_1, c_2, c_3]), show ((advF T jen N (k + 1)).2) = ((advF T jen N k).2) from (by simp [advF, advB, c_1, c_2, c_3])]; exact lv_sub hl [3, 4, 0, 5, 6, 7, 8] rfl)
          · have c_3 := bI_nf.mp c_3
            refine lv_aload hx hb dX5_advise_100 (lv_at hl 1 rfl) ?_
            refine f_getN X hw (hHs k (by omega)) fc3 3 (by decide) wn131 rfl (v := .int ((tH T k) 3)) rfl dX5_advise_102 ?_
            refine lv_iconst (v := 1) hx hb dX5_advise_105 (by decide) ?_
            refine lv_icmp_ne (tgt := 139) hx hb dX5_advise_106 (by decide) (fun c_4 => ?_) (fun c_4 => ?_)
            · refine lv_iinc (v := nI (k + 1)) (lv' := [(6, .int (nI (k + 1))), (8, .int 0), (7, .ref (ad (1000 + 100 + k))), (4, .int ((advF T jen N k).1)), (5, .int ((advF T jen N k).2)), (0, .ref (ad 0)), (1, .int (nI jen)), (2, .int mi), (3, .ref (ad (1000 + 300 + jen)))]) hx hb dX5_advise_139 hl (k := 4) rfl (nI_1 k) (by decide) rfl (fun ls hl => ?_)
              refine lv_goto (tgt := 37) hx hb dX5_advise_142 (by decide) ?_
              exact ih (k + 1) (by omega) (by omega) A9 ad M hC hr hk hLe hL0 ls _ _ hw (by rw [show ((advF T jen N (k + 1)).1) = ((advF T jen N k).1) from (by simp [advF, advB, c_1, c_2, c_3, c_4]), show ((advF T jen N (k + 1)).2) = ((advF T jen N k).2) from (by simp [advF, advB, c_1, c_2, c_3, c_4])]; exact lv_sub hl [3, 4, 0, 5, 6, 7, 8] rfl)
            · refine lv_iload hx hb dX5_advise_109 (lv_at hl 0 rfl) ?_
              refine lv_if_eq (tgt := 139) hx hb dX5_advise_111 (by decide) (fun c_5 => ?_) (fun c_5 => absurd rfl c_5)
              refine lv_iinc (v := nI (k + 1)) (lv' := [(6, .int (nI (k + 1))), (8, .int 0), (7, .ref (ad (1000 + 100 + k))), (4, .int ((advF T jen N k).1)), (5, .int ((advF T jen N k).2)), (0, .ref (ad 0)), (1, .int (nI jen)), (2, .int mi), (3, .ref (ad (1000 + 300 + jen)))]) hx hb dX5_advise_139 hl (k := 4) rfl (nI_1 k) (by decide) rfl (fun ls hl => ?_)
              refine lv_goto (tgt := 37) hx hb dX5_advise_142 (by decide) ?_
              exact ih (k + 1) (by omega) (by omega) A9 ad M hC hr hk hLe hL0 ls _ _ hw (by rw [show ((advF T jen N (k + 1)).1) = ((advF T jen N k).1) from (by simp [advF, advB, c_1, c_2, c_3, c_4, c_5]), show ((advF T jen N (k + 1)).2) = ((advF T jen N k).2) from (by simp [advF, advB, c_1, c_2, c_3, c_4, c_5])]; exact lv_sub hl [3, 4, 0, 5, 6, 7, 8] rfl)
        · refine lv_iconst (v := 1) hx hb dX5_advise_86 (by decide) ?_
          refine lv_goto (tgt := 91) hx hb dX5_advise_87 (by decide) ?_
          refine lv_istore (lv' := [(8, .int 1), (7, .ref (ad (1000 + 100 + k))), (4, .int ((advF T jen N k).1)), (5, .int ((advF T jen N k).2)), (6, .int (nI k)), (0, .ref (ad 0)), (1, .int (nI jen)), (2, .int mi), (3, .ref (ad (1000 + 300 + jen)))]) hx hb dX5_advise_91 hl (by decide) rfl (fun ls hl => ?_)
          refine lv_aload_n hx hb dX5_advise_93 rfl (lv_at hl 8 rfl) ?_
          refine fk_di (fcV X hw (c_X0_stands l g ad M (hEs jen h1)) (hEs jen h1) rfl wq681 kVX0_stands ⟨(Nat.le_of_ble_eq_true rfl), (Nat.le_of_ble_eq_true rfl)⟩ rfl hl.1 rfl (Nat.le_of_ble_eq_true rfl) dX5_advise_94 ⟨(by dsimp only [fR]; omega), (by dsimp only [fR]; omega)⟩) hw (fun H locs hw => ?_)
          refine lv_if_eq (tgt := 139) hx hb dX5_advise_97 (by decide) (fun c_6 => ?_) (fun c_6 => ?_)
          · have c_6 := bI_f.mp c_6
            refine lv_iinc (v := nI (k + 1)) (lv' := [(6, .int (nI (k + 1))), (8, .int 1), (7, .ref (ad (1000 + 100 + k))), (4, .int ((advF T jen N k).1)), (5, .int ((advF T jen N k).2)), (0, .ref (ad 0)), (1, .int (nI jen)), (2, .int mi), (3, .ref (ad (1000 + 300 + jen)))]) hx hb dX5_advise_139 hl (k := 4) rfl (nI_1 k) (by decide) rfl (fun ls hl => ?_)
            refine lv_goto (tgt := 37) hx hb dX5_advise_142 (by decide) ?_
            exact ih (k + 1) (by omega) (by omega) A9 ad M hC hr hk hLe hL0 ls _ _ hw (by rw [show ((advF T jen N (k + 1)).1) = ((advF T jen N k).1) from (by simp [advF, advB, c_1, c_2, c_6]), show ((advF T jen N (k + 1)).2) = ((advF T jen N k).2) from (by simp [advF, advB, c_1, c_2, c_6])]; exact lv_sub hl [3, 4, 0, 5, 6, 7, 8] rfl)
          · have c_6 := bI_nf.mp c_6
            refine lv_aload hx hb dX5_advise_100 (lv_at hl 1 rfl) ?_
            refine f_getN X hw (hHs k (by omega)) fc3 3 (by decide) wn131 rfl (v := .int ((tH T k) 3)) rfl dX5_advise_102 ?_
            refine lv_iconst (v := 1) hx hb dX5_advise_105 (by decide) ?_
            refine lv_icmp_ne (tgt := 139) hx hb dX5_advise_106 (by decide) (fun c_7 => ?_) (fun c_7 => ?_)
            · refine lv_iinc (v := nI (k + 1)) (lv' := [(6, .int (nI (k + 1))), (8, .int 1), (7, .ref (ad (1000 + 100 + k))), (4, .int ((advF T jen N k).1)), (5, .int ((advF T jen N k).2)), (0, .ref (ad 0)), (1, .int (nI jen)), (2, .int mi), (3, .ref (ad (1000 + 300 + jen)))]) hx hb dX5_advise_139 hl (k := 4) rfl (nI_1 k) (by decide) rfl (fun ls hl => ?_)
              refine lv_goto (tgt := 37) hx hb dX5_advise_142 (by decide) ?_
              exact ih (k + 1) (by omega) (by omega) A9 ad M hC hr hk hLe hL0 ls _ _ hw (by rw [show ((advF T jen N (k + 1)).1) = ((advF T jen N k).1) from (by simp [advF, advB, c_1, c_2, c_6, c_7]), show ((advF T jen N (k + 1)).2) = ((advF T jen N k).2) from (by simp [advF, advB, c_1, c_2, c_6, c_7])]; exact lv_sub hl [3, 4, 0, 5, 6, 7, 8] rfl)
            · refine lv_iload hx hb dX5_advise_109 (lv_at hl 0 rfl) ?_
              refine lv_if_eq (tgt := 139) hx hb dX5_advise_111 (by decide) (fun c_8 => absurd c_8 (by decide)) (fun c_8 => ?_)
              refine lv_aload_n hx hb dX5_advise_114 rfl (lv_at hl 5 rfl) ?_
              refine lv_iload_n hx hb dX5_advise_115 rfl (lv_at hl 6 rfl) ?_
              refine lv_iload hx hb dX5_advise_116 (lv_at hl 4 rfl) ?_
              refine lv_iload_n hx hb dX5_advise_118 rfl (lv_at hl 7 rfl) ?_
              refine fk_i (fcV X hw (c_fallen l g ad M hC (je := jen) (jh := k) h1 hN hN2 hLe) hF rfl wq784 kVX5_fallenIfAimed ⟨(Nat.le_of_ble_eq_true rfl), (Nat.le_of_ble_eq_true rfl)⟩ rfl hl.1 rfl (Nat.le_of_ble_eq_true rfl) dX5_advise_119 ⟨(by dsimp only [fR]; omega), (by dsimp only [fR]; omega)⟩) hw (fun r ad1 M1 H locs hp hw => ?_)
              obtain ⟨hT9, hr9, hk9, rfl⟩ := hp
              have n8 := goT_n (aimT T jen k) N
              refine lv_istore (lv' := [(9, .int (fallI T jen k N)), (8, .int 1), (7, .ref (ad (1000 + 100 + k))), (4, .int ((advF T jen N k).1)), (5, .int ((advF T jen N k).2)), (6, .int (nI k)), (0, .ref (ad 0)), (1, .int (nI jen)), (2, .int mi), (3, .ref (ad (1000 + 300 + jen)))]) hx hb dX5_advise_122 hl (by decide) rfl (fun ls hl => ?_)
              refine lv_iload hx hb dX5_advise_124 (lv_at hl 0 rfl) ?_
              refine lv_iload hx hb dX5_advise_126 (lv_at hl 4 rfl) ?_
              refine lv_icmp_ge (tgt := 139) hx hb dX5_advise_128 (by decide) (fun c_9 => ?_) (fun c_9 => ?_)
              · refine lv_iinc (v := nI (k + 1)) (lv' := [(6, .int (nI (k + 1))), (9, .int (fallI T jen k N)), (8, .int 1), (7, .ref (ad (1000 + 100 + k))), (4, .int ((advF T jen N k).1)), (5, .int ((advF T jen N k).2)), (0, .ref (ad 0)), (1, .int (nI jen)), (2, .int mi), (3, .ref (ad (1000 + 300 + jen)))]) hx hb dX5_advise_139 hl (k := 5) rfl (nI_1 k) (by decide) rfl (fun ls hl => ?_)
                refine lv_goto (tgt := 37) hx hb dX5_advise_142 (by decide) ?_
                obtain ⟨A8, hA8⟩ : ∃ z, z = (goT (aimT T jen k) N).1 := ⟨_, rfl⟩
                rw [← hA8] at hT9
                have n81 : tHn A8 = tHn T := by rw [hA8]; exact n8.1
                have n82 : tPn A8 = tPn T := by rw [hA8]; exact n8.2.1
                have n83 : tEn A8 = tEn T := by rw [hA8]; exact n8.2.2
                have hC9 := isC_A hC hT9 hr9 hk9
                rw [← (hr9 0 (by omega) (by omega)).1, ← (hr9 (1000 + 300 + jen) (by omega) (by omega)).1] at hl
                have hih := ih (k + 1) (by omega) (by omega) A8 ad1 M1 hC9.1 (fReg_tr hr hr9) (hk9.trans hk) ⟨by omega, by omega, by omega⟩ ⟨by omega, by omega, by omega⟩ ls _ _ hw (by rw [show ((advF T jen N (k + 1)).1) = ((advF T jen N k).1) from (by simp [advF, advB, c_1, c_2, c_6, c_7, c_8, c_9]), show ((advF T jen N (k + 1)).2) = ((advF T jen N k).2) from (by simp [advF, advB, c_1, c_2, c_6, c_7, c_8, c_9])]; exact lv_sub hl [4, 5, 0, 6, 7, 8, 9] rfl)
                rw [show (2 * (tHn A8 - tHn A) + 2 * (tPn A8 - tPn A) + 2 * (tEn A8 - tEn A)) = (2 * (tHn A9 - tHn A) + 2 * (tPn A9 - tPn A) + 2 * (tEn A9 - tEn A)) + (2 * (tHn T - tHn A9) + 2 * (tPn T - tPn A9) + 2 * (tEn T - tEn A9)) by omega, show (50 * (tHn A8 - tHn A) + 45 * (tPn A8 - tPn A) + 54 * (tEn A8 - tEn A)) = (50 * (tHn A9 - tHn A) + 45 * (tPn A9 - tPn A) + 54 * (tEn A9 - tEn A)) + (50 * (tHn T - tHn A9) + 45 * (tPn T - tPn A9) + 54 * (tEn T - tEn A9)) by omega] at hih
                exact hih
              · refine lv_iload hx hb dX5_advise_131 (lv_at hl 0 rfl) ?_
                refine lv_istore (lv' := [(5, .int (fallI T jen k N)), (9, .int (fallI T jen k N)), (8, .int 1), (7, .ref (ad (1000 + 100 + k))), (4, .int ((advF T jen N k).1)), (6, .int (nI k)), (0, .ref (ad 0)), (1, .int (nI jen)), (2, .int mi), (3, .ref (ad (1000 + 300 + jen)))]) hx hb dX5_advise_133 hl (by decide) rfl (fun ls hl => ?_)
                refine lv_iload hx hb dX5_advise_135 (lv_at hl 5 rfl) ?_
                refine lv_istore (lv' := [(4, .int (nI k)), (5, .int (fallI T jen k N)), (9, .int (fallI T jen k N)), (8, .int 1), (7, .ref (ad (1000 + 100 + k))), (6, .int (nI k)), (0, .ref (ad 0)), (1, .int (nI jen)), (2, .int mi), (3, .ref (ad (1000 + 300 + jen)))]) hx hb dX5_advise_137 hl (by decide) rfl (fun ls hl => ?_)
                refine lv_iinc (v := nI (k + 1)) (lv' := [(6, .int (nI (k + 1))), (4, .int (nI k)), (5, .int (fallI T jen k N)), (9, .int (fallI T jen k N)), (8, .int 1), (7, .ref (ad (1000 + 100 + k))), (0, .ref (ad 0)), (1, .int (nI jen)), (2, .int mi), (3, .ref (ad (1000 + 300 + jen)))]) hx hb dX5_advise_139 hl (k := 5) rfl (nI_1 k) (by decide) rfl (fun ls hl => ?_)
                refine lv_goto (tgt := 37) hx hb dX5_advise_142 (by decide) ?_
                obtain ⟨A8, hA8⟩ : ∃ z, z = (goT (aimT T jen k) N).1 := ⟨_, rfl⟩
                rw [← hA8] at hT9
                have n81 : tHn A8 = tHn T := by rw [hA8]; exact n8.1
                have n82 : tPn A8 = tPn T := by rw [hA8]; exact n8.2.1
                have n83 : tEn A8 = tEn T := by rw [hA8]; exact n8.2.2
                have hC9 := isC_A hC hT9 hr9 hk9
                rw [← (hr9 0 (by omega) (by omega)).1, ← (hr9 (1000 + 300 + jen) (by omega) (by omega)).1] at hl
                have hih := ih (k + 1) (by omega) (by omega) A8 ad1 M1 hC9.1 (fReg_tr hr hr9) (hk9.trans hk) ⟨by omega, by omega, by omega⟩ ⟨by omega, by omega, by omega⟩ ls _ _ hw (by rw [show ((advF T jen N (k + 1)).1) = (nI k) from (by simp [advF, advB, c_1, c_2, c_6, c_7, c_8, c_9]), show ((advF T jen N (k + 1)).2) = (fallI T jen k N) from (by simp [advF, advB, c_1, c_2, c_6, c_7, c_8, c_9])]; exact lv_sub hl [1, 2, 0, 6, 7, 8, 9] rfl)
                rw [show (2 * (tHn A8 - tHn A) + 2 * (tPn A8 - tPn A) + 2 * (tEn A8 - tEn A)) = (2 * (tHn A9 - tHn A) + 2 * (tPn A9 - tPn A) + 2 * (tEn A9 - tEn A)) + (2 * (tHn T - tHn A9) + 2 * (tPn T - tPn A9) + 2 * (tEn T - tEn A9)) by omega, show (50 * (tHn A8 - tHn A) + 45 * (tPn A8 - tPn A) + 54 * (tEn A8 - tEn A)) = (50 * (tHn A9 - tHn A) + 45 * (tPn A9 - tPn A) + 54 * (tEn A9 - tEn A)) + (50 * (tHn T - tHn A9) + 45 * (tPn T - tPn A9) + 54 * (tEn T - tEn A9)) by omega] at hih
                exact hih
  have hlp := loop37 (tHn T + 1) 0 (by omega) (by omega) A ad M hC hr0 hk0 hLe ⟨Nat.le_refl _, Nat.le_refl _, Nat.le_refl _⟩ ls _ _ hw (lv_sub hl [2, 1, 0, 4, 5, 6, 3] rfl)
  rw [show (2 * (tHn A - tHn A) + 2 * (tPn A - tPn A) + 2 * (tEn A - tEn A)) = 0 by omega, show (50 * (tHn A - tHn A) + 45 * (tPn A - tPn A) + 54 * (tEn A - tEn A)) = 0 by omega] at hlp
  exact hlp
