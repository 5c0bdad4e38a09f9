/-! THE LAW, turn by turn: what it tells of both towns before a minute -/
theorem hT_0 {f : Nat → Int32} : hTell f 0 = f 0 := by unfold hTell; first | rfl | (rw [if_pos rfl])
theorem hT_1 {f : Nat → Int32} : hTell f 1 = f 1 := by unfold hTell; first | rfl | (rw [if_neg (by decide), if_pos rfl])
theorem hT_2 {f : Nat → Int32} : hTell f 2 = f 2 := by unfold hTell; first | rfl | (rw [if_neg (by decide), if_neg (by decide), if_pos rfl])
theorem hT_3 {f : Nat → Int32} : hTell f 3 = f 3 := by unfold hTell; first | rfl | (rw [if_neg (by decide), if_neg (by decide), if_neg (by decide), if_pos rfl])
theorem hT_4 {f : Nat → Int32} : hTell f 4 = f 4 := by unfold hTell; first | rfl | (rw [if_neg (by decide), if_neg (by decide), if_neg (by decide), if_neg (by decide), if_pos rfl])
theorem hT_5 {f : Nat → Int32} : hTell f 5 = f 5 := by unfold hTell; first | rfl | (rw [if_neg (by decide), if_neg (by decide), if_neg (by decide), if_neg (by decide), if_neg (by decide), if_pos rfl])
theorem hT_6 {f : Nat → Int32} : hTell f 6 = f 6 := by unfold hTell; first | rfl | (rw [if_neg (by decide), if_neg (by decide), if_neg (by decide), if_neg (by decide), if_neg (by decide), if_neg (by decide)])
theorem eT_0 {T : fTn} {f : Nat → Int32} : eTell T f 0 = f 0 := by unfold eTell; first | rfl | (rw [if_pos rfl])
theorem eT_1 {T : fTn} {f : Nat → Int32} : eTell T f 1 = f 1 := by unfold eTell; first | rfl | (rw [if_neg (by decide), if_pos rfl])
theorem eT_2 {T : fTn} {f : Nat → Int32} : eTell T f 2 = f 2 := by unfold eTell; first | rfl | (rw [if_neg (by decide), if_neg (by decide), if_pos rfl])
theorem eT_3 {T : fTn} {f : Nat → Int32} : eTell T f 3 = f 3 := by unfold eTell; first | rfl | (rw [if_neg (by decide), if_neg (by decide), if_neg (by decide), if_pos rfl])
theorem eT_4 {T : fTn} {f : Nat → Int32} : eTell T f 4 = f 4 := by unfold eTell; first | rfl | (rw [if_neg (by decide), if_neg (by decide), if_neg (by decide), if_neg (by decide), if_pos rfl])
theorem eT_5 {T : fTn} {f : Nat → Int32} : eTell T f 5 = f 5 := by unfold eTell; first | rfl | (rw [if_neg (by decide), if_neg (by decide), if_neg (by decide), if_neg (by decide), if_neg (by decide), if_pos rfl])
theorem eT_6 {T : fTn} {f : Nat → Int32} : eTell T f 6 = f 7 := by unfold eTell; first | rfl | (rw [if_neg (by decide), if_neg (by decide), if_neg (by decide), if_neg (by decide), if_neg (by decide), if_neg (by decide), if_pos rfl])

theorem eT_8 {T : fTn} {f : Nat → Int32} : eTell T f 8 = f 9 := by unfold eTell; first | rfl | (rw [if_neg (by decide), if_neg (by decide), if_neg (by decide), if_neg (by decide), if_neg (by decide), if_neg (by decide), if_neg (by decide), if_neg (by decide), if_pos rfl])
def updR (r : Nat → Nat → Int32) (k w : Nat) (v : Int32) : Nat → Nat → Int32 := fun i => if i = k then upd (r k) w v else r i
theorem updR_k {r : Nat → Nat → Int32} {k w : Nat} {v : Int32} : updR r k w v k = upd (r k) w v := if_pos rfl
theorem updR_ne {r : Nat → Nat → Int32} {k w i : Nat} {v : Int32} (h : i ≠ k) : updR r k w v i = r i := if_neg h
theorem updR_M {g : fG} {M : fM} {b n K k w : Nat} {r : Nat → Nat → Int32} {v : Int32} (h : ∀ i, i < n → M (b + i) = some (.inl (gI g, K, .inl (r i)))) : ∀ i, i < n → fU M (b + k) (.inl (gI g, K, .inl (upd (r k) w v))) (b + i) = some (.inl (gI g, K, .inl (updR r k w v i))) := fun i hi => by
  by_cases q : i = k
  · rw [q, updR_k, fU_s]
  · rw [updR_ne q, fU_n (by omega)]; exact h i hi
/-- what the law has recorded of the houses, the engines, the ponds -/
def isRh (g : fG) (ad : Nat → Nat) (M : fM) (T : fTn) : Prop := ∃ (f : Nat → Option Nat) (r : Nat → Nat → Int32), M 3421 = some (.inl (gQ g, tHn T, .inr (.inr (.inr (.inr f))))) ∧ (∀ i, i < tHn T → f i = some (ad (3450 + i))) ∧ (∀ i, i < tHn T → M (3450 + i) = some (.inl (gI g, 7, .inl (r i)))) ∧ ∀ i, i < tHn T → ∀ j, j < 7 → r i j = hTell (tH T i) (nI j)
def isRe (g : fG) (ad : Nat → Nat) (M : fM) (T : fTn) : Prop := ∃ (f : Nat → Option Nat) (r : Nat → Nat → Int32), M 3422 = some (.inl (gQ g, tEn T, .inr (.inr (.inr (.inr f))))) ∧ (∀ i, i < tEn T → f i = some (ad (3500 + i))) ∧ (∀ i, i < tEn T → M (3500 + i) = some (.inl (gI g, 10, .inl (r i)))) ∧ ∀ i, i < tEn T → ∀ j, j < 10 → r i j = eTell T (tE T i) (nI j)
def isRp (g : fG) (M : fM) (T : fTn) : Prop := ∃ f : Nat → Int32, M 3423 = some (.inl (gI g, tPn T, .inl f)) ∧ ∀ i, i < tPn T → f i = tP T i 1
theorem isRh_eq {g : fG} {ad ad1 : Nat → Nat} {M M1 : fM} {T : fTn} (h : isRh g ad M T) (hn : tHn T ≤ 30) (R : ∀ l, l = 3421 ∨ (3450 ≤ l ∧ l < 3480) → ad1 l = ad l ∧ M1 l = M l) : isRh g ad1 M1 T := by
  obtain ⟨f, r, a, b, c, d⟩ := h
  exact ⟨f, r, (R _ (Or.inl rfl)).2.trans a, fun i hi => (b i hi).trans (congrArg some (R _ (Or.inr ⟨by omega, by omega⟩)).1.symm), fun i hi => (R _ (Or.inr ⟨by omega, by omega⟩)).2.trans (c i hi), d⟩
theorem isRe_eq {g : fG} {ad ad1 : Nat → Nat} {M M1 : fM} {T : fTn} (h : isRe g ad M T) (hn : tEn T ≤ 6) (R : ∀ l, l = 3422 ∨ (3500 ≤ l ∧ l < 3506) → ad1 l = ad l ∧ M1 l = M l) : isRe g ad1 M1 T := by
  obtain ⟨f, r, a, b, c, d⟩ := h
  exact ⟨f, r, (R _ (Or.inl rfl)).2.trans a, fun i hi => (b i hi).trans (congrArg some (R _ (Or.inr ⟨by omega, by omega⟩)).1.symm), fun i hi => (R _ (Or.inr ⟨by omega, by omega⟩)).2.trans (c i hi), d⟩
theorem isRp_eq {g : fG} {M M1 : fM} {T : fTn} (h : isRp g M T) (R : M1 3423 = M 3423) : isRp g M1 T := by
  obtain ⟨f, a, b⟩ := h
  exact ⟨f, R.trans a, b⟩
theorem LW_eq {g : fG} {ad ad1 : Nat → Nat} {M M1 : fM} {T : fTn} {kf nf : Nat → Int32} (h : LW g ad M T kf nf) (R : ∀ l, l < 3400 → ad1 l = ad l ∧ M1 l = M l) : LW g ad1 M1 T kf nf := by
  obtain ⟨U, A, sf, hC, hLe, hS, r⟩ := h
  exact ⟨U, A, sf, isC_eq hC (fun l hl => R l (by omega)), hLe, isSim_eq hS (fun l a b => R l b), r⟩
set_option maxHeartbeats 4000000 in
set_option maxRecDepth 100000 in
/-- two things are done to both, if they can be -/
theorem lw_acts {p : Program} {l : Launch} {e : Env} {s : State} {m : MethodId} {args : Array Value} {below : List Frame} {meth : Method} {c : Code} {H : Heap} {locs : List Loc} {cells slots : Nat} {Q : State → Prop} {g : fG} {ad : Nat → Nat} {M : fM} {ls : Array Slot} {T : fTn} {t : Nat} (X : fX p s m args meth c code 25 ret RL g) (hw : fw g ad M s H locs) (hl : lv_has ls 25 [(6, .int (nI t)), (5, .int (nI (tPn T))), (4, .int (nI (tEn T))), (3, .int (nI (tHn T))), (2, .ref (ad 3000)), (1, .ref (ad 0)), (0, .ref (gXb g))]) (hcap : cells + 800 ≤ 792864 ∧ slots + 13000 ≤ 6723031) {kf nf : Nat → Int32} (hLW : LW g ad M T kf nf) (hH : 0 < tHn T) (hXn : gXn g ≤ 260) (ht : t < 40)
    (K : ∀ (ad1 : Nat → Nat) (M1 : fM) (T1 : fTn) (H1 : Heap) (locs1 : List Loc) (ls1 : Array Slot), LW g ad1 M1 T1 kf nf → cntT T1 T → fw g ad1 M1 s H1 locs1 → lv_has ls1 25 [(6, .int (nI t)), (5, .int (nI (tPn T))), (4, .int (nI (tEn T))), (3, .int (nI (tHn T))), (2, .ref (ad1 3000)), (1, .ref (ad1 0)), (0, .ref (gXb g))] → W p l e room_1 s m args below meth c H1 locs1 (cells + 284) (slots + 1680) Q (F0 m 112 ls1 [])) : W p l e room_1 s m args below meth c H locs cells slots Q (F0 m 50 ls []) := by
  have hx := X.1
  have hb := X.2.1
  refine lv_aload_n hx hb dL_law_50 rfl (lv_at hl 6 rfl) ?_
  refine lv_iload hx hb dL_law_51 (lv_at hl 0 rfl) ?_
  refine lv_bipush (v := 16) hx hb dL_law_53 (by decide) ?_
  refine lv_irem hx hb dL_law_55 (by decide) ?_
  refine f_top (y := nI (t % 16)) (pk_rem (a := t) (d := 16) (by omega) (by omega) (by omega)) ?_
  refine fk_di (fcS X hw (c_cell l g ad M hXn (k := t % 16) (by omega)) wq602 kSL_cell ⟨(Nat.le_of_ble_eq_true rfl), (Nat.le_of_ble_eq_true rfl)⟩ rfl hl.1 rfl (Nat.le_of_ble_eq_true rfl) dL_law_56 ⟨(by first | (show _ ≤ 792864; omega) | (show _ ≤ 6723031; omega)), (by first | (show _ ≤ 792864; omega) | (show _ ≤ 6723031; omega))⟩) hw (fun H locs hw => ?_)
  refine lv_iload hx hb dL_law_59 (lv_at hl 0 rfl) ?_
  refine lv_bipush (v := 16) hx hb dL_law_61 (by decide) ?_
  refine lv_idiv hx hb dL_law_63 (by decide) ?_
  refine f_top (y := nI (t / 16)) (pk_div (a := t) (d := 16) (by omega) (by omega) (by omega)) ?_
  refine lv_iconst (v := 3) hx hb dL_law_64 (by decide) ?_
  refine lv_imul hx hb dL_law_65 ?_
  refine lv_ishr hx hb dL_law_66 ?_
  refine lv_bipush (v := 37) hx hb dL_law_67 (by decide) ?_
  refine lv_iload hx hb dL_law_69 (lv_at hl 0 rfl) ?_
  refine lv_imul hx hb dL_law_71 ?_
  refine lv_iadd hx hb dL_law_72 ?_
  obtain ⟨xx, exx⟩ : ∃ z, z = ((lCell g (t % 16)) >>> (((nI (t / 16)) * 3) &&& 31)) + (37 * (nI t)) := ⟨_, rfl⟩
  refine f_top (y := xx) exx.symm ?_
  refine lv_istore (lv' := [(7, .int xx), (6, .int (nI t)), (5, .int (nI (tPn T))), (4, .int (nI (tEn T))), (3, .int (nI (tHn T))), (2, .ref (ad 3000)), (1, .ref (ad 0)), (0, .ref (gXb g))]) hx hb dL_law_73 hl (by decide) rfl (fun ls hl => ?_)
  refine lv_iconst (v := 0) hx hb dL_law_75 (by decide) ?_
  refine lv_istore (lv' := [(8, .int 0), (7, .int xx), (6, .int (nI t)), (5, .int (nI (tPn T))), (4, .int (nI (tEn T))), (3, .int (nI (tHn T))), (2, .ref (ad 3000)), (1, .ref (ad 0)), (0, .ref (gXb g))]) hx hb dL_law_76 hl (by decide) rfl (fun ls hl => ?_)
  have loop78 : ∀ (n k : Nat), k ≤ 2 → 2 < k + n → ∀ (ad : Nat → Nat) (M : fM) (T1 : fTn) (hLW : LW g ad M T1 kf nf) (hc : cntT T1 T) (ls : Array Slot) (H : Heap) (locs : List Loc), fw g ad M s H locs → lv_has ls 25 [(8, .int (nI k)), (7, .int xx), (6, .int (nI t)), (5, .int (nI (tPn T))), (4, .int (nI (tEn T))), (3, .int (nI (tHn T))), (2, .ref (ad 3000)), (1, .ref (ad 0)), (0, .ref (gXb g))] → W p l e (room_1) s m args below meth c H locs (cells + 142 * k) (slots + 840 * k) (Q) (F0 m 78 ls []) := by
    intro n
    induction n with
    | zero => intro k h1 h2; omega
    | succ n ih =>
      intro k hk_ hn_ ad M T1 hLW hc ls H locs hw hl
      refine lv_iload hx hb dL_law_78 (lv_at hl 0 rfl) ?_
      refine lv_iconst (v := 2) hx hb dL_law_80 (by decide) ?_
      refine lv_icmp_ge (tgt := 112) hx hb dL_law_81 (by decide) (fun c_1 => ?_) (fun c_1 => ?_)
      · have c_1 := nI_le' (a := 2) (b := k) c_1 (by omega) (by omega)
        refine W.widen (k := cells + 284) (n := slots + 1680) (by omega) (by omega) ?_
        exact K ad M T1 H locs ls hLW hc hw (lv_sub hl [2, 3, 4, 5, 6, 7, 8] rfl)
      · have c_1 := nI_nle' (a := 2) (b := k) c_1 (by omega) (by omega)
        refine lv_aload_n hx hb dL_law_84 rfl (lv_at hl 7 rfl) ?_
        refine lv_aload_n hx hb dL_law_85 rfl (lv_at hl 6 rfl) ?_
        refine lv_iload hx hb dL_law_86 (lv_at hl 1 rfl) ?_
        refine lv_iconst (v := 2) hx hb dL_law_88 (by decide) ?_
        refine lv_iload hx hb dL_law_89 (lv_at hl 0 rfl) ?_
        refine lv_imul hx hb dL_law_91 ?_
        refine lv_ishr hx hb dL_law_92 ?_
        refine lv_iconst (v := 5) hx hb dL_law_93 (by decide) ?_
        refine lv_iload hx hb dL_law_94 (lv_at hl 0 rfl) ?_
        refine lv_imul hx hb dL_law_96 ?_
        refine lv_iadd hx hb dL_law_97 ?_
        refine fk_i (fcS X hw (c_act l g ad M hLW (by rw [hc.1]; exact hH) ((xx >>> ((2 * (nI k)) &&& 31)) + (5 * (nI k)))) wq821 kSL_act ⟨(Nat.le_of_ble_eq_true rfl), (Nat.le_of_ble_eq_true rfl)⟩ rfl hl.1 rfl (Nat.le_of_ble_eq_true rfl) dL_law_98 ⟨(by first | (show _ ≤ 792864; omega) | (show _ ≤ 6723031; omega)), (by first | (show _ ≤ 792864; omega) | (show _ ≤ 6723031; omega))⟩) hw (fun r ad1 M1 H locs hp hw => ?_)
        obtain ⟨er, ⟨T2, hLW2, c2⟩, hr2, h02, h302⟩ := hp
        rw [er]
        refine lv_if_ne (tgt := 106) hx hb dL_law_101 (by decide) (fun c_2 => ?_) (fun c_2 => absurd c_2 (by decide))
        refine lv_iinc (v := nI (k + 1)) (lv' := [(8, .int (nI (k + 1))), (7, .int xx), (6, .int (nI t)), (5, .int (nI (tPn T))), (4, .int (nI (tEn T))), (3, .int (nI (tHn T))), (2, .ref (ad 3000)), (1, .ref (ad 0)), (0, .ref (gXb g))]) hx hb dL_law_106 hl (k := 0) rfl (nI_1 k) (by decide) rfl (fun ls hl => ?_)
        refine lv_goto (tgt := 78) hx hb dL_law_109 (by decide) ?_
        rw [← h02, ← h302] at hl
        refine W.widen (k := cells + 142 * (k + 1)) (n := slots + 840 * (k + 1)) (by omega) (by omega) ?_
        exact ih (k + 1) (by omega) (by omega) ad1 M1 T2 hLW2 ⟨c2.1.trans hc.1, c2.2.1.trans hc.2.1, c2.2.2.1.trans hc.2.2.1, c2.2.2.2.trans hc.2.2.2⟩ ls _ _ hw (lv_sub hl [0, 1, 2, 3, 4, 5, 6, 7, 8] rfl)
  refine W.widen (k := cells + 142 * 0) (n := slots + 840 * 0) (by omega) (by omega) ?_
  exact loop78 3 0 (by omega) (by omega) ad M T hLW cntT_rf ls _ _ hw (lv_sub hl [0, 1, 2, 3, 4, 5, 6, 7, 8] rfl)
set_option maxHeartbeats 4000000 in
set_option maxRecDepth 100000 in
theorem lw_rech_loop {p : Program} {l : Launch} {e : Env} {s : State} {m : MethodId} {args : Array Value} {below : List Frame} {meth : Method} {c : Code} {H : Heap} {locs : List Loc} {cells slots : Nat} {Q : State → Prop} {g : fG} {ad : Nat → Nat} {M : fM} {ls : Array Slot} {T : fTn} {t : Nat} (X : fX p s m args meth c code 25 ret RL g) (hw : fw g ad M s H locs) (hl : lv_has ls 25 [(8, .ref (ad 3421)), (6, .int (nI t)), (5, .int (nI (tPn T))), (4, .int (nI (tEn T))), (3, .int (nI (tHn T))), (2, .ref (ad 3000)), (1, .ref (ad 0)), (0, .ref (gXb g))]) (hcap : cells + 0 ≤ 792864 ∧ slots + 0 ≤ 6723031) {A : fTn} {kf nf sf : Nat → Int32} {fo : Nat → Option Nat} (hC : isC g ad M T A kf nf sf) (hmx : tHn T ≤ 30) (hO : M 3421 = some (.inl (gQ g, tHn T, .inr (.inr (.inr (.inr fo)))))) (hf : ∀ i, i < tHn T → fo i = some (ad (3450 + i))) (hR0 : ∀ i, i < tHn T → M (3450 + i) = some (.inl (gI g, 7, .inl (fun _ => 0))))
    (K : ∀ (M1 : fM) (r : Nat → Nat → Int32) (ls1 : Array Slot) (H1 : Heap) (locs1 : List Loc), (∀ l, ¬ (3450 ≤ l ∧ l < 3480) → M1 l = M l) → (∀ i, i < tHn T → M1 (3450 + i) = some (.inl (gI g, 7, .inl (r i)))) → (∀ i, i < tHn T → ∀ j, j < 7 → r i j = hTell (tH T i) (nI j)) → fw g ad M1 s H1 locs1 → lv_has ls1 25 [(8, .ref (ad 3421)), (6, .int (nI t)), (5, .int (nI (tPn T))), (4, .int (nI (tEn T))), (3, .int (nI (tHn T))), (2, .ref (ad 3000)), (1, .ref (ad 0)), (0, .ref (gXb g))] → W p l e room_1 s m args below meth c H1 locs1 cells slots Q (F0 m 168 ls1 [])) : W p l e room_1 s m args below meth c H locs cells slots Q (F0 m 121 ls []) := by
  have hx := X.1
  have hb := X.2.1
  refine lv_iconst (v := 0) hx hb dL_law_121 (by decide) ?_
  refine lv_istore (lv' := [(9, .int 0), (8, .ref (ad 3421)), (6, .int (nI t)), (5, .int (nI (tPn T))), (4, .int (nI (tEn T))), (3, .int (nI (tHn T))), (2, .ref (ad 3000)), (1, .ref (ad 0)), (0, .ref (gXb g))]) hx hb dL_law_122 hl (by decide) rfl (fun ls hl => ?_)
  have loop124 : ∀ (n k : Nat), k ≤ tHn T → tHn T < k + n → ∀ (M8 : fM) (r : Nat → Nat → Int32) (hRr : ∀ i, i < tHn T → M8 (3450 + i) = some (.inl (gI g, 7, .inl (r i)))) (hV : ∀ i, i < k → ∀ j, j < 7 → r i j = hTell (tH T i) (nI j)) (hR8 : ∀ l, ¬ (3450 ≤ l ∧ l < 3480) → M8 l = M l) (ls : Array Slot) (H : Heap) (locs : List Loc), fw g ad M8 s H locs → lv_has ls 25 [(9, .int (nI k)), (8, .ref (ad 3421)), (6, .int (nI t)), (5, .int (nI (tPn T))), (4, .int (nI (tEn T))), (3, .int (nI (tHn T))), (2, .ref (ad 3000)), (1, .ref (ad 0)), (0, .ref (gXb g))] → W p l e (room_1) s m args below meth c H locs cells slots (Q) (F0 m 124 ls []) := by
    intro n
    induction n with
    | zero => intro k h1 h2; omega
    | succ n ih =>
      intro k hk_ hn_ M8 r hRr hV hR8 ls H locs hw hl
      have hC8 : isC g ad M8 T A kf nf sf := isC_eq hC (fun l h => ⟨rfl, hR8 l (by omega)⟩)
      have hF : M8 0 = some (.inr (6, [.ref (ad 1), .ref (ad 1000), .ref (ad 2000)])) := hC8.1
      have hO8 : M8 3421 = some (.inl (gQ g, tHn T, .inr (.inr (.inr (.inr fo))))) := (hR8 3421 (by omega)).trans hO
      refine lv_iload hx hb dL_law_124 (lv_at hl 0 rfl) ?_
      refine lv_iload_n hx hb dL_law_126 rfl (lv_at hl 5 rfl) ?_
      refine lv_icmp_ge (tgt := 168) hx hb dL_law_127 (by decide) (fun c_1 => ?_) (fun c_1 => ?_)
      · have c_1 := nI_le' (a := (tHn T)) (b := k) c_1 (by omega) (by omega)
        have ek : k = tHn T := by omega
        rw [ek] at hV
        exact K M8 r ls _ _ hR8 hRr hV hw (lv_sub hl [1, 2, 3, 4, 5, 6, 7, 8] rfl)
      · have c_1 := nI_nle' (a := (tHn T)) (b := k) c_1 (by omega) (by omega)
        refine lv_iconst (v := 0) hx hb dL_law_130 (by decide) ?_
        refine lv_istore (lv' := [(10, .int 0), (9, .int (nI k)), (8, .ref (ad 3421)), (6, .int (nI t)), (5, .int (nI (tPn T))), (4, .int (nI (tEn T))), (3, .int (nI (tHn T))), (2, .ref (ad 3000)), (1, .ref (ad 0)), (0, .ref (gXb g))]) hx hb dL_law_131 hl (by decide) rfl (fun ls hl => ?_)
        have loop133 : ∀ (n w : Nat), w ≤ 7 → 7 < w + n → ∀ (M8 : fM) (r : Nat → Nat → Int32) (hRr : ∀ i, i < tHn T → M8 (3450 + i) = some (.inl (gI g, 7, .inl (r i)))) (hV : ∀ i, i < k → ∀ j, j < 7 → r i j = hTell (tH T i) (nI j)) (hR8 : ∀ l, ¬ (3450 ≤ l ∧ l < 3480) → M8 l = M l) (hv : ∀ j, j < w → r k j = hTell (tH T k) (nI j)) (ls : Array Slot) (H : Heap) (locs : List Loc), fw g ad M8 s H locs → lv_has ls 25 [(10, .int (nI w)), (9, .int (nI k)), (8, .ref (ad 3421)), (6, .int (nI t)), (5, .int (nI (tPn T))), (4, .int (nI (tEn T))), (3, .int (nI (tHn T))), (2, .ref (ad 3000)), (1, .ref (ad 0)), (0, .ref (gXb g))] → W p l e (room_1) s m args below meth c H locs cells slots (Q) (F0 m 133 ls []) := by
          intro n2
          induction n2 with
          | zero => intro w h1 h2; omega
          | succ n2 ih2 =>
            intro w hw_ hn2_ M8 r hRr hV hR8 hv ls H locs hw hl
            have hC8 : isC g ad M8 T A kf nf sf := isC_eq hC (fun l h => ⟨rfl, hR8 l (by omega)⟩)
            have hF : M8 0 = some (.inr (6, [.ref (ad 1), .ref (ad 1000), .ref (ad 2000)])) := hC8.1
            have hO8 : M8 3421 = some (.inl (gQ g, tHn T, .inr (.inr (.inr (.inr fo))))) := (hR8 3421 (by omega)).trans hO
            refine lv_iload hx hb dL_law_133 (lv_at hl 0 rfl) ?_
            refine lv_bipush (v := 7) hx hb dL_law_135 (by decide) ?_
            refine lv_icmp_ge (tgt := 162) hx hb dL_law_137 (by decide) (fun c_2 => ?_) (fun c_2 => ?_)
            · have c_2 := nI_le' (a := 7) (b := w) c_2 (by omega) (by omega)
              refine lv_iinc (v := nI (k + 1)) (lv' := [(9, .int (nI (k + 1))), (10, .int (nI w)), (8, .ref (ad 3421)), (6, .int (nI t)), (5, .int (nI (tPn T))), (4, .int (nI (tEn T))), (3, .int (nI (tHn T))), (2, .ref (ad 3000)), (1, .ref (ad 0)), (0, .ref (gXb g))]) hx hb dL_law_162 hl (k := 1) rfl (nI_1 k) (by decide) rfl (fun ls hl => ?_)
              refine lv_goto (tgt := 124) hx hb dL_law_165 (by decide) ?_
              have ew : w = 7 := by omega
              rw [ew] at hv
              exact ih (k + 1) (by omega) (by omega) M8 r hRr (fun i hi => (Nat.lt_or_eq_of_le (Nat.le_of_lt_succ hi)).elim (fun z => hV i z) (fun z => by rw [z]; exact hv)) hR8 ls _ _ hw (lv_sub hl [0, 2, 3, 4, 5, 6, 7, 8, 9] rfl)
            · have c_2 := nI_nle' (a := 7) (b := w) c_2 (by omega) (by omega)
              refine lv_aload hx hb dL_law_140 (lv_at hl 2 rfl) ?_
              refine lv_iload hx hb dL_law_142 (lv_at hl 1 rfl) ?_
              refine f_aaldQ X hw hO8 (vp_in_nI (n := k) (by omega) (by omega)) (q := ad (3450 + k)) (by rw [nI_clamp (by omega)]; exact hf k (by omega)) dL_law_144 ?_
              refine lv_iload hx hb dL_law_145 (lv_at hl 0 rfl) ?_
              refine lv_aload_n hx hb dL_law_147 rfl (lv_at hl 8 rfl) ?_
              refine lv_iload hx hb dL_law_148 (lv_at hl 1 rfl) ?_
              refine lv_iload hx hb dL_law_150 (lv_at hl 0 rfl) ?_
              refine fk_di (fcV X hw (c_X5_house l g ad M8 hC8 (show k < tHn T by omega) (inR_n (n := w) (a := 0) (b := 6) (by omega) (by omega) (by omega))) hF rfl wq108 kVX5_house ⟨(Nat.le_of_ble_eq_true rfl), (Nat.le_of_ble_eq_true rfl)⟩ rfl hl.1 rfl (Nat.le_of_ble_eq_true rfl) dL_law_152 ⟨(by first | (show _ ≤ 792864; omega) | (show _ ≤ 6723031; omega)), (by first | (show _ ≤ 792864; omega) | (show _ ≤ 6723031; omega))⟩) hw (fun H locs hw => ?_)
              refine f_iast X hw (hRr k (by omega)) (vp_in_nI (n := w) (by omega) (by omega)) dL_law_155 (fun H locs hw => ?_)
              rw [nI_clamp (n := w) (by omega)] at hw
              have hw : fw g ad (fU M8 (3450 + k) (.inl (gI g, 7, .inl (upd (r k) w (hTell (tH T k) (nI w)))))) s H locs := hw
              have hF : (fU M8 (3450 + k) (.inl (gI g, 7, .inl (upd (r k) w (hTell (tH T k) (nI w)))))) 0 = some (.inr (6, [.ref (ad 1), .ref (ad 1000), .ref (ad 2000)])) := (fU_n (by omega)).trans hF
              have hO8 : (fU M8 (3450 + k) (.inl (gI g, 7, .inl (upd (r k) w (hTell (tH T k) (nI w)))))) 3421 = some (.inl (gQ g, tHn T, .inr (.inr (.inr (.inr fo))))) := (fU_n (by omega)).trans hO8
              have hM_3450___k : (fU M8 (3450 + k) (.inl (gI g, 7, .inl (upd (r k) w (hTell (tH T k) (nI w)))))) (3450 + k) = some (.inl (gI g, 7, .inl (upd (r k) w (hTell (tH T k) (nI w))))) := fU_s
              refine lv_iinc (v := nI (w + 1)) (lv' := [(10, .int (nI (w + 1))), (9, .int (nI k)), (8, .ref (ad 3421)), (6, .int (nI t)), (5, .int (nI (tPn T))), (4, .int (nI (tEn T))), (3, .int (nI (tHn T))), (2, .ref (ad 3000)), (1, .ref (ad 0)), (0, .ref (gXb g))]) hx hb dL_law_156 hl (k := 0) rfl (nI_1 w) (by decide) rfl (fun ls hl => ?_)
              refine lv_goto (tgt := 133) hx hb dL_law_159 (by decide) ?_
              exact ih2 (w + 1) (by omega) (by omega) _ (updR r k w (hTell (tH T k) (nI w))) (updR_M hRr) (fun i hi => by rw [updR_ne (by omega)]; exact hV i hi) (fun l h => (fU_n (by omega)).trans (hR8 l h)) (fun j hj => by rw [updR_k]; exact (Nat.lt_or_eq_of_le (Nat.le_of_lt_succ hj)).elim (fun z => by rw [upd_ne (by omega)]; exact hv j z) (fun z => by rw [z, upd_at])) ls _ _ hw (lv_sub hl [0, 1, 2, 3, 4, 5, 6, 7, 8, 9] rfl)
        exact loop133 8 0 (by omega) (by omega) M8 r hRr hV hR8 (fun j h => absurd h (Nat.not_lt_zero _)) ls _ _ hw (lv_sub hl [0, 1, 2, 3, 4, 5, 6, 7, 8, 9] rfl)
  exact loop124 (tHn T + 1) 0 (by omega) (by omega) M (fun _ _ => 0) hR0 (fun i h => absurd h (Nat.not_lt_zero _)) (fun _ _ => rfl) ls _ _ hw (lv_sub hl [0, 1, 2, 3, 4, 5, 6, 7, 8] rfl)
set_option maxHeartbeats 4000000 in
set_option maxRecDepth 100000 in
theorem lw_rech {p : Program} {l : Launch} {e : Env} {s : State} {m : MethodId} {args : Array Value} {below : List Frame} {meth : Method} {c : Code} {H : Heap} {locs : List Loc} {cells slots : Nat} {Q : State → Prop} {g : fG} {ad : Nat → Nat} {M : fM} {ls : Array Slot} {T : fTn} {t : Nat} (X : fX p s m args meth c code 25 ret RL g) (hw : fw g ad M s H locs) (hl : lv_has ls 25 [(6, .int (nI t)), (5, .int (nI (tPn T))), (4, .int (nI (tEn T))), (3, .int (nI (tHn T))), (2, .ref (ad 3000)), (1, .ref (ad 0)), (0, .ref (gXb g))]) (hcap : cells + 31 ≤ 792864 ∧ slots + 240 ≤ 6723031) {A : fTn} {kf nf sf : Nat → Int32} (hC : isC g ad M T A kf nf sf) (hmx : tHn T ≤ 30)
    (K : ∀ (ad1 : Nat → Nat) (M1 : fM) (H1 : Heap) (locs1 : List Loc) (ls1 : Array Slot), (∀ l, l ≠ 3421 → ¬ (3450 ≤ l ∧ l < 3480) → ad1 l = ad l ∧ M1 l = M l) → isRh g ad1 M1 T → fw g ad1 M1 s H1 locs1 → lv_has ls1 25 [(8, .ref (ad1 3421)), (6, .int (nI t)), (5, .int (nI (tPn T))), (4, .int (nI (tEn T))), (3, .int (nI (tHn T))), (2, .ref (ad1 3000)), (1, .ref (ad1 0)), (0, .ref (gXb g))] → W p l e room_1 s m args below meth c H1 locs1 (cells + 31) (slots + 240) Q (F0 m 168 ls1 [])) : W p l e room_1 s m args below meth c H locs cells slots Q (F0 m 112 ls []) := by
  have hx := X.1
  have hb := X.2.1
  have mul : tHn T * 7 ≤ 210 := by omega
  refine lv_iload_n hx hb dL_law_112 rfl (lv_at hl 3 rfl) ?_
  refine lv_bipush (v := 7) hx hb dL_law_113 (by decide) ?_
  refine f_mna X hw 3421 3450 (by omega) (by omega) wq887 wq49 (n := nI (tHn T)) (k := 7) (N' := tHn T) (K' := 7) (nI_pos (by omega)) (by decide) (nI_clamp (by omega)) (by rfl) (by omega) (by omega) (by first | (show _ ≤ 792864; omega) | (show _ ≤ 6723031; omega)) (by first | (show _ ≤ 792864; omega) | (show _ ≤ 6723031; omega)) dL_law_115 (fun q r H hw => ?_)
  obtain ⟨ad1, ea1⟩ : ∃ z, z = mAd ad 3421 3450 (tHn T) q r := ⟨_, rfl⟩
  obtain ⟨M1, em1⟩ : ∃ z, z = mMp g M 3421 3450 (tHn T) 7 r := ⟨_, rfl⟩
  rw [← ea1, ← em1] at hw
  have R1 : ∀ l, l ≠ 3421 → ¬ (3450 ≤ l ∧ l < 3480) → ad1 l = ad l ∧ M1 l = M l := fun l a b => by rw [ea1, em1]; exact mna_r a (by omega)
  have hO1 : M1 3421 = some (.inl (gQ g, tHn T, .inr (.inr (.inr (.inr (fun i => if i < tHn T then some (r i) else none)))))) := by rw [em1]; exact mMp_o
  have hI1 : ∀ i, i < tHn T → M1 (3450 + i) = some (.inl (gI g, 7, .inl (fun _ => 0))) := fun i hi => by rw [em1]; exact mMp_i (by omega) hi
  have aI1 : ∀ i, i < tHn T → ad1 (3450 + i) = r i := fun i hi => by rw [ea1]; exact mAd_i (by omega) hi
  refine f_adr (ad := ad1) (lb := 3421) (by rw [ea1]; exact mAd_o) ?_
  rw [← (R1 0 (by omega) (by omega)).1, ← (R1 3000 (by omega) (by omega)).1] at hl
  refine lv_astore (lv' := [(8, .ref (ad1 3421)), (6, .int (nI t)), (5, .int (nI (tPn T))), (4, .int (nI (tEn T))), (3, .int (nI (tHn T))), (2, .ref (ad1 3000)), (1, .ref (ad1 0)), (0, .ref (gXb g))]) hx hb dL_law_119 hl (by decide) rfl (fun ls hl => ?_)
  exact lw_rech_loop X hw (lv_sub hl [0, 1, 2, 3, 4, 5, 6, 7] rfl) ⟨by omega, by omega⟩ (isC_eq hC (fun l h => R1 l (by omega) (by omega))) hmx hO1 (fun i hi => by rw [aI1 i hi]; exact if_pos hi) hI1 (fun M2 r2 ls1 H1 locs1 a b c2 hw hl => W.widen (by omega) (by omega) (K ad1 M2 H1 locs1 ls1 (fun l x y => ⟨(R1 l x y).1, (a l y).trans (R1 l x y).2⟩) ⟨_, r2, (a 3421 (by omega)).trans hO1, (fun i hi => by rw [aI1 i hi]; exact if_pos hi), b, c2⟩ hw hl))
set_option maxHeartbeats 4000000 in
set_option maxRecDepth 100000 in
theorem lw_rece_loop {p : Program} {l : Launch} {e : Env} {s : State} {m : MethodId} {args : Array Value} {below : List Frame} {meth : Method} {c : Code} {H : Heap} {locs : List Loc} {cells slots : Nat} {Q : State → Prop} {g : fG} {ad : Nat → Nat} {M : fM} {ls : Array Slot} {T : fTn} {t : Nat} (X : fX p s m args meth c code 25 ret RL g) (hw : fw g ad M s H locs) (hl : lv_has ls 25 [(9, .ref (ad 3422)), (8, .ref (ad 3421)), (6, .int (nI t)), (5, .int (nI (tPn T))), (4, .int (nI (tEn T))), (3, .int (nI (tHn T))), (2, .ref (ad 3000)), (1, .ref (ad 0)), (0, .ref (gXb g))]) (hcap : cells + 0 ≤ 792864 ∧ slots + 0 ≤ 6723031) {A : fTn} {kf nf sf : Nat → Int32} {fo : Nat → Option Nat} (hC : isC g ad M T A kf nf sf) (hmx : tEn T ≤ 6) (hO : M 3422 = some (.inl (gQ g, tEn T, .inr (.inr (.inr (.inr fo)))))) (hf : ∀ i, i < tEn T → fo i = some (ad (3500 + i))) (hR0 : ∀ i, i < tEn T → M (3500 + i) = some (.inl (gI g, 10, .inl (fun _ => 0))))
    (K : ∀ (M1 : fM) (r : Nat → Nat → Int32) (ls1 : Array Slot) (H1 : Heap) (locs1 : List Loc), (∀ l, ¬ (3500 ≤ l ∧ l < 3506) → M1 l = M l) → (∀ i, i < tEn T → M1 (3500 + i) = some (.inl (gI g, 10, .inl (r i)))) → (∀ i, i < tEn T → ∀ j, j < 10 → r i j = eTell T (tE T i) (nI j)) → fw g ad M1 s H1 locs1 → lv_has ls1 25 [(9, .ref (ad 3422)), (8, .ref (ad 3421)), (6, .int (nI t)), (5, .int (nI (tPn T))), (4, .int (nI (tEn T))), (3, .int (nI (tHn T))), (2, .ref (ad 3000)), (1, .ref (ad 0)), (0, .ref (gXb g))] → W p l e room_1 s m args below meth c H1 locs1 cells slots Q (F0 m 226 ls1 [])) : W p l e room_1 s m args below meth c H locs cells slots Q (F0 m 178 ls []) := by
  have hx := X.1
  have hb := X.2.1
  refine lv_iconst (v := 0) hx hb dL_law_178 (by decide) ?_
  refine lv_istore (lv' := [(10, .int 0), (9, .ref (ad 3422)), (8, .ref (ad 3421)), (6, .int (nI t)), (5, .int (nI (tPn T))), (4, .int (nI (tEn T))), (3, .int (nI (tHn T))), (2, .ref (ad 3000)), (1, .ref (ad 0)), (0, .ref (gXb g))]) hx hb dL_law_179 hl (by decide) rfl (fun ls hl => ?_)
  have loop181 : ∀ (n k : Nat), k ≤ tEn T → tEn T < k + n → ∀ (M8 : fM) (r : Nat → Nat → Int32) (hRr : ∀ i, i < tEn T → M8 (3500 + i) = some (.inl (gI g, 10, .inl (r i)))) (hV : ∀ i, i < k → ∀ j, j < 10 → r i j = eTell T (tE T i) (nI j)) (hR8 : ∀ l, ¬ (3500 ≤ l ∧ l < 3506) → M8 l = M l) (ls : Array Slot) (H : Heap) (locs : List Loc), fw g ad M8 s H locs → lv_has ls 25 [(10, .int (nI k)), (9, .ref (ad 3422)), (8, .ref (ad 3421)), (6, .int (nI t)), (5, .int (nI (tPn T))), (4, .int (nI (tEn T))), (3, .int (nI (tHn T))), (2, .ref (ad 3000)), (1, .ref (ad 0)), (0, .ref (gXb g))] → W p l e (room_1) s m args below meth c H locs cells slots (Q) (F0 m 181 ls []) := by
    intro n
    induction n with
    | zero => intro k h1 h2; omega
    | succ n ih =>
      intro k hk_ hn_ M8 r hRr hV hR8 ls H locs hw hl
      have hC8 : isC g ad M8 T A kf nf sf := isC_eq hC (fun l h => ⟨rfl, hR8 l (by omega)⟩)
      have hF : M8 0 = some (.inr (6, [.ref (ad 1), .ref (ad 1000), .ref (ad 2000)])) := hC8.1
      have hO8 : M8 3422 = some (.inl (gQ g, tEn T, .inr (.inr (.inr (.inr fo))))) := (hR8 3422 (by omega)).trans hO
      refine lv_iload hx hb dL_law_181 (lv_at hl 0 rfl) ?_
      refine lv_iload hx hb dL_law_183 (lv_at hl 5 rfl) ?_
      refine lv_icmp_ge (tgt := 226) hx hb dL_law_185 (by decide) (fun c_1 => ?_) (fun c_1 => ?_)
      · have c_1 := nI_le' (a := (tEn T)) (b := k) c_1 (by omega) (by omega)
        have ek : k = tEn T := by omega
        rw [ek] at hV
        exact K M8 r ls _ _ hR8 hRr hV hw (lv_sub hl [1, 2, 3, 4, 5, 6, 7, 8, 9] rfl)
      · have c_1 := nI_nle' (a := (tEn T)) (b := k) c_1 (by omega) (by omega)
        refine lv_iconst (v := 0) hx hb dL_law_188 (by decide) ?_
        refine lv_istore (lv' := [(11, .int 0), (10, .int (nI k)), (9, .ref (ad 3422)), (8, .ref (ad 3421)), (6, .int (nI t)), (5, .int (nI (tPn T))), (4, .int (nI (tEn T))), (3, .int (nI (tHn T))), (2, .ref (ad 3000)), (1, .ref (ad 0)), (0, .ref (gXb g))]) hx hb dL_law_189 hl (by decide) rfl (fun ls hl => ?_)
        have loop191 : ∀ (n w : Nat), w ≤ 10 → 10 < w + n → ∀ (M8 : fM) (r : Nat → Nat → Int32) (hRr : ∀ i, i < tEn T → M8 (3500 + i) = some (.inl (gI g, 10, .inl (r i)))) (hV : ∀ i, i < k → ∀ j, j < 10 → r i j = eTell T (tE T i) (nI j)) (hR8 : ∀ l, ¬ (3500 ≤ l ∧ l < 3506) → M8 l = M l) (hv : ∀ j, j < w → r k j = eTell T (tE T k) (nI j)) (ls : Array Slot) (H : Heap) (locs : List Loc), fw g ad M8 s H locs → lv_has ls 25 [(11, .int (nI w)), (10, .int (nI k)), (9, .ref (ad 3422)), (8, .ref (ad 3421)), (6, .int (nI t)), (5, .int (nI (tPn T))), (4, .int (nI (tEn T))), (3, .int (nI (tHn T))), (2, .ref (ad 3000)), (1, .ref (ad 0)), (0, .ref (gXb g))] → W p l e (room_1) s m args below meth c H locs cells slots (Q) (F0 m 191 ls []) := by
          intro n2
          induction n2 with
          | zero => intro w h1 h2; omega
          | succ n2 ih2 =>
            intro w hw_ hn2_ M8 r hRr hV hR8 hv ls H locs hw hl
            have hC8 : isC g ad M8 T A kf nf sf := isC_eq hC (fun l h => ⟨rfl, hR8 l (by omega)⟩)
            have hF : M8 0 = some (.inr (6, [.ref (ad 1), .ref (ad 1000), .ref (ad 2000)])) := hC8.1
            have hO8 : M8 3422 = some (.inl (gQ g, tEn T, .inr (.inr (.inr (.inr fo))))) := (hR8 3422 (by omega)).trans hO
            refine lv_iload hx hb dL_law_191 (lv_at hl 0 rfl) ?_
            refine lv_bipush (v := 10) hx hb dL_law_193 (by decide) ?_
            refine lv_icmp_ge (tgt := 220) hx hb dL_law_195 (by decide) (fun c_2 => ?_) (fun c_2 => ?_)
            · have c_2 := nI_le' (a := 10) (b := w) c_2 (by omega) (by omega)
              refine lv_iinc (v := nI (k + 1)) (lv' := [(10, .int (nI (k + 1))), (11, .int (nI w)), (9, .ref (ad 3422)), (8, .ref (ad 3421)), (6, .int (nI t)), (5, .int (nI (tPn T))), (4, .int (nI (tEn T))), (3, .int (nI (tHn T))), (2, .ref (ad 3000)), (1, .ref (ad 0)), (0, .ref (gXb g))]) hx hb dL_law_220 hl (k := 1) rfl (nI_1 k) (by decide) rfl (fun ls hl => ?_)
              refine lv_goto (tgt := 181) hx hb dL_law_223 (by decide) ?_
              have ew : w = 10 := by omega
              rw [ew] at hv
              exact ih (k + 1) (by omega) (by omega) M8 r hRr (fun i hi => (Nat.lt_or_eq_of_le (Nat.le_of_lt_succ hi)).elim (fun z => hV i z) (fun z => by rw [z]; exact hv)) hR8 ls _ _ hw (lv_sub hl [0, 2, 3, 4, 5, 6, 7, 8, 9, 10] rfl)
            · have c_2 := nI_nle' (a := 10) (b := w) c_2 (by omega) (by omega)
              refine lv_aload hx hb dL_law_198 (lv_at hl 2 rfl) ?_
              refine lv_iload hx hb dL_law_200 (lv_at hl 1 rfl) ?_
              refine f_aaldQ X hw hO8 (vp_in_nI (n := k) (by omega) (by omega)) (q := ad (3500 + k)) (by rw [nI_clamp (by omega)]; exact hf k (by omega)) dL_law_202 ?_
              refine lv_iload hx hb dL_law_203 (lv_at hl 0 rfl) ?_
              refine lv_aload_n hx hb dL_law_205 rfl (lv_at hl 9 rfl) ?_
              refine lv_iload hx hb dL_law_206 (lv_at hl 1 rfl) ?_
              refine lv_iload hx hb dL_law_208 (lv_at hl 0 rfl) ?_
              refine fk_di (fcV X hw (c_X5_engine l g ad M8 hC8 (show k < tEn T by omega) (inR_n (n := w) (a := 0) (b := 9) (by omega) (by omega) (by omega))) hF rfl wq211 kVX5_engine ⟨(Nat.le_of_ble_eq_true rfl), (Nat.le_of_ble_eq_true rfl)⟩ rfl hl.1 rfl (Nat.le_of_ble_eq_true rfl) dL_law_210 ⟨(by first | (show _ ≤ 792864; omega) | (show _ ≤ 6723031; omega)), (by first | (show _ ≤ 792864; omega) | (show _ ≤ 6723031; omega))⟩) hw (fun H locs hw => ?_)
              refine f_iast X hw (hRr k (by omega)) (vp_in_nI (n := w) (by omega) (by omega)) dL_law_213 (fun H locs hw => ?_)
              rw [nI_clamp (n := w) (by omega)] at hw
              have hw : fw g ad (fU M8 (3500 + k) (.inl (gI g, 10, .inl (upd (r k) w (eTell T (tE T k) (nI w)))))) s H locs := hw
              have hF : (fU M8 (3500 + k) (.inl (gI g, 10, .inl (upd (r k) w (eTell T (tE T k) (nI w)))))) 0 = some (.inr (6, [.ref (ad 1), .ref (ad 1000), .ref (ad 2000)])) := (fU_n (by omega)).trans hF
              have hO8 : (fU M8 (3500 + k) (.inl (gI g, 10, .inl (upd (r k) w (eTell T (tE T k) (nI w)))))) 3422 = some (.inl (gQ g, tEn T, .inr (.inr (.inr (.inr fo))))) := (fU_n (by omega)).trans hO8
              have hM_3500___k : (fU M8 (3500 + k) (.inl (gI g, 10, .inl (upd (r k) w (eTell T (tE T k) (nI w)))))) (3500 + k) = some (.inl (gI g, 10, .inl (upd (r k) w (eTell T (tE T k) (nI w))))) := fU_s
              refine lv_iinc (v := nI (w + 1)) (lv' := [(11, .int (nI (w + 1))), (10, .int (nI k)), (9, .ref (ad 3422)), (8, .ref (ad 3421)), (6, .int (nI t)), (5, .int (nI (tPn T))), (4, .int (nI (tEn T))), (3, .int (nI (tHn T))), (2, .ref (ad 3000)), (1, .ref (ad 0)), (0, .ref (gXb g))]) hx hb dL_law_214 hl (k := 0) rfl (nI_1 w) (by decide) rfl (fun ls hl => ?_)
              refine lv_goto (tgt := 191) hx hb dL_law_217 (by decide) ?_
              exact ih2 (w + 1) (by omega) (by omega) _ (updR r k w (eTell T (tE T k) (nI w))) (updR_M hRr) (fun i hi => by rw [updR_ne (by omega)]; exact hV i hi) (fun l h => (fU_n (by omega)).trans (hR8 l h)) (fun j hj => by rw [updR_k]; exact (Nat.lt_or_eq_of_le (Nat.le_of_lt_succ hj)).elim (fun z => by rw [upd_ne (by omega)]; exact hv j z) (fun z => by rw [z, upd_at])) ls _ _ hw (lv_sub hl [0, 1, 2, 3, 4, 5, 6, 7, 8, 9, 10] rfl)
        exact loop191 11 0 (by omega) (by omega) M8 r hRr hV hR8 (fun j h => absurd h (Nat.not_lt_zero _)) ls _ _ hw (lv_sub hl [0, 1, 2, 3, 4, 5, 6, 7, 8, 9, 10] rfl)
  exact loop181 (tEn T + 1) 0 (by omega) (by omega) M (fun _ _ => 0) hR0 (fun i h => absurd h (Nat.not_lt_zero _)) (fun _ _ => rfl) ls _ _ hw (lv_sub hl [0, 1, 2, 3, 4, 5, 6, 7, 8, 9] rfl)
set_option maxHeartbeats 4000000 in
set_option maxRecDepth 100000 in
theorem lw_rece {p : Program} {l : Launch} {e : Env} {s : State} {m : MethodId} {args : Array Value} {below : List Frame} {meth : Method} {c : Code} {H : Heap} {locs : List Loc} {cells slots : Nat} {Q : State → Prop} {g : fG} {ad : Nat → Nat} {M : fM} {ls : Array Slot} {T : fTn} {t : Nat} (X : fX p s m args meth c code 25 ret RL g) (hw : fw g ad M s H locs) (hl : lv_has ls 25 [(8, .ref (ad 3421)), (6, .int (nI t)), (5, .int (nI (tPn T))), (4, .int (nI (tEn T))), (3, .int (nI (tHn T))), (2, .ref (ad 3000)), (1, .ref (ad 0)), (0, .ref (gXb g))]) (hcap : cells + 7 ≤ 792864 ∧ slots + 66 ≤ 6723031) {A : fTn} {kf nf sf : Nat → Int32} (hC : isC g ad M T A kf nf sf) (hmx : tEn T ≤ 6)
    (K : ∀ (ad1 : Nat → Nat) (M1 : fM) (H1 : Heap) (locs1 : List Loc) (ls1 : Array Slot), (∀ l, l ≠ 3422 → ¬ (3500 ≤ l ∧ l < 3506) → ad1 l = ad l ∧ M1 l = M l) → isRe g ad1 M1 T → fw g ad1 M1 s H1 locs1 → lv_has ls1 25 [(9, .ref (ad1 3422)), (8, .ref (ad1 3421)), (6, .int (nI t)), (5, .int (nI (tPn T))), (4, .int (nI (tEn T))), (3, .int (nI (tHn T))), (2, .ref (ad1 3000)), (1, .ref (ad1 0)), (0, .ref (gXb g))] → W p l e room_1 s m args below meth c H1 locs1 (cells + 7) (slots + 66) Q (F0 m 226 ls1 [])) : W p l e room_1 s m args below meth c H locs cells slots Q (F0 m 168 ls []) := by
  have hx := X.1
  have hb := X.2.1
  have mul : tEn T * 10 ≤ 60 := by omega
  refine lv_iload hx hb dL_law_168 (lv_at hl 3 rfl) ?_
  refine lv_bipush (v := 10) hx hb dL_law_170 (by decide) ?_
  refine f_mna X hw 3422 3500 (by omega) (by omega) wq887 wq49 (n := nI (tEn T)) (k := 10) (N' := tEn T) (K' := 10) (nI_pos (by omega)) (by decide) (nI_clamp (by omega)) (by rfl) (by omega) (by omega) (by first | (show _ ≤ 792864; omega) | (show _ ≤ 6723031; omega)) (by first | (show _ ≤ 792864; omega) | (show _ ≤ 6723031; omega)) dL_law_172 (fun q r H hw => ?_)
  obtain ⟨ad1, ea1⟩ : ∃ z, z = mAd ad 3422 3500 (tEn T) q r := ⟨_, rfl⟩
  obtain ⟨M1, em1⟩ : ∃ z, z = mMp g M 3422 3500 (tEn T) 10 r := ⟨_, rfl⟩
  rw [← ea1, ← em1] at hw
  have R1 : ∀ l, l ≠ 3422 → ¬ (3500 ≤ l ∧ l < 3506) → ad1 l = ad l ∧ M1 l = M l := fun l a b => by rw [ea1, em1]; exact mna_r a (by omega)
  have hO1 : M1 3422 = some (.inl (gQ g, tEn T, .inr (.inr (.inr (.inr (fun i => if i < tEn T then some (r i) else none)))))) := by rw [em1]; exact mMp_o
  have hI1 : ∀ i, i < tEn T → M1 (3500 + i) = some (.inl (gI g, 10, .inl (fun _ => 0))) := fun i hi => by rw [em1]; exact mMp_i (by omega) hi
  have aI1 : ∀ i, i < tEn T → ad1 (3500 + i) = r i := fun i hi => by rw [ea1]; exact mAd_i (by omega) hi
  refine f_adr (ad := ad1) (lb := 3422) (by rw [ea1]; exact mAd_o) ?_
  rw [← (R1 0 (by omega) (by omega)).1, ← (R1 3000 (by omega) (by omega)).1, ← (R1 3421 (by omega) (by omega)).1] at hl
  refine lv_astore (lv' := [(9, .ref (ad1 3422)), (8, .ref (ad1 3421)), (6, .int (nI t)), (5, .int (nI (tPn T))), (4, .int (nI (tEn T))), (3, .int (nI (tHn T))), (2, .ref (ad1 3000)), (1, .ref (ad1 0)), (0, .ref (gXb g))]) hx hb dL_law_176 hl (by decide) rfl (fun ls hl => ?_)
  exact lw_rece_loop X hw (lv_sub hl [0, 1, 2, 3, 4, 5, 6, 7, 8] rfl) ⟨by omega, by omega⟩ (isC_eq hC (fun l h => R1 l (by omega) (by omega))) hmx hO1 (fun i hi => by rw [aI1 i hi]; exact if_pos hi) hI1 (fun M2 r2 ls1 H1 locs1 a b c2 hw hl => W.widen (by omega) (by omega) (K ad1 M2 H1 locs1 ls1 (fun l x y => ⟨(R1 l x y).1, (a l y).trans (R1 l x y).2⟩) ⟨_, r2, (a 3422 (by omega)).trans hO1, (fun i hi => by rw [aI1 i hi]; exact if_pos hi), b, c2⟩ hw hl))
set_option maxHeartbeats 4000000 in
set_option maxRecDepth 100000 in
theorem lw_recp_loop {p : Program} {l : Launch} {e : Env} {s : State} {m : MethodId} {args : Array Value} {below : List Frame} {meth : Method} {c : Code} {H : Heap} {locs : List Loc} {cells slots : Nat} {Q : State → Prop} {g : fG} {ad : Nat → Nat} {M : fM} {ls : Array Slot} {T : fTn} {t : Nat} (X : fX p s m args meth c code 25 ret RL g) (hw : fw g ad M s H locs) (hl : lv_has ls 25 [(10, .ref (ad 3423)), (9, .ref (ad 3422)), (8, .ref (ad 3421)), (6, .int (nI t)), (5, .int (nI (tPn T))), (4, .int (nI (tEn T))), (3, .int (nI (tHn T))), (2, .ref (ad 3000)), (1, .ref (ad 0)), (0, .ref (gXb g))]) (hcap : cells + 0 ≤ 792864 ∧ slots + 0 ≤ 6723031) {A : fTn} {kf nf sf : Nat → Int32} (hC : isC g ad M T A kf nf sf) (hmx : tPn T ≤ 6) (hA0 : M 3423 = some (.inl (gI g, tPn T, .inl (fun _ => 0))))
    (K : ∀ (M1 : fM) (f : Nat → Int32) (ls1 : Array Slot) (H1 : Heap) (locs1 : List Loc), (∀ l, l ≠ 3423 → M1 l = M l) → M1 3423 = some (.inl (gI g, tPn T, .inl f)) → (∀ i, i < tPn T → f i = tP T i 1) → fw g ad M1 s H1 locs1 → lv_has ls1 25 [(10, .ref (ad 3423)), (9, .ref (ad 3422)), (8, .ref (ad 3421)), (6, .int (nI t)), (5, .int (nI (tPn T))), (4, .int (nI (tEn T))), (3, .int (nI (tHn T))), (2, .ref (ad 3000)), (1, .ref (ad 0)), (0, .ref (gXb g))] → W p l e room_1 s m args below meth c H1 locs1 cells slots Q (F0 m 259 ls1 [])) : W p l e room_1 s m args below meth c H locs cells slots Q (F0 m 232 ls []) := by
  have hx := X.1
  have hb := X.2.1
  refine lv_iconst (v := 0) hx hb dL_law_232 (by decide) ?_
  refine lv_istore (lv' := [(11, .int 0), (10, .ref (ad 3423)), (9, .ref (ad 3422)), (8, .ref (ad 3421)), (6, .int (nI t)), (5, .int (nI (tPn T))), (4, .int (nI (tEn T))), (3, .int (nI (tHn T))), (2, .ref (ad 3000)), (1, .ref (ad 0)), (0, .ref (gXb g))]) hx hb dL_law_233 hl (by decide) rfl (fun ls hl => ?_)
  have loop235 : ∀ (n k : Nat), k ≤ tPn T → tPn T < k + n → ∀ (M8 : fM) (f : Nat → Int32) (hA : M8 3423 = some (.inl (gI g, tPn T, .inl f))) (hV : ∀ i, i < k → f i = tP T i 1) (hR8 : ∀ l, l ≠ 3423 → M8 l = M l) (ls : Array Slot) (H : Heap) (locs : List Loc), fw g ad M8 s H locs → lv_has ls 25 [(11, .int (nI k)), (10, .ref (ad 3423)), (9, .ref (ad 3422)), (8, .ref (ad 3421)), (6, .int (nI t)), (5, .int (nI (tPn T))), (4, .int (nI (tEn T))), (3, .int (nI (tHn T))), (2, .ref (ad 3000)), (1, .ref (ad 0)), (0, .ref (gXb g))] → W p l e (room_1) s m args below meth c H locs cells slots (Q) (F0 m 235 ls []) := by
    intro n
    induction n with
    | zero => intro k h1 h2; omega
    | succ n ih =>
      intro k hk_ hn_ M8 f hA hV hR8 ls H locs hw hl
      have hC8 : isC g ad M8 T A kf nf sf := isC_eq hC (fun l h => ⟨rfl, hR8 l (by omega)⟩)
      have hF : M8 0 = some (.inr (6, [.ref (ad 1), .ref (ad 1000), .ref (ad 2000)])) := hC8.1
      refine lv_iload hx hb dL_law_235 (lv_at hl 0 rfl) ?_
      refine lv_iload hx hb dL_law_237 (lv_at hl 5 rfl) ?_
      refine lv_icmp_ge (tgt := 259) hx hb dL_law_239 (by decide) (fun c_1 => ?_) (fun c_1 => ?_)
      · have c_1 := nI_le' (a := (tPn T)) (b := k) c_1 (by omega) (by omega)
        have ek : k = tPn T := by omega
        rw [ek] at hV
        exact K M8 f ls _ _ hR8 hA hV hw (lv_sub hl [1, 2, 3, 4, 5, 6, 7, 8, 9, 10] rfl)
      · have c_1 := nI_nle' (a := (tPn T)) (b := k) c_1 (by omega) (by omega)
        refine lv_aload hx hb dL_law_242 (lv_at hl 1 rfl) ?_
        refine lv_iload hx hb dL_law_244 (lv_at hl 0 rfl) ?_
        refine lv_aload_n hx hb dL_law_246 rfl (lv_at hl 9 rfl) ?_
        refine lv_iload hx hb dL_law_247 (lv_at hl 0 rfl) ?_
        refine fk_di (fcV X hw (c_X5_pond l g ad M8 hC8 (show k < tPn T by omega)) hF rfl wq244 kVX5_pond ⟨(Nat.le_of_ble_eq_true rfl), (Nat.le_of_ble_eq_true rfl)⟩ rfl hl.1 rfl (Nat.le_of_ble_eq_true rfl) dL_law_249 ⟨(by first | (show _ ≤ 792864; omega) | (show _ ≤ 6723031; omega)), (by first | (show _ ≤ 792864; omega) | (show _ ≤ 6723031; omega))⟩) hw (fun H locs hw => ?_)
        refine f_iast X hw hA (vp_in_nI (n := k) (by omega) (by omega)) dL_law_252 (fun H locs hw => ?_)
        rw [nI_clamp (n := k) (by omega)] at hw
        have hw : fw g ad (fU M8 3423 (.inl (gI g, tPn T, .inl (upd f k (tP T k 1))))) s H locs := hw
        have hF : (fU M8 3423 (.inl (gI g, tPn T, .inl (upd f k (tP T k 1))))) 0 = some (.inr (6, [.ref (ad 1), .ref (ad 1000), .ref (ad 2000)])) := (fU_n (by omega)).trans hF
        have hA : (fU M8 3423 (.inl (gI g, tPn T, .inl (upd f k (tP T k 1))))) 3423 = some (.inl (gI g, tPn T, .inl (upd f k (tP T k 1)))) := fU_s
        refine lv_iinc (v := nI (k + 1)) (lv' := [(11, .int (nI (k + 1))), (10, .ref (ad 3423)), (9, .ref (ad 3422)), (8, .ref (ad 3421)), (6, .int (nI t)), (5, .int (nI (tPn T))), (4, .int (nI (tEn T))), (3, .int (nI (tHn T))), (2, .ref (ad 3000)), (1, .ref (ad 0)), (0, .ref (gXb g))]) hx hb dL_law_253 hl (k := 0) rfl (nI_1 k) (by decide) rfl (fun ls hl => ?_)
        refine lv_goto (tgt := 235) hx hb dL_law_256 (by decide) ?_
        exact ih (k + 1) (by omega) (by omega) _ (upd f k (tP T k 1)) fU_s (fun i hi => (Nat.lt_or_eq_of_le (Nat.le_of_lt_succ hi)).elim (fun z => by rw [upd_ne (by omega)]; exact hV i z) (fun z => by rw [z, upd_at])) (fun l h => (fU_n h).trans (hR8 l h)) ls _ _ hw (lv_sub hl [0, 1, 2, 3, 4, 5, 6, 7, 8, 9, 10] rfl)
  exact loop235 (tPn T + 1) 0 (by omega) (by omega) M (fun _ => 0) hA0 (fun i h => absurd h (Nat.not_lt_zero _)) (fun _ _ => rfl) ls _ _ hw (lv_sub hl [0, 1, 2, 3, 4, 5, 6, 7, 8, 9, 10] rfl)
set_option maxHeartbeats 4000000 in
set_option maxRecDepth 100000 in
theorem lw_recp {p : Program} {l : Launch} {e : Env} {s : State} {m : MethodId} {args : Array Value} {below : List Frame} {meth : Method} {c : Code} {H : Heap} {locs : List Loc} {cells slots : Nat} {Q : State → Prop} {g : fG} {ad : Nat → Nat} {M : fM} {ls : Array Slot} {T : fTn} {t : Nat} (X : fX p s m args meth c code 25 ret RL g) (hw : fw g ad M s H locs) (hl : lv_has ls 25 [(9, .ref (ad 3422)), (8, .ref (ad 3421)), (6, .int (nI t)), (5, .int (nI (tPn T))), (4, .int (nI (tEn T))), (3, .int (nI (tHn T))), (2, .ref (ad 3000)), (1, .ref (ad 0)), (0, .ref (gXb g))]) (hcap : cells + 1 ≤ 792864 ∧ slots + 6 ≤ 6723031) {A : fTn} {kf nf sf : Nat → Int32} (hC : isC g ad M T A kf nf sf) (hmx : tPn T ≤ 6)
    (K : ∀ (ad1 : Nat → Nat) (M1 : fM) (H1 : Heap) (locs1 : List Loc) (ls1 : Array Slot), (∀ l, l ≠ 3423 → ad1 l = ad l ∧ M1 l = M l) → isRp g M1 T → fw g ad1 M1 s H1 locs1 → lv_has ls1 25 [(10, .ref (ad1 3423)), (9, .ref (ad1 3422)), (8, .ref (ad1 3421)), (6, .int (nI t)), (5, .int (nI (tPn T))), (4, .int (nI (tEn T))), (3, .int (nI (tHn T))), (2, .ref (ad1 3000)), (1, .ref (ad1 0)), (0, .ref (gXb g))] → W p l e room_1 s m args below meth c H1 locs1 (cells + 1) (slots + 6) Q (F0 m 259 ls1 [])) : W p l e room_1 s m args below meth c H locs cells slots Q (F0 m 226 ls []) := by
  have hx := X.1
  have hb := X.2.1
  refine lv_iload hx hb dL_law_226 (lv_at hl 3 rfl) ?_
  refine f_newI X hw 3423 (by omega) wq49 (n := nI (tPn T)) (N' := tPn T) (nI_pos (by omega)) (nI_clamp (by omega)) (by show tPn T * 4 ≤ 536870912; omega) (by first | (show _ ≤ 792864; omega) | (show _ ≤ 6723031; omega)) (by first | (show _ ≤ 792864; omega) | (show _ ≤ 6723031; omega)) dL_law_228 (fun q H hw => ?_)
  obtain ⟨ad1, ea1⟩ : ∃ z, z = fV ad 3423 q := ⟨_, rfl⟩
  obtain ⟨M1, em1⟩ : ∃ z, z = fU M 3423 (.inl (gI g, tPn T, .inl (fun _ => 0))) := ⟨_, rfl⟩
  rw [← ea1, ← em1] at hw
  have R1 : ∀ l, l ≠ 3423 → ad1 l = ad l ∧ M1 l = M l := fun l a => by rw [ea1, em1]; exact ⟨fV_n a, fU_n a⟩
  have hA1 : M1 3423 = some (.inl (gI g, tPn T, .inl (fun _ => 0))) := by rw [em1]; exact fU_s
  refine f_adr (ad := ad1) (lb := 3423) (by rw [ea1]; exact fV_s) ?_
  rw [← (R1 0 (by omega)).1, ← (R1 3000 (by omega)).1, ← (R1 3421 (by omega)).1, ← (R1 3422 (by omega)).1] at hl
  refine lv_astore (lv' := [(10, .ref (ad1 3423)), (9, .ref (ad1 3422)), (8, .ref (ad1 3421)), (6, .int (nI t)), (5, .int (nI (tPn T))), (4, .int (nI (tEn T))), (3, .int (nI (tHn T))), (2, .ref (ad1 3000)), (1, .ref (ad1 0)), (0, .ref (gXb g))]) hx hb dL_law_230 hl (by decide) rfl (fun ls hl => ?_)
  exact lw_recp_loop X hw (lv_sub hl [0, 1, 2, 3, 4, 5, 6, 7, 8, 9] rfl) ⟨by omega, by omega⟩ (isC_eq hC (fun l h => R1 l (by omega))) hmx hA1 (fun M2 f2 ls1 H1 locs1 a b c2 hw hl => W.widen (by omega) (by omega) (K ad1 M2 H1 locs1 ls1 (fun l x => ⟨(R1 l x).1, (a l x).trans (R1 l x).2⟩) ⟨f2, b, c2⟩ hw hl))
