/-! Sim.pass -/
def sFire (f : Nat → Int32) : Nat → Int32 := if f 3 ≤ 0 then (if 3 ≤ f 4 then upd f 4 (f 4 - 3) else upd f 4 0) else (if f 4 ≤ 96 then upd (upd f 3 (f 3 - 1)) 4 (f 4 + 4) else upd (upd f 3 (f 3 - 1)) 4 100)
def sDrv (f : Nat → Int32) : Nat → Int32 := if f 5 = 0 then f else if f 5 - 1 = 0 then upd (upd f 5 (f 5 - 1)) 0 (f 6) else upd f 5 (f 5 - 1)
def sGo (f : Nat → Int32) : Nat → Int32 := sDrv (sFire f)
def sAll (f : Nat → Int32) : Nat → Int32 := upd f 6 (f 6 + f 5)
def sBr (f : Nat → Int32) : Nat → Int32 := hBurn (sAll f)
def sSp (gi : Nat → Int32) (j : Nat) (f : Nat → Int32) : Nat → Int32 := if gi j ≤ 0 then upd f 9 (gi j) else upd (upd f 9 (gi j)) 4 (iMax 0 (f 4 - 2))
def sCat (V : fTn) (k : Nat) : Bool := decide (tH V k 3 = 0) && decide (tH V k 5 + 40 ≤ sHeat (tH V) (tH V k 0) (tHn V))
def sCa (V : fTn) (k : Nat) : Nat → Int32 := fun j => if j < k then bI (sCat V j) else 0
def sCatH (V : fTn) (j : Nat) (f : Nat → Int32) : Nat → Int32 := if sCat V j = true then upd (upd f 3 1) 4 5 else f
def sCatN (V : fTn) : Nat → Int32
  | 0 => 0
  | k + 1 => if sCat V k = true then sCatN V k + 1 else sCatN V k
abbrev mHi (F : Nat → (Nat → Int32) → Nat → Int32) (n : Nat) (T : fTn) : fTn := (tM T, (tHn T, fun j => if j < n then F j (tH T j) else tH T j), (tPn T, tP T), (tEn T, tE T))
theorem mHi_step {F : Nat → (Nat → Int32) → Nat → Int32} {T : fTn} {k : Nat} : sH (mHi F k T) k (F k (tH T k)) = mHi F (k + 1) T := by
  show (tM T, (tHn T, fun j => if j = k then F k (tH T k) else (if j < k then F j (tH T j) else tH T j)), (tPn T, tP T), (tEn T, tE T)) = _
  congr 3
  funext j
  by_cases h : j = k
  · subst h
    rw [if_pos rfl, if_pos (Nat.lt_succ_self j)]
  · by_cases h2 : j < k
    · rw [if_neg h, if_pos h2, if_pos (by omega)]
    · rw [if_neg h, if_neg h2, if_neg (by omega)]
theorem mHi_ge {F : Nat → (Nat → Int32) → Nat → Int32} {T : fTn} {k i : Nat} (h : k ≤ i) : tH (mHi F k T) i = tH T i := if_neg (by omega)
theorem mHi_0 {F : Nat → (Nat → Int32) → Nat → Int32} {T : fTn} : mHi F 0 T = T := by
  obtain ⟨m, ⟨a, f⟩, ⟨b, f2⟩, c, f3⟩ := T
  simp [mHi]
theorem sCa_0 {V : fTn} : sCa V 0 = fun _ => 0 := by
  funext j
  exact if_neg (Nat.not_lt_zero _)
theorem sCa_step {V : fTn} {k : Nat} {x : Int32} (h : x = bI (sCat V k)) : upd (sCa V k) k (x &&& 1) = sCa V (k + 1) := by
  funext j
  unfold sCa
  by_cases e : j = k
  · subst e; rw [upd_at, if_pos (by omega), h, bI_and]
  · rw [upd_ne e]
    by_cases h2 : j < k
    · rw [if_pos h2, if_pos (by omega)]
    · rw [if_neg h2, if_neg (by omega)]
theorem sCa_at {V : fTn} {n j : Nat} (h : j < n) : sCa V n j = bI (sCat V j) := if_pos h
def sU1 (U : fTn) : fTn := mH hReset (tHn U) (mE sGo (tEn U) U)
def sQ (U : fTn) : fGs := sTurns (q0 (sU1 U)) (tEn U)
def sU3 (U : fTn) : fTn := mEi (sSp (qG (sQ U))) (tEn U) (qV (sQ U))
def sU4 (U : fTn) : fTn := mH sBr (tHn U) (sU3 U)
def sMin (U : fTn) : fTn × Int32 := (sM (mHi (sCatH (sU4 U)) (tHn U) (sU4 U)) (tM U + 1), sCatN (sU4 U) (tHn U))
abbrev fSm (g : fG) (ad : Nat → Nat) (M : fM) (U : fTn) (v : Int32) : Int32 → (Nat → Nat) → fM → Prop := fun r ad1 M1 => isSim g ad1 M1 U ∧ fReg 3000 3420 ad M ad1 M1 ∧ (∀ l, l < 3400 → ad1 l = ad l) ∧ r = v
set_option maxHeartbeats 4000000 in
set_option maxRecDepth 100000 in
theorem c_s_pass (l : Launch) (g : fG) (ad : Nat → Nat) (M : fM) {U : fTn} (hS : isSim g ad M U) (hsg : sgOk (sU1 U)) : fCi l g yX8_pass cX8_pass 6 ((some .int)) 4 110 4 48 ad M [.ref (ad 3000)] (fSm g ad M (sMin U).1 (sMin U).2) := by
  refine f_body (own := RX8) (by decide +kernel) rfl (Nat.le_of_ble_eq_true rfl) ?_
  intro p e s m args below meth c ls X hw hin hl
  have hx := X.1
  have hb := X.2.1
  have hl : lv_has ls 6 [(0, .ref (ad 3000))] := hl
  obtain ⟨hS0, ⟨fHh, hSh, hSH⟩, ⟨fEe, hSe, hSE⟩, ⟨fPp, hSp, hSP⟩, hHs, hEs, hPs, hn1, hn3, hn2⟩ := id hS
  obtain ⟨ado, hado⟩ : ∃ z, z = ad := ⟨_, rfl⟩
  obtain ⟨Mo, hMo⟩ : ∃ z, z = M := ⟨_, rfl⟩
  have hrA : fReg 3000 3420 ado Mo ad M := by rw [hado, hMo]; exact fReg_rf
  obtain ⟨Q9, hQ9⟩ : ∃ z, z = MQ below (fQi g (fSm g ad M (sMin U).1 (sMin U).2)) args s 4 48 (fA g) := ⟨_, rfl⟩
  show W p l e (fR 4 110 4 48) s m args below meth c _ _ 0 0 (MQ below (fQi g (fSm g ad M (sMin U).1 (sMin U).2)) args s 4 48 (fA g)) (F0 m 0 ls [])
  rw [← hQ9]
  refine lv_aload_n hx hb dX8_pass_0 rfl (lv_at hl 0 rfl) ?_
  refine f_get X hw hS0 fc9 2 (by decide) wq624 rfl (v := .ref (ad 3002)) rfl dX8_pass_1 ?_
  refine lv_astore_n (lv' := [(1, .ref (ad 3002)), (0, .ref (ad 3000))]) hx hb dX8_pass_4 rfl hl (by decide) rfl (fun ls hl => ?_)
  refine lv_aload_n hx hb dX8_pass_5 rfl (lv_at hl 0 rfl) ?_
  refine f_alen X hw 5 hSe rfl dX8_pass_6 ?_
  refine lv_istore_n (lv' := [(2, .int (nI (tEn U))), (1, .ref (ad 3002)), (0, .ref (ad 3000))]) hx hb dX8_pass_7 rfl hl (by decide) rfl (fun ls hl => ?_)
  refine lv_iconst (v := 0) hx hb dX8_pass_8 (by decide) ?_
  refine lv_istore_n (lv' := [(3, .int 0), (2, .int (nI (tEn U))), (1, .ref (ad 3002)), (0, .ref (ad 3000))]) hx hb dX8_pass_9 rfl hl (by decide) rfl (fun ls hl => ?_)
  have loop10 : ∀ (n k : Nat), k ≤ tEn U → tEn U < k + n → ∀ (M : fM) (hS : isSim g ad M (mE sGo k U)) (hrA : fReg 3000 3420 ado Mo ad M) (ls : Array Slot) (H : Heap) (locs : List Loc), fw g ad M s H locs → lv_has ls 6 [(3, .int (nI k)), (2, .int (nI (tEn U))), (1, .ref (ad 3002)), (0, .ref (ad 3000))] → W p l e (fR 4 110 4 48) s m args below meth c H locs 0 0 Q9 (F0 m 10 ls []) := by
    intro n
    induction n with
    | zero => intro k h1 h2; omega
    | succ n ih =>
      intro k hk_ hn_ M hS hrA ls H locs hw hl
      obtain ⟨hS0, ⟨fHh, hSh, hSH⟩, ⟨fEe, hSe, hSE⟩, ⟨fPp, hSp, hSP⟩, hHs, hEs, hPs, hn1, hn3, hn2⟩ := id hS
      have hn1 : tHn U ≤ 30 := hn1
      have hn2 : tPn U ≤ 6 := hn2
      have hn3 : tEn U ≤ 6 := hn3
      have hS0 : M 3000 = some (.inr (9, [.int (tM U), .ref (ad 3001), .ref (ad 3002), .ref (ad 3003)])) := hS0
      have hSh : M 3001 = some (.inl (gY g, tHn U, .inr (.inr (.inr (.inr fHh))))) := hSh
      have hSH : ∀ i, i < tHn U → fHh i = some (ad (3100 + i)) := hSH
      have hSe : M 3002 = some (.inl (gW g, tEn U, .inr (.inr (.inr (.inr fEe))))) := hSe
      have hSE : ∀ i, i < tEn U → fEe i = some (ad (3300 + i)) := hSE
      have hSp : M 3003 = some (.inl (gQ g, tPn U, .inr (.inr (.inr (.inr fPp))))) := hSp
      have hSP : ∀ i, i < tPn U → fPp i = some (ad (3200 + i)) := hSP
      have hHs : ∀ i, i < tHn U → M (3100 + i) = some (.inr (8, hV (tH (mE sGo k U) i))) := hHs
      have hEs : ∀ i, i < tEn U → M (3300 + i) = some (.inr (7, gV (tE (mE sGo k U) i))) := hEs
      have hPs : ∀ i, i < tPn U → M (3200 + i) = some (.inl (gI g, 2, .inl (tP (mE sGo k U) i))) := hPs
      have hel : k < tEn U → M (3300 + k) = some (.inr (7, gV (tE U k))) := fun h => by rw [hEs k h]; exact congrArg (fun f => some (Sum.inr (7, gV f))) (mE_ge (Nat.le_refl k))
      refine lv_iload_n hx hb dX8_pass_10 rfl (lv_at hl 0 rfl) ?_
      refine lv_iload_n hx hb dX8_pass_11 rfl (lv_at hl 1 rfl) ?_
      refine lv_icmp_ge (tgt := 140) hx hb dX8_pass_12 (by decide) (fun c_1 => ?_) (fun c_1 => ?_)
      · have c_1 := nI_le' (a := (tEn U)) (b := k) c_1 (by omega) (by omega)
        refine lv_aload_n hx hb dX8_pass_140 rfl (lv_at hl 3 rfl) ?_
        refine f_get X hw hS0 fc9 1 (by decide) wq622 rfl (v := .ref (ad 3001)) rfl dX8_pass_141 ?_
        refine lv_astore_n (lv' := [(1, .ref (ad 3001)), (3, .int (nI k)), (2, .int (nI (tEn U))), (0, .ref (ad 3000))]) hx hb dX8_pass_144 rfl hl (by decide) rfl (fun ls hl => ?_)
        refine lv_aload_n hx hb dX8_pass_145 rfl (lv_at hl 0 rfl) ?_
        refine f_alen X hw 4 hSh rfl dX8_pass_146 ?_
        refine lv_istore_n (lv' := [(2, .int (nI (tHn U))), (1, .ref (ad 3001)), (3, .int (nI k)), (0, .ref (ad 3000))]) hx hb dX8_pass_147 rfl hl (by decide) rfl (fun ls hl => ?_)
        refine lv_iconst (v := 0) hx hb dX8_pass_148 (by decide) ?_
        refine lv_istore_n (lv' := [(3, .int 0), (2, .int (nI (tHn U))), (1, .ref (ad 3001)), (0, .ref (ad 3000))]) hx hb dX8_pass_149 rfl hl (by decide) rfl (fun ls hl => ?_)
        have loop150 : ∀ (n k : Nat), k ≤ tHn U → tHn U < k + n → ∀ (M : fM) (hS : isSim g ad M (mH hReset k (mE sGo (tEn U) U))) (hrA : fReg 3000 3420 ado Mo ad M) (ls : Array Slot) (H : Heap) (locs : List Loc), fw g ad M s H locs → lv_has ls 6 [(3, .int (nI k)), (2, .int (nI (tHn U))), (1, .ref (ad 3001)), (0, .ref (ad 3000))] → W p l e (fR 4 110 4 48) s m args below meth c H locs 0 0 Q9 (F0 m 150 ls []) := by
          intro n
          induction n with
          | zero => intro k h1 h2; omega
          | succ n ih =>
            intro k hk_ hn_ M hS hrA ls H locs hw hl
            obtain ⟨hS0, ⟨fHh, hSh, hSH⟩, ⟨fEe, hSe, hSE⟩, ⟨fPp, hSp, hSP⟩, hHs, hEs, hPs, hn1, hn3, hn2⟩ := id hS
            have hn1 : tHn U ≤ 30 := hn1
            have hn2 : tPn U ≤ 6 := hn2
            have hn3 : tEn U ≤ 6 := hn3
            have hS0 : M 3000 = some (.inr (9, [.int (tM U), .ref (ad 3001), .ref (ad 3002), .ref (ad 3003)])) := hS0
            have hSh : M 3001 = some (.inl (gY g, tHn U, .inr (.inr (.inr (.inr fHh))))) := hSh
            have hSH : ∀ i, i < tHn U → fHh i = some (ad (3100 + i)) := hSH
            have hSe : M 3002 = some (.inl (gW g, tEn U, .inr (.inr (.inr (.inr fEe))))) := hSe
            have hSE : ∀ i, i < tEn U → fEe i = some (ad (3300 + i)) := hSE
            have hSp : M 3003 = some (.inl (gQ g, tPn U, .inr (.inr (.inr (.inr fPp))))) := hSp
            have hSP : ∀ i, i < tPn U → fPp i = some (ad (3200 + i)) := hSP
            have hHs : ∀ i, i < tHn U → M (3100 + i) = some (.inr (8, hV (tH (mH hReset k (mE sGo (tEn U) U)) i))) := hHs
            have hEs : ∀ i, i < tEn U → M (3300 + i) = some (.inr (7, gV (tE (mH hReset k (mE sGo (tEn U) U)) i))) := hEs
            have hPs : ∀ i, i < tPn U → M (3200 + i) = some (.inl (gI g, 2, .inl (tP (mH hReset k (mE sGo (tEn U) U)) i))) := hPs
            have hel : k < tHn U → M (3100 + k) = some (.inr (8, hV (tH (mE sGo (tEn U) U) k))) := fun h => by rw [hHs k h]; exact congrArg (fun f => some (Sum.inr (8, hV f))) (mH_ge (Nat.le_refl k))
            refine lv_iload_n hx hb dX8_pass_150 rfl (lv_at hl 0 rfl) ?_
            refine lv_iload_n hx hb dX8_pass_151 rfl (lv_at hl 1 rfl) ?_
            refine lv_icmp_ge (tgt := 172) hx hb dX8_pass_152 (by decide) (fun c_2 => ?_) (fun c_2 => ?_)
            · have c_2 := nI_le' (a := (tHn U)) (b := k) c_2 (by omega) (by omega)
              refine lv_aload_n hx hb dX8_pass_172 rfl (lv_at hl 3 rfl) ?_
              have eS : mH hReset k (mE sGo (tEn U) U) = sU1 U := by unfold sU1; rw [show k = tHn U by omega]
              rw [eS] at hS
              have rest176 : ∀ (ad : Nat → Nat) (M : fM) (hS : isSim g ad M (qV (sQ U))) (hA3 : M 3403 = some (.inl (gI g, tEn U, .inl (qG (sQ U))))) (hrA : fReg 3000 3420 ado Mo ad M) (h34 : ∀ l, l < 3400 → ad l = ado l) (ls : Array Slot) (H : Heap) (locs : List Loc), fw g ad M s H locs → lv_has ls 6 [(0, .ref (ad 3000))] → W p l e (fR 4 110 4 48) s m args below meth c H locs (0 + 3) (0 + 18) Q9 (F0 m 176 ls [.ref (ad 3403)]) := by
                intro ad M hS hA3 hrA h34 ls H locs hw hl
                have hnq := sTurns_n (q0 (sU1 U)) (tEn U)
                have hnq : tE (qV (sQ U)) = tE (sU1 U) ∧ tEn (qV (sQ U)) = tEn U ∧ tHn (qV (sQ U)) = tHn U ∧ tPn (qV (sQ U)) = tPn U ∧ tM (qV (sQ U)) = tM U := hnq
                obtain ⟨hS0, ⟨fHh, hSh, hSH⟩, ⟨fEe, hSe, hSE⟩, ⟨fPp, hSp, hSP⟩, hHs, hEs, hPs, hn1, hn3, hn2⟩ := id hS
                rw [hnq.2.2.2.2] at hS0
                rw [hnq.2.2.1] at hSh hSH hHs
                rw [hnq.2.1] at hSe hSE hEs
                rw [hnq.2.2.2.1] at hSp hSP hPs
                have hn1 : tHn U ≤ 30 := by omega
                have hn2 : tPn U ≤ 6 := by omega
                have hn3 : tEn U ≤ 6 := by omega
                refine lv_astore_n (lv' := [(1, .ref (ad 3403)), (0, .ref (ad 3000))]) hx hb dX8_pass_176 rfl hl (by decide) rfl (fun ls hl => ?_)
                refine lv_iconst (v := 0) hx hb dX8_pass_177 (by decide) ?_
                refine lv_istore_n (lv' := [(2, .int 0), (1, .ref (ad 3403)), (0, .ref (ad 3000))]) hx hb dX8_pass_178 rfl hl (by decide) rfl (fun ls hl => ?_)
                have loop179 : ∀ (n k : Nat), k ≤ tEn U → tEn U < k + n → ∀ (M : fM) (hS : isSim g ad M (mEi (sSp (qG (sQ U))) k (qV (sQ U)))) (hA3 : M 3403 = some (.inl (gI g, tEn U, .inl (qG (sQ U))))) (hrA : fReg 3000 3420 ado Mo ad M) (ls : Array Slot) (H : Heap) (locs : List Loc), fw g ad M s H locs → lv_has ls 6 [(2, .int (nI k)), (1, .ref (ad 3403)), (0, .ref (ad 3000))] → W p l e (fR 4 110 4 48) s m args below meth c H locs (0 + 3) (0 + 18) Q9 (F0 m 179 ls []) := by
                  intro n
                  induction n with
                  | zero => intro k h1 h2; omega
                  | succ n ih =>
                    intro k hk_ hn_ M hS hA3 hrA ls H locs hw hl
                    obtain ⟨hS0, ⟨fHh, hSh, hSH⟩, ⟨fEe, hSe, hSE⟩, ⟨fPp, hSp, hSP⟩, hHs, hEs, hPs, hn1, hn3, hn2⟩ := id hS
                    rw [show tM (mEi (sSp (qG (sQ U))) k (qV (sQ U))) = tM U from hnq.2.2.2.2] at hS0
                    rw [show tHn (mEi (sSp (qG (sQ U))) k (qV (sQ U))) = tHn U from hnq.2.2.1] at hSh hSH hHs
                    rw [show tEn (mEi (sSp (qG (sQ U))) k (qV (sQ U))) = tEn U from hnq.2.1] at hSe hSE hEs
                    rw [show tPn (mEi (sSp (qG (sQ U))) k (qV (sQ U))) = tPn U from hnq.2.2.2.1] at hSp hSP hPs
                    have hn1 : tHn U ≤ 30 := by omega
                    have hn2 : tPn U ≤ 6 := by omega
                    have hn3 : tEn U ≤ 6 := by omega
                    have hel : k < tEn U → M (3300 + k) = some (.inr (7, gV (tE (qV (sQ U)) k))) := fun h => by rw [hEs k h]; exact congrArg (fun f => some (Sum.inr (7, gV f))) (mEi_ge (Nat.le_refl k))
                    refine lv_iload_n hx hb dX8_pass_179 rfl (lv_at hl 0 rfl) ?_
                    refine lv_aload_n hx hb dX8_pass_180 rfl (lv_at hl 2 rfl) ?_
                    refine f_get X hw hS0 fc9 2 (by decide) wq624 rfl (v := .ref (ad 3002)) rfl dX8_pass_181 ?_
                    refine f_alen X hw 5 hSe rfl dX8_pass_184 ?_
                    refine lv_icmp_ge (tgt := 236) hx hb dX8_pass_185 (by decide) (fun c_3 => ?_) (fun c_3 => ?_)
                    · have c_3 := nI_le' (a := (tEn U)) (b := k) c_3 (by omega) (by omega)
                      refine lv_aload_n hx hb dX8_pass_236 rfl (lv_at hl 2 rfl) ?_
                      refine f_get X hw hS0 fc9 1 (by decide) wq622 rfl (v := .ref (ad 3001)) rfl dX8_pass_237 ?_
                      refine lv_astore_n (lv' := [(2, .ref (ad 3001)), (1, .ref (ad 3403)), (0, .ref (ad 3000))]) hx hb dX8_pass_240 rfl hl (by decide) rfl (fun ls hl => ?_)
                      refine lv_aload_n hx hb dX8_pass_241 rfl (lv_at hl 0 rfl) ?_
                      refine f_alen X hw 4 hSh rfl dX8_pass_242 ?_
                      refine lv_istore_n (lv' := [(3, .int (nI (tHn U))), (2, .ref (ad 3001)), (1, .ref (ad 3403)), (0, .ref (ad 3000))]) hx hb dX8_pass_243 rfl hl (by decide) rfl (fun ls hl => ?_)
                      refine lv_iconst (v := 0) hx hb dX8_pass_244 (by decide) ?_
                      refine lv_istore (lv' := [(4, .int 0), (3, .int (nI (tHn U))), (2, .ref (ad 3001)), (1, .ref (ad 3403)), (0, .ref (ad 3000))]) hx hb dX8_pass_245 hl (by decide) rfl (fun ls hl => ?_)
                      have loop247 : ∀ (n k : Nat), k ≤ tHn U → tHn U < k + n → ∀ (M : fM) (hS : isSim g ad M (mH sBr k (sU3 U))) (hrA : fReg 3000 3420 ado Mo ad M) (ls : Array Slot) (H : Heap) (locs : List Loc), fw g ad M s H locs → lv_has ls 6 [(4, .int (nI k)), (3, .int (nI (tHn U))), (2, .ref (ad 3001)), (0, .ref (ad 3000))] → W p l e (fR 4 110 4 48) s m args below meth c H locs (0 + 3) (0 + 18) Q9 (F0 m 247 ls []) := by
                        intro n
                        induction n with
                        | zero => intro k h1 h2; omega
                        | succ n ih =>
                          intro k hk_ hn_ M hS hrA ls H locs hw hl
                          obtain ⟨hS0, ⟨fHh, hSh, hSH⟩, ⟨fEe, hSe, hSE⟩, ⟨fPp, hSp, hSP⟩, hHs, hEs, hPs, hn1, hn3, hn2⟩ := id hS
                          rw [show tM (mH sBr k (sU3 U)) = tM U from hnq.2.2.2.2] at hS0
                          rw [show tHn (mH sBr k (sU3 U)) = tHn U from hnq.2.2.1] at hSh hSH hHs
                          rw [show tEn (mH sBr k (sU3 U)) = tEn U from hnq.2.1] at hSe hSE hEs
                          rw [show tPn (mH sBr k (sU3 U)) = tPn U from hnq.2.2.2.1] at hSp hSP hPs
                          have hn1 : tHn U ≤ 30 := by omega
                          have hn2 : tPn U ≤ 6 := by omega
                          have hn3 : tEn U ≤ 6 := by omega
                          have hel : k < tHn U → M (3100 + k) = some (.inr (8, hV (tH (sU3 U) k))) := fun h => by rw [hHs k h]; exact congrArg (fun f => some (Sum.inr (8, hV f))) (mH_ge (Nat.le_refl k))
                          refine lv_iload hx hb dX8_pass_247 (lv_at hl 0 rfl) ?_
                          refine lv_iload_n hx hb dX8_pass_249 rfl (lv_at hl 1 rfl) ?_
                          refine lv_icmp_ge (tgt := 389) hx hb dX8_pass_250 (by decide) (fun c_4 => ?_) (fun c_4 => ?_)
                          · have c_4 := nI_le' (a := (tHn U)) (b := k) c_4 (by omega) (by omega)
                            refine lv_aload_n hx hb dX8_pass_389 rfl (lv_at hl 3 rfl) ?_
                            refine f_get X hw hS0 fc9 1 (by decide) wq622 rfl (v := .ref (ad 3001)) rfl dX8_pass_390 ?_
                            refine f_alen X hw 4 hSh rfl dX8_pass_393 ?_
                            have e4 : mH sBr k (sU3 U) = sU4 U := by unfold sU4; rw [show k = tHn U by omega]
                            rw [e4] at hS
                            have rest396 : ∀ (ad : Nat → Nat) (M : fM) (hS : isSim g ad M (sU4 U)) (hA4 : M 3404 = some (.inl (gZ g, tHn U, .inl (fun _ => 0)))) (hrA : fReg 3000 3420 ado Mo ad M) (h34 : ∀ l, l < 3400 → ad l = ado l) (ls : Array Slot) (H : Heap) (locs : List Loc), fw g ad M s H locs → lv_has ls 6 [(0, .ref (ad 3000))] → W p l e (fR 4 110 4 48) s m args below meth c H locs (0 + 3 + 1) (0 + 18 + tHn U) Q9 (F0 m 396 ls [.ref (ad 3404)]) := by
                              intro ad M hS hA4 hrA h34 ls H locs hw hl
                              obtain ⟨hS0, ⟨fHh, hSh, hSH⟩, ⟨fEe, hSe, hSE⟩, ⟨fPp, hSp, hSP⟩, hHs, hEs, hPs, hn1, hn3, hn2⟩ := id hS
                              rw [show tM (sU4 U) = tM U from hnq.2.2.2.2] at hS0
                              rw [show tHn (sU4 U) = tHn U from hnq.2.2.1] at hSh hSH hHs
                              rw [show tEn (sU4 U) = tEn U from hnq.2.1] at hSe hSE hEs
                              rw [show tPn (sU4 U) = tPn U from hnq.2.2.2.1] at hSp hSP hPs
                              have hn1 : tHn U ≤ 30 := by omega
                              have hn2 : tPn U ≤ 6 := by omega
                              have hn3 : tEn U ≤ 6 := by omega
                              refine lv_astore_n (lv' := [(2, .ref (ad 3404)), (0, .ref (ad 3000))]) hx hb dX8_pass_396 rfl hl (by decide) rfl (fun ls hl => ?_)
                              refine lv_iconst (v := 0) hx hb dX8_pass_397 (by decide) ?_
                              refine lv_istore_n (lv' := [(3, .int 0), (2, .ref (ad 3404)), (0, .ref (ad 3000))]) hx hb dX8_pass_398 rfl hl (by decide) rfl (fun ls hl => ?_)
                              refine lv_iconst (v := 0) hx hb dX8_pass_399 (by decide) ?_
                              refine lv_istore (lv' := [(4, .int 0), (3, .int 0), (2, .ref (ad 3404)), (0, .ref (ad 3000))]) hx hb dX8_pass_400 hl (by decide) rfl (fun ls hl => ?_)
                              have loop402 : ∀ (n k : Nat), k ≤ tHn U → tHn U < k + n → ∀ (M : fM) (hS : isSim g ad M (sU4 U)) (hA4 : M 3404 = some (.inl (gZ g, tHn U, .inl (sCa (sU4 U) k)))) (hrA : fReg 3000 3420 ado Mo ad M) (ls : Array Slot) (H : Heap) (locs : List Loc), fw g ad M s H locs → lv_has ls 6 [(4, .int (nI k)), (3, .int 0), (2, .ref (ad 3404)), (0, .ref (ad 3000))] → W p l e (fR 4 110 4 48) s m args below meth c H locs (0 + 3 + 1) (0 + 18 + tHn U) Q9 (F0 m 402 ls []) := by
                                intro n
                                induction n with
                                | zero => intro k h1 h2; omega
                                | succ n ih =>
                                  intro k hk_ hn_ M hS hA4 hrA ls H locs hw hl
                                  obtain ⟨hS0, ⟨fHh, hSh, hSH⟩, ⟨fEe, hSe, hSE⟩, ⟨fPp, hSp, hSP⟩, hHs, hEs, hPs, hn1, hn3, hn2⟩ := id hS
                                  rw [show tM (sU4 U) = tM U from hnq.2.2.2.2] at hS0
                                  rw [show tHn (sU4 U) = tHn U from hnq.2.2.1] at hSh hSH hHs
                                  rw [show tEn (sU4 U) = tEn U from hnq.2.1] at hSe hSE hEs
                                  rw [show tPn (sU4 U) = tPn U from hnq.2.2.2.1] at hSp hSP hPs
                                  have hn1 : tHn U ≤ 30 := by omega
                                  have hn2 : tPn U ≤ 6 := by omega
                                  have hn3 : tEn U ≤ 6 := by omega
                                  refine lv_iload hx hb dX8_pass_402 (lv_at hl 0 rfl) ?_
                                  refine lv_aload_n hx hb dX8_pass_404 rfl (lv_at hl 3 rfl) ?_
                                  refine f_get X hw hS0 fc9 1 (by decide) wq622 rfl (v := .ref (ad 3001)) rfl dX8_pass_405 ?_
                                  refine f_alen X hw 4 hSh rfl dX8_pass_408 ?_
                                  refine lv_icmp_ge (tgt := 470) hx hb dX8_pass_409 (by decide) (fun c_5 => ?_) (fun c_5 => ?_)
                                  · have c_5 := nI_le' (a := (tHn U)) (b := k) c_5 (by omega) (by omega)
                                    refine lv_iconst (v := 0) hx hb dX8_pass_470 (by decide) ?_
                                    refine lv_istore (lv' := [(4, .int 0), (3, .int 0), (2, .ref (ad 3404)), (0, .ref (ad 3000))]) hx hb dX8_pass_471 hl (by decide) rfl (fun ls hl => ?_)
                                    have loop473 : ∀ (n k : Nat), k ≤ tHn U → tHn U < k + n → ∀ (M : fM) (hS : isSim g ad M (mHi (sCatH (sU4 U)) k (sU4 U))) (hA4 : M 3404 = some (.inl (gZ g, tHn U, .inl (sCa (sU4 U) (tHn U))))) (hrA : fReg 3000 3420 ado Mo ad M) (ls : Array Slot) (H : Heap) (locs : List Loc), fw g ad M s H locs → lv_has ls 6 [(4, .int (nI k)), (3, .int (sCatN (sU4 U) k)), (2, .ref (ad 3404)), (0, .ref (ad 3000))] → W p l e (fR 4 110 4 48) s m args below meth c H locs (0 + 3 + 1) (0 + 18 + tHn U) Q9 (F0 m 473 ls []) := by
                                      intro n
                                      induction n with
                                      | zero => intro k h1 h2; omega
                                      | succ n ih =>
                                        intro k hk_ hn_ M hS hA4 hrA ls H locs hw hl
                                        obtain ⟨hS0, ⟨fHh, hSh, hSH⟩, ⟨fEe, hSe, hSE⟩, ⟨fPp, hSp, hSP⟩, hHs, hEs, hPs, hn1, hn3, hn2⟩ := id hS
                                        rw [show tM (mHi (sCatH (sU4 U)) k (sU4 U)) = tM U from hnq.2.2.2.2] at hS0
                                        rw [show tHn (mHi (sCatH (sU4 U)) k (sU4 U)) = tHn U from hnq.2.2.1] at hSh hSH hHs
                                        rw [show tEn (mHi (sCatH (sU4 U)) k (sU4 U)) = tEn U from hnq.2.1] at hSe hSE hEs
                                        rw [show tPn (mHi (sCatH (sU4 U)) k (sU4 U)) = tPn U from hnq.2.2.2.1] at hSp hSP hPs
                                        have hn1 : tHn U ≤ 30 := by omega
                                        have hn2 : tPn U ≤ 6 := by omega
                                        have hn3 : tEn U ≤ 6 := by omega
                                        have hel : k < tHn U → M (3100 + k) = some (.inr (8, hV (tH (sU4 U) k))) := fun h => by rw [hHs k h]; exact congrArg (fun f => some (Sum.inr (8, hV f))) (mHi_ge (Nat.le_refl k))
                                        refine lv_iload hx hb dX8_pass_473 (lv_at hl 0 rfl) ?_
                                        refine lv_aload_n hx hb dX8_pass_475 rfl (lv_at hl 3 rfl) ?_
                                        refine f_get X hw hS0 fc9 1 (by decide) wq622 rfl (v := .ref (ad 3001)) rfl dX8_pass_476 ?_
                                        refine f_alen X hw 4 hSh rfl dX8_pass_479 ?_
                                        refine lv_icmp_ge (tgt := 524) hx hb dX8_pass_480 (by decide) (fun c_6 => ?_) (fun c_6 => ?_)
                                        · have c_6 := nI_le' (a := (tHn U)) (b := k) c_6 (by omega) (by omega)
                                          refine lv_aload_n hx hb dX8_pass_524 rfl (lv_at hl 3 rfl) ?_
                                          refine lv_dup hx hb dX8_pass_525 rfl ?_
                                          refine f_get X hw hS0 fc9 0 (by decide) wq621 rfl (v := .int (tM U)) rfl dX8_pass_526 ?_
                                          refine lv_iconst (v := 1) hx hb dX8_pass_529 (by decide) ?_
                                          refine lv_iadd hx hb dX8_pass_530 ?_
                                          refine f_put X hw hS0 fc9 0 (by decide) wq621 rfl rfl (v := .int ((tM U) + 1)) rfl rfl (Nat.le_of_ble_eq_true rfl) dX8_pass_531 (fun H locs hw => ?_)
                                          have hw : fw g ad (fU M 3000 (.inr (9, [.int ((tM U) + 1), .ref (ad 3001), .ref (ad 3002), .ref (ad 3003)]))) s H locs := hw
                                          have hSh : (fU M 3000 (.inr (9, [.int ((tM U) + 1), .ref (ad 3001), .ref (ad 3002), .ref (ad 3003)]))) 3001 = some (.inl (gY g, tHn U, .inr (.inr (.inr (.inr fHh))))) := (fU_n (by omega)).trans hSh
                                          have hSe : (fU M 3000 (.inr (9, [.int ((tM U) + 1), .ref (ad 3001), .ref (ad 3002), .ref (ad 3003)]))) 3002 = some (.inl (gW g, tEn U, .inr (.inr (.inr (.inr fEe))))) := (fU_n (by omega)).trans hSe
                                          have hSp : (fU M 3000 (.inr (9, [.int ((tM U) + 1), .ref (ad 3001), .ref (ad 3002), .ref (ad 3003)]))) 3003 = some (.inl (gQ g, tPn U, .inr (.inr (.inr (.inr fPp))))) := (fU_n (by omega)).trans hSp
                                          have hA4 : (fU M 3000 (.inr (9, [.int ((tM U) + 1), .ref (ad 3001), .ref (ad 3002), .ref (ad 3003)]))) 3404 = some (.inl (gZ g, tHn U, .inl (sCa (sU4 U) (tHn U)))) := (fU_n (by omega)).trans hA4
                                          have hS0 : (fU M 3000 (.inr (9, [.int ((tM U) + 1), .ref (ad 3001), .ref (ad 3002), .ref (ad 3003)]))) 3000 = some (.inr (9, [.int ((tM U) + 1), .ref (ad 3001), .ref (ad 3002), .ref (ad 3003)])) := fU_s
                                          refine lv_iload_n hx hb dX8_pass_534 rfl (lv_at hl 1 rfl) ?_
                                          rw [hQ9, ← hado, ← hMo]
                                          have ek : k = tHn U := by omega
                                          have hS7 := isSim_M (x := tM U + 1) hS
                                          exact f_iret X hw ⟨by show isSim g ad _ (sM (mHi (sCatH (sU4 U)) (tHn U) (sU4 U)) (tM U + 1)); rw [← ek]; exact hS7, fReg_U hrA (by omega), h34, by show _ = sCatN (sU4 U) (tHn U); rw [← ek]⟩ (by omega) (by omega) dX8_pass_535
                                        · have c_6 := nI_nle' (a := (tHn U)) (b := k) c_6 (by omega) (by omega)
                                          refine lv_aload_n hx hb dX8_pass_483 rfl (lv_at hl 2 rfl) ?_
                                          refine lv_iload hx hb dX8_pass_484 (lv_at hl 0 rfl) ?_
                                          refine f_zald X hw hA4 (vp_in_nI (n := k) (by omega) (by omega)) dX8_pass_486 ?_
                                          rw [nI_clamp (n := k) (by omega)]
                                          refine f_top (y := bI (sCat (sU4 U) k)) (sCa_at (by omega)) ?_
                                          refine lv_if_ne (tgt := 493) hx hb dX8_pass_487 (by decide) (fun c_7 => ?_) (fun c_7 => ?_)
                                          · have c_7 := bI_nf.mp c_7
                                            refine lv_aload_n hx hb dX8_pass_493 rfl (lv_at hl 3 rfl) ?_
                                            refine f_get X hw hS0 fc9 1 (by decide) wq622 rfl (v := .ref (ad 3001)) rfl dX8_pass_494 ?_
                                            refine lv_iload hx hb dX8_pass_497 (lv_at hl 0 rfl) ?_
                                            refine f_aaldY X hw hSh (vp_in_nI (n := k) (by omega) (by omega)) (q := ad (3100 + k)) (by rw [nI_clamp (by omega)]; exact hSH k (by omega)) dX8_pass_499 ?_
                                            refine lv_iconst (v := 1) hx hb dX8_pass_500 (by decide) ?_
                                            refine f_put X hw (hel (by omega)) fc8 3 (by decide) wq723 rfl rfl (v := .int 1) rfl rfl (Nat.le_of_ble_eq_true rfl) dX8_pass_501 (fun H locs hw => ?_)
                                            have hw : fw g ad (fU M (3100 + k) (.inr (8, hV (upd (tH (sU4 U) k) 3 1)))) s H locs := hw
                                            have hS0 : (fU M (3100 + k) (.inr (8, hV (upd (tH (sU4 U) k) 3 1)))) 3000 = some (.inr (9, [.int (tM U), .ref (ad 3001), .ref (ad 3002), .ref (ad 3003)])) := (fU_n (by omega)).trans hS0
                                            have hSh : (fU M (3100 + k) (.inr (8, hV (upd (tH (sU4 U) k) 3 1)))) 3001 = some (.inl (gY g, tHn U, .inr (.inr (.inr (.inr fHh))))) := (fU_n (by omega)).trans hSh
                                            have hSe : (fU M (3100 + k) (.inr (8, hV (upd (tH (sU4 U) k) 3 1)))) 3002 = some (.inl (gW g, tEn U, .inr (.inr (.inr (.inr fEe))))) := (fU_n (by omega)).trans hSe
                                            have hSp : (fU M (3100 + k) (.inr (8, hV (upd (tH (sU4 U) k) 3 1)))) 3003 = some (.inl (gQ g, tPn U, .inr (.inr (.inr (.inr fPp))))) := (fU_n (by omega)).trans hSp
                                            have hA4 : (fU M (3100 + k) (.inr (8, hV (upd (tH (sU4 U) k) 3 1)))) 3404 = some (.inl (gZ g, tHn U, .inl (sCa (sU4 U) (tHn U)))) := (fU_n (by omega)).trans hA4
                                            have hM_3100___k : (fU M (3100 + k) (.inr (8, hV (upd (tH (sU4 U) k) 3 1)))) (3100 + k) = some (.inr (8, hV (upd (tH (sU4 U) k) 3 1))) := fU_s
                                            refine lv_aload_n hx hb dX8_pass_504 rfl (lv_at hl 3 rfl) ?_
                                            refine f_get X hw hS0 fc9 1 (by decide) wq622 rfl (v := .ref (ad 3001)) rfl dX8_pass_505 ?_
                                            refine lv_iload hx hb dX8_pass_508 (lv_at hl 0 rfl) ?_
                                            refine f_aaldY X hw hSh (vp_in_nI (n := k) (by omega) (by omega)) (q := ad (3100 + k)) (by rw [nI_clamp (by omega)]; exact hSH k (by omega)) dX8_pass_510 ?_
                                            refine lv_iconst (v := 5) hx hb dX8_pass_511 (by decide) ?_
                                            refine f_put X hw hM_3100___k fc8 4 (by decide) wq725 rfl rfl (v := .int 5) rfl rfl (Nat.le_of_ble_eq_true rfl) dX8_pass_512 (fun H locs hw => ?_)
                                            have hw : fw g ad (fU (fU M (3100 + k) (.inr (8, hV (upd (tH (sU4 U) k) 3 1)))) (3100 + k) (.inr (8, hV (upd (upd (tH (sU4 U) k) 3 1) 4 5)))) s H locs := hw
                                            rw [fU_U] at hw
                                            have hS0 : (fU M (3100 + k) (.inr (8, hV (upd (upd (tH (sU4 U) k) 3 1) 4 5)))) 3000 = some (.inr (9, [.int (tM U), .ref (ad 3001), .ref (ad 3002), .ref (ad 3003)])) := ((fU_n (by omega)).trans (fU_n (by omega)).symm).trans hS0
                                            have hSh : (fU M (3100 + k) (.inr (8, hV (upd (upd (tH (sU4 U) k) 3 1) 4 5)))) 3001 = some (.inl (gY g, tHn U, .inr (.inr (.inr (.inr fHh))))) := ((fU_n (by omega)).trans (fU_n (by omega)).symm).trans hSh
                                            have hSe : (fU M (3100 + k) (.inr (8, hV (upd (upd (tH (sU4 U) k) 3 1) 4 5)))) 3002 = some (.inl (gW g, tEn U, .inr (.inr (.inr (.inr fEe))))) := ((fU_n (by omega)).trans (fU_n (by omega)).symm).trans hSe
                                            have hSp : (fU M (3100 + k) (.inr (8, hV (upd (upd (tH (sU4 U) k) 3 1) 4 5)))) 3003 = some (.inl (gQ g, tPn U, .inr (.inr (.inr (.inr fPp))))) := ((fU_n (by omega)).trans (fU_n (by omega)).symm).trans hSp
                                            have hA4 : (fU M (3100 + k) (.inr (8, hV (upd (upd (tH (sU4 U) k) 3 1) 4 5)))) 3404 = some (.inl (gZ g, tHn U, .inl (sCa (sU4 U) (tHn U)))) := ((fU_n (by omega)).trans (fU_n (by omega)).symm).trans hA4
                                            have hM_3100___k : (fU M (3100 + k) (.inr (8, hV (upd (upd (tH (sU4 U) k) 3 1) 4 5)))) (3100 + k) = some (.inr (8, hV (upd (upd (tH (sU4 U) k) 3 1) 4 5))) := fU_s
                                            refine lv_iinc (v := sCatN (sU4 U) k + 1) (lv' := [(3, .int (sCatN (sU4 U) k + 1)), (4, .int (nI k)), (2, .ref (ad 3404)), (0, .ref (ad 3000))]) hx hb dX8_pass_515 hl (k := 1) rfl rfl (by decide) rfl (fun ls hl => ?_)
                                            refine lv_iinc (v := nI (k + 1)) (lv' := [(4, .int (nI (k + 1))), (3, .int (sCatN (sU4 U) k + 1)), (2, .ref (ad 3404)), (0, .ref (ad 3000))]) hx hb dX8_pass_518 hl (k := 1) rfl (nI_1 k) (by decide) rfl (fun ls hl => ?_)
                                            refine lv_goto (tgt := 473) hx hb dX8_pass_521 (by decide) ?_
                                            have eF : upd (upd (tH (sU4 U) k) 3 1) 4 5 = sCatH (sU4 U) k (tH (sU4 U) k) := Eq.symm (if_pos c_7)
                                            have hS2 := isSim_H (j := k) (f := upd (upd (tH (sU4 U) k) 3 1) 4 5) hS (by show k < tHn (qV (sQ U)); rw [hnq.2.2.1]; omega)
                                            have eU : sH (mHi (sCatH (sU4 U)) k (sU4 U)) k (upd (upd (tH (sU4 U) k) 3 1) 4 5) = mHi (sCatH (sU4 U)) (k + 1) (sU4 U) := by rw [eF]; exact mHi_step
                                            rw [eU] at hS2
                                            exact ih (k + 1) (by omega) (by omega) _ hS2 hA4 (fReg_U (hrA) (by omega)) ls _ _ hw (by rw [show (sCatN (sU4 U) (k + 1)) = (sCatN (sU4 U) k + 1) from (if_pos c_7)]; exact lv_sub hl [0, 1, 2, 3] rfl)
                                          · have c_7 := bI_f.mp c_7
                                            refine lv_goto (tgt := 518) hx hb dX8_pass_490 (by decide) ?_
                                            refine lv_iinc (v := nI (k + 1)) (lv' := [(4, .int (nI (k + 1))), (3, .int (sCatN (sU4 U) k)), (2, .ref (ad 3404)), (0, .ref (ad 3000))]) hx hb dX8_pass_518 hl (k := 0) rfl (nI_1 k) (by decide) rfl (fun ls hl => ?_)
                                            refine lv_goto (tgt := 473) hx hb dX8_pass_521 (by decide) ?_
                                            have eU : mHi (sCatH (sU4 U)) k (sU4 U) = mHi (sCatH (sU4 U)) (k + 1) (sU4 U) := by rw [← mHi_step, show sCatH (sU4 U) k (tH (sU4 U) k) = tH (sU4 U) k from if_neg (by rw [c_7]; decide), ← show tH (mHi (sCatH (sU4 U)) k (sU4 U)) k = tH (sU4 U) k from mHi_ge (Nat.le_refl k)]; exact sH_same.symm
                                            rw [eU] at hS
                                            exact ih (k + 1) (by omega) (by omega) _ hS hA4 (hrA) ls _ _ hw (by rw [show (sCatN (sU4 U) (k + 1)) = (sCatN (sU4 U) k) from (if_neg (by rw [c_7]; decide))]; exact lv_sub hl [0, 1, 2, 3] rfl)
                                    have hS6 : isSim g ad M (mHi (sCatH (sU4 U)) 0 (sU4 U)) := by rw [mHi_0]; exact hS
                                    exact loop473 (tHn U + 1) 0 (by omega) (by omega) M hS6 (by rw [show tHn U = k by omega] at hA4 ⊢; exact hA4) hrA ls _ _ hw (lv_sub hl [0, 1, 2, 3] rfl)
                                  · have c_5 := nI_nle' (a := (tHn U)) (b := k) c_5 (by omega) (by omega)
                                    refine lv_aload_n hx hb dX8_pass_412 rfl (lv_at hl 2 rfl) ?_
                                    refine lv_iload hx hb dX8_pass_413 (lv_at hl 0 rfl) ?_
                                    refine lv_aload_n hx hb dX8_pass_415 rfl (lv_at hl 3 rfl) ?_
                                    refine f_get X hw hS0 fc9 1 (by decide) wq622 rfl (v := .ref (ad 3001)) rfl dX8_pass_416 ?_
                                    refine lv_iload hx hb dX8_pass_419 (lv_at hl 0 rfl) ?_
                                    refine f_aaldY X hw hSh (vp_in_nI (n := k) (by omega) (by omega)) (q := ad (3100 + k)) (by rw [nI_clamp (by omega)]; exact hSH k (by omega)) dX8_pass_421 ?_
                                    refine f_get X hw (hHs k (by omega)) fc8 3 (by decide) wq723 rfl (v := .int ((tH (sU4 U) k) 3)) rfl dX8_pass_422 ?_
                                    refine lv_if_ne (tgt := 462) hx hb dX8_pass_425 (by decide) (fun c_8 => ?_) (fun c_8 => ?_)
                                    · refine lv_iconst (v := 0) hx hb dX8_pass_462 (by decide) ?_
                                      have hcb : (0 : Int32) = bI (sCat (sU4 U) k) := by unfold sCat; rw [decide_eq_false c_8, Bool.false_and]; rfl
                                      refine f_zast X hw hA4 (vp_in_nI (n := k) (by omega) (by omega)) dX8_pass_463 (fun H locs hw => ?_)
                                      rw [nI_clamp (n := k) (by omega)] at hw
                                      rw [sCa_step hcb] at hw
                                      have hw : fw g ad (fU M 3404 (.inl (gZ g, tHn U, .inl (sCa (sU4 U) (k + 1))))) s H locs := hw
                                      have hS0 : (fU M 3404 (.inl (gZ g, tHn U, .inl (sCa (sU4 U) (k + 1))))) 3000 = some (.inr (9, [.int (tM U), .ref (ad 3001), .ref (ad 3002), .ref (ad 3003)])) := (fU_n (by omega)).trans hS0
                                      have hSh : (fU M 3404 (.inl (gZ g, tHn U, .inl (sCa (sU4 U) (k + 1))))) 3001 = some (.inl (gY g, tHn U, .inr (.inr (.inr (.inr fHh))))) := (fU_n (by omega)).trans hSh
                                      have hSe : (fU M 3404 (.inl (gZ g, tHn U, .inl (sCa (sU4 U) (k + 1))))) 3002 = some (.inl (gW g, tEn U, .inr (.inr (.inr (.inr fEe))))) := (fU_n (by omega)).trans hSe
                                      have hSp : (fU M 3404 (.inl (gZ g, tHn U, .inl (sCa (sU4 U) (k + 1))))) 3003 = some (.inl (gQ g, tPn U, .inr (.inr (.inr (.inr fPp))))) := (fU_n (by omega)).trans hSp
                                      have hA4 : (fU M 3404 (.inl (gZ g, tHn U, .inl (sCa (sU4 U) (k + 1))))) 3404 = some (.inl (gZ g, tHn U, .inl (sCa (sU4 U) (k + 1)))) := fU_s
                                      refine lv_iinc (v := nI (k + 1)) (lv' := [(4, .int (nI (k + 1))), (3, .int 0), (2, .ref (ad 3404)), (0, .ref (ad 3000))]) hx hb dX8_pass_464 hl (k := 0) rfl (nI_1 k) (by decide) rfl (fun ls hl => ?_)
                                      refine lv_goto (tgt := 402) hx hb dX8_pass_467 (by decide) ?_
                                      have hS2 : isSim g ad (fU M 3404 (.inl (gZ g, tHn U, .inl (sCa (sU4 U) (k + 1))))) (sU4 U) := isSim_eq hS (fun l a b => ⟨rfl, fU_n (by omega)⟩)
                                      exact ih (k + 1) (by omega) (by omega) _ hS2 hA4 (fReg_U (hrA) (by omega)) ls _ _ hw (lv_sub hl [0, 1, 2, 3] rfl)
                                    · refine lv_aload_n hx hb dX8_pass_428 rfl (lv_at hl 3 rfl) ?_
                                      refine lv_aload_n hx hb dX8_pass_429 rfl (lv_at hl 3 rfl) ?_
                                      refine f_get X hw hS0 fc9 1 (by decide) wq622 rfl (v := .ref (ad 3001)) rfl dX8_pass_430 ?_
                                      refine lv_iload hx hb dX8_pass_433 (lv_at hl 0 rfl) ?_
                                      refine f_aaldY X hw hSh (vp_in_nI (n := k) (by omega) (by omega)) (q := ad (3100 + k)) (by rw [nI_clamp (by omega)]; exact hSH k (by omega)) dX8_pass_435 ?_
                                      refine f_get X hw (hHs k (by omega)) fc8 0 (by decide) wq718 rfl (v := .int ((tH (sU4 U) k) 0)) rfl dX8_pass_436 ?_
                                      refine fk_di (fcV X hw (c_s_heatNear l g ad M hS (tH (sU4 U) k 0)) hS0 rfl wq597 kVX8_heatNear ⟨(Nat.le_of_ble_eq_true rfl), (Nat.le_of_ble_eq_true rfl)⟩ rfl hl.1 rfl (Nat.le_of_ble_eq_true rfl) dX8_pass_439 ⟨(by dsimp only [fR]; omega), (by dsimp only [fR]; omega)⟩) hw (fun H locs hw => ?_)
                                      refine lv_aload_n hx hb dX8_pass_442 rfl (lv_at hl 3 rfl) ?_
                                      refine f_get X hw hS0 fc9 1 (by decide) wq622 rfl (v := .ref (ad 3001)) rfl dX8_pass_443 ?_
                                      refine lv_iload hx hb dX8_pass_446 (lv_at hl 0 rfl) ?_
                                      refine f_aaldY X hw hSh (vp_in_nI (n := k) (by omega) (by omega)) (q := ad (3100 + k)) (by rw [nI_clamp (by omega)]; exact hSH k (by omega)) dX8_pass_448 ?_
                                      refine f_get X hw (hHs k (by omega)) fc8 5 (by decide) wq726 rfl (v := .int ((tH (sU4 U) k) 5)) rfl dX8_pass_449 ?_
                                      refine lv_bipush (v := 40) hx hb dX8_pass_452 (by decide) ?_
                                      refine lv_iadd hx hb dX8_pass_454 ?_
                                      refine lv_icmp_lt (tgt := 462) hx hb dX8_pass_455 (by decide) (fun c_9 => ?_) (fun c_9 => ?_)
                                      · refine lv_iconst (v := 0) hx hb dX8_pass_462 (by decide) ?_
                                        have hcb : (0 : Int32) = bI (sCat (sU4 U) k) := by unfold sCat; rw [decide_eq_false (fun z => absurd c_9 (Int32.not_lt.mpr z)), Bool.and_false]; rfl
                                        refine f_zast X hw hA4 (vp_in_nI (n := k) (by omega) (by omega)) dX8_pass_463 (fun H locs hw => ?_)
                                        rw [nI_clamp (n := k) (by omega)] at hw
                                        rw [sCa_step hcb] at hw
                                        have hw : fw g ad (fU M 3404 (.inl (gZ g, tHn U, .inl (sCa (sU4 U) (k + 1))))) s H locs := hw
                                        have hS0 : (fU M 3404 (.inl (gZ g, tHn U, .inl (sCa (sU4 U) (k + 1))))) 3000 = some (.inr (9, [.int (tM U), .ref (ad 3001), .ref (ad 3002), .ref (ad 3003)])) := (fU_n (by omega)).trans hS0
                                        have hSh : (fU M 3404 (.inl (gZ g, tHn U, .inl (sCa (sU4 U) (k + 1))))) 3001 = some (.inl (gY g, tHn U, .inr (.inr (.inr (.inr fHh))))) := (fU_n (by omega)).trans hSh
                                        have hSe : (fU M 3404 (.inl (gZ g, tHn U, .inl (sCa (sU4 U) (k + 1))))) 3002 = some (.inl (gW g, tEn U, .inr (.inr (.inr (.inr fEe))))) := (fU_n (by omega)).trans hSe
                                        have hSp : (fU M 3404 (.inl (gZ g, tHn U, .inl (sCa (sU4 U) (k + 1))))) 3003 = some (.inl (gQ g, tPn U, .inr (.inr (.inr (.inr fPp))))) := (fU_n (by omega)).trans hSp
                                        have hA4 : (fU M 3404 (.inl (gZ g, tHn U, .inl (sCa (sU4 U) (k + 1))))) 3404 = some (.inl (gZ g, tHn U, .inl (sCa (sU4 U) (k + 1)))) := fU_s
                                        refine lv_iinc (v := nI (k + 1)) (lv' := [(4, .int (nI (k + 1))), (3, .int 0), (2, .ref (ad 3404)), (0, .ref (ad 3000))]) hx hb dX8_pass_464 hl (k := 0) rfl (nI_1 k) (by decide) rfl (fun ls hl => ?_)
                                        refine lv_goto (tgt := 402) hx hb dX8_pass_467 (by decide) ?_
                                        have hS2 : isSim g ad (fU M 3404 (.inl (gZ g, tHn U, .inl (sCa (sU4 U) (k + 1))))) (sU4 U) := isSim_eq hS (fun l a b => ⟨rfl, fU_n (by omega)⟩)
                                        exact ih (k + 1) (by omega) (by omega) _ hS2 hA4 (fReg_U (hrA) (by omega)) ls _ _ hw (lv_sub hl [0, 1, 2, 3] rfl)
                                      · refine lv_iconst (v := 1) hx hb dX8_pass_458 (by decide) ?_
                                        refine lv_goto (tgt := 463) hx hb dX8_pass_459 (by decide) ?_
                                        have hcb : (1 : Int32) = bI (sCat (sU4 U) k) := by unfold sCat; rw [decide_eq_true c_8, decide_eq_true (show _ ≤ _ from Int32.not_lt.mp c_9)]; rfl
                                        refine f_zast X hw hA4 (vp_in_nI (n := k) (by omega) (by omega)) dX8_pass_463 (fun H locs hw => ?_)
                                        rw [nI_clamp (n := k) (by omega)] at hw
                                        rw [sCa_step hcb] at hw
                                        have hw : fw g ad (fU M 3404 (.inl (gZ g, tHn U, .inl (sCa (sU4 U) (k + 1))))) s H locs := hw
                                        have hS0 : (fU M 3404 (.inl (gZ g, tHn U, .inl (sCa (sU4 U) (k + 1))))) 3000 = some (.inr (9, [.int (tM U), .ref (ad 3001), .ref (ad 3002), .ref (ad 3003)])) := (fU_n (by omega)).trans hS0
                                        have hSh : (fU M 3404 (.inl (gZ g, tHn U, .inl (sCa (sU4 U) (k + 1))))) 3001 = some (.inl (gY g, tHn U, .inr (.inr (.inr (.inr fHh))))) := (fU_n (by omega)).trans hSh
                                        have hSe : (fU M 3404 (.inl (gZ g, tHn U, .inl (sCa (sU4 U) (k + 1))))) 3002 = some (.inl (gW g, tEn U, .inr (.inr (.inr (.inr fEe))))) := (fU_n (by omega)).trans hSe
                                        have hSp : (fU M 3404 (.inl (gZ g, tHn U, .inl (sCa (sU4 U) (k + 1))))) 3003 = some (.inl (gQ g, tPn U, .inr (.inr (.inr (.inr fPp))))) := (fU_n (by omega)).trans hSp
                                        have hA4 : (fU M 3404 (.inl (gZ g, tHn U, .inl (sCa (sU4 U) (k + 1))))) 3404 = some (.inl (gZ g, tHn U, .inl (sCa (sU4 U) (k + 1)))) := fU_s
                                        refine lv_iinc (v := nI (k + 1)) (lv' := [(4, .int (nI (k + 1))), (3, .int 0), (2, .ref (ad 3404)), (0, .ref (ad 3000))]) hx hb dX8_pass_464 hl (k := 0) rfl (nI_1 k) (by decide) rfl (fun ls hl => ?_)
                                        refine lv_goto (tgt := 402) hx hb dX8_pass_467 (by decide) ?_
                                        have hS2 : isSim g ad (fU M 3404 (.inl (gZ g, tHn U, .inl (sCa (sU4 U) (k + 1))))) (sU4 U) := isSim_eq hS (fun l a b => ⟨rfl, fU_n (by omega)⟩)
                                        exact ih (k + 1) (by omega) (by omega) _ hS2 hA4 (fReg_U (hrA) (by omega)) ls _ _ hw (lv_sub hl [0, 1, 2, 3] rfl)
                              exact loop402 (tHn U + 1) 0 (by omega) (by omega) M hS (by rw [sCa_0]; exact hA4) hrA ls _ _ hw (lv_sub hl [0, 1, 2, 3] rfl)
                            refine f_newZ X hw 3404 (by omega) wq601 (n := nI (tHn U)) (N' := tHn U) (nI_pos (by omega)) (nI_clamp (by omega)) (by show tHn U * 1 ≤ 536870912; omega) (by dsimp only [fR]; omega) (by dsimp only [fR]; omega) dX8_pass_394 (fun q9 H hw => ?_)
                            have hS5 : isSim g (fV ad 3404 q9) (fU M 3404 (.inl (gZ g, tHn U, .inl (fun _ => 0)))) (sU4 U) := isSim_eq hS (fun l a b => ⟨fV_n (by omega), fU_n (by omega)⟩)
                            have h35 : ∀ l, l < 3400 → fV ad 3404 q9 l = ado l := fun l a => (fV_n (by omega)).trans (h34 l a)
                            have e30 : fV ad 3404 q9 3000 = ad 3000 := fV_n (by omega)
                            have eq9 : fV ad 3404 q9 3404 = q9 := fV_s
                            rw [← e30] at hl
                            have hfin := rest396 (fV ad 3404 q9) _ hS5 fU_s (fReg_V hrA (by omega)) h35 ls _ _ hw (lv_sub hl [3] rfl)
                            rw [eq9] at hfin
                            exact hfin
                          · have c_4 := nI_nle' (a := (tHn U)) (b := k) c_4 (by omega) (by omega)
                            refine lv_aload_n hx hb dX8_pass_253 rfl (lv_at hl 2 rfl) ?_
                            refine lv_iload hx hb dX8_pass_254 (lv_at hl 0 rfl) ?_
                            refine f_aaldY X hw hSh (vp_in_nI (n := k) (by omega) (by omega)) (q := ad (3100 + k)) (by rw [nI_clamp (by omega)]; exact hSH k (by omega)) dX8_pass_256 ?_
                            refine lv_astore (lv' := [(5, .ref (ad (3100 + k))), (4, .int (nI k)), (3, .int (nI (tHn U))), (2, .ref (ad 3001)), (0, .ref (ad 3000))]) hx hb dX8_pass_257 hl (by decide) rfl (fun ls hl => ?_)
                            refine lv_aload hx hb dX8_pass_259 (lv_at hl 0 rfl) ?_
                            refine lv_dup hx hb dX8_pass_261 rfl ?_
                            refine f_get X hw (hel (by omega)) fc8 6 (by decide) wq727 rfl (v := .int ((tH (sU3 U) k) 6)) rfl dX8_pass_262 ?_
                            refine lv_aload hx hb dX8_pass_265 (lv_at hl 0 rfl) ?_
                            refine f_get X hw (hel (by omega)) fc8 5 (by decide) wq726 rfl (v := .int ((tH (sU3 U) k) 5)) rfl dX8_pass_267 ?_
                            refine lv_iadd hx hb dX8_pass_270 ?_
                            refine f_put X hw (hel (by omega)) fc8 6 (by decide) wq727 rfl rfl (v := .int (((tH (sU3 U) k) 6) + ((tH (sU3 U) k) 5))) rfl rfl (Nat.le_of_ble_eq_true rfl) dX8_pass_271 (fun H locs hw => ?_)
                            have hw : fw g ad (fU M (3100 + k) (.inr (8, hV (upd (tH (sU3 U) k) 6 (((tH (sU3 U) k) 6) + ((tH (sU3 U) k) 5)))))) s H locs := hw
                            have hS0 : (fU M (3100 + k) (.inr (8, hV (upd (tH (sU3 U) k) 6 (((tH (sU3 U) k) 6) + ((tH (sU3 U) k) 5)))))) 3000 = some (.inr (9, [.int (tM U), .ref (ad 3001), .ref (ad 3002), .ref (ad 3003)])) := (fU_n (by omega)).trans hS0
                            have hSh : (fU M (3100 + k) (.inr (8, hV (upd (tH (sU3 U) k) 6 (((tH (sU3 U) k) 6) + ((tH (sU3 U) k) 5)))))) 3001 = some (.inl (gY g, tHn U, .inr (.inr (.inr (.inr fHh))))) := (fU_n (by omega)).trans hSh
                            have hSe : (fU M (3100 + k) (.inr (8, hV (upd (tH (sU3 U) k) 6 (((tH (sU3 U) k) 6) + ((tH (sU3 U) k) 5)))))) 3002 = some (.inl (gW g, tEn U, .inr (.inr (.inr (.inr fEe))))) := (fU_n (by omega)).trans hSe
                            have hSp : (fU M (3100 + k) (.inr (8, hV (upd (tH (sU3 U) k) 6 (((tH (sU3 U) k) 6) + ((tH (sU3 U) k) 5)))))) 3003 = some (.inl (gQ g, tPn U, .inr (.inr (.inr (.inr fPp))))) := (fU_n (by omega)).trans hSp
                            have hM_3100___k : (fU M (3100 + k) (.inr (8, hV (upd (tH (sU3 U) k) 6 (((tH (sU3 U) k) 6) + ((tH (sU3 U) k) 5)))))) (3100 + k) = some (.inr (8, hV (upd (tH (sU3 U) k) 6 (((tH (sU3 U) k) 6) + ((tH (sU3 U) k) 5))))) := fU_s
                            refine lv_aload hx hb dX8_pass_274 (lv_at hl 0 rfl) ?_
                            refine f_get X hw hM_3100___k fc8 3 (by decide) wq723 rfl (v := .int ((tH (sU3 U) k) 3)) rfl dX8_pass_276 ?_
                            refine lv_iconst (v := 1) hx hb dX8_pass_279 (by decide) ?_
                            refine lv_icmp_eq (tgt := 286) hx hb dX8_pass_280 (by decide) (fun c_10 => ?_) (fun c_10 => ?_)
                            · refine lv_aload hx hb dX8_pass_286 (lv_at hl 0 rfl) ?_
                              refine lv_bipush (v := 99) hx hb dX8_pass_288 (by decide) ?_
                              refine lv_aload hx hb dX8_pass_290 (lv_at hl 0 rfl) ?_
                              refine f_get X hw hM_3100___k fc8 4 (by decide) wq725 rfl (v := .int ((tH (sU3 U) k) 4)) rfl dX8_pass_292 ?_
                              refine lv_aload hx hb dX8_pass_295 (lv_at hl 0 rfl) ?_
                              refine f_get X hw hM_3100___k fc8 1 (by decide) wq720 rfl (v := .int ((tH (sU3 U) k) 1)) rfl dX8_pass_297 ?_
                              refine lv_iadd hx hb dX8_pass_300 ?_
                              refine lv_aload hx hb dX8_pass_301 (lv_at hl 0 rfl) ?_
                              refine f_get X hw hM_3100___k fc8 5 (by decide) wq726 rfl (v := .int ((tH (sU3 U) k) 5)) rfl dX8_pass_303 ?_
                              refine lv_iconst (v := 4) hx hb dX8_pass_306 (by decide) ?_
                              refine lv_idiv hx hb dX8_pass_307 (by decide) ?_
                              refine lv_isub hx hb dX8_pass_308 ?_
                              refine va_mmin hx hb (X.2.2.1.trans hl.1.symm) X.2.2.2.1 (X.2.2.2.2.1 _ wq593) (X.2.2.2.2.1 _ wq287) (X.2.2.2.2.1 _ wq18) (X.2.2.2.2.1 _ wq288) (Nat.le_of_ble_eq_true rfl) (Nat.le_of_ble_eq_true rfl) (by dsimp only [fR]; omega) (by dsimp only [fR]; omega) dX8_pass_309 ?_
                              refine f_top (y := iMin 99 (tH (sU3 U) k 4 + tH (sU3 U) k 1 - tH (sU3 U) k 5 / 4)) rfl ?_
                              refine f_put X hw hM_3100___k fc8 4 (by decide) wq725 rfl rfl (v := .int (iMin 99 (tH (sU3 U) k 4 + tH (sU3 U) k 1 - tH (sU3 U) k 5 / 4))) rfl rfl (Nat.le_of_ble_eq_true rfl) dX8_pass_312 (fun H locs hw => ?_)
                              have hw : fw g ad (fU (fU M (3100 + k) (.inr (8, hV (upd (tH (sU3 U) k) 6 (((tH (sU3 U) k) 6) + ((tH (sU3 U) k) 5)))))) (3100 + k) (.inr (8, hV (upd (upd (tH (sU3 U) k) 6 (((tH (sU3 U) k) 6) + ((tH (sU3 U) k) 5))) 4 (iMin 99 (tH (sU3 U) k 4 + tH (sU3 U) k 1 - tH (sU3 U) k 5 / 4)))))) s H locs := hw
                              rw [fU_U] at hw
                              have hS0 : (fU M (3100 + k) (.inr (8, hV (upd (upd (tH (sU3 U) k) 6 (((tH (sU3 U) k) 6) + ((tH (sU3 U) k) 5))) 4 (iMin 99 (tH (sU3 U) k 4 + tH (sU3 U) k 1 - tH (sU3 U) k 5 / 4)))))) 3000 = some (.inr (9, [.int (tM U), .ref (ad 3001), .ref (ad 3002), .ref (ad 3003)])) := ((fU_n (by omega)).trans (fU_n (by omega)).symm).trans hS0
                              have hSh : (fU M (3100 + k) (.inr (8, hV (upd (upd (tH (sU3 U) k) 6 (((tH (sU3 U) k) 6) + ((tH (sU3 U) k) 5))) 4 (iMin 99 (tH (sU3 U) k 4 + tH (sU3 U) k 1 - tH (sU3 U) k 5 / 4)))))) 3001 = some (.inl (gY g, tHn U, .inr (.inr (.inr (.inr fHh))))) := ((fU_n (by omega)).trans (fU_n (by omega)).symm).trans hSh
                              have hSe : (fU M (3100 + k) (.inr (8, hV (upd (upd (tH (sU3 U) k) 6 (((tH (sU3 U) k) 6) + ((tH (sU3 U) k) 5))) 4 (iMin 99 (tH (sU3 U) k 4 + tH (sU3 U) k 1 - tH (sU3 U) k 5 / 4)))))) 3002 = some (.inl (gW g, tEn U, .inr (.inr (.inr (.inr fEe))))) := ((fU_n (by omega)).trans (fU_n (by omega)).symm).trans hSe
                              have hSp : (fU M (3100 + k) (.inr (8, hV (upd (upd (tH (sU3 U) k) 6 (((tH (sU3 U) k) 6) + ((tH (sU3 U) k) 5))) 4 (iMin 99 (tH (sU3 U) k 4 + tH (sU3 U) k 1 - tH (sU3 U) k 5 / 4)))))) 3003 = some (.inl (gQ g, tPn U, .inr (.inr (.inr (.inr fPp))))) := ((fU_n (by omega)).trans (fU_n (by omega)).symm).trans hSp
                              have hM_3100___k : (fU M (3100 + k) (.inr (8, hV (upd (upd (tH (sU3 U) k) 6 (((tH (sU3 U) k) 6) + ((tH (sU3 U) k) 5))) 4 (iMin 99 (tH (sU3 U) k 4 + tH (sU3 U) k 1 - tH (sU3 U) k 5 / 4)))))) (3100 + k) = some (.inr (8, hV (upd (upd (tH (sU3 U) k) 6 (((tH (sU3 U) k) 6) + ((tH (sU3 U) k) 5))) 4 (iMin 99 (tH (sU3 U) k 4 + tH (sU3 U) k 1 - tH (sU3 U) k 5 / 4))))) := fU_s
                              refine lv_aload hx hb dX8_pass_315 (lv_at hl 0 rfl) ?_
                              refine f_get X hw hM_3100___k fc8 4 (by decide) wq725 rfl (v := .int (iMin 99 (tH (sU3 U) k 4 + tH (sU3 U) k 1 - tH (sU3 U) k 5 / 4))) rfl dX8_pass_317 ?_
                              refine lv_if_gt (tgt := 338) hx hb dX8_pass_320 (by decide) (fun c_11 => ?_) (fun c_11 => ?_)
                              · refine lv_aload hx hb dX8_pass_338 (lv_at hl 0 rfl) ?_
                                refine lv_iconst (v := 0) hx hb dX8_pass_340 (by decide) ?_
                                refine lv_aload hx hb dX8_pass_341 (lv_at hl 0 rfl) ?_
                                refine f_get X hw hM_3100___k fc8 2 (by decide) wq721 rfl (v := .int ((tH (sU3 U) k) 2)) rfl dX8_pass_343 ?_
                                refine lv_iconst (v := 1) hx hb dX8_pass_346 (by decide) ?_
                                refine lv_isub hx hb dX8_pass_347 ?_
                                refine lv_aload hx hb dX8_pass_348 (lv_at hl 0 rfl) ?_
                                refine f_get X hw hM_3100___k fc8 4 (by decide) wq725 rfl (v := .int (iMin 99 (tH (sU3 U) k 4 + tH (sU3 U) k 1 - tH (sU3 U) k 5 / 4))) rfl dX8_pass_350 ?_
                                refine lv_bipush (v := 25) hx hb dX8_pass_353 (by decide) ?_
                                refine lv_idiv hx hb dX8_pass_355 (by decide) ?_
                                refine lv_isub hx hb dX8_pass_356 ?_
                                refine va_mmax hx hb (X.2.2.1.trans hl.1.symm) X.2.2.2.1 (X.2.2.2.2.1 _ wq575) (X.2.2.2.2.1 _ wq290) (X.2.2.2.2.1 _ wq18) (X.2.2.2.2.1 _ wq291) (Nat.le_of_ble_eq_true rfl) (Nat.le_of_ble_eq_true rfl) (by dsimp only [fR]; omega) (by dsimp only [fR]; omega) dX8_pass_357 ?_
                                refine f_top (y := iMax 0 (tH (sU3 U) k 2 - 1 - (iMin 99 (tH (sU3 U) k 4 + tH (sU3 U) k 1 - tH (sU3 U) k 5 / 4)) / 25)) rfl ?_
                                refine f_put X hw hM_3100___k fc8 2 (by decide) wq721 rfl rfl (v := .int (iMax 0 (tH (sU3 U) k 2 - 1 - (iMin 99 (tH (sU3 U) k 4 + tH (sU3 U) k 1 - tH (sU3 U) k 5 / 4)) / 25))) rfl rfl (Nat.le_of_ble_eq_true rfl) dX8_pass_360 (fun H locs hw => ?_)
                                have hw : fw g ad (fU (fU M (3100 + k) (.inr (8, hV (upd (upd (tH (sU3 U) k) 6 (((tH (sU3 U) k) 6) + ((tH (sU3 U) k) 5))) 4 (iMin 99 (tH (sU3 U) k 4 + tH (sU3 U) k 1 - tH (sU3 U) k 5 / 4)))))) (3100 + k) (.inr (8, hV (upd (upd (upd (tH (sU3 U) k) 6 (((tH (sU3 U) k) 6) + ((tH (sU3 U) k) 5))) 4 (iMin 99 (tH (sU3 U) k 4 + tH (sU3 U) k 1 - tH (sU3 U) k 5 / 4))) 2 (iMax 0 (tH (sU3 U) k 2 - 1 - (iMin 99 (tH (sU3 U) k 4 + tH (sU3 U) k 1 - tH (sU3 U) k 5 / 4)) / 25)))))) s H locs := hw
                                rw [fU_U] at hw
                                have hS0 : (fU M (3100 + k) (.inr (8, hV (upd (upd (upd (tH (sU3 U) k) 6 (((tH (sU3 U) k) 6) + ((tH (sU3 U) k) 5))) 4 (iMin 99 (tH (sU3 U) k 4 + tH (sU3 U) k 1 - tH (sU3 U) k 5 / 4))) 2 (iMax 0 (tH (sU3 U) k 2 - 1 - (iMin 99 (tH (sU3 U) k 4 + tH (sU3 U) k 1 - tH (sU3 U) k 5 / 4)) / 25)))))) 3000 = some (.inr (9, [.int (tM U), .ref (ad 3001), .ref (ad 3002), .ref (ad 3003)])) := ((fU_n (by omega)).trans (fU_n (by omega)).symm).trans hS0
                                have hSh : (fU M (3100 + k) (.inr (8, hV (upd (upd (upd (tH (sU3 U) k) 6 (((tH (sU3 U) k) 6) + ((tH (sU3 U) k) 5))) 4 (iMin 99 (tH (sU3 U) k 4 + tH (sU3 U) k 1 - tH (sU3 U) k 5 / 4))) 2 (iMax 0 (tH (sU3 U) k 2 - 1 - (iMin 99 (tH (sU3 U) k 4 + tH (sU3 U) k 1 - tH (sU3 U) k 5 / 4)) / 25)))))) 3001 = some (.inl (gY g, tHn U, .inr (.inr (.inr (.inr fHh))))) := ((fU_n (by omega)).trans (fU_n (by omega)).symm).trans hSh
                                have hSe : (fU M (3100 + k) (.inr (8, hV (upd (upd (upd (tH (sU3 U) k) 6 (((tH (sU3 U) k) 6) + ((tH (sU3 U) k) 5))) 4 (iMin 99 (tH (sU3 U) k 4 + tH (sU3 U) k 1 - tH (sU3 U) k 5 / 4))) 2 (iMax 0 (tH (sU3 U) k 2 - 1 - (iMin 99 (tH (sU3 U) k 4 + tH (sU3 U) k 1 - tH (sU3 U) k 5 / 4)) / 25)))))) 3002 = some (.inl (gW g, tEn U, .inr (.inr (.inr (.inr fEe))))) := ((fU_n (by omega)).trans (fU_n (by omega)).symm).trans hSe
                                have hSp : (fU M (3100 + k) (.inr (8, hV (upd (upd (upd (tH (sU3 U) k) 6 (((tH (sU3 U) k) 6) + ((tH (sU3 U) k) 5))) 4 (iMin 99 (tH (sU3 U) k 4 + tH (sU3 U) k 1 - tH (sU3 U) k 5 / 4))) 2 (iMax 0 (tH (sU3 U) k 2 - 1 - (iMin 99 (tH (sU3 U) k 4 + tH (sU3 U) k 1 - tH (sU3 U) k 5 / 4)) / 25)))))) 3003 = some (.inl (gQ g, tPn U, .inr (.inr (.inr (.inr fPp))))) := ((fU_n (by omega)).trans (fU_n (by omega)).symm).trans hSp
                                have hM_3100___k : (fU M (3100 + k) (.inr (8, hV (upd (upd (upd (tH (sU3 U) k) 6 (((tH (sU3 U) k) 6) + ((tH (sU3 U) k) 5))) 4 (iMin 99 (tH (sU3 U) k 4 + tH (sU3 U) k 1 - tH (sU3 U) k 5 / 4))) 2 (iMax 0 (tH (sU3 U) k 2 - 1 - (iMin 99 (tH (sU3 U) k 4 + tH (sU3 U) k 1 - tH (sU3 U) k 5 / 4)) / 25)))))) (3100 + k) = some (.inr (8, hV (upd (upd (upd (tH (sU3 U) k) 6 (((tH (sU3 U) k) 6) + ((tH (sU3 U) k) 5))) 4 (iMin 99 (tH (sU3 U) k 4 + tH (sU3 U) k 1 - tH (sU3 U) k 5 / 4))) 2 (iMax 0 (tH (sU3 U) k 2 - 1 - (iMin 99 (tH (sU3 U) k 4 + tH (sU3 U) k 1 - tH (sU3 U) k 5 / 4)) / 25))))) := fU_s
                                refine lv_aload hx hb dX8_pass_363 (lv_at hl 0 rfl) ?_
                                refine f_get X hw hM_3100___k fc8 2 (by decide) wq721 rfl (v := .int (iMax 0 (tH (sU3 U) k 2 - 1 - (iMin 99 (tH (sU3 U) k 4 + tH (sU3 U) k 1 - tH (sU3 U) k 5 / 4)) / 25))) rfl dX8_pass_365 ?_
                                refine lv_if_ne (tgt := 383) hx hb dX8_pass_368 (by decide) (fun c_12 => ?_) (fun c_12 => ?_)
                                · refine lv_iinc (v := nI (k + 1)) (lv' := [(4, .int (nI (k + 1))), (5, .ref (ad (3100 + k))), (3, .int (nI (tHn U))), (2, .ref (ad 3001)), (0, .ref (ad 3000))]) hx hb dX8_pass_383 hl (k := 1) rfl (nI_1 k) (by decide) rfl (fun ls hl => ?_)
                                  refine lv_goto (tgt := 247) hx hb dX8_pass_386 (by decide) ?_
                                  have eF : upd (upd (upd (tH (sU3 U) k) 6 (((tH (sU3 U) k) 6) + ((tH (sU3 U) k) 5))) 4 (iMin 99 (tH (sU3 U) k 4 + tH (sU3 U) k 1 - tH (sU3 U) k 5 / 4))) 2 (iMax 0 (tH (sU3 U) k 2 - 1 - (iMin 99 (tH (sU3 U) k 4 + tH (sU3 U) k 1 - tH (sU3 U) k 5 / 4)) / 25)) = sBr (tH (sU3 U) k) := Eq.symm ((if_pos c_10).trans ((if_pos c_11).trans (if_neg c_12)))
                                  have hS2 := isSim_H (j := k) (f := upd (upd (upd (tH (sU3 U) k) 6 (((tH (sU3 U) k) 6) + ((tH (sU3 U) k) 5))) 4 (iMin 99 (tH (sU3 U) k 4 + tH (sU3 U) k 1 - tH (sU3 U) k 5 / 4))) 2 (iMax 0 (tH (sU3 U) k 2 - 1 - (iMin 99 (tH (sU3 U) k 4 + tH (sU3 U) k 1 - tH (sU3 U) k 5 / 4)) / 25))) hS (by show k < tHn (qV (sQ U)); rw [hnq.2.2.1]; omega)
                                  have eU : sH (mH sBr k (sU3 U)) k (upd (upd (upd (tH (sU3 U) k) 6 (((tH (sU3 U) k) 6) + ((tH (sU3 U) k) 5))) 4 (iMin 99 (tH (sU3 U) k 4 + tH (sU3 U) k 1 - tH (sU3 U) k 5 / 4))) 2 (iMax 0 (tH (sU3 U) k 2 - 1 - (iMin 99 (tH (sU3 U) k 4 + tH (sU3 U) k 1 - tH (sU3 U) k 5 / 4)) / 25))) = mH sBr (k + 1) (sU3 U) := by rw [eF]; exact mH_step
                                  rw [eU] at hS2
                                  exact ih (k + 1) (by omega) (by omega) _ hS2 (fReg_U (hrA) (by omega)) ls _ _ hw (lv_sub hl [0, 2, 3, 4] rfl)
                                · refine lv_aload hx hb dX8_pass_371 (lv_at hl 0 rfl) ?_
                                  refine lv_iconst (v := 3) hx hb dX8_pass_373 (by decide) ?_
                                  refine f_put X hw hM_3100___k fc8 3 (by decide) wq723 rfl rfl (v := .int 3) rfl rfl (Nat.le_of_ble_eq_true rfl) dX8_pass_374 (fun H locs hw => ?_)
                                  have hw : fw g ad (fU (fU M (3100 + k) (.inr (8, hV (upd (upd (upd (tH (sU3 U) k) 6 (((tH (sU3 U) k) 6) + ((tH (sU3 U) k) 5))) 4 (iMin 99 (tH (sU3 U) k 4 + tH (sU3 U) k 1 - tH (sU3 U) k 5 / 4))) 2 (iMax 0 (tH (sU3 U) k 2 - 1 - (iMin 99 (tH (sU3 U) k 4 + tH (sU3 U) k 1 - tH (sU3 U) k 5 / 4)) / 25)))))) (3100 + k) (.inr (8, hV (upd (upd (upd (upd (tH (sU3 U) k) 6 (((tH (sU3 U) k) 6) + ((tH (sU3 U) k) 5))) 4 (iMin 99 (tH (sU3 U) k 4 + tH (sU3 U) k 1 - tH (sU3 U) k 5 / 4))) 2 (iMax 0 (tH (sU3 U) k 2 - 1 - (iMin 99 (tH (sU3 U) k 4 + tH (sU3 U) k 1 - tH (sU3 U) k 5 / 4)) / 25))) 3 3)))) s H locs := hw
                                  rw [fU_U] at hw
                                  have hS0 : (fU M (3100 + k) (.inr (8, hV (upd (upd (upd (upd (tH (sU3 U) k) 6 (((tH (sU3 U) k) 6) + ((tH (sU3 U) k) 5))) 4 (iMin 99 (tH (sU3 U) k 4 + tH (sU3 U) k 1 - tH (sU3 U) k 5 / 4))) 2 (iMax 0 (tH (sU3 U) k 2 - 1 - (iMin 99 (tH (sU3 U) k 4 + tH (sU3 U) k 1 - tH (sU3 U) k 5 / 4)) / 25))) 3 3)))) 3000 = some (.inr (9, [.int (tM U), .ref (ad 3001), .ref (ad 3002), .ref (ad 3003)])) := ((fU_n (by omega)).trans (fU_n (by omega)).symm).trans hS0
                                  have hSh : (fU M (3100 + k) (.inr (8, hV (upd (upd (upd (upd (tH (sU3 U) k) 6 (((tH (sU3 U) k) 6) + ((tH (sU3 U) k) 5))) 4 (iMin 99 (tH (sU3 U) k 4 + tH (sU3 U) k 1 - tH (sU3 U) k 5 / 4))) 2 (iMax 0 (tH (sU3 U) k 2 - 1 - (iMin 99 (tH (sU3 U) k 4 + tH (sU3 U) k 1 - tH (sU3 U) k 5 / 4)) / 25))) 3 3)))) 3001 = some (.inl (gY g, tHn U, .inr (.inr (.inr (.inr fHh))))) := ((fU_n (by omega)).trans (fU_n (by omega)).symm).trans hSh
                                  have hSe : (fU M (3100 + k) (.inr (8, hV (upd (upd (upd (upd (tH (sU3 U) k) 6 (((tH (sU3 U) k) 6) + ((tH (sU3 U) k) 5))) 4 (iMin 99 (tH (sU3 U) k 4 + tH (sU3 U) k 1 - tH (sU3 U) k 5 / 4))) 2 (iMax 0 (tH (sU3 U) k 2 - 1 - (iMin 99 (tH (sU3 U) k 4 + tH (sU3 U) k 1 - tH (sU3 U) k 5 / 4)) / 25))) 3 3)))) 3002 = some (.inl (gW g, tEn U, .inr (.inr (.inr (.inr fEe))))) := ((fU_n (by omega)).trans (fU_n (by omega)).symm).trans hSe
                                  have hSp : (fU M (3100 + k) (.inr (8, hV (upd (upd (upd (upd (tH (sU3 U) k) 6 (((tH (sU3 U) k) 6) + ((tH (sU3 U) k) 5))) 4 (iMin 99 (tH (sU3 U) k 4 + tH (sU3 U) k 1 - tH (sU3 U) k 5 / 4))) 2 (iMax 0 (tH (sU3 U) k 2 - 1 - (iMin 99 (tH (sU3 U) k 4 + tH (sU3 U) k 1 - tH (sU3 U) k 5 / 4)) / 25))) 3 3)))) 3003 = some (.inl (gQ g, tPn U, .inr (.inr (.inr (.inr fPp))))) := ((fU_n (by omega)).trans (fU_n (by omega)).symm).trans hSp
                                  have hM_3100___k : (fU M (3100 + k) (.inr (8, hV (upd (upd (upd (upd (tH (sU3 U) k) 6 (((tH (sU3 U) k) 6) + ((tH (sU3 U) k) 5))) 4 (iMin 99 (tH (sU3 U) k 4 + tH (sU3 U) k 1 - tH (sU3 U) k 5 / 4))) 2 (iMax 0 (tH (sU3 U) k 2 - 1 - (iMin 99 (tH (sU3 U) k 4 + tH (sU3 U) k 1 - tH (sU3 U) k 5 / 4)) / 25))) 3 3)))) (3100 + k) = some (.inr (8, hV (upd (upd (upd (upd (tH (sU3 U) k) 6 (((tH (sU3 U) k) 6) + ((tH (sU3 U) k) 5))) 4 (iMin 99 (tH (sU3 U) k 4 + tH (sU3 U) k 1 - tH (sU3 U) k 5 / 4))) 2 (iMax 0 (tH (sU3 U) k 2 - 1 - (iMin 99 (tH (sU3 U) k 4 + tH (sU3 U) k 1 - tH (sU3 U) k 5 / 4)) / 25))) 3 3))) := fU_s
                                  refine lv_aload hx hb dX8_pass_377 (lv_at hl 0 rfl) ?_
                                  refine lv_iconst (v := 0) hx hb dX8_pass_379 (by decide) ?_
                                  refine f_put X hw hM_3100___k fc8 4 (by decide) wq725 rfl rfl (v := .int 0) rfl rfl (Nat.le_of_ble_eq_true rfl) dX8_pass_380 (fun H locs hw => ?_)
                                  have hw : fw g ad (fU (fU M (3100 + k) (.inr (8, hV (upd (upd (upd (upd (tH (sU3 U) k) 6 (((tH (sU3 U) k) 6) + ((tH (sU3 U) k) 5))) 4 (iMin 99 (tH (sU3 U) k 4 + tH (sU3 U) k 1 - tH (sU3 U) k 5 / 4))) 2 (iMax 0 (tH (sU3 U) k 2 - 1 - (iMin 99 (tH (sU3 U) k 4 + tH (sU3 U) k 1 - tH (sU3 U) k 5 / 4)) / 25))) 3 3)))) (3100 + k) (.inr (8, hV (upd (upd (upd (upd (upd (tH (sU3 U) k) 6 (((tH (sU3 U) k) 6) + ((tH (sU3 U) k) 5))) 4 (iMin 99 (tH (sU3 U) k 4 + tH (sU3 U) k 1 - tH (sU3 U) k 5 / 4))) 2 (iMax 0 (tH (sU3 U) k 2 - 1 - (iMin 99 (tH (sU3 U) k 4 + tH (sU3 U) k 1 - tH (sU3 U) k 5 / 4)) / 25))) 3 3) 4 0)))) s H locs := hw
                                  rw [fU_U] at hw
                                  have hS0 : (fU M (3100 + k) (.inr (8, hV (upd (upd (upd (upd (upd (tH (sU3 U) k) 6 (((tH (sU3 U) k) 6) + ((tH (sU3 U) k) 5))) 4 (iMin 99 (tH (sU3 U) k 4 + tH (sU3 U) k 1 - tH (sU3 U) k 5 / 4))) 2 (iMax 0 (tH (sU3 U) k 2 - 1 - (iMin 99 (tH (sU3 U) k 4 + tH (sU3 U) k 1 - tH (sU3 U) k 5 / 4)) / 25))) 3 3) 4 0)))) 3000 = some (.inr (9, [.int (tM U), .ref (ad 3001), .ref (ad 3002), .ref (ad 3003)])) := ((fU_n (by omega)).trans (fU_n (by omega)).symm).trans hS0
                                  have hSh : (fU M (3100 + k) (.inr (8, hV (upd (upd (upd (upd (upd (tH (sU3 U) k) 6 (((tH (sU3 U) k) 6) + ((tH (sU3 U) k) 5))) 4 (iMin 99 (tH (sU3 U) k 4 + tH (sU3 U) k 1 - tH (sU3 U) k 5 / 4))) 2 (iMax 0 (tH (sU3 U) k 2 - 1 - (iMin 99 (tH (sU3 U) k 4 + tH (sU3 U) k 1 - tH (sU3 U) k 5 / 4)) / 25))) 3 3) 4 0)))) 3001 = some (.inl (gY g, tHn U, .inr (.inr (.inr (.inr fHh))))) := ((fU_n (by omega)).trans (fU_n (by omega)).symm).trans hSh
                                  have hSe : (fU M (3100 + k) (.inr (8, hV (upd (upd (upd (upd (upd (tH (sU3 U) k) 6 (((tH (sU3 U) k) 6) + ((tH (sU3 U) k) 5))) 4 (iMin 99 (tH (sU3 U) k 4 + tH (sU3 U) k 1 - tH (sU3 U) k 5 / 4))) 2 (iMax 0 (tH (sU3 U) k 2 - 1 - (iMin 99 (tH (sU3 U) k 4 + tH (sU3 U) k 1 - tH (sU3 U) k 5 / 4)) / 25))) 3 3) 4 0)))) 3002 = some (.inl (gW g, tEn U, .inr (.inr (.inr (.inr fEe))))) := ((fU_n (by omega)).trans (fU_n (by omega)).symm).trans hSe
                                  have hSp : (fU M (3100 + k) (.inr (8, hV (upd (upd (upd (upd (upd (tH (sU3 U) k) 6 (((tH (sU3 U) k) 6) + ((tH (sU3 U) k) 5))) 4 (iMin 99 (tH (sU3 U) k 4 + tH (sU3 U) k 1 - tH (sU3 U) k 5 / 4))) 2 (iMax 0 (tH (sU3 U) k 2 - 1 - (iMin 99 (tH (sU3 U) k 4 + tH (sU3 U) k 1 - tH (sU3 U) k 5 / 4)) / 25))) 3 3) 4 0)))) 3003 = some (.inl (gQ g, tPn U, .inr (.inr (.inr (.inr fPp))))) := ((fU_n (by omega)).trans (fU_n (by omega)).symm).trans hSp
                                  have hM_3100___k : (fU M (3100 + k) (.inr (8, hV (upd (upd (upd (upd (upd (tH (sU3 U) k) 6 (((tH (sU3 U) k) 6) + ((tH (sU3 U) k) 5))) 4 (iMin 99 (tH (sU3 U) k 4 + tH (sU3 U) k 1 - tH (sU3 U) k 5 / 4))) 2 (iMax 0 (tH (sU3 U) k 2 - 1 - (iMin 99 (tH (sU3 U) k 4 + tH (sU3 U) k 1 - tH (sU3 U) k 5 / 4)) / 25))) 3 3) 4 0)))) (3100 + k) = some (.inr (8, hV (upd (upd (upd (upd (upd (tH (sU3 U) k) 6 (((tH (sU3 U) k) 6) + ((tH (sU3 U) k) 5))) 4 (iMin 99 (tH (sU3 U) k 4 + tH (sU3 U) k 1 - tH (sU3 U) k 5 / 4))) 2 (iMax 0 (tH (sU3 U) k 2 - 1 - (iMin 99 (tH (sU3 U) k 4 + tH (sU3 U) k 1 - tH (sU3 U) k 5 / 4)) / 25))) 3 3) 4 0))) := fU_s
                                  refine lv_iinc (v := nI (k + 1)) (lv' := [(4, .int (nI (k + 1))), (5, .ref (ad (3100 + k))), (3, .int (nI (tHn U))), (2, .ref (ad 3001)), (0, .ref (ad 3000))]) hx hb dX8_pass_383 hl (k := 1) rfl (nI_1 k) (by decide) rfl (fun ls hl => ?_)
                                  refine lv_goto (tgt := 247) hx hb dX8_pass_386 (by decide) ?_
                                  have eF : upd (upd (upd (upd (upd (tH (sU3 U) k) 6 (((tH (sU3 U) k) 6) + ((tH (sU3 U) k) 5))) 4 (iMin 99 (tH (sU3 U) k 4 + tH (sU3 U) k 1 - tH (sU3 U) k 5 / 4))) 2 (iMax 0 (tH (sU3 U) k 2 - 1 - (iMin 99 (tH (sU3 U) k 4 + tH (sU3 U) k 1 - tH (sU3 U) k 5 / 4)) / 25))) 3 3) 4 0 = sBr (tH (sU3 U) k) := Eq.symm ((if_pos c_10).trans ((if_pos c_11).trans (if_pos c_12)))
                                  have hS2 := isSim_H (j := k) (f := upd (upd (upd (upd (upd (tH (sU3 U) k) 6 (((tH (sU3 U) k) 6) + ((tH (sU3 U) k) 5))) 4 (iMin 99 (tH (sU3 U) k 4 + tH (sU3 U) k 1 - tH (sU3 U) k 5 / 4))) 2 (iMax 0 (tH (sU3 U) k 2 - 1 - (iMin 99 (tH (sU3 U) k 4 + tH (sU3 U) k 1 - tH (sU3 U) k 5 / 4)) / 25))) 3 3) 4 0) hS (by show k < tHn (qV (sQ U)); rw [hnq.2.2.1]; omega)
                                  have eU : sH (mH sBr k (sU3 U)) k (upd (upd (upd (upd (upd (tH (sU3 U) k) 6 (((tH (sU3 U) k) 6) + ((tH (sU3 U) k) 5))) 4 (iMin 99 (tH (sU3 U) k 4 + tH (sU3 U) k 1 - tH (sU3 U) k 5 / 4))) 2 (iMax 0 (tH (sU3 U) k 2 - 1 - (iMin 99 (tH (sU3 U) k 4 + tH (sU3 U) k 1 - tH (sU3 U) k 5 / 4)) / 25))) 3 3) 4 0) = mH sBr (k + 1) (sU3 U) := by rw [eF]; exact mH_step
                                  rw [eU] at hS2
                                  exact ih (k + 1) (by omega) (by omega) _ hS2 (fReg_U (hrA) (by omega)) ls _ _ hw (lv_sub hl [0, 2, 3, 4] rfl)
                              · refine lv_aload hx hb dX8_pass_323 (lv_at hl 0 rfl) ?_
                                refine lv_iconst (v := 2) hx hb dX8_pass_325 (by decide) ?_
                                refine f_put X hw hM_3100___k fc8 3 (by decide) wq723 rfl rfl (v := .int 2) rfl rfl (Nat.le_of_ble_eq_true rfl) dX8_pass_326 (fun H locs hw => ?_)
                                have hw : fw g ad (fU (fU M (3100 + k) (.inr (8, hV (upd (upd (tH (sU3 U) k) 6 (((tH (sU3 U) k) 6) + ((tH (sU3 U) k) 5))) 4 (iMin 99 (tH (sU3 U) k 4 + tH (sU3 U) k 1 - tH (sU3 U) k 5 / 4)))))) (3100 + k) (.inr (8, hV (upd (upd (upd (tH (sU3 U) k) 6 (((tH (sU3 U) k) 6) + ((tH (sU3 U) k) 5))) 4 (iMin 99 (tH (sU3 U) k 4 + tH (sU3 U) k 1 - tH (sU3 U) k 5 / 4))) 3 2)))) s H locs := hw
                                rw [fU_U] at hw
                                have hS0 : (fU M (3100 + k) (.inr (8, hV (upd (upd (upd (tH (sU3 U) k) 6 (((tH (sU3 U) k) 6) + ((tH (sU3 U) k) 5))) 4 (iMin 99 (tH (sU3 U) k 4 + tH (sU3 U) k 1 - tH (sU3 U) k 5 / 4))) 3 2)))) 3000 = some (.inr (9, [.int (tM U), .ref (ad 3001), .ref (ad 3002), .ref (ad 3003)])) := ((fU_n (by omega)).trans (fU_n (by omega)).symm).trans hS0
                                have hSh : (fU M (3100 + k) (.inr (8, hV (upd (upd (upd (tH (sU3 U) k) 6 (((tH (sU3 U) k) 6) + ((tH (sU3 U) k) 5))) 4 (iMin 99 (tH (sU3 U) k 4 + tH (sU3 U) k 1 - tH (sU3 U) k 5 / 4))) 3 2)))) 3001 = some (.inl (gY g, tHn U, .inr (.inr (.inr (.inr fHh))))) := ((fU_n (by omega)).trans (fU_n (by omega)).symm).trans hSh
                                have hSe : (fU M (3100 + k) (.inr (8, hV (upd (upd (upd (tH (sU3 U) k) 6 (((tH (sU3 U) k) 6) + ((tH (sU3 U) k) 5))) 4 (iMin 99 (tH (sU3 U) k 4 + tH (sU3 U) k 1 - tH (sU3 U) k 5 / 4))) 3 2)))) 3002 = some (.inl (gW g, tEn U, .inr (.inr (.inr (.inr fEe))))) := ((fU_n (by omega)).trans (fU_n (by omega)).symm).trans hSe
                                have hSp : (fU M (3100 + k) (.inr (8, hV (upd (upd (upd (tH (sU3 U) k) 6 (((tH (sU3 U) k) 6) + ((tH (sU3 U) k) 5))) 4 (iMin 99 (tH (sU3 U) k 4 + tH (sU3 U) k 1 - tH (sU3 U) k 5 / 4))) 3 2)))) 3003 = some (.inl (gQ g, tPn U, .inr (.inr (.inr (.inr fPp))))) := ((fU_n (by omega)).trans (fU_n (by omega)).symm).trans hSp
                                have hM_3100___k : (fU M (3100 + k) (.inr (8, hV (upd (upd (upd (tH (sU3 U) k) 6 (((tH (sU3 U) k) 6) + ((tH (sU3 U) k) 5))) 4 (iMin 99 (tH (sU3 U) k 4 + tH (sU3 U) k 1 - tH (sU3 U) k 5 / 4))) 3 2)))) (3100 + k) = some (.inr (8, hV (upd (upd (upd (tH (sU3 U) k) 6 (((tH (sU3 U) k) 6) + ((tH (sU3 U) k) 5))) 4 (iMin 99 (tH (sU3 U) k 4 + tH (sU3 U) k 1 - tH (sU3 U) k 5 / 4))) 3 2))) := fU_s
                                refine lv_aload hx hb dX8_pass_329 (lv_at hl 0 rfl) ?_
                                refine lv_iconst (v := 0) hx hb dX8_pass_331 (by decide) ?_
                                refine f_put X hw hM_3100___k fc8 4 (by decide) wq725 rfl rfl (v := .int 0) rfl rfl (Nat.le_of_ble_eq_true rfl) dX8_pass_332 (fun H locs hw => ?_)
                                have hw : fw g ad (fU (fU M (3100 + k) (.inr (8, hV (upd (upd (upd (tH (sU3 U) k) 6 (((tH (sU3 U) k) 6) + ((tH (sU3 U) k) 5))) 4 (iMin 99 (tH (sU3 U) k 4 + tH (sU3 U) k 1 - tH (sU3 U) k 5 / 4))) 3 2)))) (3100 + k) (.inr (8, hV (upd (upd (upd (upd (tH (sU3 U) k) 6 (((tH (sU3 U) k) 6) + ((tH (sU3 U) k) 5))) 4 (iMin 99 (tH (sU3 U) k 4 + tH (sU3 U) k 1 - tH (sU3 U) k 5 / 4))) 3 2) 4 0)))) s H locs := hw
                                rw [fU_U] at hw
                                have hS0 : (fU M (3100 + k) (.inr (8, hV (upd (upd (upd (upd (tH (sU3 U) k) 6 (((tH (sU3 U) k) 6) + ((tH (sU3 U) k) 5))) 4 (iMin 99 (tH (sU3 U) k 4 + tH (sU3 U) k 1 - tH (sU3 U) k 5 / 4))) 3 2) 4 0)))) 3000 = some (.inr (9, [.int (tM U), .ref (ad 3001), .ref (ad 3002), .ref (ad 3003)])) := ((fU_n (by omega)).trans (fU_n (by omega)).symm).trans hS0
                                have hSh : (fU M (3100 + k) (.inr (8, hV (upd (upd (upd (upd (tH (sU3 U) k) 6 (((tH (sU3 U) k) 6) + ((tH (sU3 U) k) 5))) 4 (iMin 99 (tH (sU3 U) k 4 + tH (sU3 U) k 1 - tH (sU3 U) k 5 / 4))) 3 2) 4 0)))) 3001 = some (.inl (gY g, tHn U, .inr (.inr (.inr (.inr fHh))))) := ((fU_n (by omega)).trans (fU_n (by omega)).symm).trans hSh
                                have hSe : (fU M (3100 + k) (.inr (8, hV (upd (upd (upd (upd (tH (sU3 U) k) 6 (((tH (sU3 U) k) 6) + ((tH (sU3 U) k) 5))) 4 (iMin 99 (tH (sU3 U) k 4 + tH (sU3 U) k 1 - tH (sU3 U) k 5 / 4))) 3 2) 4 0)))) 3002 = some (.inl (gW g, tEn U, .inr (.inr (.inr (.inr fEe))))) := ((fU_n (by omega)).trans (fU_n (by omega)).symm).trans hSe
                                have hSp : (fU M (3100 + k) (.inr (8, hV (upd (upd (upd (upd (tH (sU3 U) k) 6 (((tH (sU3 U) k) 6) + ((tH (sU3 U) k) 5))) 4 (iMin 99 (tH (sU3 U) k 4 + tH (sU3 U) k 1 - tH (sU3 U) k 5 / 4))) 3 2) 4 0)))) 3003 = some (.inl (gQ g, tPn U, .inr (.inr (.inr (.inr fPp))))) := ((fU_n (by omega)).trans (fU_n (by omega)).symm).trans hSp
                                have hM_3100___k : (fU M (3100 + k) (.inr (8, hV (upd (upd (upd (upd (tH (sU3 U) k) 6 (((tH (sU3 U) k) 6) + ((tH (sU3 U) k) 5))) 4 (iMin 99 (tH (sU3 U) k 4 + tH (sU3 U) k 1 - tH (sU3 U) k 5 / 4))) 3 2) 4 0)))) (3100 + k) = some (.inr (8, hV (upd (upd (upd (upd (tH (sU3 U) k) 6 (((tH (sU3 U) k) 6) + ((tH (sU3 U) k) 5))) 4 (iMin 99 (tH (sU3 U) k 4 + tH (sU3 U) k 1 - tH (sU3 U) k 5 / 4))) 3 2) 4 0))) := fU_s
                                refine lv_goto (tgt := 383) hx hb dX8_pass_335 (by decide) ?_
                                refine lv_iinc (v := nI (k + 1)) (lv' := [(4, .int (nI (k + 1))), (5, .ref (ad (3100 + k))), (3, .int (nI (tHn U))), (2, .ref (ad 3001)), (0, .ref (ad 3000))]) hx hb dX8_pass_383 hl (k := 1) rfl (nI_1 k) (by decide) rfl (fun ls hl => ?_)
                                refine lv_goto (tgt := 247) hx hb dX8_pass_386 (by decide) ?_
                                have eF : upd (upd (upd (upd (tH (sU3 U) k) 6 (((tH (sU3 U) k) 6) + ((tH (sU3 U) k) 5))) 4 (iMin 99 (tH (sU3 U) k 4 + tH (sU3 U) k 1 - tH (sU3 U) k 5 / 4))) 3 2) 4 0 = sBr (tH (sU3 U) k) := Eq.symm ((if_pos c_10).trans (if_neg c_11))
                                have hS2 := isSim_H (j := k) (f := upd (upd (upd (upd (tH (sU3 U) k) 6 (((tH (sU3 U) k) 6) + ((tH (sU3 U) k) 5))) 4 (iMin 99 (tH (sU3 U) k 4 + tH (sU3 U) k 1 - tH (sU3 U) k 5 / 4))) 3 2) 4 0) hS (by show k < tHn (qV (sQ U)); rw [hnq.2.2.1]; omega)
                                have eU : sH (mH sBr k (sU3 U)) k (upd (upd (upd (upd (tH (sU3 U) k) 6 (((tH (sU3 U) k) 6) + ((tH (sU3 U) k) 5))) 4 (iMin 99 (tH (sU3 U) k 4 + tH (sU3 U) k 1 - tH (sU3 U) k 5 / 4))) 3 2) 4 0) = mH sBr (k + 1) (sU3 U) := by rw [eF]; exact mH_step
                                rw [eU] at hS2
                                exact ih (k + 1) (by omega) (by omega) _ hS2 (fReg_U (hrA) (by omega)) ls _ _ hw (lv_sub hl [0, 2, 3, 4] rfl)
                            · refine lv_goto (tgt := 383) hx hb dX8_pass_283 (by decide) ?_
                              refine lv_iinc (v := nI (k + 1)) (lv' := [(4, .int (nI (k + 1))), (5, .ref (ad (3100 + k))), (3, .int (nI (tHn U))), (2, .ref (ad 3001)), (0, .ref (ad 3000))]) hx hb dX8_pass_383 hl (k := 1) rfl (nI_1 k) (by decide) rfl (fun ls hl => ?_)
                              refine lv_goto (tgt := 247) hx hb dX8_pass_386 (by decide) ?_
                              have eF : upd (tH (sU3 U) k) 6 (((tH (sU3 U) k) 6) + ((tH (sU3 U) k) 5)) = sBr (tH (sU3 U) k) := Eq.symm (if_neg c_10)
                              have hS2 := isSim_H (j := k) (f := upd (tH (sU3 U) k) 6 (((tH (sU3 U) k) 6) + ((tH (sU3 U) k) 5))) hS (by show k < tHn (qV (sQ U)); rw [hnq.2.2.1]; omega)
                              have eU : sH (mH sBr k (sU3 U)) k (upd (tH (sU3 U) k) 6 (((tH (sU3 U) k) 6) + ((tH (sU3 U) k) 5))) = mH sBr (k + 1) (sU3 U) := by rw [eF]; exact mH_step
                              rw [eU] at hS2
                              exact ih (k + 1) (by omega) (by omega) _ hS2 (fReg_U (hrA) (by omega)) ls _ _ hw (lv_sub hl [0, 2, 3, 4] rfl)
                      have hS4 : isSim g ad M (mH sBr 0 (sU3 U)) := by rw [mH_0]; unfold sU3; rw [← show k = tEn U by omega]; exact hS
                      exact loop247 (tHn U + 1) 0 (by omega) (by omega) M hS4 hrA ls _ _ hw (lv_sub hl [0, 1, 2, 4] rfl)
                    · have c_3 := nI_nle' (a := (tEn U)) (b := k) c_3 (by omega) (by omega)
                      refine lv_aload_n hx hb dX8_pass_188 rfl (lv_at hl 2 rfl) ?_
                      refine f_get X hw hS0 fc9 2 (by decide) wq624 rfl (v := .ref (ad 3002)) rfl dX8_pass_189 ?_
                      refine lv_iload_n hx hb dX8_pass_192 rfl (lv_at hl 0 rfl) ?_
                      refine f_aaldW X hw hSe (vp_in_nI (n := k) (by omega) (by omega)) (q := ad (3300 + k)) (by rw [nI_clamp (by omega)]; exact hSE k (by omega)) dX8_pass_193 ?_
                      refine lv_aload_n hx hb dX8_pass_194 rfl (lv_at hl 1 rfl) ?_
                      refine lv_iload_n hx hb dX8_pass_195 rfl (lv_at hl 0 rfl) ?_
                      refine f_iald X hw hA3 (vp_in_nI (n := k) (by omega) (by omega)) dX8_pass_196 ?_
                      rw [nI_clamp (n := k) (by omega)]
                      refine f_put X hw (hel (by omega)) fc7 8 (by decide) wq786 rfl rfl (v := .int ((qG (sQ U)) k)) rfl rfl (Nat.le_of_ble_eq_true rfl) dX8_pass_197 (fun H locs hw => ?_)
                      have hw : fw g ad (fU M (3300 + k) (.inr (7, gV (upd (tE (qV (sQ U)) k) 9 ((qG (sQ U)) k))))) s H locs := hw
                      have hS0 : (fU M (3300 + k) (.inr (7, gV (upd (tE (qV (sQ U)) k) 9 ((qG (sQ U)) k))))) 3000 = some (.inr (9, [.int (tM U), .ref (ad 3001), .ref (ad 3002), .ref (ad 3003)])) := (fU_n (by omega)).trans hS0
                      have hSh : (fU M (3300 + k) (.inr (7, gV (upd (tE (qV (sQ U)) k) 9 ((qG (sQ U)) k))))) 3001 = some (.inl (gY g, tHn U, .inr (.inr (.inr (.inr fHh))))) := (fU_n (by omega)).trans hSh
                      have hSe : (fU M (3300 + k) (.inr (7, gV (upd (tE (qV (sQ U)) k) 9 ((qG (sQ U)) k))))) 3002 = some (.inl (gW g, tEn U, .inr (.inr (.inr (.inr fEe))))) := (fU_n (by omega)).trans hSe
                      have hSp : (fU M (3300 + k) (.inr (7, gV (upd (tE (qV (sQ U)) k) 9 ((qG (sQ U)) k))))) 3003 = some (.inl (gQ g, tPn U, .inr (.inr (.inr (.inr fPp))))) := (fU_n (by omega)).trans hSp
                      have hA3 : (fU M (3300 + k) (.inr (7, gV (upd (tE (qV (sQ U)) k) 9 ((qG (sQ U)) k))))) 3403 = some (.inl (gI g, tEn U, .inl (qG (sQ U)))) := (fU_n (by omega)).trans hA3
                      have hM_3300___k : (fU M (3300 + k) (.inr (7, gV (upd (tE (qV (sQ U)) k) 9 ((qG (sQ U)) k))))) (3300 + k) = some (.inr (7, gV (upd (tE (qV (sQ U)) k) 9 ((qG (sQ U)) k)))) := fU_s
                      refine lv_aload_n hx hb dX8_pass_200 rfl (lv_at hl 1 rfl) ?_
                      refine lv_iload_n hx hb dX8_pass_201 rfl (lv_at hl 0 rfl) ?_
                      refine f_iald X hw hA3 (vp_in_nI (n := k) (by omega) (by omega)) dX8_pass_202 ?_
                      rw [nI_clamp (n := k) (by omega)]
                      refine lv_if_le (tgt := 230) hx hb dX8_pass_203 (by decide) (fun c_13 => ?_) (fun c_13 => ?_)
                      · refine lv_iinc (v := nI (k + 1)) (lv' := [(2, .int (nI (k + 1))), (1, .ref (ad 3403)), (0, .ref (ad 3000))]) hx hb dX8_pass_230 hl (k := 0) rfl (nI_1 k) (by decide) rfl (fun ls hl => ?_)
                        refine lv_goto (tgt := 179) hx hb dX8_pass_233 (by decide) ?_
                        have eF : upd (tE (qV (sQ U)) k) 9 ((qG (sQ U)) k) = sSp (qG (sQ U)) k (tE (qV (sQ U)) k) := Eq.symm (if_pos c_13)
                        have hS2 := isSim_E (j := k) (f := upd (tE (qV (sQ U)) k) 9 ((qG (sQ U)) k)) hS (by show k < tEn (qV (sQ U)); rw [hnq.2.1]; omega)
                        have eU : sE (mEi (sSp (qG (sQ U))) k (qV (sQ U))) k (upd (tE (qV (sQ U)) k) 9 ((qG (sQ U)) k)) = mEi (sSp (qG (sQ U))) (k + 1) (qV (sQ U)) := by rw [eF]; exact mEi_step
                        rw [eU] at hS2
                        exact ih (k + 1) (by omega) (by omega) _ hS2 hA3 (fReg_U (hrA) (by omega)) ls _ _ hw (lv_sub hl [0, 1, 2] rfl)
                      · refine lv_aload_n hx hb dX8_pass_206 rfl (lv_at hl 2 rfl) ?_
                        refine f_get X hw hS0 fc9 2 (by decide) wq624 rfl (v := .ref (ad 3002)) rfl dX8_pass_207 ?_
                        refine lv_iload_n hx hb dX8_pass_210 rfl (lv_at hl 0 rfl) ?_
                        refine f_aaldW X hw hSe (vp_in_nI (n := k) (by omega) (by omega)) (q := ad (3300 + k)) (by rw [nI_clamp (by omega)]; exact hSE k (by omega)) dX8_pass_211 ?_
                        refine lv_iconst (v := 0) hx hb dX8_pass_212 (by decide) ?_
                        refine lv_aload_n hx hb dX8_pass_213 rfl (lv_at hl 2 rfl) ?_
                        refine f_get X hw hS0 fc9 2 (by decide) wq624 rfl (v := .ref (ad 3002)) rfl dX8_pass_214 ?_
                        refine lv_iload_n hx hb dX8_pass_217 rfl (lv_at hl 0 rfl) ?_
                        refine f_aaldW X hw hSe (vp_in_nI (n := k) (by omega) (by omega)) (q := ad (3300 + k)) (by rw [nI_clamp (by omega)]; exact hSE k (by omega)) dX8_pass_218 ?_
                        refine f_get X hw hM_3300___k fc7 4 (by decide) wq777 rfl (v := .int ((tE (qV (sQ U)) k) 4)) rfl dX8_pass_219 ?_
                        refine lv_iconst (v := 2) hx hb dX8_pass_222 (by decide) ?_
                        refine lv_isub hx hb dX8_pass_223 ?_
                        refine va_mmax hx hb (X.2.2.1.trans hl.1.symm) X.2.2.2.1 (X.2.2.2.2.1 _ wq575) (X.2.2.2.2.1 _ wq290) (X.2.2.2.2.1 _ wq18) (X.2.2.2.2.1 _ wq291) (Nat.le_of_ble_eq_true rfl) (Nat.le_of_ble_eq_true rfl) (by dsimp only [fR]; omega) (by dsimp only [fR]; omega) dX8_pass_224 ?_
                        refine f_put X hw hM_3300___k fc7 4 (by decide) wq777 rfl rfl (v := .int (if 0 < (((tE (qV (sQ U)) k) 4) - 2) then (((tE (qV (sQ U)) k) 4) - 2) else 0)) rfl rfl (Nat.le_of_ble_eq_true rfl) dX8_pass_227 (fun H locs hw => ?_)
                        have hw : fw g ad (fU (fU M (3300 + k) (.inr (7, gV (upd (tE (qV (sQ U)) k) 9 ((qG (sQ U)) k))))) (3300 + k) (.inr (7, gV (upd (upd (tE (qV (sQ U)) k) 9 ((qG (sQ U)) k)) 4 (if 0 < (((tE (qV (sQ U)) k) 4) - 2) then (((tE (qV (sQ U)) k) 4) - 2) else 0))))) s H locs := hw
                        rw [fU_U] at hw
                        have hS0 : (fU M (3300 + k) (.inr (7, gV (upd (upd (tE (qV (sQ U)) k) 9 ((qG (sQ U)) k)) 4 (if 0 < (((tE (qV (sQ U)) k) 4) - 2) then (((tE (qV (sQ U)) k) 4) - 2) else 0))))) 3000 = some (.inr (9, [.int (tM U), .ref (ad 3001), .ref (ad 3002), .ref (ad 3003)])) := ((fU_n (by omega)).trans (fU_n (by omega)).symm).trans hS0
                        have hSh : (fU M (3300 + k) (.inr (7, gV (upd (upd (tE (qV (sQ U)) k) 9 ((qG (sQ U)) k)) 4 (if 0 < (((tE (qV (sQ U)) k) 4) - 2) then (((tE (qV (sQ U)) k) 4) - 2) else 0))))) 3001 = some (.inl (gY g, tHn U, .inr (.inr (.inr (.inr fHh))))) := ((fU_n (by omega)).trans (fU_n (by omega)).symm).trans hSh
                        have hSe : (fU M (3300 + k) (.inr (7, gV (upd (upd (tE (qV (sQ U)) k) 9 ((qG (sQ U)) k)) 4 (if 0 < (((tE (qV (sQ U)) k) 4) - 2) then (((tE (qV (sQ U)) k) 4) - 2) else 0))))) 3002 = some (.inl (gW g, tEn U, .inr (.inr (.inr (.inr fEe))))) := ((fU_n (by omega)).trans (fU_n (by omega)).symm).trans hSe
                        have hSp : (fU M (3300 + k) (.inr (7, gV (upd (upd (tE (qV (sQ U)) k) 9 ((qG (sQ U)) k)) 4 (if 0 < (((tE (qV (sQ U)) k) 4) - 2) then (((tE (qV (sQ U)) k) 4) - 2) else 0))))) 3003 = some (.inl (gQ g, tPn U, .inr (.inr (.inr (.inr fPp))))) := ((fU_n (by omega)).trans (fU_n (by omega)).symm).trans hSp
                        have hA3 : (fU M (3300 + k) (.inr (7, gV (upd (upd (tE (qV (sQ U)) k) 9 ((qG (sQ U)) k)) 4 (if 0 < (((tE (qV (sQ U)) k) 4) - 2) then (((tE (qV (sQ U)) k) 4) - 2) else 0))))) 3403 = some (.inl (gI g, tEn U, .inl (qG (sQ U)))) := ((fU_n (by omega)).trans (fU_n (by omega)).symm).trans hA3
                        have hM_3300___k : (fU M (3300 + k) (.inr (7, gV (upd (upd (tE (qV (sQ U)) k) 9 ((qG (sQ U)) k)) 4 (if 0 < (((tE (qV (sQ U)) k) 4) - 2) then (((tE (qV (sQ U)) k) 4) - 2) else 0))))) (3300 + k) = some (.inr (7, gV (upd (upd (tE (qV (sQ U)) k) 9 ((qG (sQ U)) k)) 4 (if 0 < (((tE (qV (sQ U)) k) 4) - 2) then (((tE (qV (sQ U)) k) 4) - 2) else 0)))) := fU_s
                        refine lv_iinc (v := nI (k + 1)) (lv' := [(2, .int (nI (k + 1))), (1, .ref (ad 3403)), (0, .ref (ad 3000))]) hx hb dX8_pass_230 hl (k := 0) rfl (nI_1 k) (by decide) rfl (fun ls hl => ?_)
                        refine lv_goto (tgt := 179) hx hb dX8_pass_233 (by decide) ?_
                        have eF : upd (upd (tE (qV (sQ U)) k) 9 ((qG (sQ U)) k)) 4 (if 0 < (((tE (qV (sQ U)) k) 4) - 2) then (((tE (qV (sQ U)) k) 4) - 2) else 0) = sSp (qG (sQ U)) k (tE (qV (sQ U)) k) := Eq.symm (if_neg c_13)
                        have hS2 := isSim_E (j := k) (f := upd (upd (tE (qV (sQ U)) k) 9 ((qG (sQ U)) k)) 4 (if 0 < (((tE (qV (sQ U)) k) 4) - 2) then (((tE (qV (sQ U)) k) 4) - 2) else 0)) hS (by show k < tEn (qV (sQ U)); rw [hnq.2.1]; omega)
                        have eU : sE (mEi (sSp (qG (sQ U))) k (qV (sQ U))) k (upd (upd (tE (qV (sQ U)) k) 9 ((qG (sQ U)) k)) 4 (if 0 < (((tE (qV (sQ U)) k) 4) - 2) then (((tE (qV (sQ U)) k) 4) - 2) else 0)) = mEi (sSp (qG (sQ U))) (k + 1) (qV (sQ U)) := by rw [eF]; exact mEi_step
                        rw [eU] at hS2
                        exact ih (k + 1) (by omega) (by omega) _ hS2 hA3 (fReg_U (hrA) (by omega)) ls _ _ hw (lv_sub hl [0, 1, 2] rfl)
                have hS3 : isSim g ad M (mEi (sSp (qG (sQ U))) 0 (qV (sQ U))) := by rw [mEi_0]; exact hS
                exact loop179 (tEn U + 1) 0 (by omega) (by omega) M hS3 hA3 hrA ls _ _ hw (lv_sub hl [0, 1, 2] rfl)
              refine fk_r (fcV X hw (c_s_gives l g ad M hS hsg) hS0 rfl wq580 kVX8_gives ⟨(Nat.le_of_ble_eq_true rfl), (Nat.le_of_ble_eq_true rfl)⟩ rfl hl.1 rfl (Nat.le_of_ble_eq_true rfl) dX8_pass_173 ⟨(Nat.le_of_ble_eq_true rfl), (Nat.le_of_ble_eq_true rfl)⟩) hw (fun r ad1 M1 H locs hp hw => ?_)
              obtain ⟨er, hA3, hS, hr, h34⟩ := hp
              rw [er]
              rw [← h34 3000 (by omega)] at hl
              rw [show tEn (qV (sTurns (q0 (sU1 U)) (tEn (sU1 U)))) = tEn U from (sTurns_n _ _).2.1] at hA3
              exact rest176 ad1 M1 hS hA3 (fReg_tr hrA hr) (fun l a => by rw [h34 l a, hado]) ls _ _ hw (lv_sub hl [3] rfl)
            · have c_2 := nI_nle' (a := (tHn U)) (b := k) c_2 (by omega) (by omega)
              refine lv_aload_n hx hb dX8_pass_155 rfl (lv_at hl 2 rfl) ?_
              refine lv_iload_n hx hb dX8_pass_156 rfl (lv_at hl 0 rfl) ?_
              refine f_aaldY X hw hSh (vp_in_nI (n := k) (by omega) (by omega)) (q := ad (3100 + k)) (by rw [nI_clamp (by omega)]; exact hSH k (by omega)) dX8_pass_157 ?_
              refine lv_astore (lv' := [(4, .ref (ad (3100 + k))), (3, .int (nI k)), (2, .int (nI (tHn U))), (1, .ref (ad 3001)), (0, .ref (ad 3000))]) hx hb dX8_pass_158 hl (by decide) rfl (fun ls hl => ?_)
              refine lv_aload hx hb dX8_pass_160 (lv_at hl 0 rfl) ?_
              refine lv_iconst (v := 0) hx hb dX8_pass_162 (by decide) ?_
              refine f_put X hw (hel (by omega)) fc8 5 (by decide) wq726 rfl rfl (v := .int 0) rfl rfl (Nat.le_of_ble_eq_true rfl) dX8_pass_163 (fun H locs hw => ?_)
              have hw : fw g ad (fU M (3100 + k) (.inr (8, hV (upd (tH (mE sGo (tEn U) U) k) 5 0)))) s H locs := hw
              have hS0 : (fU M (3100 + k) (.inr (8, hV (upd (tH (mE sGo (tEn U) U) k) 5 0)))) 3000 = some (.inr (9, [.int (tM U), .ref (ad 3001), .ref (ad 3002), .ref (ad 3003)])) := (fU_n (by omega)).trans hS0
              have hSh : (fU M (3100 + k) (.inr (8, hV (upd (tH (mE sGo (tEn U) U) k) 5 0)))) 3001 = some (.inl (gY g, tHn U, .inr (.inr (.inr (.inr fHh))))) := (fU_n (by omega)).trans hSh
              have hSe : (fU M (3100 + k) (.inr (8, hV (upd (tH (mE sGo (tEn U) U) k) 5 0)))) 3002 = some (.inl (gW g, tEn U, .inr (.inr (.inr (.inr fEe))))) := (fU_n (by omega)).trans hSe
              have hSp : (fU M (3100 + k) (.inr (8, hV (upd (tH (mE sGo (tEn U) U) k) 5 0)))) 3003 = some (.inl (gQ g, tPn U, .inr (.inr (.inr (.inr fPp))))) := (fU_n (by omega)).trans hSp
              have hM_3100___k : (fU M (3100 + k) (.inr (8, hV (upd (tH (mE sGo (tEn U) U) k) 5 0)))) (3100 + k) = some (.inr (8, hV (upd (tH (mE sGo (tEn U) U) k) 5 0))) := fU_s
              refine lv_iinc (v := nI (k + 1)) (lv' := [(3, .int (nI (k + 1))), (4, .ref (ad (3100 + k))), (2, .int (nI (tHn U))), (1, .ref (ad 3001)), (0, .ref (ad 3000))]) hx hb dX8_pass_166 hl (k := 1) rfl (nI_1 k) (by decide) rfl (fun ls hl => ?_)
              refine lv_goto (tgt := 150) hx hb dX8_pass_169 (by decide) ?_
              have hS2 := isSim_H (j := k) (f := upd (tH (mE sGo (tEn U) U) k) 5 0) hS (by show k < tHn U; omega)
              have eU : sH (mH hReset k (mE sGo (tEn U) U)) k (upd (tH (mE sGo (tEn U) U) k) 5 0) = mH hReset (k + 1) (mE sGo (tEn U) U) := mH_step
              rw [eU] at hS2
              exact ih (k + 1) (by omega) (by omega) _ hS2 (fReg_U (hrA) (by omega)) ls _ _ hw (lv_sub hl [0, 2, 3, 4] rfl)
        have hS2 : isSim g ad M (mH hReset 0 (mE sGo (tEn U) U)) := by rw [mH_0, ← show k = tEn U by omega]; exact hS
        exact loop150 (tHn U + 1) 0 (by omega) (by omega) M hS2 hrA ls _ _ hw (lv_sub hl [0, 1, 2, 3] rfl)
      · have c_1 := nI_nle' (a := (tEn U)) (b := k) c_1 (by omega) (by omega)
        refine lv_aload_n hx hb dX8_pass_15 rfl (lv_at hl 2 rfl) ?_
        refine lv_iload_n hx hb dX8_pass_16 rfl (lv_at hl 0 rfl) ?_
        refine f_aaldW X hw hSe (vp_in_nI (n := k) (by omega) (by omega)) (q := ad (3300 + k)) (by rw [nI_clamp (by omega)]; exact hSE k (by omega)) dX8_pass_17 ?_
        refine lv_astore (lv' := [(4, .ref (ad (3300 + k))), (3, .int (nI k)), (2, .int (nI (tEn U))), (1, .ref (ad 3002)), (0, .ref (ad 3000))]) hx hb dX8_pass_18 hl (by decide) rfl (fun ls hl => ?_)
        refine lv_aload hx hb dX8_pass_20 (lv_at hl 0 rfl) ?_
        refine f_get X hw (hel (by omega)) fc7 3 (by decide) wq775 rfl (v := .int ((tE U k) 3)) rfl dX8_pass_22 ?_
        refine lv_if_le (tgt := 69) hx hb dX8_pass_25 (by decide) (fun c_14 => ?_) (fun c_14 => ?_)
        · refine lv_aload hx hb dX8_pass_69 (lv_at hl 0 rfl) ?_
          refine lv_aload hx hb dX8_pass_71 (lv_at hl 0 rfl) ?_
          refine f_get X hw (hel (by omega)) fc7 4 (by decide) wq777 rfl (v := .int ((tE U k) 4)) rfl dX8_pass_73 ?_
          refine lv_iconst (v := 3) hx hb dX8_pass_76 (by decide) ?_
          refine lv_icmp_ge (tgt := 84) hx hb dX8_pass_77 (by decide) (fun c_15 => ?_) (fun c_15 => ?_)
          · refine lv_aload hx hb dX8_pass_84 (lv_at hl 0 rfl) ?_
            refine f_get X hw (hel (by omega)) fc7 4 (by decide) wq777 rfl (v := .int ((tE U k) 4)) rfl dX8_pass_86 ?_
            refine lv_iconst (v := 3) hx hb dX8_pass_89 (by decide) ?_
            refine lv_isub hx hb dX8_pass_90 ?_
            refine f_put X hw (hel (by omega)) fc7 4 (by decide) wq777 rfl rfl (v := .int (((tE U k) 4) - 3)) rfl rfl (Nat.le_of_ble_eq_true rfl) dX8_pass_91 (fun H locs hw => ?_)
            have hw : fw g ad (fU M (3300 + k) (.inr (7, gV (upd (tE U k) 4 (((tE U k) 4) - 3))))) s H locs := hw
            have hS0 : (fU M (3300 + k) (.inr (7, gV (upd (tE U k) 4 (((tE U k) 4) - 3))))) 3000 = some (.inr (9, [.int (tM U), .ref (ad 3001), .ref (ad 3002), .ref (ad 3003)])) := (fU_n (by omega)).trans hS0
            have hSh : (fU M (3300 + k) (.inr (7, gV (upd (tE U k) 4 (((tE U k) 4) - 3))))) 3001 = some (.inl (gY g, tHn U, .inr (.inr (.inr (.inr fHh))))) := (fU_n (by omega)).trans hSh
            have hSe : (fU M (3300 + k) (.inr (7, gV (upd (tE U k) 4 (((tE U k) 4) - 3))))) 3002 = some (.inl (gW g, tEn U, .inr (.inr (.inr (.inr fEe))))) := (fU_n (by omega)).trans hSe
            have hSp : (fU M (3300 + k) (.inr (7, gV (upd (tE U k) 4 (((tE U k) 4) - 3))))) 3003 = some (.inl (gQ g, tPn U, .inr (.inr (.inr (.inr fPp))))) := (fU_n (by omega)).trans hSp
            have hM_3300___k : (fU M (3300 + k) (.inr (7, gV (upd (tE U k) 4 (((tE U k) 4) - 3))))) (3300 + k) = some (.inr (7, gV (upd (tE U k) 4 (((tE U k) 4) - 3)))) := fU_s
            refine lv_aload hx hb dX8_pass_94 (lv_at hl 0 rfl) ?_
            refine f_get X hw hM_3300___k fc7 5 (by decide) wq780 rfl (v := .int ((tE U k) 5)) rfl dX8_pass_96 ?_
            refine lv_if_ne (tgt := 105) hx hb dX8_pass_99 (by decide) (fun c_16 => ?_) (fun c_16 => ?_)
            · refine lv_aload hx hb dX8_pass_105 (lv_at hl 0 rfl) ?_
              refine lv_dup hx hb dX8_pass_107 rfl ?_
              refine f_get X hw hM_3300___k fc7 5 (by decide) wq780 rfl (v := .int ((tE U k) 5)) rfl dX8_pass_108 ?_
              refine lv_iconst (v := 1) hx hb dX8_pass_111 (by decide) ?_
              refine lv_isub hx hb dX8_pass_112 ?_
              refine f_put X hw hM_3300___k fc7 5 (by decide) wq780 rfl rfl (v := .int (((tE U k) 5) - 1)) rfl rfl (Nat.le_of_ble_eq_true rfl) dX8_pass_113 (fun H locs hw => ?_)
              have hw : fw g ad (fU (fU M (3300 + k) (.inr (7, gV (upd (tE U k) 4 (((tE U k) 4) - 3))))) (3300 + k) (.inr (7, gV (upd (upd (tE U k) 4 (((tE U k) 4) - 3)) 5 (((tE U k) 5) - 1))))) s H locs := hw
              rw [fU_U] at hw
              have hS0 : (fU M (3300 + k) (.inr (7, gV (upd (upd (tE U k) 4 (((tE U k) 4) - 3)) 5 (((tE U k) 5) - 1))))) 3000 = some (.inr (9, [.int (tM U), .ref (ad 3001), .ref (ad 3002), .ref (ad 3003)])) := ((fU_n (by omega)).trans (fU_n (by omega)).symm).trans hS0
              have hSh : (fU M (3300 + k) (.inr (7, gV (upd (upd (tE U k) 4 (((tE U k) 4) - 3)) 5 (((tE U k) 5) - 1))))) 3001 = some (.inl (gY g, tHn U, .inr (.inr (.inr (.inr fHh))))) := ((fU_n (by omega)).trans (fU_n (by omega)).symm).trans hSh
              have hSe : (fU M (3300 + k) (.inr (7, gV (upd (upd (tE U k) 4 (((tE U k) 4) - 3)) 5 (((tE U k) 5) - 1))))) 3002 = some (.inl (gW g, tEn U, .inr (.inr (.inr (.inr fEe))))) := ((fU_n (by omega)).trans (fU_n (by omega)).symm).trans hSe
              have hSp : (fU M (3300 + k) (.inr (7, gV (upd (upd (tE U k) 4 (((tE U k) 4) - 3)) 5 (((tE U k) 5) - 1))))) 3003 = some (.inl (gQ g, tPn U, .inr (.inr (.inr (.inr fPp))))) := ((fU_n (by omega)).trans (fU_n (by omega)).symm).trans hSp
              have hM_3300___k : (fU M (3300 + k) (.inr (7, gV (upd (upd (tE U k) 4 (((tE U k) 4) - 3)) 5 (((tE U k) 5) - 1))))) (3300 + k) = some (.inr (7, gV (upd (upd (tE U k) 4 (((tE U k) 4) - 3)) 5 (((tE U k) 5) - 1)))) := fU_s
              refine lv_aload hx hb dX8_pass_116 (lv_at hl 0 rfl) ?_
              refine f_get X hw hM_3300___k fc7 5 (by decide) wq780 rfl (v := .int (((tE U k) 5) - 1)) rfl dX8_pass_118 ?_
              refine lv_if_ne (tgt := 134) hx hb dX8_pass_121 (by decide) (fun c_17 => ?_) (fun c_17 => ?_)
              · refine lv_iinc (v := nI (k + 1)) (lv' := [(3, .int (nI (k + 1))), (4, .ref (ad (3300 + k))), (2, .int (nI (tEn U))), (1, .ref (ad 3002)), (0, .ref (ad 3000))]) hx hb dX8_pass_134 hl (k := 1) rfl (nI_1 k) (by decide) rfl (fun ls hl => ?_)
                refine lv_goto (tgt := 10) hx hb dX8_pass_137 (by decide) ?_
                have eF : upd (upd (tE U k) 4 (((tE U k) 4) - 3)) 5 (((tE U k) 5) - 1) = sGo (tE U k) := by unfold sGo; rw [show sFire (tE U k) = upd (tE U k) 4 (((tE U k) 4) - 3) from by unfold sFire; rw [if_pos c_14, if_pos c_15]]; exact Eq.symm ((if_neg c_16).trans (if_neg c_17))
                have hS2 := isSim_E (j := k) (f := upd (upd (tE U k) 4 (((tE U k) 4) - 3)) 5 (((tE U k) 5) - 1)) hS (by show k < tEn U; omega)
                have eU : sE (mE sGo k U) k (upd (upd (tE U k) 4 (((tE U k) 4) - 3)) 5 (((tE U k) 5) - 1)) = mE sGo (k + 1) U := by rw [eF]; exact mE_step
                rw [eU] at hS2
                exact ih (k + 1) (by omega) (by omega) _ hS2 (fReg_U (hrA) (by omega)) ls _ _ hw (lv_sub hl [0, 2, 3, 4] rfl)
              · refine lv_aload hx hb dX8_pass_124 (lv_at hl 0 rfl) ?_
                refine lv_aload hx hb dX8_pass_126 (lv_at hl 0 rfl) ?_
                refine f_get X hw hM_3300___k fc7 6 (by decide) wq782 rfl (v := .int ((tE U k) 6)) rfl dX8_pass_128 ?_
                refine f_put X hw hM_3300___k fc7 0 (by decide) wq767 rfl rfl (v := .int ((tE U k) 6)) rfl rfl (Nat.le_of_ble_eq_true rfl) dX8_pass_131 (fun H locs hw => ?_)
                have hw : fw g ad (fU (fU M (3300 + k) (.inr (7, gV (upd (upd (tE U k) 4 (((tE U k) 4) - 3)) 5 (((tE U k) 5) - 1))))) (3300 + k) (.inr (7, gV (upd (upd (upd (tE U k) 4 (((tE U k) 4) - 3)) 5 (((tE U k) 5) - 1)) 0 ((tE U k) 6))))) s H locs := hw
                rw [fU_U] at hw
                have hS0 : (fU M (3300 + k) (.inr (7, gV (upd (upd (upd (tE U k) 4 (((tE U k) 4) - 3)) 5 (((tE U k) 5) - 1)) 0 ((tE U k) 6))))) 3000 = some (.inr (9, [.int (tM U), .ref (ad 3001), .ref (ad 3002), .ref (ad 3003)])) := ((fU_n (by omega)).trans (fU_n (by omega)).symm).trans hS0
                have hSh : (fU M (3300 + k) (.inr (7, gV (upd (upd (upd (tE U k) 4 (((tE U k) 4) - 3)) 5 (((tE U k) 5) - 1)) 0 ((tE U k) 6))))) 3001 = some (.inl (gY g, tHn U, .inr (.inr (.inr (.inr fHh))))) := ((fU_n (by omega)).trans (fU_n (by omega)).symm).trans hSh
                have hSe : (fU M (3300 + k) (.inr (7, gV (upd (upd (upd (tE U k) 4 (((tE U k) 4) - 3)) 5 (((tE U k) 5) - 1)) 0 ((tE U k) 6))))) 3002 = some (.inl (gW g, tEn U, .inr (.inr (.inr (.inr fEe))))) := ((fU_n (by omega)).trans (fU_n (by omega)).symm).trans hSe
                have hSp : (fU M (3300 + k) (.inr (7, gV (upd (upd (upd (tE U k) 4 (((tE U k) 4) - 3)) 5 (((tE U k) 5) - 1)) 0 ((tE U k) 6))))) 3003 = some (.inl (gQ g, tPn U, .inr (.inr (.inr (.inr fPp))))) := ((fU_n (by omega)).trans (fU_n (by omega)).symm).trans hSp
                have hM_3300___k : (fU M (3300 + k) (.inr (7, gV (upd (upd (upd (tE U k) 4 (((tE U k) 4) - 3)) 5 (((tE U k) 5) - 1)) 0 ((tE U k) 6))))) (3300 + k) = some (.inr (7, gV (upd (upd (upd (tE U k) 4 (((tE U k) 4) - 3)) 5 (((tE U k) 5) - 1)) 0 ((tE U k) 6)))) := fU_s
                refine lv_iinc (v := nI (k + 1)) (lv' := [(3, .int (nI (k + 1))), (4, .ref (ad (3300 + k))), (2, .int (nI (tEn U))), (1, .ref (ad 3002)), (0, .ref (ad 3000))]) hx hb dX8_pass_134 hl (k := 1) rfl (nI_1 k) (by decide) rfl (fun ls hl => ?_)
                refine lv_goto (tgt := 10) hx hb dX8_pass_137 (by decide) ?_
                have eF : upd (upd (upd (tE U k) 4 (((tE U k) 4) - 3)) 5 (((tE U k) 5) - 1)) 0 ((tE U k) 6) = sGo (tE U k) := by unfold sGo; rw [show sFire (tE U k) = upd (tE U k) 4 (((tE U k) 4) - 3) from by unfold sFire; rw [if_pos c_14, if_pos c_15]]; exact Eq.symm ((if_neg c_16).trans (if_pos c_17))
                have hS2 := isSim_E (j := k) (f := upd (upd (upd (tE U k) 4 (((tE U k) 4) - 3)) 5 (((tE U k) 5) - 1)) 0 ((tE U k) 6)) hS (by show k < tEn U; omega)
                have eU : sE (mE sGo k U) k (upd (upd (upd (tE U k) 4 (((tE U k) 4) - 3)) 5 (((tE U k) 5) - 1)) 0 ((tE U k) 6)) = mE sGo (k + 1) U := by rw [eF]; exact mE_step
                rw [eU] at hS2
                exact ih (k + 1) (by omega) (by omega) _ hS2 (fReg_U (hrA) (by omega)) ls _ _ hw (lv_sub hl [0, 2, 3, 4] rfl)
            · refine lv_goto (tgt := 134) hx hb dX8_pass_102 (by decide) ?_
              refine lv_iinc (v := nI (k + 1)) (lv' := [(3, .int (nI (k + 1))), (4, .ref (ad (3300 + k))), (2, .int (nI (tEn U))), (1, .ref (ad 3002)), (0, .ref (ad 3000))]) hx hb dX8_pass_134 hl (k := 1) rfl (nI_1 k) (by decide) rfl (fun ls hl => ?_)
              refine lv_goto (tgt := 10) hx hb dX8_pass_137 (by decide) ?_
              have eF : upd (tE U k) 4 (((tE U k) 4) - 3) = sGo (tE U k) := by unfold sGo; rw [show sFire (tE U k) = upd (tE U k) 4 (((tE U k) 4) - 3) from by unfold sFire; rw [if_pos c_14, if_pos c_15]]; exact Eq.symm (if_pos c_16)
              have hS2 := isSim_E (j := k) (f := upd (tE U k) 4 (((tE U k) 4) - 3)) hS (by show k < tEn U; omega)
              have eU : sE (mE sGo k U) k (upd (tE U k) 4 (((tE U k) 4) - 3)) = mE sGo (k + 1) U := by rw [eF]; exact mE_step
              rw [eU] at hS2
              exact ih (k + 1) (by omega) (by omega) _ hS2 (fReg_U (hrA) (by omega)) ls _ _ hw (lv_sub hl [0, 2, 3, 4] rfl)
          · refine lv_iconst (v := 0) hx hb dX8_pass_80 (by decide) ?_
            refine lv_goto (tgt := 91) hx hb dX8_pass_81 (by decide) ?_
            refine f_put X hw (hel (by omega)) fc7 4 (by decide) wq777 rfl rfl (v := .int 0) rfl rfl (Nat.le_of_ble_eq_true rfl) dX8_pass_91 (fun H locs hw => ?_)
            have hw : fw g ad (fU M (3300 + k) (.inr (7, gV (upd (tE U k) 4 0)))) s H locs := hw
            have hS0 : (fU M (3300 + k) (.inr (7, gV (upd (tE U k) 4 0)))) 3000 = some (.inr (9, [.int (tM U), .ref (ad 3001), .ref (ad 3002), .ref (ad 3003)])) := (fU_n (by omega)).trans hS0
            have hSh : (fU M (3300 + k) (.inr (7, gV (upd (tE U k) 4 0)))) 3001 = some (.inl (gY g, tHn U, .inr (.inr (.inr (.inr fHh))))) := (fU_n (by omega)).trans hSh
            have hSe : (fU M (3300 + k) (.inr (7, gV (upd (tE U k) 4 0)))) 3002 = some (.inl (gW g, tEn U, .inr (.inr (.inr (.inr fEe))))) := (fU_n (by omega)).trans hSe
            have hSp : (fU M (3300 + k) (.inr (7, gV (upd (tE U k) 4 0)))) 3003 = some (.inl (gQ g, tPn U, .inr (.inr (.inr (.inr fPp))))) := (fU_n (by omega)).trans hSp
            have hM_3300___k : (fU M (3300 + k) (.inr (7, gV (upd (tE U k) 4 0)))) (3300 + k) = some (.inr (7, gV (upd (tE U k) 4 0))) := fU_s
            refine lv_aload hx hb dX8_pass_94 (lv_at hl 0 rfl) ?_
            refine f_get X hw hM_3300___k fc7 5 (by decide) wq780 rfl (v := .int ((tE U k) 5)) rfl dX8_pass_96 ?_
            refine lv_if_ne (tgt := 105) hx hb dX8_pass_99 (by decide) (fun c_18 => ?_) (fun c_18 => ?_)
            · refine lv_aload hx hb dX8_pass_105 (lv_at hl 0 rfl) ?_
              refine lv_dup hx hb dX8_pass_107 rfl ?_
              refine f_get X hw hM_3300___k fc7 5 (by decide) wq780 rfl (v := .int ((tE U k) 5)) rfl dX8_pass_108 ?_
              refine lv_iconst (v := 1) hx hb dX8_pass_111 (by decide) ?_
              refine lv_isub hx hb dX8_pass_112 ?_
              refine f_put X hw hM_3300___k fc7 5 (by decide) wq780 rfl rfl (v := .int (((tE U k) 5) - 1)) rfl rfl (Nat.le_of_ble_eq_true rfl) dX8_pass_113 (fun H locs hw => ?_)
              have hw : fw g ad (fU (fU M (3300 + k) (.inr (7, gV (upd (tE U k) 4 0)))) (3300 + k) (.inr (7, gV (upd (upd (tE U k) 4 0) 5 (((tE U k) 5) - 1))))) s H locs := hw
              rw [fU_U] at hw
              have hS0 : (fU M (3300 + k) (.inr (7, gV (upd (upd (tE U k) 4 0) 5 (((tE U k) 5) - 1))))) 3000 = some (.inr (9, [.int (tM U), .ref (ad 3001), .ref (ad 3002), .ref (ad 3003)])) := ((fU_n (by omega)).trans (fU_n (by omega)).symm).trans hS0
              have hSh : (fU M (3300 + k) (.inr (7, gV (upd (upd (tE U k) 4 0) 5 (((tE U k) 5) - 1))))) 3001 = some (.inl (gY g, tHn U, .inr (.inr (.inr (.inr fHh))))) := ((fU_n (by omega)).trans (fU_n (by omega)).symm).trans hSh
              have hSe : (fU M (3300 + k) (.inr (7, gV (upd (upd (tE U k) 4 0) 5 (((tE U k) 5) - 1))))) 3002 = some (.inl (gW g, tEn U, .inr (.inr (.inr (.inr fEe))))) := ((fU_n (by omega)).trans (fU_n (by omega)).symm).trans hSe
              have hSp : (fU M (3300 + k) (.inr (7, gV (upd (upd (tE U k) 4 0) 5 (((tE U k) 5) - 1))))) 3003 = some (.inl (gQ g, tPn U, .inr (.inr (.inr (.inr fPp))))) := ((fU_n (by omega)).trans (fU_n (by omega)).symm).trans hSp
              have hM_3300___k : (fU M (3300 + k) (.inr (7, gV (upd (upd (tE U k) 4 0) 5 (((tE U k) 5) - 1))))) (3300 + k) = some (.inr (7, gV (upd (upd (tE U k) 4 0) 5 (((tE U k) 5) - 1)))) := fU_s
              refine lv_aload hx hb dX8_pass_116 (lv_at hl 0 rfl) ?_
              refine f_get X hw hM_3300___k fc7 5 (by decide) wq780 rfl (v := .int (((tE U k) 5) - 1)) rfl dX8_pass_118 ?_
              refine lv_if_ne (tgt := 134) hx hb dX8_pass_121 (by decide) (fun c_19 => ?_) (fun c_19 => ?_)
              · refine lv_iinc (v := nI (k + 1)) (lv' := [(3, .int (nI (k + 1))), (4, .ref (ad (3300 + k))), (2, .int (nI (tEn U))), (1, .ref (ad 3002)), (0, .ref (ad 3000))]) hx hb dX8_pass_134 hl (k := 1) rfl (nI_1 k) (by decide) rfl (fun ls hl => ?_)
                refine lv_goto (tgt := 10) hx hb dX8_pass_137 (by decide) ?_
                have eF : upd (upd (tE U k) 4 0) 5 (((tE U k) 5) - 1) = sGo (tE U k) := by unfold sGo; rw [show sFire (tE U k) = upd (tE U k) 4 0 from by unfold sFire; rw [if_pos c_14, if_neg c_15]]; exact Eq.symm ((if_neg c_18).trans (if_neg c_19))
                have hS2 := isSim_E (j := k) (f := upd (upd (tE U k) 4 0) 5 (((tE U k) 5) - 1)) hS (by show k < tEn U; omega)
                have eU : sE (mE sGo k U) k (upd (upd (tE U k) 4 0) 5 (((tE U k) 5) - 1)) = mE sGo (k + 1) U := by rw [eF]; exact mE_step
                rw [eU] at hS2
                exact ih (k + 1) (by omega) (by omega) _ hS2 (fReg_U (hrA) (by omega)) ls _ _ hw (lv_sub hl [0, 2, 3, 4] rfl)
              · refine lv_aload hx hb dX8_pass_124 (lv_at hl 0 rfl) ?_
                refine lv_aload hx hb dX8_pass_126 (lv_at hl 0 rfl) ?_
                refine f_get X hw hM_3300___k fc7 6 (by decide) wq782 rfl (v := .int ((tE U k) 6)) rfl dX8_pass_128 ?_
                refine f_put X hw hM_3300___k fc7 0 (by decide) wq767 rfl rfl (v := .int ((tE U k) 6)) rfl rfl (Nat.le_of_ble_eq_true rfl) dX8_pass_131 (fun H locs hw => ?_)
                have hw : fw g ad (fU (fU M (3300 + k) (.inr (7, gV (upd (upd (tE U k) 4 0) 5 (((tE U k) 5) - 1))))) (3300 + k) (.inr (7, gV (upd (upd (upd (tE U k) 4 0) 5 (((tE U k) 5) - 1)) 0 ((tE U k) 6))))) s H locs := hw
                rw [fU_U] at hw
                have hS0 : (fU M (3300 + k) (.inr (7, gV (upd (upd (upd (tE U k) 4 0) 5 (((tE U k) 5) - 1)) 0 ((tE U k) 6))))) 3000 = some (.inr (9, [.int (tM U), .ref (ad 3001), .ref (ad 3002), .ref (ad 3003)])) := ((fU_n (by omega)).trans (fU_n (by omega)).symm).trans hS0
                have hSh : (fU M (3300 + k) (.inr (7, gV (upd (upd (upd (tE U k) 4 0) 5 (((tE U k) 5) - 1)) 0 ((tE U k) 6))))) 3001 = some (.inl (gY g, tHn U, .inr (.inr (.inr (.inr fHh))))) := ((fU_n (by omega)).trans (fU_n (by omega)).symm).trans hSh
                have hSe : (fU M (3300 + k) (.inr (7, gV (upd (upd (upd (tE U k) 4 0) 5 (((tE U k) 5) - 1)) 0 ((tE U k) 6))))) 3002 = some (.inl (gW g, tEn U, .inr (.inr (.inr (.inr fEe))))) := ((fU_n (by omega)).trans (fU_n (by omega)).symm).trans hSe
                have hSp : (fU M (3300 + k) (.inr (7, gV (upd (upd (upd (tE U k) 4 0) 5 (((tE U k) 5) - 1)) 0 ((tE U k) 6))))) 3003 = some (.inl (gQ g, tPn U, .inr (.inr (.inr (.inr fPp))))) := ((fU_n (by omega)).trans (fU_n (by omega)).symm).trans hSp
                have hM_3300___k : (fU M (3300 + k) (.inr (7, gV (upd (upd (upd (tE U k) 4 0) 5 (((tE U k) 5) - 1)) 0 ((tE U k) 6))))) (3300 + k) = some (.inr (7, gV (upd (upd (upd (tE U k) 4 0) 5 (((tE U k) 5) - 1)) 0 ((tE U k) 6)))) := fU_s
                refine lv_iinc (v := nI (k + 1)) (lv' := [(3, .int (nI (k + 1))), (4, .ref (ad (3300 + k))), (2, .int (nI (tEn U))), (1, .ref (ad 3002)), (0, .ref (ad 3000))]) hx hb dX8_pass_134 hl (k := 1) rfl (nI_1 k) (by decide) rfl (fun ls hl => ?_)
                refine lv_goto (tgt := 10) hx hb dX8_pass_137 (by decide) ?_
                have eF : upd (upd (upd (tE U k) 4 0) 5 (((tE U k) 5) - 1)) 0 ((tE U k) 6) = sGo (tE U k) := by unfold sGo; rw [show sFire (tE U k) = upd (tE U k) 4 0 from by unfold sFire; rw [if_pos c_14, if_neg c_15]]; exact Eq.symm ((if_neg c_18).trans (if_pos c_19))
                have hS2 := isSim_E (j := k) (f := upd (upd (upd (tE U k) 4 0) 5 (((tE U k) 5) - 1)) 0 ((tE U k) 6)) hS (by show k < tEn U; omega)
                have eU : sE (mE sGo k U) k (upd (upd (upd (tE U k) 4 0) 5 (((tE U k) 5) - 1)) 0 ((tE U k) 6)) = mE sGo (k + 1) U := by rw [eF]; exact mE_step
                rw [eU] at hS2
                exact ih (k + 1) (by omega) (by omega) _ hS2 (fReg_U (hrA) (by omega)) ls _ _ hw (lv_sub hl [0, 2, 3, 4] rfl)
            · refine lv_goto (tgt := 134) hx hb dX8_pass_102 (by decide) ?_
              refine lv_iinc (v := nI (k + 1)) (lv' := [(3, .int (nI (k + 1))), (4, .ref (ad (3300 + k))), (2, .int (nI (tEn U))), (1, .ref (ad 3002)), (0, .ref (ad 3000))]) hx hb dX8_pass_134 hl (k := 1) rfl (nI_1 k) (by decide) rfl (fun ls hl => ?_)
              refine lv_goto (tgt := 10) hx hb dX8_pass_137 (by decide) ?_
              have eF : upd (tE U k) 4 0 = sGo (tE U k) := by unfold sGo; rw [show sFire (tE U k) = upd (tE U k) 4 0 from by unfold sFire; rw [if_pos c_14, if_neg c_15]]; exact Eq.symm (if_pos c_18)
              have hS2 := isSim_E (j := k) (f := upd (tE U k) 4 0) hS (by show k < tEn U; omega)
              have eU : sE (mE sGo k U) k (upd (tE U k) 4 0) = mE sGo (k + 1) U := by rw [eF]; exact mE_step
              rw [eU] at hS2
              exact ih (k + 1) (by omega) (by omega) _ hS2 (fReg_U (hrA) (by omega)) ls _ _ hw (lv_sub hl [0, 2, 3, 4] rfl)
        · refine lv_aload hx hb dX8_pass_28 (lv_at hl 0 rfl) ?_
          refine lv_dup hx hb dX8_pass_30 rfl ?_
          refine f_get X hw (hel (by omega)) fc7 3 (by decide) wq775 rfl (v := .int ((tE U k) 3)) rfl dX8_pass_31 ?_
          refine lv_iconst (v := 1) hx hb dX8_pass_34 (by decide) ?_
          refine lv_isub hx hb dX8_pass_35 ?_
          refine f_put X hw (hel (by omega)) fc7 3 (by decide) wq775 rfl rfl (v := .int (((tE U k) 3) - 1)) rfl rfl (Nat.le_of_ble_eq_true rfl) dX8_pass_36 (fun H locs hw => ?_)
          have hw : fw g ad (fU M (3300 + k) (.inr (7, gV (upd (tE U k) 3 (((tE U k) 3) - 1))))) s H locs := hw
          have hS0 : (fU M (3300 + k) (.inr (7, gV (upd (tE U k) 3 (((tE U k) 3) - 1))))) 3000 = some (.inr (9, [.int (tM U), .ref (ad 3001), .ref (ad 3002), .ref (ad 3003)])) := (fU_n (by omega)).trans hS0
          have hSh : (fU M (3300 + k) (.inr (7, gV (upd (tE U k) 3 (((tE U k) 3) - 1))))) 3001 = some (.inl (gY g, tHn U, .inr (.inr (.inr (.inr fHh))))) := (fU_n (by omega)).trans hSh
          have hSe : (fU M (3300 + k) (.inr (7, gV (upd (tE U k) 3 (((tE U k) 3) - 1))))) 3002 = some (.inl (gW g, tEn U, .inr (.inr (.inr (.inr fEe))))) := (fU_n (by omega)).trans hSe
          have hSp : (fU M (3300 + k) (.inr (7, gV (upd (tE U k) 3 (((tE U k) 3) - 1))))) 3003 = some (.inl (gQ g, tPn U, .inr (.inr (.inr (.inr fPp))))) := (fU_n (by omega)).trans hSp
          have hM_3300___k : (fU M (3300 + k) (.inr (7, gV (upd (tE U k) 3 (((tE U k) 3) - 1))))) (3300 + k) = some (.inr (7, gV (upd (tE U k) 3 (((tE U k) 3) - 1)))) := fU_s
          refine lv_aload hx hb dX8_pass_39 (lv_at hl 0 rfl) ?_
          refine lv_aload hx hb dX8_pass_41 (lv_at hl 0 rfl) ?_
          refine f_get X hw hM_3300___k fc7 4 (by decide) wq777 rfl (v := .int ((tE U k) 4)) rfl dX8_pass_43 ?_
          refine lv_bipush (v := 96) hx hb dX8_pass_46 (by decide) ?_
          refine lv_icmp_le (tgt := 56) hx hb dX8_pass_48 (by decide) (fun c_20 => ?_) (fun c_20 => ?_)
          · refine lv_aload hx hb dX8_pass_56 (lv_at hl 0 rfl) ?_
            refine f_get X hw hM_3300___k fc7 4 (by decide) wq777 rfl (v := .int ((tE U k) 4)) rfl dX8_pass_58 ?_
            refine lv_iconst (v := 4) hx hb dX8_pass_61 (by decide) ?_
            refine lv_iadd hx hb dX8_pass_62 ?_
            refine f_put X hw hM_3300___k fc7 4 (by decide) wq777 rfl rfl (v := .int (((tE U k) 4) + 4)) rfl rfl (Nat.le_of_ble_eq_true rfl) dX8_pass_63 (fun H locs hw => ?_)
            have hw : fw g ad (fU (fU M (3300 + k) (.inr (7, gV (upd (tE U k) 3 (((tE U k) 3) - 1))))) (3300 + k) (.inr (7, gV (upd (upd (tE U k) 3 (((tE U k) 3) - 1)) 4 (((tE U k) 4) + 4))))) s H locs := hw
            rw [fU_U] at hw
            have hS0 : (fU M (3300 + k) (.inr (7, gV (upd (upd (tE U k) 3 (((tE U k) 3) - 1)) 4 (((tE U k) 4) + 4))))) 3000 = some (.inr (9, [.int (tM U), .ref (ad 3001), .ref (ad 3002), .ref (ad 3003)])) := ((fU_n (by omega)).trans (fU_n (by omega)).symm).trans hS0
            have hSh : (fU M (3300 + k) (.inr (7, gV (upd (upd (tE U k) 3 (((tE U k) 3) - 1)) 4 (((tE U k) 4) + 4))))) 3001 = some (.inl (gY g, tHn U, .inr (.inr (.inr (.inr fHh))))) := ((fU_n (by omega)).trans (fU_n (by omega)).symm).trans hSh
            have hSe : (fU M (3300 + k) (.inr (7, gV (upd (upd (tE U k) 3 (((tE U k) 3) - 1)) 4 (((tE U k) 4) + 4))))) 3002 = some (.inl (gW g, tEn U, .inr (.inr (.inr (.inr fEe))))) := ((fU_n (by omega)).trans (fU_n (by omega)).symm).trans hSe
            have hSp : (fU M (3300 + k) (.inr (7, gV (upd (upd (tE U k) 3 (((tE U k) 3) - 1)) 4 (((tE U k) 4) + 4))))) 3003 = some (.inl (gQ g, tPn U, .inr (.inr (.inr (.inr fPp))))) := ((fU_n (by omega)).trans (fU_n (by omega)).symm).trans hSp
            have hM_3300___k : (fU M (3300 + k) (.inr (7, gV (upd (upd (tE U k) 3 (((tE U k) 3) - 1)) 4 (((tE U k) 4) + 4))))) (3300 + k) = some (.inr (7, gV (upd (upd (tE U k) 3 (((tE U k) 3) - 1)) 4 (((tE U k) 4) + 4)))) := fU_s
            refine lv_goto (tgt := 94) hx hb dX8_pass_66 (by decide) ?_
            refine lv_aload hx hb dX8_pass_94 (lv_at hl 0 rfl) ?_
            refine f_get X hw hM_3300___k fc7 5 (by decide) wq780 rfl (v := .int ((tE U k) 5)) rfl dX8_pass_96 ?_
            refine lv_if_ne (tgt := 105) hx hb dX8_pass_99 (by decide) (fun c_21 => ?_) (fun c_21 => ?_)
            · refine lv_aload hx hb dX8_pass_105 (lv_at hl 0 rfl) ?_
              refine lv_dup hx hb dX8_pass_107 rfl ?_
              refine f_get X hw hM_3300___k fc7 5 (by decide) wq780 rfl (v := .int ((tE U k) 5)) rfl dX8_pass_108 ?_
              refine lv_iconst (v := 1) hx hb dX8_pass_111 (by decide) ?_
              refine lv_isub hx hb dX8_pass_112 ?_
              refine f_put X hw hM_3300___k fc7 5 (by decide) wq780 rfl rfl (v := .int (((tE U k) 5) - 1)) rfl rfl (Nat.le_of_ble_eq_true rfl) dX8_pass_113 (fun H locs hw => ?_)
              have hw : fw g ad (fU (fU M (3300 + k) (.inr (7, gV (upd (upd (tE U k) 3 (((tE U k) 3) - 1)) 4 (((tE U k) 4) + 4))))) (3300 + k) (.inr (7, gV (upd (upd (upd (tE U k) 3 (((tE U k) 3) - 1)) 4 (((tE U k) 4) + 4)) 5 (((tE U k) 5) - 1))))) s H locs := hw
              rw [fU_U] at hw
              have hS0 : (fU M (3300 + k) (.inr (7, gV (upd (upd (upd (tE U k) 3 (((tE U k) 3) - 1)) 4 (((tE U k) 4) + 4)) 5 (((tE U k) 5) - 1))))) 3000 = some (.inr (9, [.int (tM U), .ref (ad 3001), .ref (ad 3002), .ref (ad 3003)])) := ((fU_n (by omega)).trans (fU_n (by omega)).symm).trans hS0
              have hSh : (fU M (3300 + k) (.inr (7, gV (upd (upd (upd (tE U k) 3 (((tE U k) 3) - 1)) 4 (((tE U k) 4) + 4)) 5 (((tE U k) 5) - 1))))) 3001 = some (.inl (gY g, tHn U, .inr (.inr (.inr (.inr fHh))))) := ((fU_n (by omega)).trans (fU_n (by omega)).symm).trans hSh
              have hSe : (fU M (3300 + k) (.inr (7, gV (upd (upd (upd (tE U k) 3 (((tE U k) 3) - 1)) 4 (((tE U k) 4) + 4)) 5 (((tE U k) 5) - 1))))) 3002 = some (.inl (gW g, tEn U, .inr (.inr (.inr (.inr fEe))))) := ((fU_n (by omega)).trans (fU_n (by omega)).symm).trans hSe
              have hSp : (fU M (3300 + k) (.inr (7, gV (upd (upd (upd (tE U k) 3 (((tE U k) 3) - 1)) 4 (((tE U k) 4) + 4)) 5 (((tE U k) 5) - 1))))) 3003 = some (.inl (gQ g, tPn U, .inr (.inr (.inr (.inr fPp))))) := ((fU_n (by omega)).trans (fU_n (by omega)).symm).trans hSp
              have hM_3300___k : (fU M (3300 + k) (.inr (7, gV (upd (upd (upd (tE U k) 3 (((tE U k) 3) - 1)) 4 (((tE U k) 4) + 4)) 5 (((tE U k) 5) - 1))))) (3300 + k) = some (.inr (7, gV (upd (upd (upd (tE U k) 3 (((tE U k) 3) - 1)) 4 (((tE U k) 4) + 4)) 5 (((tE U k) 5) - 1)))) := fU_s
              refine lv_aload hx hb dX8_pass_116 (lv_at hl 0 rfl) ?_
              refine f_get X hw hM_3300___k fc7 5 (by decide) wq780 rfl (v := .int (((tE U k) 5) - 1)) rfl dX8_pass_118 ?_
              refine lv_if_ne (tgt := 134) hx hb dX8_pass_121 (by decide) (fun c_22 => ?_) (fun c_22 => ?_)
              · refine lv_iinc (v := nI (k + 1)) (lv' := [(3, .int (nI (k + 1))), (4, .ref (ad (3300 + k))), (2, .int (nI (tEn U))), (1, .ref (ad 3002)), (0, .ref (ad 3000))]) hx hb dX8_pass_134 hl (k := 1) rfl (nI_1 k) (by decide) rfl (fun ls hl => ?_)
                refine lv_goto (tgt := 10) hx hb dX8_pass_137 (by decide) ?_
                have eF : upd (upd (upd (tE U k) 3 (((tE U k) 3) - 1)) 4 (((tE U k) 4) + 4)) 5 (((tE U k) 5) - 1) = sGo (tE U k) := by unfold sGo; rw [show sFire (tE U k) = upd (upd (tE U k) 3 (((tE U k) 3) - 1)) 4 (((tE U k) 4) + 4) from by unfold sFire; rw [if_neg c_14, if_pos c_20]]; exact Eq.symm ((if_neg c_21).trans (if_neg c_22))
                have hS2 := isSim_E (j := k) (f := upd (upd (upd (tE U k) 3 (((tE U k) 3) - 1)) 4 (((tE U k) 4) + 4)) 5 (((tE U k) 5) - 1)) hS (by show k < tEn U; omega)
                have eU : sE (mE sGo k U) k (upd (upd (upd (tE U k) 3 (((tE U k) 3) - 1)) 4 (((tE U k) 4) + 4)) 5 (((tE U k) 5) - 1)) = mE sGo (k + 1) U := by rw [eF]; exact mE_step
                rw [eU] at hS2
                exact ih (k + 1) (by omega) (by omega) _ hS2 (fReg_U (hrA) (by omega)) ls _ _ hw (lv_sub hl [0, 2, 3, 4] rfl)
              · refine lv_aload hx hb dX8_pass_124 (lv_at hl 0 rfl) ?_
                refine lv_aload hx hb dX8_pass_126 (lv_at hl 0 rfl) ?_
                refine f_get X hw hM_3300___k fc7 6 (by decide) wq782 rfl (v := .int ((tE U k) 6)) rfl dX8_pass_128 ?_
                refine f_put X hw hM_3300___k fc7 0 (by decide) wq767 rfl rfl (v := .int ((tE U k) 6)) rfl rfl (Nat.le_of_ble_eq_true rfl) dX8_pass_131 (fun H locs hw => ?_)
                have hw : fw g ad (fU (fU M (3300 + k) (.inr (7, gV (upd (upd (upd (tE U k) 3 (((tE U k) 3) - 1)) 4 (((tE U k) 4) + 4)) 5 (((tE U k) 5) - 1))))) (3300 + k) (.inr (7, gV (upd (upd (upd (upd (tE U k) 3 (((tE U k) 3) - 1)) 4 (((tE U k) 4) + 4)) 5 (((tE U k) 5) - 1)) 0 ((tE U k) 6))))) s H locs := hw
                rw [fU_U] at hw
                have hS0 : (fU M (3300 + k) (.inr (7, gV (upd (upd (upd (upd (tE U k) 3 (((tE U k) 3) - 1)) 4 (((tE U k) 4) + 4)) 5 (((tE U k) 5) - 1)) 0 ((tE U k) 6))))) 3000 = some (.inr (9, [.int (tM U), .ref (ad 3001), .ref (ad 3002), .ref (ad 3003)])) := ((fU_n (by omega)).trans (fU_n (by omega)).symm).trans hS0
                have hSh : (fU M (3300 + k) (.inr (7, gV (upd (upd (upd (upd (tE U k) 3 (((tE U k) 3) - 1)) 4 (((tE U k) 4) + 4)) 5 (((tE U k) 5) - 1)) 0 ((tE U k) 6))))) 3001 = some (.inl (gY g, tHn U, .inr (.inr (.inr (.inr fHh))))) := ((fU_n (by omega)).trans (fU_n (by omega)).symm).trans hSh
                have hSe : (fU M (3300 + k) (.inr (7, gV (upd (upd (upd (upd (tE U k) 3 (((tE U k) 3) - 1)) 4 (((tE U k) 4) + 4)) 5 (((tE U k) 5) - 1)) 0 ((tE U k) 6))))) 3002 = some (.inl (gW g, tEn U, .inr (.inr (.inr (.inr fEe))))) := ((fU_n (by omega)).trans (fU_n (by omega)).symm).trans hSe
                have hSp : (fU M (3300 + k) (.inr (7, gV (upd (upd (upd (upd (tE U k) 3 (((tE U k) 3) - 1)) 4 (((tE U k) 4) + 4)) 5 (((tE U k) 5) - 1)) 0 ((tE U k) 6))))) 3003 = some (.inl (gQ g, tPn U, .inr (.inr (.inr (.inr fPp))))) := ((fU_n (by omega)).trans (fU_n (by omega)).symm).trans hSp
                have hM_3300___k : (fU M (3300 + k) (.inr (7, gV (upd (upd (upd (upd (tE U k) 3 (((tE U k) 3) - 1)) 4 (((tE U k) 4) + 4)) 5 (((tE U k) 5) - 1)) 0 ((tE U k) 6))))) (3300 + k) = some (.inr (7, gV (upd (upd (upd (upd (tE U k) 3 (((tE U k) 3) - 1)) 4 (((tE U k) 4) + 4)) 5 (((tE U k) 5) - 1)) 0 ((tE U k) 6)))) := fU_s
                refine lv_iinc (v := nI (k + 1)) (lv' := [(3, .int (nI (k + 1))), (4, .ref (ad (3300 + k))), (2, .int (nI (tEn U))), (1, .ref (ad 3002)), (0, .ref (ad 3000))]) hx hb dX8_pass_134 hl (k := 1) rfl (nI_1 k) (by decide) rfl (fun ls hl => ?_)
                refine lv_goto (tgt := 10) hx hb dX8_pass_137 (by decide) ?_
                have eF : upd (upd (upd (upd (tE U k) 3 (((tE U k) 3) - 1)) 4 (((tE U k) 4) + 4)) 5 (((tE U k) 5) - 1)) 0 ((tE U k) 6) = sGo (tE U k) := by unfold sGo; rw [show sFire (tE U k) = upd (upd (tE U k) 3 (((tE U k) 3) - 1)) 4 (((tE U k) 4) + 4) from by unfold sFire; rw [if_neg c_14, if_pos c_20]]; exact Eq.symm ((if_neg c_21).trans (if_pos c_22))
                have hS2 := isSim_E (j := k) (f := upd (upd (upd (upd (tE U k) 3 (((tE U k) 3) - 1)) 4 (((tE U k) 4) + 4)) 5 (((tE U k) 5) - 1)) 0 ((tE U k) 6)) hS (by show k < tEn U; omega)
                have eU : sE (mE sGo k U) k (upd (upd (upd (upd (tE U k) 3 (((tE U k) 3) - 1)) 4 (((tE U k) 4) + 4)) 5 (((tE U k) 5) - 1)) 0 ((tE U k) 6)) = mE sGo (k + 1) U := by rw [eF]; exact mE_step
                rw [eU] at hS2
                exact ih (k + 1) (by omega) (by omega) _ hS2 (fReg_U (hrA) (by omega)) ls _ _ hw (lv_sub hl [0, 2, 3, 4] rfl)
            · refine lv_goto (tgt := 134) hx hb dX8_pass_102 (by decide) ?_
              refine lv_iinc (v := nI (k + 1)) (lv' := [(3, .int (nI (k + 1))), (4, .ref (ad (3300 + k))), (2, .int (nI (tEn U))), (1, .ref (ad 3002)), (0, .ref (ad 3000))]) hx hb dX8_pass_134 hl (k := 1) rfl (nI_1 k) (by decide) rfl (fun ls hl => ?_)
              refine lv_goto (tgt := 10) hx hb dX8_pass_137 (by decide) ?_
              have eF : upd (upd (tE U k) 3 (((tE U k) 3) - 1)) 4 (((tE U k) 4) + 4) = sGo (tE U k) := by unfold sGo; rw [show sFire (tE U k) = upd (upd (tE U k) 3 (((tE U k) 3) - 1)) 4 (((tE U k) 4) + 4) from by unfold sFire; rw [if_neg c_14, if_pos c_20]]; exact Eq.symm (if_pos c_21)
              have hS2 := isSim_E (j := k) (f := upd (upd (tE U k) 3 (((tE U k) 3) - 1)) 4 (((tE U k) 4) + 4)) hS (by show k < tEn U; omega)
              have eU : sE (mE sGo k U) k (upd (upd (tE U k) 3 (((tE U k) 3) - 1)) 4 (((tE U k) 4) + 4)) = mE sGo (k + 1) U := by rw [eF]; exact mE_step
              rw [eU] at hS2
              exact ih (k + 1) (by omega) (by omega) _ hS2 (fReg_U (hrA) (by omega)) ls _ _ hw (lv_sub hl [0, 2, 3, 4] rfl)
          · refine lv_bipush (v := 100) hx hb dX8_pass_51 (by decide) ?_
            refine lv_goto (tgt := 63) hx hb dX8_pass_53 (by decide) ?_
            refine f_put X hw hM_3300___k fc7 4 (by decide) wq777 rfl rfl (v := .int 100) rfl rfl (Nat.le_of_ble_eq_true rfl) dX8_pass_63 (fun H locs hw => ?_)
            have hw : fw g ad (fU (fU M (3300 + k) (.inr (7, gV (upd (tE U k) 3 (((tE U k) 3) - 1))))) (3300 + k) (.inr (7, gV (upd (upd (tE U k) 3 (((tE U k) 3) - 1)) 4 100)))) s H locs := hw
            rw [fU_U] at hw
            have hS0 : (fU M (3300 + k) (.inr (7, gV (upd (upd (tE U k) 3 (((tE U k) 3) - 1)) 4 100)))) 3000 = some (.inr (9, [.int (tM U), .ref (ad 3001), .ref (ad 3002), .ref (ad 3003)])) := ((fU_n (by omega)).trans (fU_n (by omega)).symm).trans hS0
            have hSh : (fU M (3300 + k) (.inr (7, gV (upd (upd (tE U k) 3 (((tE U k) 3) - 1)) 4 100)))) 3001 = some (.inl (gY g, tHn U, .inr (.inr (.inr (.inr fHh))))) := ((fU_n (by omega)).trans (fU_n (by omega)).symm).trans hSh
            have hSe : (fU M (3300 + k) (.inr (7, gV (upd (upd (tE U k) 3 (((tE U k) 3) - 1)) 4 100)))) 3002 = some (.inl (gW g, tEn U, .inr (.inr (.inr (.inr fEe))))) := ((fU_n (by omega)).trans (fU_n (by omega)).symm).trans hSe
            have hSp : (fU M (3300 + k) (.inr (7, gV (upd (upd (tE U k) 3 (((tE U k) 3) - 1)) 4 100)))) 3003 = some (.inl (gQ g, tPn U, .inr (.inr (.inr (.inr fPp))))) := ((fU_n (by omega)).trans (fU_n (by omega)).symm).trans hSp
            have hM_3300___k : (fU M (3300 + k) (.inr (7, gV (upd (upd (tE U k) 3 (((tE U k) 3) - 1)) 4 100)))) (3300 + k) = some (.inr (7, gV (upd (upd (tE U k) 3 (((tE U k) 3) - 1)) 4 100))) := fU_s
            refine lv_goto (tgt := 94) hx hb dX8_pass_66 (by decide) ?_
            refine lv_aload hx hb dX8_pass_94 (lv_at hl 0 rfl) ?_
            refine f_get X hw hM_3300___k fc7 5 (by decide) wq780 rfl (v := .int ((tE U k) 5)) rfl dX8_pass_96 ?_
            refine lv_if_ne (tgt := 105) hx hb dX8_pass_99 (by decide) (fun c_23 => ?_) (fun c_23 => ?_)
            · refine lv_aload hx hb dX8_pass_105 (lv_at hl 0 rfl) ?_
              refine lv_dup hx hb dX8_pass_107 rfl ?_
              refine f_get X hw hM_3300___k fc7 5 (by decide) wq780 rfl (v := .int ((tE U k) 5)) rfl dX8_pass_108 ?_
              refine lv_iconst (v := 1) hx hb dX8_pass_111 (by decide) ?_
              refine lv_isub hx hb dX8_pass_112 ?_
              refine f_put X hw hM_3300___k fc7 5 (by decide) wq780 rfl rfl (v := .int (((tE U k) 5) - 1)) rfl rfl (Nat.le_of_ble_eq_true rfl) dX8_pass_113 (fun H locs hw => ?_)
              have hw : fw g ad (fU (fU M (3300 + k) (.inr (7, gV (upd (upd (tE U k) 3 (((tE U k) 3) - 1)) 4 100)))) (3300 + k) (.inr (7, gV (upd (upd (upd (tE U k) 3 (((tE U k) 3) - 1)) 4 100) 5 (((tE U k) 5) - 1))))) s H locs := hw
              rw [fU_U] at hw
              have hS0 : (fU M (3300 + k) (.inr (7, gV (upd (upd (upd (tE U k) 3 (((tE U k) 3) - 1)) 4 100) 5 (((tE U k) 5) - 1))))) 3000 = some (.inr (9, [.int (tM U), .ref (ad 3001), .ref (ad 3002), .ref (ad 3003)])) := ((fU_n (by omega)).trans (fU_n (by omega)).symm).trans hS0
              have hSh : (fU M (3300 + k) (.inr (7, gV (upd (upd (upd (tE U k) 3 (((tE U k) 3) - 1)) 4 100) 5 (((tE U k) 5) - 1))))) 3001 = some (.inl (gY g, tHn U, .inr (.inr (.inr (.inr fHh))))) := ((fU_n (by omega)).trans (fU_n (by omega)).symm).trans hSh
              have hSe : (fU M (3300 + k) (.inr (7, gV (upd (upd (upd (tE U k) 3 (((tE U k) 3) - 1)) 4 100) 5 (((tE U k) 5) - 1))))) 3002 = some (.inl (gW g, tEn U, .inr (.inr (.inr (.inr fEe))))) := ((fU_n (by omega)).trans (fU_n (by omega)).symm).trans hSe
              have hSp : (fU M (3300 + k) (.inr (7, gV (upd (upd (upd (tE U k) 3 (((tE U k) 3) - 1)) 4 100) 5 (((tE U k) 5) - 1))))) 3003 = some (.inl (gQ g, tPn U, .inr (.inr (.inr (.inr fPp))))) := ((fU_n (by omega)).trans (fU_n (by omega)).symm).trans hSp
              have hM_3300___k : (fU M (3300 + k) (.inr (7, gV (upd (upd (upd (tE U k) 3 (((tE U k) 3) - 1)) 4 100) 5 (((tE U k) 5) - 1))))) (3300 + k) = some (.inr (7, gV (upd (upd (upd (tE U k) 3 (((tE U k) 3) - 1)) 4 100) 5 (((tE U k) 5) - 1)))) := fU_s
              refine lv_aload hx hb dX8_pass_116 (lv_at hl 0 rfl) ?_
              refine f_get X hw hM_3300___k fc7 5 (by decide) wq780 rfl (v := .int (((tE U k) 5) - 1)) rfl dX8_pass_118 ?_
              refine lv_if_ne (tgt := 134) hx hb dX8_pass_121 (by decide) (fun c_24 => ?_) (fun c_24 => ?_)
              · refine lv_iinc (v := nI (k + 1)) (lv' := [(3, .int (nI (k + 1))), (4, .ref (ad (3300 + k))), (2, .int (nI (tEn U))), (1, .ref (ad 3002)), (0, .ref (ad 3000))]) hx hb dX8_pass_134 hl (k := 1) rfl (nI_1 k) (by decide) rfl (fun ls hl => ?_)
                refine lv_goto (tgt := 10) hx hb dX8_pass_137 (by decide) ?_
                have eF : upd (upd (upd (tE U k) 3 (((tE U k) 3) - 1)) 4 100) 5 (((tE U k) 5) - 1) = sGo (tE U k) := by unfold sGo; rw [show sFire (tE U k) = upd (upd (tE U k) 3 (((tE U k) 3) - 1)) 4 100 from by unfold sFire; rw [if_neg c_14, if_neg c_20]]; exact Eq.symm ((if_neg c_23).trans (if_neg c_24))
                have hS2 := isSim_E (j := k) (f := upd (upd (upd (tE U k) 3 (((tE U k) 3) - 1)) 4 100) 5 (((tE U k) 5) - 1)) hS (by show k < tEn U; omega)
                have eU : sE (mE sGo k U) k (upd (upd (upd (tE U k) 3 (((tE U k) 3) - 1)) 4 100) 5 (((tE U k) 5) - 1)) = mE sGo (k + 1) U := by rw [eF]; exact mE_step
                rw [eU] at hS2
                exact ih (k + 1) (by omega) (by omega) _ hS2 (fReg_U (hrA) (by omega)) ls _ _ hw (lv_sub hl [0, 2, 3, 4] rfl)
              · refine lv_aload hx hb dX8_pass_124 (lv_at hl 0 rfl) ?_
                refine lv_aload hx hb dX8_pass_126 (lv_at hl 0 rfl) ?_
                refine f_get X hw hM_3300___k fc7 6 (by decide) wq782 rfl (v := .int ((tE U k) 6)) rfl dX8_pass_128 ?_
                refine f_put X hw hM_3300___k fc7 0 (by decide) wq767 rfl rfl (v := .int ((tE U k) 6)) rfl rfl (Nat.le_of_ble_eq_true rfl) dX8_pass_131 (fun H locs hw => ?_)
                have hw : fw g ad (fU (fU M (3300 + k) (.inr (7, gV (upd (upd (upd (tE U k) 3 (((tE U k) 3) - 1)) 4 100) 5 (((tE U k) 5) - 1))))) (3300 + k) (.inr (7, gV (upd (upd (upd (upd (tE U k) 3 (((tE U k) 3) - 1)) 4 100) 5 (((tE U k) 5) - 1)) 0 ((tE U k) 6))))) s H locs := hw
                rw [fU_U] at hw
                have hS0 : (fU M (3300 + k) (.inr (7, gV (upd (upd (upd (upd (tE U k) 3 (((tE U k) 3) - 1)) 4 100) 5 (((tE U k) 5) - 1)) 0 ((tE U k) 6))))) 3000 = some (.inr (9, [.int (tM U), .ref (ad 3001), .ref (ad 3002), .ref (ad 3003)])) := ((fU_n (by omega)).trans (fU_n (by omega)).symm).trans hS0
                have hSh : (fU M (3300 + k) (.inr (7, gV (upd (upd (upd (upd (tE U k) 3 (((tE U k) 3) - 1)) 4 100) 5 (((tE U k) 5) - 1)) 0 ((tE U k) 6))))) 3001 = some (.inl (gY g, tHn U, .inr (.inr (.inr (.inr fHh))))) := ((fU_n (by omega)).trans (fU_n (by omega)).symm).trans hSh
                have hSe : (fU M (3300 + k) (.inr (7, gV (upd (upd (upd (upd (tE U k) 3 (((tE U k) 3) - 1)) 4 100) 5 (((tE U k) 5) - 1)) 0 ((tE U k) 6))))) 3002 = some (.inl (gW g, tEn U, .inr (.inr (.inr (.inr fEe))))) := ((fU_n (by omega)).trans (fU_n (by omega)).symm).trans hSe
                have hSp : (fU M (3300 + k) (.inr (7, gV (upd (upd (upd (upd (tE U k) 3 (((tE U k) 3) - 1)) 4 100) 5 (((tE U k) 5) - 1)) 0 ((tE U k) 6))))) 3003 = some (.inl (gQ g, tPn U, .inr (.inr (.inr (.inr fPp))))) := ((fU_n (by omega)).trans (fU_n (by omega)).symm).trans hSp
                have hM_3300___k : (fU M (3300 + k) (.inr (7, gV (upd (upd (upd (upd (tE U k) 3 (((tE U k) 3) - 1)) 4 100) 5 (((tE U k) 5) - 1)) 0 ((tE U k) 6))))) (3300 + k) = some (.inr (7, gV (upd (upd (upd (upd (tE U k) 3 (((tE U k) 3) - 1)) 4 100) 5 (((tE U k) 5) - 1)) 0 ((tE U k) 6)))) := fU_s
                refine lv_iinc (v := nI (k + 1)) (lv' := [(3, .int (nI (k + 1))), (4, .ref (ad (3300 + k))), (2, .int (nI (tEn U))), (1, .ref (ad 3002)), (0, .ref (ad 3000))]) hx hb dX8_pass_134 hl (k := 1) rfl (nI_1 k) (by decide) rfl (fun ls hl => ?_)
                refine lv_goto (tgt := 10) hx hb dX8_pass_137 (by decide) ?_
                have eF : upd (upd (upd (upd (tE U k) 3 (((tE U k) 3) - 1)) 4 100) 5 (((tE U k) 5) - 1)) 0 ((tE U k) 6) = sGo (tE U k) := by unfold sGo; rw [show sFire (tE U k) = upd (upd (tE U k) 3 (((tE U k) 3) - 1)) 4 100 from by unfold sFire; rw [if_neg c_14, if_neg c_20]]; exact Eq.symm ((if_neg c_23).trans (if_pos c_24))
                have hS2 := isSim_E (j := k) (f := upd (upd (upd (upd (tE U k) 3 (((tE U k) 3) - 1)) 4 100) 5 (((tE U k) 5) - 1)) 0 ((tE U k) 6)) hS (by show k < tEn U; omega)
                have eU : sE (mE sGo k U) k (upd (upd (upd (upd (tE U k) 3 (((tE U k) 3) - 1)) 4 100) 5 (((tE U k) 5) - 1)) 0 ((tE U k) 6)) = mE sGo (k + 1) U := by rw [eF]; exact mE_step
                rw [eU] at hS2
                exact ih (k + 1) (by omega) (by omega) _ hS2 (fReg_U (hrA) (by omega)) ls _ _ hw (lv_sub hl [0, 2, 3, 4] rfl)
            · refine lv_goto (tgt := 134) hx hb dX8_pass_102 (by decide) ?_
              refine lv_iinc (v := nI (k + 1)) (lv' := [(3, .int (nI (k + 1))), (4, .ref (ad (3300 + k))), (2, .int (nI (tEn U))), (1, .ref (ad 3002)), (0, .ref (ad 3000))]) hx hb dX8_pass_134 hl (k := 1) rfl (nI_1 k) (by decide) rfl (fun ls hl => ?_)
              refine lv_goto (tgt := 10) hx hb dX8_pass_137 (by decide) ?_
              have eF : upd (upd (tE U k) 3 (((tE U k) 3) - 1)) 4 100 = sGo (tE U k) := by unfold sGo; rw [show sFire (tE U k) = upd (upd (tE U k) 3 (((tE U k) 3) - 1)) 4 100 from by unfold sFire; rw [if_neg c_14, if_neg c_20]]; exact Eq.symm (if_pos c_23)
              have hS2 := isSim_E (j := k) (f := upd (upd (tE U k) 3 (((tE U k) 3) - 1)) 4 100) hS (by show k < tEn U; omega)
              have eU : sE (mE sGo k U) k (upd (upd (tE U k) 3 (((tE U k) 3) - 1)) 4 100) = mE sGo (k + 1) U := by rw [eF]; exact mE_step
              rw [eU] at hS2
              exact ih (k + 1) (by omega) (by omega) _ hS2 (fReg_U (hrA) (by omega)) ls _ _ hw (lv_sub hl [0, 2, 3, 4] rfl)
  have hS1 : isSim g ad M (mE sGo 0 U) := by rw [mE_0]; exact hS
  exact loop10 (tEn U + 1) 0 (by omega) (by omega) M hS1 hrA ls _ _ hw (lv_sub hl [0, 1, 2, 3] rfl)
