abbrev fMx (g : fG) (ad : Nat → Nat) (M : fM) (th : Int32) (U : fTn) (sp : Nat → Int32) (v : Int32) : Int32 → (Nat → Nat) → fM → Prop := fun r ad1 M1 => ad1 = ad ∧ (∃ ca, isMo g ad M1 th U sp ca) ∧ fReg 5 15 ad M ad M1 ∧ r = v
section FMX
variable {p : Program} {l : Launch} {e : Env} {R : Room} {s : State} {m : MethodId} {args : Array Value} {below : List Frame} {meth : Method} {c : Code} {H : Heap} {locs : List Loc} {cells slots : Nat} {Q : State → Prop}
variable {g : fG} {ad : Nat → Nat} {M : fM} {pc : Nat} {ls : Array Slot} {rest : List Value} {st0 : List Value} {a : Array Value} {mc ms : Nat} {U : fTn} {th : Int32} {sp : Nat → Int32}
theorem fk_mx {v : Int32} (hr : va_Run p l e R s m args below meth c H locs cells slots mc ms (F0 m pc ls st0) rest (fQi g (fMx g ad M th U sp v) a) (fA g)) (hw : fw g ad M s H locs)
    (kk : ∀ (M1 : fM) (ca : Nat → Int32) (H1 : Heap) (locs1 : List Loc), isMo g ad M1 th U sp ca → fReg 5 15 ad M ad M1 → fw g ad M1 s H1 locs1 → W p l e R s m args below meth c H1 locs1 (cells + mc) (slots + ms) Q (F0 m (pc + 3) ls (.int v :: rest))) : W p l e R s m args below meth c H locs cells slots Q (F0 m pc ls st0) :=
  fk_i hr hw (fun r ad1 M1 H1 locs1 hp hw1 => by obtain ⟨e1, ⟨ca, e2⟩, e3, e4⟩ := hp; rw [e4]; rw [e1] at hw1; exact kk M1 ca H1 locs1 e2 e3 hw1)
end FMX
/-! a minute, as the reference does it -/
def mFire (f : Nat → Int32) : Nat → Int32 := upd (upd f 3 (iMax 0 (f 3 - 1))) 4 (if f 3 ≤ 0 then iMax 0 (f 4 - 3) else iMin 100 (f 4 + 4))
def mDrive (f : Nat → Int32) : Nat → Int32 := if eStands f = true then f else if eStands (upd f 5 (f 5 - 1)) = true then upd (upd f 5 (f 5 - 1)) 0 (f 6) else upd f 5 (f 5 - 1)
def catB (V : fTn) (k : Nat) : Bool := decide (tH V k 3 = 0) && decide (¬ mHeat (tH V) (tH V k 0) (tHn V) - tH V k 5 < 40)
def caF (V : fTn) (ca : Nat → Int32) (k : Nat) : Nat → Int32 := fun j => if j < k then bI (catB V j) else ca j
theorem caF_0 {V : fTn} {ca : Nat → Int32} : caF V ca 0 = ca := by funext j; exact if_neg (Nat.not_lt_zero _)
theorem caF_step {V : fTn} {ca : Nat → Int32} {k : Nat} {v : Int32} (h : v = bI (catB V k)) : upd (caF V ca k) k v = caF V ca (k + 1) := by
  funext j
  unfold caF
  by_cases e : j = k
  · subst e; rw [upd_at, if_pos (by omega), h]
  · rw [upd_ne e]
    by_cases e2 : j < k
    · rw [if_pos e2, if_pos (by omega)]
    · rw [if_neg e2, if_neg (by omega)]
theorem caF_at {V : fTn} {ca : Nat → Int32} {k n : Nat} (h : k < n) : caF V ca n k = bI (catB V k) := if_pos h
def catH (V : fTn) (j : Nat) (f : Nat → Int32) : Nat → Int32 := if catB V j = true then upd (upd f 3 1) 4 5 else f
def catN (V : fTn) : Nat → Int32
  | 0 => 0
  | k + 1 => if catB V k = true then catN V k + 1 else catN V k
abbrev mHi (F : Nat → (Nat → Int32) → Nat → Int32) (n : Nat) (T : fTn) : fTn := (tM T, (tHn T, fun j => if j < n then F j (tH T j) else tH T j), (tPn T, tP T), (tEn T, tE T))
theorem mHi_step {F : Nat → (Nat → Int32) → Nat → Int32} {T : fTn} {k : Nat} : sH (mHi F k T) k (F k (tH T k)) = mHi F (k + 1) T := by
  show (tM T, (tHn T, fun j => if j = k then F k (tH T k) else (if j < k then F j (tH T j) else tH T j)), (tPn T, tP T), (tEn T, tE T)) = _
  congr 3
  funext j
  by_cases h : j = k
  · subst h
    rw [if_pos rfl, if_pos (Nat.lt_succ_self j)]
  · by_cases h2 : j < k
    · rw [if_neg h, if_pos h2, if_pos (by omega)]
    · rw [if_neg h, if_neg h2, if_neg (by omega)]
theorem mHi_ge {F : Nat → (Nat → Int32) → Nat → Int32} {T : fTn} {k i : Nat} (h : k ≤ i) : tH (mHi F k T) i = tH T i := if_neg (by omega)
theorem mHi_0 {F : Nat → (Nat → Int32) → Nat → Int32} {T : fTn} : mHi F 0 T = T := by
  obtain ⟨m, ⟨a, f⟩, ⟨b, f2⟩, c, f3⟩ := T
  simp [mHi]
theorem mDrive_7 {f : Nat → Int32} : mDrive f 7 = f 7 := by unfold mDrive; split <;> (try split) <;> rfl
theorem okHz_mE {U : fTn} {F : (Nat → Int32) → Nat → Int32} {n : Nat} (hF : ∀ f, F f 7 = f 7) (h : okHz U) : okHz (mE F n U) := by
  intro j hj
  rw [show tE (mE F n U) j 7 = tE U j 7 from by show (if j < n then F (tE U j) else tE U j) 7 = _; split; exact hF _; rfl]
  exact h j hj
def mBurnt (U : fTn) : fTn := mH mBurn (tHn U) (mPumpAll (mE mDrive (tEn U) (mE mFire (tEn U) U)))
def minU (U : fTn) : fTn × Int32 := (sM (mHi (catH (mBurnt U)) (tHn U) (mBurnt U)) (tM U + 1), catN (mBurnt U) (tHn U))
theorem mPumpAll_n (U : fTn) : tHn (mPumpAll U) = tHn U ∧ tPn (mPumpAll U) = tPn U ∧ tEn (mPumpAll U) = tEn U ∧ tM (mPumpAll U) = tM U := pumpedT_n U
set_option maxHeartbeats 4000000 in
set_option maxRecDepth 100000 in
theorem c_m_minute (l : Launch) (g : fG) (ad : Nat → Nat) (M : fM) {th : Int32} {U : fTn} {sp ca : Nat → Int32} (hM : isMo g ad M th U sp ca) (hOk : okHz U) : fCi l g yX6_minuteOn cX6_minuteOn 3 ((some .int)) 6 150 0 0 ad M [.ref (ad 5)] (fMx g ad M th (minU U).1 sp (minU U).2) := by
  refine f_body (own := RX6) (by decide +kernel) rfl (Nat.le_of_ble_eq_true rfl) ?_
  intro p e s m args below meth c ls X hw hin hl
  have hx := X.1
  have hb := X.2.1
  have hl : lv_has ls 3 [(0, .ref (ad 5))] := hl
  obtain ⟨pcs, wa, ht, et, mi, co, as, hMo, ⟨hm6, hm7, hm8, hm9, hm10, hm11, hm12, hm13, hm14⟩, hRel, hCnt⟩ := id hM
  obtain ⟨hn1, hn2, hn3⟩ := id hCnt
  have hn1 : tHn U ≤ 30 := hn1
  have hn2 : tPn U ≤ 6 := hn2
  have hn3 : tEn U ≤ 6 := hn3
  have hMo : M 5 = some (.inr (7, [.int th, .int (nI (tHn U)), .int (nI (tPn U)), .int (nI (tEn U)), .ref (ad 6), .ref (ad 7), .ref (ad 8), .ref (ad 9), .ref (ad 10), .ref (ad 11), .ref (ad 12), .ref (ad 13), .ref (ad 14)])) := hMo
  obtain ⟨rH, rP, rE, rM⟩ := id hRel
  obtain ⟨Mo, hMq⟩ : ∃ z, z = M := ⟨_, rfl⟩
  have hrA : fReg 5 15 ad Mo ad M := by rw [hMq]; exact fReg_rf
  obtain ⟨Q9, hQ9⟩ : ∃ z, z = MQ below (fQi g (fMx g ad M th (minU U).1 sp (minU U).2)) args s 0 0 (fA g) := ⟨_, rfl⟩
  show W p l e (fR 6 150 0 0) s m args below meth c _ _ 0 0 (MQ below (fQi g (fMx g ad M th (minU U).1 sp (minU U).2)) args s 0 0 (fA g)) (F0 m 0 ls [])
  rw [← hQ9]
  refine lv_iconst (v := 0) hx hb dX6_minuteOn_0 (by decide) ?_
  refine lv_istore_n (lv' := [(1, .int 0), (0, .ref (ad 5))]) hx hb dX6_minuteOn_1 rfl hl (by decide) rfl (fun ls hl => ?_)
  have loop2 : ∀ (n2 k : Nat), k ≤ tEn U → tEn U < k + n2 → ∀ (M : fM) (hM : isMo g ad M th (mE mFire k U) sp ca) (hrA : fReg 5 15 ad Mo ad M) (ls : Array Slot) (H : Heap) (locs : List Loc), fw g ad M s H locs → lv_has ls 3 [(1, .int (nI k)), (0, .ref (ad 5))] → W p l e (fR 6 150 0 0) s m args below meth c H locs 0 0 Q9 (F0 m 2 ls []) := by
    intro n2
    induction n2 with
    | zero => intro k h1 h2; omega
    | succ n2 ih2 =>
      intro k hk_k hn_k M hM hrA ls H locs hw hl
      obtain ⟨pcs, wa, ht, et, mi, co, as, hMo, ⟨hm6, hm7, hm8, hm9, hm10, hm11, hm12, hm13, hm14⟩, hRel, hCnt⟩ := id hM
      obtain ⟨hn1, hn2, hn3⟩ := id hCnt
      have hn1 : tHn U ≤ 30 := hn1
      have hn2 : tPn U ≤ 6 := hn2
      have hn3 : tEn U ≤ 6 := hn3
      have hMo : M 5 = some (.inr (7, [.int th, .int (nI (tHn U)), .int (nI (tPn U)), .int (nI (tEn U)), .ref (ad 6), .ref (ad 7), .ref (ad 8), .ref (ad 9), .ref (ad 10), .ref (ad 11), .ref (ad 12), .ref (ad 13), .ref (ad 14)])) := hMo
      obtain ⟨rH, rP, rE, rM⟩ := id hRel
      refine lv_iload_n hx hb dX6_minuteOn_2 rfl (lv_at hl 0 rfl) ?_
      refine lv_aload_n hx hb dX6_minuteOn_3 rfl (lv_at hl 1 rfl) ?_
      refine f_get X hw hMo fc7 3 (by decide) wq797 rfl (v := .int (nI (tEn U))) rfl dX6_minuteOn_4 ?_
      refine lv_icmp_ge (tgt := 87) hx hb dX6_minuteOn_7 (by decide) (fun c_1 => ?_) (fun c_1 => ?_)
      · have c_1 := nI_le' (a := (tEn U)) (b := k) c_1 (by omega) (by omega)
        refine lv_iconst (v := 0) hx hb dX6_minuteOn_87 (by decide) ?_
        refine lv_istore_n (lv' := [(1, .int 0), (0, .ref (ad 5))]) hx hb dX6_minuteOn_88 rfl hl (by decide) rfl (fun ls hl => ?_)
        have loop89 : ∀ (n89 k : Nat), k ≤ tEn U → tEn U < k + n89 → ∀ (M : fM) (hM : isMo g ad M th (mE mDrive k (mE mFire (tEn U) U)) sp ca) (hrA : fReg 5 15 ad Mo ad M) (ls : Array Slot) (H : Heap) (locs : List Loc), fw g ad M s H locs → lv_has ls 3 [(1, .int (nI k)), (0, .ref (ad 5))] → W p l e (fR 6 150 0 0) s m args below meth c H locs 0 0 Q9 (F0 m 89 ls []) := by
          intro n89
          induction n89 with
          | zero => intro k h1 h2; omega
          | succ n89 ih89 =>
            intro k hk_k hn_k M hM hrA ls H locs hw hl
            obtain ⟨pcs, wa, ht, et, mi, co, as, hMo, ⟨hm6, hm7, hm8, hm9, hm10, hm11, hm12, hm13, hm14⟩, hRel, hCnt⟩ := id hM
            obtain ⟨hn1, hn2, hn3⟩ := id hCnt
            have hn1 : tHn U ≤ 30 := hn1
            have hn2 : tPn U ≤ 6 := hn2
            have hn3 : tEn U ≤ 6 := hn3
            have hMo : M 5 = some (.inr (7, [.int th, .int (nI (tHn U)), .int (nI (tPn U)), .int (nI (tEn U)), .ref (ad 6), .ref (ad 7), .ref (ad 8), .ref (ad 9), .ref (ad 10), .ref (ad 11), .ref (ad 12), .ref (ad 13), .ref (ad 14)])) := hMo
            obtain ⟨rH, rP, rE, rM⟩ := id hRel
            refine lv_iload_n hx hb dX6_minuteOn_89 rfl (lv_at hl 0 rfl) ?_
            refine lv_aload_n hx hb dX6_minuteOn_90 rfl (lv_at hl 1 rfl) ?_
            refine f_get X hw hMo fc7 3 (by decide) wq797 rfl (v := .int (nI (tEn U))) rfl dX6_minuteOn_91 ?_
            refine lv_icmp_ge (tgt := 149) hx hb dX6_minuteOn_94 (by decide) (fun c_2 => ?_) (fun c_2 => ?_)
            · have c_2 := nI_le' (a := (tEn U)) (b := k) c_2 (by omega) (by omega)
              refine lv_aload_n hx hb dX6_minuteOn_149 rfl (lv_at hl 1 rfl) ?_
              rw [show k = tEn U by omega] at hM
              have hOk2 : okHz (mE mDrive (tEn U) (mE mFire (tEn U) U)) := okHz_mE (fun f => mDrive_7) (okHz_mE (fun f => rfl) hOk)
              refine fk_mv (fcV X hw (c_m_pumpAll l g ad M hM hOk2) hMo rfl wq997 kVX6_pumpAll ⟨(Nat.le_of_ble_eq_true rfl), (Nat.le_of_ble_eq_true rfl)⟩ rfl hl.1 rfl (Nat.le_of_ble_eq_true rfl) dX6_minuteOn_150 ⟨Nat.le_refl _, Nat.le_refl _⟩) hw (fun M1 H locs hM hr1 hw => ?_)
              have hrA := fReg_tr hrA hr1
              obtain ⟨W9, hW9⟩ : ∃ z, z = mPumpAll (mE mDrive (tEn U) (mE mFire (tEn U) U)) := ⟨_, rfl⟩
              rw [← hW9] at hM
              have nW1 : tHn W9 = tHn U := by rw [hW9]; exact (mPumpAll_n _).1
              have nW2 : tPn W9 = tPn U := by rw [hW9]; exact (mPumpAll_n _).2.1
              have nW3 : tEn W9 = tEn U := by rw [hW9]; exact (mPumpAll_n _).2.2.1
              have nW4 : tM W9 = tM U := by rw [hW9]; exact (mPumpAll_n _).2.2.2
              obtain ⟨pcs, wa, ht, et, mi, co, as, hMo, ⟨hm6, hm7, hm8, hm9, hm10, hm11, hm12, hm13, hm14⟩, hRel, hCnt⟩ := id hM
              obtain ⟨hn1, hn2, hn3⟩ := id hCnt
              have hn1 : tHn W9 ≤ 30 := hn1
              have hn2 : tPn W9 ≤ 6 := hn2
              have hn3 : tEn W9 ≤ 6 := hn3
              have hMo : M1 5 = some (.inr (7, [.int th, .int (nI (tHn W9)), .int (nI (tPn W9)), .int (nI (tEn W9)), .ref (ad 6), .ref (ad 7), .ref (ad 8), .ref (ad 9), .ref (ad 10), .ref (ad 11), .ref (ad 12), .ref (ad 13), .ref (ad 14)])) := hMo
              obtain ⟨rH, rP, rE, rM⟩ := id hRel
              refine lv_iconst (v := 0) hx hb dX6_minuteOn_153 (by decide) ?_
              refine lv_istore_n (lv' := [(1, .int 0), (0, .ref (ad 5))]) hx hb dX6_minuteOn_154 rfl hl (by decide) rfl (fun ls hl => ?_)
              have loop155 : ∀ (n155 k : Nat), k ≤ tHn W9 → tHn W9 < k + n155 → ∀ (M : fM) (hM : isMo g ad M th (mH mBurn k W9) sp ca) (hrA : fReg 5 15 ad Mo ad M) (ls : Array Slot) (H : Heap) (locs : List Loc), fw g ad M s H locs → lv_has ls 3 [(1, .int (nI k)), (0, .ref (ad 5))] → W p l e (fR 6 150 0 0) s m args below meth c H locs 0 0 Q9 (F0 m 155 ls []) := by
                intro n155
                induction n155 with
                | zero => intro k h1 h2; omega
                | succ n155 ih155 =>
                  intro k hk_k hn_k M hM hrA ls H locs hw hl
                  obtain ⟨pcs, wa, ht, et, mi, co, as, hMo, ⟨hm6, hm7, hm8, hm9, hm10, hm11, hm12, hm13, hm14⟩, hRel, hCnt⟩ := id hM
                  obtain ⟨hn1, hn2, hn3⟩ := id hCnt
                  have hn1 : tHn W9 ≤ 30 := hn1
                  have hn2 : tPn W9 ≤ 6 := hn2
                  have hn3 : tEn W9 ≤ 6 := hn3
                  have hMo : M 5 = some (.inr (7, [.int th, .int (nI (tHn W9)), .int (nI (tPn W9)), .int (nI (tEn W9)), .ref (ad 6), .ref (ad 7), .ref (ad 8), .ref (ad 9), .ref (ad 10), .ref (ad 11), .ref (ad 12), .ref (ad 13), .ref (ad 14)])) := hMo
                  obtain ⟨rH, rP, rE, rM⟩ := id hRel
                  refine lv_iload_n hx hb dX6_minuteOn_155 rfl (lv_at hl 0 rfl) ?_
                  refine lv_aload_n hx hb dX6_minuteOn_156 rfl (lv_at hl 1 rfl) ?_
                  refine f_get X hw hMo fc7 1 (by decide) wq795 rfl (v := .int (nI (tHn W9))) rfl dX6_minuteOn_157 ?_
                  refine lv_icmp_ge (tgt := 174) hx hb dX6_minuteOn_160 (by decide) (fun c_3 => ?_) (fun c_3 => ?_)
                  · have c_3 := nI_le' (a := (tHn W9)) (b := k) c_3 (by omega) (by omega)
                    refine lv_iconst (v := 0) hx hb dX6_minuteOn_174 (by decide) ?_
                    refine lv_istore_n (lv' := [(1, .int 0), (0, .ref (ad 5))]) hx hb dX6_minuteOn_175 rfl hl (by decide) rfl (fun ls hl => ?_)
                    refine lv_iconst (v := 0) hx hb dX6_minuteOn_176 (by decide) ?_
                    refine lv_istore_n (lv' := [(2, .int 0), (1, .int 0), (0, .ref (ad 5))]) hx hb dX6_minuteOn_177 rfl hl (by decide) rfl (fun ls hl => ?_)
                    rw [show k = tHn W9 by omega] at hM
                    obtain ⟨V, hV⟩ : ∃ z, z = mH mBurn (tHn W9) W9 := ⟨_, rfl⟩
                    rw [← hV] at hM
                    have nV1 : tHn V = tHn U := by rw [hV]; exact nW1
                    have nV2 : tPn V = tPn U := by rw [hV]; exact nW2
                    have nV3 : tEn V = tEn U := by rw [hV]; exact nW3
                    have nV4 : tM V = tM U := by rw [hV]; exact nW4
                    have hM : isMo g ad M th V sp (caF V ca 0) := by rw [caF_0]; exact hM
                    have loop178 : ∀ (n178 k : Nat), k ≤ tHn V → tHn V < k + n178 → ∀ (M : fM) (hM : isMo g ad M th (V) sp (caF V ca k)) (hrA : fReg 5 15 ad Mo ad M) (ls : Array Slot) (H : Heap) (locs : List Loc), fw g ad M s H locs → lv_has ls 3 [(2, .int (nI k)), (0, .ref (ad 5)), (1, .int 0)] → W p l e (fR 6 150 0 0) s m args below meth c H locs 0 0 Q9 (F0 m 178 ls []) := by
                      intro n178
                      induction n178 with
                      | zero => intro k h1 h2; omega
                      | succ n178 ih178 =>
                        intro k hk_k hn_k M hM hrA ls H locs hw hl
                        obtain ⟨pcs, wa, ht, et, mi, co, as, hMo, ⟨hm6, hm7, hm8, hm9, hm10, hm11, hm12, hm13, hm14⟩, hRel, hCnt⟩ := id hM
                        obtain ⟨hn1, hn2, hn3⟩ := id hCnt
                        have hn1 : tHn V ≤ 30 := hn1
                        have hn2 : tPn V ≤ 6 := hn2
                        have hn3 : tEn V ≤ 6 := hn3
                        have hMo : M 5 = some (.inr (7, [.int th, .int (nI (tHn V)), .int (nI (tPn V)), .int (nI (tEn V)), .ref (ad 6), .ref (ad 7), .ref (ad 8), .ref (ad 9), .ref (ad 10), .ref (ad 11), .ref (ad 12), .ref (ad 13), .ref (ad 14)])) := hMo
                        obtain ⟨rH, rP, rE, rM⟩ := id hRel
                        refine lv_iload_n hx hb dX6_minuteOn_178 rfl (lv_at hl 0 rfl) ?_
                        refine lv_aload_n hx hb dX6_minuteOn_179 rfl (lv_at hl 1 rfl) ?_
                        refine f_get X hw hMo fc7 1 (by decide) wq795 rfl (v := .int (nI (tHn V))) rfl dX6_minuteOn_180 ?_
                        refine lv_icmp_ge (tgt := 234) hx hb dX6_minuteOn_183 (by decide) (fun c_4 => ?_) (fun c_4 => ?_)
                        · have c_4 := nI_le' (a := (tHn V)) (b := k) c_4 (by omega) (by omega)
                          refine lv_iconst (v := 0) hx hb dX6_minuteOn_234 (by decide) ?_
                          refine lv_istore_n (lv' := [(2, .int 0), (0, .ref (ad 5)), (1, .int 0)]) hx hb dX6_minuteOn_235 rfl hl (by decide) rfl (fun ls hl => ?_)
                          have loop236 : ∀ (n236 k : Nat), k ≤ tHn V → tHn V < k + n236 → ∀ (M : fM) (hM : isMo g ad M th (mHi (catH V) k V) sp (caF V ca (tHn V))) (hrA : fReg 5 15 ad Mo ad M) (ls : Array Slot) (H : Heap) (locs : List Loc), fw g ad M s H locs → lv_has ls 3 [(2, .int (nI k)), (0, .ref (ad 5)), (1, .int (catN V k))] → W p l e (fR 6 150 0 0) s m args below meth c H locs 0 0 Q9 (F0 m 236 ls []) := by
                            intro n236
                            induction n236 with
                            | zero => intro k h1 h2; omega
                            | succ n236 ih236 =>
                              intro k hk_k hn_k M hM hrA ls H locs hw hl
                              obtain ⟨pcs, wa, ht, et, mi, co, as, hMo, ⟨hm6, hm7, hm8, hm9, hm10, hm11, hm12, hm13, hm14⟩, hRel, hCnt⟩ := id hM
                              obtain ⟨hn1, hn2, hn3⟩ := id hCnt
                              have hn1 : tHn V ≤ 30 := hn1
                              have hn2 : tPn V ≤ 6 := hn2
                              have hn3 : tEn V ≤ 6 := hn3
                              have hMo : M 5 = some (.inr (7, [.int th, .int (nI (tHn V)), .int (nI (tPn V)), .int (nI (tEn V)), .ref (ad 6), .ref (ad 7), .ref (ad 8), .ref (ad 9), .ref (ad 10), .ref (ad 11), .ref (ad 12), .ref (ad 13), .ref (ad 14)])) := hMo
                              obtain ⟨rH, rP, rE, rM⟩ := id hRel
                              refine lv_iload_n hx hb dX6_minuteOn_236 rfl (lv_at hl 0 rfl) ?_
                              refine lv_aload_n hx hb dX6_minuteOn_237 rfl (lv_at hl 1 rfl) ?_
                              refine f_get X hw hMo fc7 1 (by decide) wq795 rfl (v := .int (nI (tHn V))) rfl dX6_minuteOn_238 ?_
                              refine lv_icmp_ge (tgt := 279) hx hb dX6_minuteOn_241 (by decide) (fun c_5 => ?_) (fun c_5 => ?_)
                              · have c_5 := nI_le' (a := (tHn V)) (b := k) c_5 (by omega) (by omega)
                                refine lv_aload_n hx hb dX6_minuteOn_279 rfl (lv_at hl 1 rfl) ?_
                                refine f_get X hw hMo fc7 8 (by decide) wq802 rfl (v := .ref (ad 10)) rfl dX6_minuteOn_280 ?_
                                refine lv_iconst (v := 0) hx hb dX6_minuteOn_283 (by decide) ?_
                                refine lv_dup2_11 hx hb dX6_minuteOn_284 rfl rfl ?_
                                refine f_iald X hw hm10 (by unfold vp_in; decide) dX6_minuteOn_285 ?_
                                rw [show (0 : Int32).toNatClampNeg = 0 from rfl]
                                refine f_top (y := tM V) rM ?_
                                refine lv_iconst (v := 1) hx hb dX6_minuteOn_286 (by decide) ?_
                                refine lv_iadd hx hb dX6_minuteOn_287 ?_
                                refine f_iast X hw hm10 (by unfold vp_in; decide) dX6_minuteOn_288 (fun H locs hw => ?_)
                                rw [show (0 : Int32).toNatClampNeg = 0 from rfl] at hw
                                have hw : fw g ad (fU M 10 (.inl (gI g, 1, .inl (upd mi 0 ((tM V) + 1))))) s H locs := hw
                                have hMo : (fU M 10 (.inl (gI g, 1, .inl (upd mi 0 ((tM V) + 1))))) 5 = some (.inr (7, [.int th, .int (nI (tHn V)), .int (nI (tPn V)), .int (nI (tEn V)), .ref (ad 6), .ref (ad 7), .ref (ad 8), .ref (ad 9), .ref (ad 10), .ref (ad 11), .ref (ad 12), .ref (ad 13), .ref (ad 14)])) := (fU_n (by omega)).trans hMo
                                have hm6 : (fU M 10 (.inl (gI g, 1, .inl (upd mi 0 ((tM V) + 1))))) 6 = some (.inl (gI g, 6, .inl pcs)) := (fU_n (by omega)).trans hm6
                                have hm7 : (fU M 10 (.inl (gI g, 1, .inl (upd mi 0 ((tM V) + 1))))) 7 = some (.inl (gI g, 6, .inl wa)) := (fU_n (by omega)).trans hm7
                                have hm8 : (fU M 10 (.inl (gI g, 1, .inl (upd mi 0 ((tM V) + 1))))) 8 = some (.inl (gI g, 210, .inl ht)) := (fU_n (by omega)).trans hm8
                                have hm9 : (fU M 10 (.inl (gI g, 1, .inl (upd mi 0 ((tM V) + 1))))) 9 = some (.inl (gI g, 54, .inl et)) := (fU_n (by omega)).trans hm9
                                have hm11 : (fU M 10 (.inl (gI g, 1, .inl (upd mi 0 ((tM V) + 1))))) 11 = some (.inl (gI g, 6, .inl co)) := (fU_n (by omega)).trans hm11
                                have hm12 : (fU M 10 (.inl (gI g, 1, .inl (upd mi 0 ((tM V) + 1))))) 12 = some (.inl (gZ g, 6, .inl as)) := (fU_n (by omega)).trans hm12
                                have hm13 : (fU M 10 (.inl (gI g, 1, .inl (upd mi 0 ((tM V) + 1))))) 13 = some (.inl (gI g, 140, .inl sp)) := (fU_n (by omega)).trans hm13
                                have hm14 : (fU M 10 (.inl (gI g, 1, .inl (upd mi 0 ((tM V) + 1))))) 14 = some (.inl (gZ g, 30, .inl (caF V ca (tHn V)))) := (fU_n (by omega)).trans hm14
                                have hm10 : (fU M 10 (.inl (gI g, 1, .inl (upd mi 0 ((tM V) + 1))))) 10 = some (.inl (gI g, 1, .inl (upd mi 0 ((tM V) + 1)))) := fU_s
                                have hM : isMo g ad (fU M 10 (.inl (gI g, 1, .inl (upd mi 0 ((tM V) + 1))))) th (sM (mHi (catH V) k V) (tM V + 1)) sp (caF V ca (tHn V)) := ⟨_, _, _, _, _, _, _, (fU_n (by omega)).trans (hMo), ⟨(fU_n (by omega)).trans (hm6), (fU_n (by omega)).trans (hm7), (fU_n (by omega)).trans (hm8), (fU_n (by omega)).trans (hm9), fU_s, (fU_n (by omega)).trans (hm11), (fU_n (by omega)).trans (hm12), (fU_n (by omega)).trans (hm13), (fU_n (by omega)).trans (hm14)⟩, mRel_M hRel, hCnt⟩
                                have hrA : fReg 5 15 ad Mo ad (fU M 10 (.inl (gI g, 1, .inl (upd mi 0 ((tM V) + 1))))) := fReg_U hrA (by omega)
                                obtain ⟨Mz, eMz⟩ : ∃ z, z = (fU M 10 (.inl (gI g, 1, .inl (upd mi 0 ((tM V) + 1))))) := ⟨_, rfl⟩
                                rw [← eMz] at hM hw hrA
                                rw [show k = tHn V by omega] at hM
                                have eV : V = mBurnt U := by rw [hV, hW9]; show _ = mH mBurn (tHn U) _; rw [show tHn (mPumpAll (mE mDrive (tEn U) (mE mFire (tEn U) U))) = tHn U from (mPumpAll_n _).1]
                                refine lv_iload_n hx hb dX6_minuteOn_289 rfl (lv_at hl 2 rfl) ?_
                                rw [hQ9, ← hMq]
                                exact f_iret X hw ⟨rfl, ⟨_, by rw [nV1, nV4, eV] at hM; exact hM⟩, hrA, by rw [show k = tHn V by omega, nV1, eV]; rfl⟩ (Nat.le_refl _) (Nat.le_refl _) dX6_minuteOn_290
                              · have c_5 := nI_nle' (a := (tHn V)) (b := k) c_5 (by omega) (by omega)
                                refine lv_aload_n hx hb dX6_minuteOn_244 rfl (lv_at hl 1 rfl) ?_
                                refine f_get X hw hMo fc7 12 (by decide) wq806 rfl (v := .ref (ad 14)) rfl dX6_minuteOn_245 ?_
                                refine lv_iload_n hx hb dX6_minuteOn_248 rfl (lv_at hl 0 rfl) ?_
                                refine f_zald X hw hm14 (vp_in_nI (n := k) (by omega) (by omega)) dX6_minuteOn_249 ?_
                                rw [nI_clamp (n := k) (by omega)]
                                refine f_top (y := bI (catB V k)) (caF_at (show k < tHn V by omega)) ?_
                                refine lv_if_ne (tgt := 256) hx hb dX6_minuteOn_250 (by decide) (fun c_6 => ?_) (fun c_6 => ?_)
                                · have c_6 := bI_nf.mp c_6
                                  refine lv_aload_n hx hb dX6_minuteOn_256 rfl (lv_at hl 1 rfl) ?_
                                  refine lv_iload_n hx hb dX6_minuteOn_257 rfl (lv_at hl 0 rfl) ?_
                                  refine lv_iconst (v := 3) hx hb dX6_minuteOn_258 (by decide) ?_
                                  refine lv_iconst (v := 1) hx hb dX6_minuteOn_259 (by decide) ?_
                                  refine fk_mv (fcV X hw (c_setHo l g ad M hM (h0 := k) (k := 3) (show k < tHn V by omega) rfl (by omega) 1) hMo rfl wq890 kVX6_setHo ⟨(Nat.le_of_ble_eq_true rfl), (Nat.le_of_ble_eq_true rfl)⟩ rfl hl.1 rfl (Nat.le_of_ble_eq_true rfl) dX6_minuteOn_260 ⟨Nat.le_refl _, Nat.le_refl _⟩) hw (fun M2 H locs hM hr2 hw => ?_)
                                  have hrA := fReg_tr hrA hr2
                                  obtain ⟨pcs, wa, ht, et, mi, co, as, hMo, ⟨hm6, hm7, hm8, hm9, hm10, hm11, hm12, hm13, hm14⟩, hRel, hCnt⟩ := id hM
                                  obtain ⟨hn1, hn2, hn3⟩ := id hCnt
                                  have hn1 : tHn V ≤ 30 := hn1
                                  have hn2 : tPn V ≤ 6 := hn2
                                  have hn3 : tEn V ≤ 6 := hn3
                                  have hMo : M2 5 = some (.inr (7, [.int th, .int (nI (tHn V)), .int (nI (tPn V)), .int (nI (tEn V)), .ref (ad 6), .ref (ad 7), .ref (ad 8), .ref (ad 9), .ref (ad 10), .ref (ad 11), .ref (ad 12), .ref (ad 13), .ref (ad 14)])) := hMo
                                  obtain ⟨rH, rP, rE, rM⟩ := id hRel
                                  refine lv_aload_n hx hb dX6_minuteOn_263 rfl (lv_at hl 1 rfl) ?_
                                  refine lv_iload_n hx hb dX6_minuteOn_264 rfl (lv_at hl 0 rfl) ?_
                                  refine lv_iconst (v := 4) hx hb dX6_minuteOn_265 (by decide) ?_
                                  refine lv_iconst (v := 5) hx hb dX6_minuteOn_266 (by decide) ?_
                                  refine fk_mv (fcV X hw (c_setHo l g ad M2 hM (h0 := k) (k := 4) (show k < tHn V by omega) rfl (by omega) 5) hMo rfl wq890 kVX6_setHo ⟨(Nat.le_of_ble_eq_true rfl), (Nat.le_of_ble_eq_true rfl)⟩ rfl hl.1 rfl (Nat.le_of_ble_eq_true rfl) dX6_minuteOn_267 ⟨Nat.le_refl _, Nat.le_refl _⟩) hw (fun M3 H locs hM hr3 hw => ?_)
                                  have hrA := fReg_tr hrA hr3
                                  obtain ⟨pcs, wa, ht, et, mi, co, as, hMo, ⟨hm6, hm7, hm8, hm9, hm10, hm11, hm12, hm13, hm14⟩, hRel, hCnt⟩ := id hM
                                  obtain ⟨hn1, hn2, hn3⟩ := id hCnt
                                  have hn1 : tHn V ≤ 30 := hn1
                                  have hn2 : tPn V ≤ 6 := hn2
                                  have hn3 : tEn V ≤ 6 := hn3
                                  have hMo : M3 5 = some (.inr (7, [.int th, .int (nI (tHn V)), .int (nI (tPn V)), .int (nI (tEn V)), .ref (ad 6), .ref (ad 7), .ref (ad 8), .ref (ad 9), .ref (ad 10), .ref (ad 11), .ref (ad 12), .ref (ad 13), .ref (ad 14)])) := hMo
                                  obtain ⟨rH, rP, rE, rM⟩ := id hRel
                                  refine lv_iinc (v := (catN V k) + 1) (lv' := [(1, .int ((catN V k) + 1)), (2, .int (nI k)), (0, .ref (ad 5))]) hx hb dX6_minuteOn_270 hl (k := 2) rfl rfl (by decide) rfl (fun ls hl => ?_)
                                  refine lv_iinc (v := nI (k + 1)) (lv' := [(2, .int (nI (k + 1))), (1, .int ((catN V k) + 1)), (0, .ref (ad 5))]) hx hb dX6_minuteOn_273 hl (k := 1) rfl (nI_1 k) (by decide) rfl (fun ls hl => ?_)
                                  refine lv_goto (tgt := 236) hx hb dX6_minuteOn_276 (by decide) ?_
                                  rw [show sH (sH (mHi (catH V) k V) k (upd (tH (mHi (catH V) k V) k) 3 1)) k (upd (tH (sH (mHi (catH V) k V) k (upd (tH (mHi (catH V) k V) k) 3 1)) k) 4 5) = mHi (catH V) (k + 1) V from by rw [tH_sH, sH_sH, mHi_ge (Nat.le_refl k), ← mHi_step, show catH V k (tH V k) = _ from if_pos c_6]] at hM
                                  exact ih236 (k + 1) (by omega) (by omega) M3 hM hrA ls _ _ hw (by rw [show (catN V (k + 1)) = ((catN V k) + 1) from (by simp [catN, c_6])]; exact lv_sub hl [0, 2, 1] rfl)
                                · have c_6 := bI_f.mp c_6
                                  refine lv_goto (tgt := 273) hx hb dX6_minuteOn_253 (by decide) ?_
                                  refine lv_iinc (v := nI (k + 1)) (lv' := [(2, .int (nI (k + 1))), (0, .ref (ad 5)), (1, .int (catN V k))]) hx hb dX6_minuteOn_273 hl (k := 0) rfl (nI_1 k) (by decide) rfl (fun ls hl => ?_)
                                  refine lv_goto (tgt := 236) hx hb dX6_minuteOn_276 (by decide) ?_
                                  have hM : isMo g ad M th (mHi (catH V) (k + 1) V) sp (caF V ca (tHn V)) := by rw [← mHi_step, show catH V k (tH V k) = tH V k from if_neg (f_false c_6), show sH (mHi (catH V) k V) k (tH V k) = mHi (catH V) k V from by rw [← mHi_ge (F := catH V) (T := V) (Nat.le_refl k)]; exact sH_same]; exact hM
                                  exact ih236 (k + 1) (by omega) (by omega) M hM hrA ls _ _ hw (by rw [show (catN V (k + 1)) = (catN V k) from (by simp [catN, c_6])]; exact lv_sub hl [0, 1, 2] rfl)
                          rw [show k = tHn V by omega] at hM
                          have hM : isMo g ad M th (mHi (catH V) 0 V) sp (caF V ca (tHn V)) := by rw [mHi_0]; exact hM
                          exact loop236 (tHn V + 1) 0 (by omega) (by omega) M hM hrA ls _ _ hw (lv_sub hl [0, 1, 2] rfl)
                        · have c_4 := nI_nle' (a := (tHn V)) (b := k) c_4 (by omega) (by omega)
                          refine lv_aload_n hx hb dX6_minuteOn_186 rfl (lv_at hl 1 rfl) ?_
                          refine f_get X hw hMo fc7 12 (by decide) wq806 rfl (v := .ref (ad 14)) rfl dX6_minuteOn_187 ?_
                          refine lv_iload_n hx hb dX6_minuteOn_190 rfl (lv_at hl 0 rfl) ?_
                          refine lv_aload_n hx hb dX6_minuteOn_191 rfl (lv_at hl 1 rfl) ?_
                          refine lv_iload_n hx hb dX6_minuteOn_192 rfl (lv_at hl 0 rfl) ?_
                          refine lv_iconst (v := 3) hx hb dX6_minuteOn_193 (by decide) ?_
                          refine fk_di (fcV X hw (c_ho l g ad M hM (h0 := k) (k := 3) (show k < tHn V by omega) rfl (by omega)) hMo rfl wq865 kVX6_ho ⟨(Nat.le_of_ble_eq_true rfl), (Nat.le_of_ble_eq_true rfl)⟩ rfl hl.1 rfl (Nat.le_of_ble_eq_true rfl) dX6_minuteOn_194 ⟨Nat.le_refl _, Nat.le_refl _⟩) hw (fun H locs hw => ?_)
                          refine lv_if_ne (tgt := 226) hx hb dX6_minuteOn_197 (by decide) (fun c_7 => ?_) (fun c_7 => ?_)
                          · refine lv_iconst (v := 0) hx hb dX6_minuteOn_226 (by decide) ?_
                            refine f_zast X hw hm14 (vp_in_nI (n := k) (by omega) (by omega)) dX6_minuteOn_227 (fun H locs hw => ?_)
                            rw [nI_clamp (n := k) (by omega)] at hw
                            have hw : fw g ad (fU M 14 (.inl (gZ g, 30, .inl (upd (caF V ca k) k (0 &&& 1))))) s H locs := hw
                            have hMo : (fU M 14 (.inl (gZ g, 30, .inl (upd (caF V ca k) k (0 &&& 1))))) 5 = some (.inr (7, [.int th, .int (nI (tHn V)), .int (nI (tPn V)), .int (nI (tEn V)), .ref (ad 6), .ref (ad 7), .ref (ad 8), .ref (ad 9), .ref (ad 10), .ref (ad 11), .ref (ad 12), .ref (ad 13), .ref (ad 14)])) := (fU_n (by omega)).trans hMo
                            have hm6 : (fU M 14 (.inl (gZ g, 30, .inl (upd (caF V ca k) k (0 &&& 1))))) 6 = some (.inl (gI g, 6, .inl pcs)) := (fU_n (by omega)).trans hm6
                            have hm7 : (fU M 14 (.inl (gZ g, 30, .inl (upd (caF V ca k) k (0 &&& 1))))) 7 = some (.inl (gI g, 6, .inl wa)) := (fU_n (by omega)).trans hm7
                            have hm8 : (fU M 14 (.inl (gZ g, 30, .inl (upd (caF V ca k) k (0 &&& 1))))) 8 = some (.inl (gI g, 210, .inl ht)) := (fU_n (by omega)).trans hm8
                            have hm9 : (fU M 14 (.inl (gZ g, 30, .inl (upd (caF V ca k) k (0 &&& 1))))) 9 = some (.inl (gI g, 54, .inl et)) := (fU_n (by omega)).trans hm9
                            have hm10 : (fU M 14 (.inl (gZ g, 30, .inl (upd (caF V ca k) k (0 &&& 1))))) 10 = some (.inl (gI g, 1, .inl mi)) := (fU_n (by omega)).trans hm10
                            have hm11 : (fU M 14 (.inl (gZ g, 30, .inl (upd (caF V ca k) k (0 &&& 1))))) 11 = some (.inl (gI g, 6, .inl co)) := (fU_n (by omega)).trans hm11
                            have hm12 : (fU M 14 (.inl (gZ g, 30, .inl (upd (caF V ca k) k (0 &&& 1))))) 12 = some (.inl (gZ g, 6, .inl as)) := (fU_n (by omega)).trans hm12
                            have hm13 : (fU M 14 (.inl (gZ g, 30, .inl (upd (caF V ca k) k (0 &&& 1))))) 13 = some (.inl (gI g, 140, .inl sp)) := (fU_n (by omega)).trans hm13
                            have hm14 : (fU M 14 (.inl (gZ g, 30, .inl (upd (caF V ca k) k (0 &&& 1))))) 14 = some (.inl (gZ g, 30, .inl (upd (caF V ca k) k (0 &&& 1)))) := fU_s
                            refine lv_iinc (v := nI (k + 1)) (lv' := [(2, .int (nI (k + 1))), (0, .ref (ad 5)), (1, .int 0)]) hx hb dX6_minuteOn_228 hl (k := 0) rfl (nI_1 k) (by decide) rfl (fun ls hl => ?_)
                            refine lv_goto (tgt := 178) hx hb dX6_minuteOn_231 (by decide) ?_
                            have hM : isMo g ad (fU M 14 (.inl (gZ g, 30, .inl (upd (caF V ca k) k (0 &&& 1))))) th V sp (upd (caF V ca k) k (0 &&& 1)) := ⟨_, _, _, _, _, _, _, (fU_n (by omega)).trans (hMo), ⟨(fU_n (by omega)).trans (hm6), (fU_n (by omega)).trans (hm7), (fU_n (by omega)).trans (hm8), (fU_n (by omega)).trans (hm9), (fU_n (by omega)).trans (hm10), (fU_n (by omega)).trans (hm11), (fU_n (by omega)).trans (hm12), (fU_n (by omega)).trans (hm13), fU_s⟩, hRel, hCnt⟩
                            have hrA : fReg 5 15 ad Mo ad (fU M 14 (.inl (gZ g, 30, .inl (upd (caF V ca k) k (0 &&& 1))))) := fReg_U hrA (by omega)
                            rw [caF_step (show (0 &&& 1 : Int32) = bI (catB V k) from by simp [catB, bI, c_4, c_7])] at hM hw hrA
                            exact ih178 (k + 1) (by omega) (by omega) _ hM hrA ls _ _ hw (lv_sub hl [0, 1, 2] rfl)
                          · refine lv_aload_n hx hb dX6_minuteOn_200 rfl (lv_at hl 1 rfl) ?_
                            refine lv_aload_n hx hb dX6_minuteOn_201 rfl (lv_at hl 1 rfl) ?_
                            refine lv_iload_n hx hb dX6_minuteOn_202 rfl (lv_at hl 0 rfl) ?_
                            refine lv_iconst (v := 0) hx hb dX6_minuteOn_203 (by decide) ?_
                            refine fk_di (fcV X hw (c_ho l g ad M hM (h0 := k) (k := 0) (show k < tHn V by omega) rfl (by omega)) hMo rfl wq865 kVX6_ho ⟨(Nat.le_of_ble_eq_true rfl), (Nat.le_of_ble_eq_true rfl)⟩ rfl hl.1 rfl (Nat.le_of_ble_eq_true rfl) dX6_minuteOn_204 ⟨Nat.le_refl _, Nat.le_refl _⟩) hw (fun H locs hw => ?_)
                            refine fk_di (fcV X hw (c_m_heatNear l g ad M hM (tH V k 0)) hMo rfl wq902 kVX6_heatNear ⟨(Nat.le_of_ble_eq_true rfl), (Nat.le_of_ble_eq_true rfl)⟩ rfl hl.1 rfl (Nat.le_of_ble_eq_true rfl) dX6_minuteOn_207 ⟨Nat.le_refl _, Nat.le_refl _⟩) hw (fun H locs hw => ?_)
                            refine lv_aload_n hx hb dX6_minuteOn_210 rfl (lv_at hl 1 rfl) ?_
                            refine lv_iload_n hx hb dX6_minuteOn_211 rfl (lv_at hl 0 rfl) ?_
                            refine lv_iconst (v := 5) hx hb dX6_minuteOn_212 (by decide) ?_
                            refine fk_di (fcV X hw (c_ho l g ad M hM (h0 := k) (k := 5) (show k < tHn V by omega) rfl (by omega)) hMo rfl wq865 kVX6_ho ⟨(Nat.le_of_ble_eq_true rfl), (Nat.le_of_ble_eq_true rfl)⟩ rfl hl.1 rfl (Nat.le_of_ble_eq_true rfl) dX6_minuteOn_213 ⟨Nat.le_refl _, Nat.le_refl _⟩) hw (fun H locs hw => ?_)
                            refine lv_isub hx hb dX6_minuteOn_216 ?_
                            refine lv_bipush (v := 40) hx hb dX6_minuteOn_217 (by decide) ?_
                            refine lv_icmp_lt (tgt := 226) hx hb dX6_minuteOn_219 (by decide) (fun c_8 => ?_) (fun c_8 => ?_)
                            · refine lv_iconst (v := 0) hx hb dX6_minuteOn_226 (by decide) ?_
                              refine f_zast X hw hm14 (vp_in_nI (n := k) (by omega) (by omega)) dX6_minuteOn_227 (fun H locs hw => ?_)
                              rw [nI_clamp (n := k) (by omega)] at hw
                              have hw : fw g ad (fU M 14 (.inl (gZ g, 30, .inl (upd (caF V ca k) k (0 &&& 1))))) s H locs := hw
                              have hMo : (fU M 14 (.inl (gZ g, 30, .inl (upd (caF V ca k) k (0 &&& 1))))) 5 = some (.inr (7, [.int th, .int (nI (tHn V)), .int (nI (tPn V)), .int (nI (tEn V)), .ref (ad 6), .ref (ad 7), .ref (ad 8), .ref (ad 9), .ref (ad 10), .ref (ad 11), .ref (ad 12), .ref (ad 13), .ref (ad 14)])) := (fU_n (by omega)).trans hMo
                              have hm6 : (fU M 14 (.inl (gZ g, 30, .inl (upd (caF V ca k) k (0 &&& 1))))) 6 = some (.inl (gI g, 6, .inl pcs)) := (fU_n (by omega)).trans hm6
                              have hm7 : (fU M 14 (.inl (gZ g, 30, .inl (upd (caF V ca k) k (0 &&& 1))))) 7 = some (.inl (gI g, 6, .inl wa)) := (fU_n (by omega)).trans hm7
                              have hm8 : (fU M 14 (.inl (gZ g, 30, .inl (upd (caF V ca k) k (0 &&& 1))))) 8 = some (.inl (gI g, 210, .inl ht)) := (fU_n (by omega)).trans hm8
                              have hm9 : (fU M 14 (.inl (gZ g, 30, .inl (upd (caF V ca k) k (0 &&& 1))))) 9 = some (.inl (gI g, 54, .inl et)) := (fU_n (by omega)).trans hm9
                              have hm10 : (fU M 14 (.inl (gZ g, 30, .inl (upd (caF V ca k) k (0 &&& 1))))) 10 = some (.inl (gI g, 1, .inl mi)) := (fU_n (by omega)).trans hm10
                              have hm11 : (fU M 14 (.inl (gZ g, 30, .inl (upd (caF V ca k) k (0 &&& 1))))) 11 = some (.inl (gI g, 6, .inl co)) := (fU_n (by omega)).trans hm11
                              have hm12 : (fU M 14 (.inl (gZ g, 30, .inl (upd (caF V ca k) k (0 &&& 1))))) 12 = some (.inl (gZ g, 6, .inl as)) := (fU_n (by omega)).trans hm12
                              have hm13 : (fU M 14 (.inl (gZ g, 30, .inl (upd (caF V ca k) k (0 &&& 1))))) 13 = some (.inl (gI g, 140, .inl sp)) := (fU_n (by omega)).trans hm13
                              have hm14 : (fU M 14 (.inl (gZ g, 30, .inl (upd (caF V ca k) k (0 &&& 1))))) 14 = some (.inl (gZ g, 30, .inl (upd (caF V ca k) k (0 &&& 1)))) := fU_s
                              refine lv_iinc (v := nI (k + 1)) (lv' := [(2, .int (nI (k + 1))), (0, .ref (ad 5)), (1, .int 0)]) hx hb dX6_minuteOn_228 hl (k := 0) rfl (nI_1 k) (by decide) rfl (fun ls hl => ?_)
                              refine lv_goto (tgt := 178) hx hb dX6_minuteOn_231 (by decide) ?_
                              have hM : isMo g ad (fU M 14 (.inl (gZ g, 30, .inl (upd (caF V ca k) k (0 &&& 1))))) th V sp (upd (caF V ca k) k (0 &&& 1)) := ⟨_, _, _, _, _, _, _, (fU_n (by omega)).trans (hMo), ⟨(fU_n (by omega)).trans (hm6), (fU_n (by omega)).trans (hm7), (fU_n (by omega)).trans (hm8), (fU_n (by omega)).trans (hm9), (fU_n (by omega)).trans (hm10), (fU_n (by omega)).trans (hm11), (fU_n (by omega)).trans (hm12), (fU_n (by omega)).trans (hm13), fU_s⟩, hRel, hCnt⟩
                              have hrA : fReg 5 15 ad Mo ad (fU M 14 (.inl (gZ g, 30, .inl (upd (caF V ca k) k (0 &&& 1))))) := fReg_U hrA (by omega)
                              rw [caF_step (show (0 &&& 1 : Int32) = bI (catB V k) from by simp [catB, bI, c_4, c_7, c_8])] at hM hw hrA
                              exact ih178 (k + 1) (by omega) (by omega) _ hM hrA ls _ _ hw (lv_sub hl [0, 1, 2] rfl)
                            · refine lv_iconst (v := 1) hx hb dX6_minuteOn_222 (by decide) ?_
                              refine lv_goto (tgt := 227) hx hb dX6_minuteOn_223 (by decide) ?_
                              refine f_zast X hw hm14 (vp_in_nI (n := k) (by omega) (by omega)) dX6_minuteOn_227 (fun H locs hw => ?_)
                              rw [nI_clamp (n := k) (by omega)] at hw
                              have hw : fw g ad (fU M 14 (.inl (gZ g, 30, .inl (upd (caF V ca k) k (1 &&& 1))))) s H locs := hw
                              have hMo : (fU M 14 (.inl (gZ g, 30, .inl (upd (caF V ca k) k (1 &&& 1))))) 5 = some (.inr (7, [.int th, .int (nI (tHn V)), .int (nI (tPn V)), .int (nI (tEn V)), .ref (ad 6), .ref (ad 7), .ref (ad 8), .ref (ad 9), .ref (ad 10), .ref (ad 11), .ref (ad 12), .ref (ad 13), .ref (ad 14)])) := (fU_n (by omega)).trans hMo
                              have hm6 : (fU M 14 (.inl (gZ g, 30, .inl (upd (caF V ca k) k (1 &&& 1))))) 6 = some (.inl (gI g, 6, .inl pcs)) := (fU_n (by omega)).trans hm6
                              have hm7 : (fU M 14 (.inl (gZ g, 30, .inl (upd (caF V ca k) k (1 &&& 1))))) 7 = some (.inl (gI g, 6, .inl wa)) := (fU_n (by omega)).trans hm7
                              have hm8 : (fU M 14 (.inl (gZ g, 30, .inl (upd (caF V ca k) k (1 &&& 1))))) 8 = some (.inl (gI g, 210, .inl ht)) := (fU_n (by omega)).trans hm8
                              have hm9 : (fU M 14 (.inl (gZ g, 30, .inl (upd (caF V ca k) k (1 &&& 1))))) 9 = some (.inl (gI g, 54, .inl et)) := (fU_n (by omega)).trans hm9
                              have hm10 : (fU M 14 (.inl (gZ g, 30, .inl (upd (caF V ca k) k (1 &&& 1))))) 10 = some (.inl (gI g, 1, .inl mi)) := (fU_n (by omega)).trans hm10
                              have hm11 : (fU M 14 (.inl (gZ g, 30, .inl (upd (caF V ca k) k (1 &&& 1))))) 11 = some (.inl (gI g, 6, .inl co)) := (fU_n (by omega)).trans hm11
                              have hm12 : (fU M 14 (.inl (gZ g, 30, .inl (upd (caF V ca k) k (1 &&& 1))))) 12 = some (.inl (gZ g, 6, .inl as)) := (fU_n (by omega)).trans hm12
                              have hm13 : (fU M 14 (.inl (gZ g, 30, .inl (upd (caF V ca k) k (1 &&& 1))))) 13 = some (.inl (gI g, 140, .inl sp)) := (fU_n (by omega)).trans hm13
                              have hm14 : (fU M 14 (.inl (gZ g, 30, .inl (upd (caF V ca k) k (1 &&& 1))))) 14 = some (.inl (gZ g, 30, .inl (upd (caF V ca k) k (1 &&& 1)))) := fU_s
                              refine lv_iinc (v := nI (k + 1)) (lv' := [(2, .int (nI (k + 1))), (0, .ref (ad 5)), (1, .int 0)]) hx hb dX6_minuteOn_228 hl (k := 0) rfl (nI_1 k) (by decide) rfl (fun ls hl => ?_)
                              refine lv_goto (tgt := 178) hx hb dX6_minuteOn_231 (by decide) ?_
                              have hM : isMo g ad (fU M 14 (.inl (gZ g, 30, .inl (upd (caF V ca k) k (1 &&& 1))))) th V sp (upd (caF V ca k) k (1 &&& 1)) := ⟨_, _, _, _, _, _, _, (fU_n (by omega)).trans (hMo), ⟨(fU_n (by omega)).trans (hm6), (fU_n (by omega)).trans (hm7), (fU_n (by omega)).trans (hm8), (fU_n (by omega)).trans (hm9), (fU_n (by omega)).trans (hm10), (fU_n (by omega)).trans (hm11), (fU_n (by omega)).trans (hm12), (fU_n (by omega)).trans (hm13), fU_s⟩, hRel, hCnt⟩
                              have hrA : fReg 5 15 ad Mo ad (fU M 14 (.inl (gZ g, 30, .inl (upd (caF V ca k) k (1 &&& 1))))) := fReg_U hrA (by omega)
                              rw [caF_step (show (1 &&& 1 : Int32) = bI (catB V k) from by simp [catB, bI, c_4, c_7, c_8])] at hM hw hrA
                              exact ih178 (k + 1) (by omega) (by omega) _ hM hrA ls _ _ hw (lv_sub hl [0, 1, 2] rfl)
                    exact loop178 (tHn V + 1) 0 (by omega) (by omega) M hM hrA ls _ _ hw (lv_sub hl [0, 2, 1] rfl)
                  · have c_3 := nI_nle' (a := (tHn W9)) (b := k) c_3 (by omega) (by omega)
                    refine lv_aload_n hx hb dX6_minuteOn_163 rfl (lv_at hl 1 rfl) ?_
                    refine lv_iload_n hx hb dX6_minuteOn_164 rfl (lv_at hl 0 rfl) ?_
                    refine fk_mv (fcV X hw (c_m_burn l g ad M hM (h0 := k) (show k < tHn W9 by omega)) hMo rfl wq1009 kVX6_burn ⟨(Nat.le_of_ble_eq_true rfl), (Nat.le_of_ble_eq_true rfl)⟩ rfl hl.1 rfl (Nat.le_of_ble_eq_true rfl) dX6_minuteOn_165 ⟨Nat.le_refl _, Nat.le_refl _⟩) hw (fun M7 H locs hM hr7 hw => ?_)
                    have hrA := fReg_tr hrA hr7
                    obtain ⟨pcs, wa, ht, et, mi, co, as, hMo, ⟨hm6, hm7, hm8, hm9, hm10, hm11, hm12, hm13, hm14⟩, hRel, hCnt⟩ := id hM
                    obtain ⟨hn1, hn2, hn3⟩ := id hCnt
                    have hn1 : tHn W9 ≤ 30 := hn1
                    have hn2 : tPn W9 ≤ 6 := hn2
                    have hn3 : tEn W9 ≤ 6 := hn3
                    have hMo : M7 5 = some (.inr (7, [.int th, .int (nI (tHn W9)), .int (nI (tPn W9)), .int (nI (tEn W9)), .ref (ad 6), .ref (ad 7), .ref (ad 8), .ref (ad 9), .ref (ad 10), .ref (ad 11), .ref (ad 12), .ref (ad 13), .ref (ad 14)])) := hMo
                    obtain ⟨rH, rP, rE, rM⟩ := id hRel
                    refine lv_iinc (v := nI (k + 1)) (lv' := [(1, .int (nI (k + 1))), (0, .ref (ad 5))]) hx hb dX6_minuteOn_168 hl (k := 0) rfl (nI_1 k) (by decide) rfl (fun ls hl => ?_)
                    refine lv_goto (tgt := 155) hx hb dX6_minuteOn_171 (by decide) ?_
                    rw [show sH (mH mBurn k W9) k (mBurn (tH (mH mBurn k W9) k)) = mH mBurn (k + 1) W9 from by rw [mH_ge (Nat.le_refl k)]; exact mH_step] at hM
                    exact ih155 (k + 1) (by omega) (by omega) M7 hM hrA ls _ _ hw (lv_sub hl [0, 1] rfl)
              have hM : isMo g ad M1 th (mH mBurn 0 W9) sp ca := by rw [mH_0]; exact hM
              exact loop155 (tHn W9 + 1) 0 (by omega) (by omega) M1 hM hrA ls _ _ hw (lv_sub hl [0, 1] rfl)
            · have c_2 := nI_nle' (a := (tEn U)) (b := k) c_2 (by omega) (by omega)
              refine lv_aload_n hx hb dX6_minuteOn_97 rfl (lv_at hl 1 rfl) ?_
              refine lv_iload_n hx hb dX6_minuteOn_98 rfl (lv_at hl 0 rfl) ?_
              refine fk_di (fcV X hw (c_m_stands l g ad M hM (e0 := k) (show k < tEn U by omega)) hMo rfl wq951 kVX6_stands ⟨(Nat.le_of_ble_eq_true rfl), (Nat.le_of_ble_eq_true rfl)⟩ rfl hl.1 rfl (Nat.le_of_ble_eq_true rfl) dX6_minuteOn_99 ⟨Nat.le_refl _, Nat.le_refl _⟩) hw (fun H locs hw => ?_)
              refine lv_if_eq (tgt := 108) hx hb dX6_minuteOn_102 (by decide) (fun c_9 => ?_) (fun c_9 => ?_)
              · have c_9 := bI_f.mp c_9
                refine lv_aload_n hx hb dX6_minuteOn_108 rfl (lv_at hl 1 rfl) ?_
                refine lv_iload_n hx hb dX6_minuteOn_109 rfl (lv_at hl 0 rfl) ?_
                refine lv_iconst (v := 5) hx hb dX6_minuteOn_110 (by decide) ?_
                refine lv_aload_n hx hb dX6_minuteOn_111 rfl (lv_at hl 1 rfl) ?_
                refine lv_iload_n hx hb dX6_minuteOn_112 rfl (lv_at hl 0 rfl) ?_
                refine lv_iconst (v := 5) hx hb dX6_minuteOn_113 (by decide) ?_
                refine fk_di (fcV X hw (c_en l g ad M hM (e0 := k) (k := 5) (show k < tEn U by omega) rfl (by omega)) hMo rfl wq873 kVX6_en ⟨(Nat.le_of_ble_eq_true rfl), (Nat.le_of_ble_eq_true rfl)⟩ rfl hl.1 rfl (Nat.le_of_ble_eq_true rfl) dX6_minuteOn_114 ⟨Nat.le_refl _, Nat.le_refl _⟩) hw (fun H locs hw => ?_)
                refine lv_iconst (v := 1) hx hb dX6_minuteOn_117 (by decide) ?_
                refine lv_isub hx hb dX6_minuteOn_118 ?_
                refine fk_mv (fcV X hw (c_setEn l g ad M hM (e0 := k) (k := 5) (show k < tEn U by omega) rfl (by omega) (tE (mE mDrive k (mE mFire (tEn U) U)) k 5 - 1)) hMo rfl wq932 kVX6_setEn ⟨(Nat.le_of_ble_eq_true rfl), (Nat.le_of_ble_eq_true rfl)⟩ rfl hl.1 rfl (Nat.le_of_ble_eq_true rfl) dX6_minuteOn_119 ⟨Nat.le_refl _, Nat.le_refl _⟩) hw (fun M8 H locs hM hr8 hw => ?_)
                have hrA := fReg_tr hrA hr8
                obtain ⟨pcs, wa, ht, et, mi, co, as, hMo, ⟨hm6, hm7, hm8, hm9, hm10, hm11, hm12, hm13, hm14⟩, hRel, hCnt⟩ := id hM
                obtain ⟨hn1, hn2, hn3⟩ := id hCnt
                have hn1 : tHn U ≤ 30 := hn1
                have hn2 : tPn U ≤ 6 := hn2
                have hn3 : tEn U ≤ 6 := hn3
                have hMo : M8 5 = some (.inr (7, [.int th, .int (nI (tHn U)), .int (nI (tPn U)), .int (nI (tEn U)), .ref (ad 6), .ref (ad 7), .ref (ad 8), .ref (ad 9), .ref (ad 10), .ref (ad 11), .ref (ad 12), .ref (ad 13), .ref (ad 14)])) := hMo
                obtain ⟨rH, rP, rE, rM⟩ := id hRel
                refine lv_aload_n hx hb dX6_minuteOn_122 rfl (lv_at hl 1 rfl) ?_
                refine lv_iload_n hx hb dX6_minuteOn_123 rfl (lv_at hl 0 rfl) ?_
                refine fk_di (fcV X hw (c_m_stands l g ad M8 hM (e0 := k) (show k < tEn U by omega)) hMo rfl wq951 kVX6_stands ⟨(Nat.le_of_ble_eq_true rfl), (Nat.le_of_ble_eq_true rfl)⟩ rfl hl.1 rfl (Nat.le_of_ble_eq_true rfl) dX6_minuteOn_124 ⟨Nat.le_refl _, Nat.le_refl _⟩) hw (fun H locs hw => ?_)
                refine lv_if_eq (tgt := 143) hx hb dX6_minuteOn_127 (by decide) (fun c_10 => ?_) (fun c_10 => ?_)
                · have c_10 := bI_f.mp c_10
                  refine lv_iinc (v := nI (k + 1)) (lv' := [(1, .int (nI (k + 1))), (0, .ref (ad 5))]) hx hb dX6_minuteOn_143 hl (k := 0) rfl (nI_1 k) (by decide) rfl (fun ls hl => ?_)
                  refine lv_goto (tgt := 89) hx hb dX6_minuteOn_146 (by decide) ?_
                  rw [tE_sE, mE_ge (Nat.le_refl k)] at c_10
                  rw [mE_ge (Nat.le_refl k)] at c_9
                  rw [show sE (mE mDrive k (mE mFire (tEn U) U)) k (upd (tE (mE mDrive k (mE mFire (tEn U) U)) k) 5 (tE (mE mDrive k (mE mFire (tEn U) U)) k 5 - 1)) = mE mDrive (k + 1) (mE mFire (tEn U) U) from by rw [mE_ge (Nat.le_refl k), ← mE_step, show mDrive (tE (mE mFire (tEn U) U) k) = _ from (if_neg (f_false c_9)).trans (if_neg (f_false c_10))]] at hM
                  exact ih89 (k + 1) (by omega) (by omega) M8 hM hrA ls _ _ hw (lv_sub hl [0, 1] rfl)
                · have c_10 := bI_nf.mp c_10
                  refine lv_aload_n hx hb dX6_minuteOn_130 rfl (lv_at hl 1 rfl) ?_
                  refine lv_iload_n hx hb dX6_minuteOn_131 rfl (lv_at hl 0 rfl) ?_
                  refine lv_iconst (v := 0) hx hb dX6_minuteOn_132 (by decide) ?_
                  refine lv_aload_n hx hb dX6_minuteOn_133 rfl (lv_at hl 1 rfl) ?_
                  refine lv_iload_n hx hb dX6_minuteOn_134 rfl (lv_at hl 0 rfl) ?_
                  refine lv_bipush (v := 6) hx hb dX6_minuteOn_135 (by decide) ?_
                  refine fk_di (fcV X hw (c_en l g ad M8 hM (e0 := k) (k := 6) (show k < tEn U by omega) rfl (by omega)) hMo rfl wq873 kVX6_en ⟨(Nat.le_of_ble_eq_true rfl), (Nat.le_of_ble_eq_true rfl)⟩ rfl hl.1 rfl (Nat.le_of_ble_eq_true rfl) dX6_minuteOn_137 ⟨Nat.le_refl _, Nat.le_refl _⟩) hw (fun H locs hw => ?_)
                  refine f_top (y := tE (mE mDrive k (mE mFire (tEn U) U)) k 6) (by rw [tE_sE]; exact upd_ne (by decide)) ?_
                  refine fk_mv (fcV X hw (c_setEn l g ad M8 hM (e0 := k) (k := 0) (show k < tEn U by omega) rfl (by omega) (tE (mE mDrive k (mE mFire (tEn U) U)) k 6)) hMo rfl wq932 kVX6_setEn ⟨(Nat.le_of_ble_eq_true rfl), (Nat.le_of_ble_eq_true rfl)⟩ rfl hl.1 rfl (Nat.le_of_ble_eq_true rfl) dX6_minuteOn_140 ⟨Nat.le_refl _, Nat.le_refl _⟩) hw (fun M9 H locs hM hr9 hw => ?_)
                  have hrA := fReg_tr hrA hr9
                  obtain ⟨pcs, wa, ht, et, mi, co, as, hMo, ⟨hm6, hm7, hm8, hm9, hm10, hm11, hm12, hm13, hm14⟩, hRel, hCnt⟩ := id hM
                  obtain ⟨hn1, hn2, hn3⟩ := id hCnt
                  have hn1 : tHn U ≤ 30 := hn1
                  have hn2 : tPn U ≤ 6 := hn2
                  have hn3 : tEn U ≤ 6 := hn3
                  have hMo : M9 5 = some (.inr (7, [.int th, .int (nI (tHn U)), .int (nI (tPn U)), .int (nI (tEn U)), .ref (ad 6), .ref (ad 7), .ref (ad 8), .ref (ad 9), .ref (ad 10), .ref (ad 11), .ref (ad 12), .ref (ad 13), .ref (ad 14)])) := hMo
                  obtain ⟨rH, rP, rE, rM⟩ := id hRel
                  refine lv_iinc (v := nI (k + 1)) (lv' := [(1, .int (nI (k + 1))), (0, .ref (ad 5))]) hx hb dX6_minuteOn_143 hl (k := 0) rfl (nI_1 k) (by decide) rfl (fun ls hl => ?_)
                  refine lv_goto (tgt := 89) hx hb dX6_minuteOn_146 (by decide) ?_
                  rw [tE_sE, mE_ge (Nat.le_refl k)] at c_10
                  rw [mE_ge (Nat.le_refl k)] at c_9
                  rw [show sE (sE (mE mDrive k (mE mFire (tEn U) U)) k (upd (tE (mE mDrive k (mE mFire (tEn U) U)) k) 5 (tE (mE mDrive k (mE mFire (tEn U) U)) k 5 - 1))) k (upd (tE (sE (mE mDrive k (mE mFire (tEn U) U)) k (upd (tE (mE mDrive k (mE mFire (tEn U) U)) k) 5 (tE (mE mDrive k (mE mFire (tEn U) U)) k 5 - 1))) k) 0 (tE (mE mDrive k (mE mFire (tEn U) U)) k 6)) = mE mDrive (k + 1) (mE mFire (tEn U) U) from by rw [tE_sE, sE_sE, mE_ge (Nat.le_refl k), ← mE_step, show mDrive (tE (mE mFire (tEn U) U) k) = _ from (if_neg (f_false c_9)).trans (if_pos c_10)]] at hM
                  exact ih89 (k + 1) (by omega) (by omega) M9 hM hrA ls _ _ hw (lv_sub hl [0, 1] rfl)
              · have c_9 := bI_nf.mp c_9
                refine lv_goto (tgt := 143) hx hb dX6_minuteOn_105 (by decide) ?_
                refine lv_iinc (v := nI (k + 1)) (lv' := [(1, .int (nI (k + 1))), (0, .ref (ad 5))]) hx hb dX6_minuteOn_143 hl (k := 0) rfl (nI_1 k) (by decide) rfl (fun ls hl => ?_)
                refine lv_goto (tgt := 89) hx hb dX6_minuteOn_146 (by decide) ?_
                rw [mE_ge (Nat.le_refl k)] at c_9
                have hM : isMo g ad M th (mE mDrive (k + 1) (mE mFire (tEn U) U)) sp ca := by rw [← mE_step, show mDrive (tE (mE mFire (tEn U) U) k) = tE (mE mFire (tEn U) U) k from if_pos c_9, show sE (mE mDrive k (mE mFire (tEn U) U)) k (tE (mE mFire (tEn U) U) k) = mE mDrive k (mE mFire (tEn U) U) from by rw [← mE_ge (F := mDrive) (T := mE mFire (tEn U) U) (Nat.le_refl k)]; exact sE_same]; exact hM
                exact ih89 (k + 1) (by omega) (by omega) M hM hrA ls _ _ hw (lv_sub hl [0, 1] rfl)
        rw [show k = tEn U by omega] at hM
        have hM : isMo g ad M th (mE mDrive 0 (mE mFire (tEn U) U)) sp ca := by rw [mE_0]; exact hM
        exact loop89 (tEn U + 1) 0 (by omega) (by omega) M hM hrA ls _ _ hw (lv_sub hl [0, 1] rfl)
      · have c_1 := nI_nle' (a := (tEn U)) (b := k) c_1 (by omega) (by omega)
        refine lv_aload_n hx hb dX6_minuteOn_10 rfl (lv_at hl 1 rfl) ?_
        refine lv_iload_n hx hb dX6_minuteOn_11 rfl (lv_at hl 0 rfl) ?_
        refine lv_iconst (v := 3) hx hb dX6_minuteOn_12 (by decide) ?_
        refine fk_di (fcV X hw (c_en l g ad M hM (e0 := k) (k := 3) (show k < tEn U by omega) rfl (by omega)) hMo rfl wq873 kVX6_en ⟨(Nat.le_of_ble_eq_true rfl), (Nat.le_of_ble_eq_true rfl)⟩ rfl hl.1 rfl (Nat.le_of_ble_eq_true rfl) dX6_minuteOn_13 ⟨Nat.le_refl _, Nat.le_refl _⟩) hw (fun H locs hw => ?_)
        refine lv_if_le (tgt := 23) hx hb dX6_minuteOn_16 (by decide) (fun c_11 => ?_) (fun c_11 => ?_)
        · refine lv_iconst (v := 0) hx hb dX6_minuteOn_23 (by decide) ?_
          refine lv_istore_n (lv' := [(2, .int 0), (1, .int (nI k)), (0, .ref (ad 5))]) hx hb dX6_minuteOn_24 rfl hl (by decide) rfl (fun ls hl => ?_)
          refine lv_aload_n hx hb dX6_minuteOn_25 rfl (lv_at hl 2 rfl) ?_
          refine lv_iload_n hx hb dX6_minuteOn_26 rfl (lv_at hl 1 rfl) ?_
          refine lv_iconst (v := 3) hx hb dX6_minuteOn_27 (by decide) ?_
          refine lv_iconst (v := 0) hx hb dX6_minuteOn_28 (by decide) ?_
          refine lv_aload_n hx hb dX6_minuteOn_29 rfl (lv_at hl 2 rfl) ?_
          refine lv_iload_n hx hb dX6_minuteOn_30 rfl (lv_at hl 1 rfl) ?_
          refine lv_iconst (v := 3) hx hb dX6_minuteOn_31 (by decide) ?_
          refine fk_di (fcV X hw (c_en l g ad M hM (e0 := k) (k := 3) (show k < tEn U by omega) rfl (by omega)) hMo rfl wq873 kVX6_en ⟨(Nat.le_of_ble_eq_true rfl), (Nat.le_of_ble_eq_true rfl)⟩ rfl hl.1 rfl (Nat.le_of_ble_eq_true rfl) dX6_minuteOn_32 ⟨Nat.le_refl _, Nat.le_refl _⟩) hw (fun H locs hw => ?_)
          refine lv_iconst (v := 1) hx hb dX6_minuteOn_35 (by decide) ?_
          refine lv_isub hx hb dX6_minuteOn_36 ?_
          refine va_mmax hx hb (X.2.2.1.trans hl.1.symm) X.2.2.2.1 (X.2.2.2.2.1 _ wq995) (X.2.2.2.2.1 _ wq173) (X.2.2.2.2.1 _ wq18) (X.2.2.2.2.1 _ wq174) (Nat.le_of_ble_eq_true rfl) (Nat.le_of_ble_eq_true rfl) (Nat.zero_le _) (Nat.zero_le _) dX6_minuteOn_37 ?_
          refine fk_mv (fcV X hw (c_setEn l g ad M hM (e0 := k) (k := 3) (show k < tEn U by omega) rfl (by omega) (iMax 0 (tE (mE mFire k U) k 3 - 1))) hMo rfl wq932 kVX6_setEn ⟨(Nat.le_of_ble_eq_true rfl), (Nat.le_of_ble_eq_true rfl)⟩ rfl hl.1 rfl (Nat.le_of_ble_eq_true rfl) dX6_minuteOn_40 ⟨Nat.le_refl _, Nat.le_refl _⟩) hw (fun M10 H locs hM hr10 hw => ?_)
          have hrA := fReg_tr hrA hr10
          obtain ⟨pcs, wa, ht, et, mi, co, as, hMo, ⟨hm6, hm7, hm8, hm9, hm10, hm11, hm12, hm13, hm14⟩, hRel, hCnt⟩ := id hM
          obtain ⟨hn1, hn2, hn3⟩ := id hCnt
          have hn1 : tHn U ≤ 30 := hn1
          have hn2 : tPn U ≤ 6 := hn2
          have hn3 : tEn U ≤ 6 := hn3
          have hMo : M10 5 = some (.inr (7, [.int th, .int (nI (tHn U)), .int (nI (tPn U)), .int (nI (tEn U)), .ref (ad 6), .ref (ad 7), .ref (ad 8), .ref (ad 9), .ref (ad 10), .ref (ad 11), .ref (ad 12), .ref (ad 13), .ref (ad 14)])) := hMo
          obtain ⟨rH, rP, rE, rM⟩ := id hRel
          refine lv_aload_n hx hb dX6_minuteOn_43 rfl (lv_at hl 2 rfl) ?_
          refine lv_iload_n hx hb dX6_minuteOn_44 rfl (lv_at hl 1 rfl) ?_
          refine lv_iconst (v := 4) hx hb dX6_minuteOn_45 (by decide) ?_
          refine lv_iload_n hx hb dX6_minuteOn_46 rfl (lv_at hl 0 rfl) ?_
          refine lv_if_eq (tgt := 66) hx hb dX6_minuteOn_47 (by decide) (fun c_12 => ?_) (fun c_12 => absurd rfl c_12)
          refine lv_iconst (v := 0) hx hb dX6_minuteOn_66 (by decide) ?_
          refine lv_aload_n hx hb dX6_minuteOn_67 rfl (lv_at hl 2 rfl) ?_
          refine lv_iload_n hx hb dX6_minuteOn_68 rfl (lv_at hl 1 rfl) ?_
          refine lv_iconst (v := 4) hx hb dX6_minuteOn_69 (by decide) ?_
          refine fk_di (fcV X hw (c_en l g ad M10 hM (e0 := k) (k := 4) (show k < tEn U by omega) rfl (by omega)) hMo rfl wq873 kVX6_en ⟨(Nat.le_of_ble_eq_true rfl), (Nat.le_of_ble_eq_true rfl)⟩ rfl hl.1 rfl (Nat.le_of_ble_eq_true rfl) dX6_minuteOn_70 ⟨Nat.le_refl _, Nat.le_refl _⟩) hw (fun H locs hw => ?_)
          refine f_top (y := tE (mE mFire k U) k 4) (by rw [tE_sE]; exact upd_ne (by decide)) ?_
          refine lv_iconst (v := 3) hx hb dX6_minuteOn_73 (by decide) ?_
          refine lv_isub hx hb dX6_minuteOn_74 ?_
          refine va_mmax hx hb (X.2.2.1.trans hl.1.symm) X.2.2.2.1 (X.2.2.2.2.1 _ wq995) (X.2.2.2.2.1 _ wq173) (X.2.2.2.2.1 _ wq18) (X.2.2.2.2.1 _ wq174) (Nat.le_of_ble_eq_true rfl) (Nat.le_of_ble_eq_true rfl) (Nat.zero_le _) (Nat.zero_le _) dX6_minuteOn_75 ?_
          refine fk_mv (fcV X hw (c_setEn l g ad M10 hM (e0 := k) (k := 4) (show k < tEn U by omega) rfl (by omega) (iMax 0 (tE (mE mFire k U) k 4 - 3))) hMo rfl wq932 kVX6_setEn ⟨(Nat.le_of_ble_eq_true rfl), (Nat.le_of_ble_eq_true rfl)⟩ rfl hl.1 rfl (Nat.le_of_ble_eq_true rfl) dX6_minuteOn_78 ⟨Nat.le_refl _, Nat.le_refl _⟩) hw (fun M11 H locs hM hr11 hw => ?_)
          have hrA := fReg_tr hrA hr11
          obtain ⟨pcs, wa, ht, et, mi, co, as, hMo, ⟨hm6, hm7, hm8, hm9, hm10, hm11, hm12, hm13, hm14⟩, hRel, hCnt⟩ := id hM
          obtain ⟨hn1, hn2, hn3⟩ := id hCnt
          have hn1 : tHn U ≤ 30 := hn1
          have hn2 : tPn U ≤ 6 := hn2
          have hn3 : tEn U ≤ 6 := hn3
          have hMo : M11 5 = some (.inr (7, [.int th, .int (nI (tHn U)), .int (nI (tPn U)), .int (nI (tEn U)), .ref (ad 6), .ref (ad 7), .ref (ad 8), .ref (ad 9), .ref (ad 10), .ref (ad 11), .ref (ad 12), .ref (ad 13), .ref (ad 14)])) := hMo
          obtain ⟨rH, rP, rE, rM⟩ := id hRel
          refine lv_iinc (v := nI (k + 1)) (lv' := [(1, .int (nI (k + 1))), (2, .int 0), (0, .ref (ad 5))]) hx hb dX6_minuteOn_81 hl (k := 1) rfl (nI_1 k) (by decide) rfl (fun ls hl => ?_)
          refine lv_goto (tgt := 2) hx hb dX6_minuteOn_84 (by decide) ?_
          rw [mE_ge (Nat.le_refl k)] at c_11
          rw [show sE (sE (mE mFire k U) k (upd (tE (mE mFire k U) k) 3 (iMax 0 (tE (mE mFire k U) k 3 - 1)))) k (upd (tE (sE (mE mFire k U) k (upd (tE (mE mFire k U) k) 3 (iMax 0 (tE (mE mFire k U) k 3 - 1)))) k) 4 (iMax 0 (tE (mE mFire k U) k 4 - 3))) = mE mFire (k + 1) U from by rw [tE_sE, sE_sE, mE_ge (Nat.le_refl k), show upd (upd (tE U k) 3 (iMax 0 (tE U k 3 - 1))) 4 (iMax 0 (tE U k 4 - 3)) = mFire (tE U k) from by unfold mFire; rw [if_pos c_11]]; exact mE_step] at hM
          exact ih2 (k + 1) (by omega) (by omega) M11 hM hrA ls _ _ hw (lv_sub hl [0, 2] rfl)
        · refine lv_iconst (v := 1) hx hb dX6_minuteOn_19 (by decide) ?_
          refine lv_goto (tgt := 24) hx hb dX6_minuteOn_20 (by decide) ?_
          refine lv_istore_n (lv' := [(2, .int 1), (1, .int (nI k)), (0, .ref (ad 5))]) hx hb dX6_minuteOn_24 rfl hl (by decide) rfl (fun ls hl => ?_)
          refine lv_aload_n hx hb dX6_minuteOn_25 rfl (lv_at hl 2 rfl) ?_
          refine lv_iload_n hx hb dX6_minuteOn_26 rfl (lv_at hl 1 rfl) ?_
          refine lv_iconst (v := 3) hx hb dX6_minuteOn_27 (by decide) ?_
          refine lv_iconst (v := 0) hx hb dX6_minuteOn_28 (by decide) ?_
          refine lv_aload_n hx hb dX6_minuteOn_29 rfl (lv_at hl 2 rfl) ?_
          refine lv_iload_n hx hb dX6_minuteOn_30 rfl (lv_at hl 1 rfl) ?_
          refine lv_iconst (v := 3) hx hb dX6_minuteOn_31 (by decide) ?_
          refine fk_di (fcV X hw (c_en l g ad M hM (e0 := k) (k := 3) (show k < tEn U by omega) rfl (by omega)) hMo rfl wq873 kVX6_en ⟨(Nat.le_of_ble_eq_true rfl), (Nat.le_of_ble_eq_true rfl)⟩ rfl hl.1 rfl (Nat.le_of_ble_eq_true rfl) dX6_minuteOn_32 ⟨Nat.le_refl _, Nat.le_refl _⟩) hw (fun H locs hw => ?_)
          refine lv_iconst (v := 1) hx hb dX6_minuteOn_35 (by decide) ?_
          refine lv_isub hx hb dX6_minuteOn_36 ?_
          refine va_mmax hx hb (X.2.2.1.trans hl.1.symm) X.2.2.2.1 (X.2.2.2.2.1 _ wq995) (X.2.2.2.2.1 _ wq173) (X.2.2.2.2.1 _ wq18) (X.2.2.2.2.1 _ wq174) (Nat.le_of_ble_eq_true rfl) (Nat.le_of_ble_eq_true rfl) (Nat.zero_le _) (Nat.zero_le _) dX6_minuteOn_37 ?_
          refine fk_mv (fcV X hw (c_setEn l g ad M hM (e0 := k) (k := 3) (show k < tEn U by omega) rfl (by omega) (iMax 0 (tE (mE mFire k U) k 3 - 1))) hMo rfl wq932 kVX6_setEn ⟨(Nat.le_of_ble_eq_true rfl), (Nat.le_of_ble_eq_true rfl)⟩ rfl hl.1 rfl (Nat.le_of_ble_eq_true rfl) dX6_minuteOn_40 ⟨Nat.le_refl _, Nat.le_refl _⟩) hw (fun M12 H locs hM hr12 hw => ?_)
          have hrA := fReg_tr hrA hr12
          obtain ⟨pcs, wa, ht, et, mi, co, as, hMo, ⟨hm6, hm7, hm8, hm9, hm10, hm11, hm12, hm13, hm14⟩, hRel, hCnt⟩ := id hM
          obtain ⟨hn1, hn2, hn3⟩ := id hCnt
          have hn1 : tHn U ≤ 30 := hn1
          have hn2 : tPn U ≤ 6 := hn2
          have hn3 : tEn U ≤ 6 := hn3
          have hMo : M12 5 = some (.inr (7, [.int th, .int (nI (tHn U)), .int (nI (tPn U)), .int (nI (tEn U)), .ref (ad 6), .ref (ad 7), .ref (ad 8), .ref (ad 9), .ref (ad 10), .ref (ad 11), .ref (ad 12), .ref (ad 13), .ref (ad 14)])) := hMo
          obtain ⟨rH, rP, rE, rM⟩ := id hRel
          refine lv_aload_n hx hb dX6_minuteOn_43 rfl (lv_at hl 2 rfl) ?_
          refine lv_iload_n hx hb dX6_minuteOn_44 rfl (lv_at hl 1 rfl) ?_
          refine lv_iconst (v := 4) hx hb dX6_minuteOn_45 (by decide) ?_
          refine lv_iload_n hx hb dX6_minuteOn_46 rfl (lv_at hl 0 rfl) ?_
          refine lv_if_eq (tgt := 66) hx hb dX6_minuteOn_47 (by decide) (fun c_13 => absurd c_13 (by decide)) (fun c_13 => ?_)
          refine lv_bipush (v := 100) hx hb dX6_minuteOn_50 (by decide) ?_
          refine lv_aload_n hx hb dX6_minuteOn_52 rfl (lv_at hl 2 rfl) ?_
          refine lv_iload_n hx hb dX6_minuteOn_53 rfl (lv_at hl 1 rfl) ?_
          refine lv_iconst (v := 4) hx hb dX6_minuteOn_54 (by decide) ?_
          refine fk_di (fcV X hw (c_en l g ad M12 hM (e0 := k) (k := 4) (show k < tEn U by omega) rfl (by omega)) hMo rfl wq873 kVX6_en ⟨(Nat.le_of_ble_eq_true rfl), (Nat.le_of_ble_eq_true rfl)⟩ rfl hl.1 rfl (Nat.le_of_ble_eq_true rfl) dX6_minuteOn_55 ⟨Nat.le_refl _, Nat.le_refl _⟩) hw (fun H locs hw => ?_)
          refine f_top (y := tE (mE mFire k U) k 4) (by rw [tE_sE]; exact upd_ne (by decide)) ?_
          refine lv_iconst (v := 4) hx hb dX6_minuteOn_58 (by decide) ?_
          refine lv_iadd hx hb dX6_minuteOn_59 ?_
          refine va_mmin hx hb (X.2.2.1.trans hl.1.symm) X.2.2.2.1 (X.2.2.2.2.1 _ wq996) (X.2.2.2.2.1 _ wq204) (X.2.2.2.2.1 _ wq18) (X.2.2.2.2.1 _ wq205) (Nat.le_of_ble_eq_true rfl) (Nat.le_of_ble_eq_true rfl) (Nat.zero_le _) (Nat.zero_le _) dX6_minuteOn_60 ?_
          refine lv_goto (tgt := 78) hx hb dX6_minuteOn_63 (by decide) ?_
          refine fk_mv (fcV X hw (c_setEn l g ad M12 hM (e0 := k) (k := 4) (show k < tEn U by omega) rfl (by omega) (iMin 100 (tE (mE mFire k U) k 4 + 4))) hMo rfl wq932 kVX6_setEn ⟨(Nat.le_of_ble_eq_true rfl), (Nat.le_of_ble_eq_true rfl)⟩ rfl hl.1 rfl (Nat.le_of_ble_eq_true rfl) dX6_minuteOn_78 ⟨Nat.le_refl _, Nat.le_refl _⟩) hw (fun M13 H locs hM hr13 hw => ?_)
          have hrA := fReg_tr hrA hr13
          obtain ⟨pcs, wa, ht, et, mi, co, as, hMo, ⟨hm6, hm7, hm8, hm9, hm10, hm11, hm12, hm13, hm14⟩, hRel, hCnt⟩ := id hM
          obtain ⟨hn1, hn2, hn3⟩ := id hCnt
          have hn1 : tHn U ≤ 30 := hn1
          have hn2 : tPn U ≤ 6 := hn2
          have hn3 : tEn U ≤ 6 := hn3
          have hMo : M13 5 = some (.inr (7, [.int th, .int (nI (tHn U)), .int (nI (tPn U)), .int (nI (tEn U)), .ref (ad 6), .ref (ad 7), .ref (ad 8), .ref (ad 9), .ref (ad 10), .ref (ad 11), .ref (ad 12), .ref (ad 13), .ref (ad 14)])) := hMo
          obtain ⟨rH, rP, rE, rM⟩ := id hRel
          refine lv_iinc (v := nI (k + 1)) (lv' := [(1, .int (nI (k + 1))), (2, .int 1), (0, .ref (ad 5))]) hx hb dX6_minuteOn_81 hl (k := 1) rfl (nI_1 k) (by decide) rfl (fun ls hl => ?_)
          refine lv_goto (tgt := 2) hx hb dX6_minuteOn_84 (by decide) ?_
          rw [mE_ge (Nat.le_refl k)] at c_11
          rw [show sE (sE (mE mFire k U) k (upd (tE (mE mFire k U) k) 3 (iMax 0 (tE (mE mFire k U) k 3 - 1)))) k (upd (tE (sE (mE mFire k U) k (upd (tE (mE mFire k U) k) 3 (iMax 0 (tE (mE mFire k U) k 3 - 1)))) k) 4 (iMin 100 (tE (mE mFire k U) k 4 + 4))) = mE mFire (k + 1) U from by rw [tE_sE, sE_sE, mE_ge (Nat.le_refl k), show upd (upd (tE U k) 3 (iMax 0 (tE U k 3 - 1))) 4 (iMin 100 (tE U k 4 + 4)) = mFire (tE U k) from by unfold mFire; rw [if_neg c_11]]; exact mE_step] at hM
          exact ih2 (k + 1) (by omega) (by omega) M13 hM hrA ls _ _ hw (lv_sub hl [0, 2] rfl)
  have hM : isMo g ad M th (mE mFire 0 U) sp ca := by rw [mE_0]; exact hM
  exact loop2 (tEn U + 1) 0 (by omega) (by omega) M hM hrA ls _ _ hw (lv_sub hl [0, 1] rfl)
