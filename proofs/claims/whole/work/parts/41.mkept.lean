def kRel (K : fTn) (wa ht et mi : Nat → Int32) : Prop :=
  (∀ h, h < tHn K → ∀ k, k < 7 → ht (7 * h + k) = tH K h k) ∧ (∀ i, i < tPn K → wa i = tP K i 1) ∧ (∀ j, j < tEn K → (∀ k, k < 8 → et (9 * j + k) = tE K j k) ∧ et (9 * j + 8) = tE K j 9) ∧ mi 0 = tM K
def isKp (g : fG) (ad : Nat → Nat) (M : fM) (K : fTn) : Prop := ∃ (ko : Nat → Option Nat) (wa ht et mi : Nat → Int32), M 20 = some (.inl (gQ g, 4, .inr (.inr (.inr (.inr ko))))) ∧ (ko 0 = some (ad 21) ∧ ko 1 = some (ad 22) ∧ ko 2 = some (ad 23) ∧ ko 3 = some (ad 24)) ∧
  M 21 = some (.inl (gI g, 6, .inl wa)) ∧ M 22 = some (.inl (gI g, 210, .inl ht)) ∧ M 23 = some (.inl (gI g, 54, .inl et)) ∧ M 24 = some (.inl (gI g, 1, .inl mi)) ∧ kRel K wa ht et mi
abbrev fKp (g : fG) (ad : Nat → Nat) (M : fM) (K : fTn) : Nat → (Nat → Nat) → fM → Prop := fun r ad1 M1 => ad1 20 = r ∧ isKp g ad1 M1 K ∧ fReg 20 25 ad M ad1 M1
theorem isKp_reg {g : fG} {ad ad1 : Nat → Nat} {M M1 : fM} {K : fTn} {lo hi : Nat} (h : isKp g ad M K) (hr : fReg lo hi ad M ad1 M1) (hb : 25 ≤ lo ∨ hi ≤ 20) : isKp g ad1 M1 K := by
  obtain ⟨ko, wa, ht, et, mi, h0, ⟨a1, a2, a3, a4⟩, h1, h2, h3, h4, h5⟩ := h
  have R : ∀ k, 20 ≤ k → k < 25 → ad1 k = ad k ∧ M1 k = M k := fun k h0 h1 => hr k (by omega) (by omega)
  exact ⟨ko, wa, ht, et, mi, (R 20 (by omega) (by omega)).2.trans h0, ⟨by rw [(R 21 (by omega) (by omega)).1]; exact a1, by rw [(R 22 (by omega) (by omega)).1]; exact a2, by rw [(R 23 (by omega) (by omega)).1]; exact a3, by rw [(R 24 (by omega) (by omega)).1]; exact a4⟩,
    (R 21 (by omega) (by omega)).2.trans h1, (R 22 (by omega) (by omega)).2.trans h2, (R 23 (by omega) (by omega)).2.trans h3, (R 24 (by omega) (by omega)).2.trans h4, h5⟩
theorem isMo_reg {g : fG} {ad ad1 : Nat → Nat} {M M1 : fM} {th : Int32} {U : fTn} {sp ca : Nat → Int32} {lo hi : Nat} (h : isMo g ad M th U sp ca) (hr : fReg lo hi ad M ad1 M1) (hb : 15 ≤ lo ∨ hi ≤ 5) : isMo g ad1 M1 th U sp ca := by
  obtain ⟨pcs, wa, ht, et, mi, co, as, hO, ⟨m6, m7, m8, m9, m10, m11, m12, m13, m14⟩, h2, h3⟩ := h
  have R : ∀ k, 5 ≤ k → k < 15 → ad1 k = ad k ∧ M1 k = M k := fun k h0 h1 => hr k (by omega) (by omega)
  refine ⟨pcs, wa, ht, et, mi, co, as, ?_, ⟨(R 6 (by omega) (by omega)).2.trans m6, (R 7 (by omega) (by omega)).2.trans m7, (R 8 (by omega) (by omega)).2.trans m8, (R 9 (by omega) (by omega)).2.trans m9, (R 10 (by omega) (by omega)).2.trans m10, (R 11 (by omega) (by omega)).2.trans m11, (R 12 (by omega) (by omega)).2.trans m12, (R 13 (by omega) (by omega)).2.trans m13, (R 14 (by omega) (by omega)).2.trans m14⟩, h2, h3⟩
  unfold mObj at hO ⊢
  rw [(R 5 (by omega) (by omega)).2, (R 6 (by omega) (by omega)).1, (R 7 (by omega) (by omega)).1, (R 8 (by omega) (by omega)).1, (R 9 (by omega) (by omega)).1, (R 10 (by omega) (by omega)).1, (R 11 (by omega) (by omega)).1, (R 12 (by omega) (by omega)).1, (R 13 (by omega) (by omega)).1, (R 14 (by omega) (by omega)).1]
  exact hO
/-- what is brought back: all but what comes and who was asked -/
def backT (U K : fTn) : fTn := (tM K, (tHn U, tH K), (tPn U, fun i => upd (tP U i) 1 (tP K i 1)), (tEn U, fun j k => if k = 8 then tE U j 8 else if k = 10 then tE U j 10 else tE K j k))
theorem mRel_back {U K : fTn} {pcs wa ht et mi co as wa2 ht2 et2 mi2 : Nat → Int32} (h : mRel U pcs wa ht et mi co as) (hk : kRel K wa2 ht2 et2 mi2) (e1 : tHn U = tHn K) (e2 : tPn U = tPn K) (e3 : tEn U = tEn K) (b1 : tHn U ≤ 30) (b2 : tPn U ≤ 6) (b3 : tEn U ≤ 6) :
    mRel (backT U K) pcs (va_cpy wa2 wa 0 0 6) (va_cpy ht2 ht 0 0 210) (va_cpy et2 et 0 0 54) (va_cpy mi2 mi 0 0 1) co as := by
  obtain ⟨r1, r2, r3, r4⟩ := h
  obtain ⟨k1, k2, k3, k4⟩ := hk
  refine ⟨fun h hh k hk7 => ?_, fun i hi => ?_, fun j hj => ?_, ?_⟩
  · have hh : h < tHn U := hh
    rw [sb_cpy0 (by omega)]
    exact k1 h (by omega) k hk7
  · have hi : i < tPn U := hi
    rw [sb_cpy0 (by omega)]
    show pcs i = upd (tP U i) 1 (tP K i 1) 0 ∧ wa2 i = upd (tP U i) 1 (tP K i 1) 1
    exact ⟨by rw [upd_ne (show 0 ≠ 1 by decide)]; exact (r2 i hi).1, by rw [upd_at]; exact k2 i (by omega)⟩
  · have hj : j < tEn U := hj
    obtain ⟨a1, a2, a3, a4, a5⟩ := r3 j hj
    obtain ⟨c1, c2⟩ := k3 j (by omega)
    refine ⟨fun k hk8 => ?_, ?_, a3, a4, a5⟩
    · rw [sb_cpy0 (by omega)]
      show _ = (if k = 8 then tE U j 8 else if k = 10 then tE U j 10 else tE K j k)
      rw [if_neg (by omega), if_neg (by omega)]
      exact c1 k hk8
    · rw [sb_cpy0 (by omega)]
      exact c2
  · rw [sb_cpy0 (by omega)]
    exact k4

set_option maxHeartbeats 4000000 in
set_option maxRecDepth 100000 in
theorem c_m_kept (l : Launch) (g : fG) (ad : Nat → Nat) (M : fM) {th : Int32} {U : fTn} {sp ca : Nat → Int32} (hM : isMo g ad M th U sp ca) : fCr l g yX6_kept cX6_kept 1 ((some (.array (.array .int)))) 1 40 5 275 ad M [.ref (ad 5)] (fKp g ad M U) := by
  refine f_body (own := RX6) (by decide +kernel) rfl (Nat.le_of_ble_eq_true rfl) ?_
  intro p e s m args below meth c ls X hw hin hl
  have hx := X.1
  have hb := X.2.1
  have hl : lv_has ls 1 [(0, .ref (ad 5))] := hl
  obtain ⟨pcs, wa, ht, et, mi, co, as, hMo, ⟨hm6, hm7, hm8, hm9, hm10, hm11, hm12, hm13, hm14⟩, hRel, hCnt⟩ := id hM
  obtain ⟨hn1, hn2, hn3⟩ := id hCnt
  have hn1 : tHn U ≤ 30 := hn1
  have hn2 : tPn U ≤ 6 := hn2
  have hn3 : tEn U ≤ 6 := hn3
  have hMo : M 5 = some (.inr (7, [.int th, .int (nI (tHn U)), .int (nI (tPn U)), .int (nI (tEn U)), .ref (ad 6), .ref (ad 7), .ref (ad 8), .ref (ad 9), .ref (ad 10), .ref (ad 11), .ref (ad 12), .ref (ad 13), .ref (ad 14)])) := hMo
  obtain ⟨rH, rP, rE, rM⟩ := id hRel
  refine lv_iconst (v := 4) hx hb dX6_kept_0 (by decide) ?_
  refine f_newQ X hw 20 (by omega) wq1029 (n := 4) (N' := 4) (by decide) rfl (by decide) (by dsimp only [fR]; omega) (by dsimp only [fR]; omega) dX6_kept_1 (fun q1 H hw => ?_)
  obtain ⟨ad1, ea1⟩ : ∃ z, z = fV ad 20 q1 := ⟨_, rfl⟩
  have eq1 : ad1 20 = q1 := by rw [ea1]; exact fV_s
  have eA1 : ∀ l, l ≠ 20 → ad1 l = ad l := fun l h => by rw [ea1]; exact fV_n h
  rw [← ea1] at hw
  obtain ⟨Mn1, em1⟩ : ∃ z, z = fU M 20 (.inl (gQ g, 4, .inr (.inr (.inr (.inr (fun _ => none)))))) := ⟨_, rfl⟩
  have eM1 : ∀ l, l ≠ 20 → Mn1 l = M l := fun l h => by rw [em1]; exact fU_n h
  have eS1 : Mn1 20 = some (.inl (gQ g, 4, .inr (.inr (.inr (.inr (fun _ => none)))))) := by rw [em1]; exact fU_s
  rw [← em1] at hw
  have hMo : Mn1 5 = some (.inr (7, [.int th, .int (nI (tHn U)), .int (nI (tPn U)), .int (nI (tEn U)), .ref (ad 6), .ref (ad 7), .ref (ad 8), .ref (ad 9), .ref (ad 10), .ref (ad 11), .ref (ad 12), .ref (ad 13), .ref (ad 14)])) := (eM1 _ (by omega)).trans hMo
  have hm6 : Mn1 6 = some (.inl (gI g, 6, .inl pcs)) := (eM1 _ (by omega)).trans hm6
  have hm7 : Mn1 7 = some (.inl (gI g, 6, .inl wa)) := (eM1 _ (by omega)).trans hm7
  have hm8 : Mn1 8 = some (.inl (gI g, 210, .inl ht)) := (eM1 _ (by omega)).trans hm8
  have hm9 : Mn1 9 = some (.inl (gI g, 54, .inl et)) := (eM1 _ (by omega)).trans hm9
  have hm10 : Mn1 10 = some (.inl (gI g, 1, .inl mi)) := (eM1 _ (by omega)).trans hm10
  have hm11 : Mn1 11 = some (.inl (gI g, 6, .inl co)) := (eM1 _ (by omega)).trans hm11
  have hm12 : Mn1 12 = some (.inl (gZ g, 6, .inl as)) := (eM1 _ (by omega)).trans hm12
  have hm13 : Mn1 13 = some (.inl (gI g, 140, .inl sp)) := (eM1 _ (by omega)).trans hm13
  have hm14 : Mn1 14 = some (.inl (gZ g, 30, .inl ca)) := (eM1 _ (by omega)).trans hm14
  refine lv_dup hx hb dX6_kept_4 rfl ?_
  refine lv_iconst (v := 0) hx hb dX6_kept_5 (by decide) ?_
  refine lv_aload_n hx hb dX6_kept_6 rfl (lv_at hl 0 rfl) ?_
  refine f_adr (ad := ad1) (lb := 5) (eA1 5 (by omega)) ?_
  refine f_get X hw hMo fc7 5 (by decide) wq799 rfl (v := .ref (ad 7)) rfl dX6_kept_7 ?_
  refine f_adr (ad := ad1) (lb := 7) (eA1 7 (by omega)) ?_
  refine f_clone X hl.1 hw 21 (by omega) hm7 wq1031 (Nat.le_of_ble_eq_true rfl) (Nat.le_of_ble_eq_true rfl) (by dsimp only [fR]; omega) (by dsimp only [fR]; omega) dX6_kept_10 (fun q2 H hw => ?_)
  obtain ⟨ad2, ea2⟩ : ∃ z, z = fV ad1 21 q2 := ⟨_, rfl⟩
  have eq2 : ad2 21 = q2 := by rw [ea2]; exact fV_s
  have eA2 : ∀ l, l ≠ 21 → ad2 l = ad1 l := fun l h => by rw [ea2]; exact fV_n h
  rw [← ea2] at hw
  obtain ⟨Mn2, em2⟩ : ∃ z, z = fU Mn1 21 (.inl (gI g, 6, .inl wa)) := ⟨_, rfl⟩
  have eM2 : ∀ l, l ≠ 21 → Mn2 l = Mn1 l := fun l h => by rw [em2]; exact fU_n h
  have eS2 : Mn2 21 = some (.inl (gI g, 6, .inl wa)) := by rw [em2]; exact fU_s
  rw [← em2] at hw
  have hMo : Mn2 5 = some (.inr (7, [.int th, .int (nI (tHn U)), .int (nI (tPn U)), .int (nI (tEn U)), .ref (ad 6), .ref (ad 7), .ref (ad 8), .ref (ad 9), .ref (ad 10), .ref (ad 11), .ref (ad 12), .ref (ad 13), .ref (ad 14)])) := (eM2 _ (by omega)).trans hMo
  have hm6 : Mn2 6 = some (.inl (gI g, 6, .inl pcs)) := (eM2 _ (by omega)).trans hm6
  have hm7 : Mn2 7 = some (.inl (gI g, 6, .inl wa)) := (eM2 _ (by omega)).trans hm7
  have hm8 : Mn2 8 = some (.inl (gI g, 210, .inl ht)) := (eM2 _ (by omega)).trans hm8
  have hm9 : Mn2 9 = some (.inl (gI g, 54, .inl et)) := (eM2 _ (by omega)).trans hm9
  have hm10 : Mn2 10 = some (.inl (gI g, 1, .inl mi)) := (eM2 _ (by omega)).trans hm10
  have hm11 : Mn2 11 = some (.inl (gI g, 6, .inl co)) := (eM2 _ (by omega)).trans hm11
  have hm12 : Mn2 12 = some (.inl (gZ g, 6, .inl as)) := (eM2 _ (by omega)).trans hm12
  have hm13 : Mn2 13 = some (.inl (gI g, 140, .inl sp)) := (eM2 _ (by omega)).trans hm13
  have hm14 : Mn2 14 = some (.inl (gZ g, 30, .inl ca)) := (eM2 _ (by omega)).trans hm14
  have eS1 : Mn2 20 = some (.inl (gQ g, 4, .inr (.inr (.inr (.inr (fun _ => none)))))) := (eM2 _ (by omega)).trans eS1
  refine f_adr (ad := ad2) (lb := 21) eq2 ?_
  refine f_castI X hw eS2 wq1029 dX6_kept_13 ?_
  refine f_adr (ad := ad2) (lb := 21) rfl ?_
  refine f_adr3 (ad := ad2) (lb := 20) ((eA2 20 (by omega)).trans eq1) ?_
  refine f_aastQ X hw eS1 eS2 (by unfold vp_in; decide) dX6_kept_16 (fun H locs hw => ?_)
  rw [show (0 : Int32).toNatClampNeg = 0 from rfl] at hw
  have hw : fw g ad2 (fU Mn2 20 (.inl (gQ g, 4, .inr (.inr (.inr (.inr (va_up (fun _ => none) 0 (some (ad2 21))))))))) s H locs := hw
  have hMo : (fU Mn2 20 (.inl (gQ g, 4, .inr (.inr (.inr (.inr (va_up (fun _ => none) 0 (some (ad2 21))))))))) 5 = some (.inr (7, [.int th, .int (nI (tHn U)), .int (nI (tPn U)), .int (nI (tEn U)), .ref (ad 6), .ref (ad 7), .ref (ad 8), .ref (ad 9), .ref (ad 10), .ref (ad 11), .ref (ad 12), .ref (ad 13), .ref (ad 14)])) := (fU_n (by omega)).trans hMo
  have hm6 : (fU Mn2 20 (.inl (gQ g, 4, .inr (.inr (.inr (.inr (va_up (fun _ => none) 0 (some (ad2 21))))))))) 6 = some (.inl (gI g, 6, .inl pcs)) := (fU_n (by omega)).trans hm6
  have hm7 : (fU Mn2 20 (.inl (gQ g, 4, .inr (.inr (.inr (.inr (va_up (fun _ => none) 0 (some (ad2 21))))))))) 7 = some (.inl (gI g, 6, .inl wa)) := (fU_n (by omega)).trans hm7
  have hm8 : (fU Mn2 20 (.inl (gQ g, 4, .inr (.inr (.inr (.inr (va_up (fun _ => none) 0 (some (ad2 21))))))))) 8 = some (.inl (gI g, 210, .inl ht)) := (fU_n (by omega)).trans hm8
  have hm9 : (fU Mn2 20 (.inl (gQ g, 4, .inr (.inr (.inr (.inr (va_up (fun _ => none) 0 (some (ad2 21))))))))) 9 = some (.inl (gI g, 54, .inl et)) := (fU_n (by omega)).trans hm9
  have hm10 : (fU Mn2 20 (.inl (gQ g, 4, .inr (.inr (.inr (.inr (va_up (fun _ => none) 0 (some (ad2 21))))))))) 10 = some (.inl (gI g, 1, .inl mi)) := (fU_n (by omega)).trans hm10
  have hm11 : (fU Mn2 20 (.inl (gQ g, 4, .inr (.inr (.inr (.inr (va_up (fun _ => none) 0 (some (ad2 21))))))))) 11 = some (.inl (gI g, 6, .inl co)) := (fU_n (by omega)).trans hm11
  have hm12 : (fU Mn2 20 (.inl (gQ g, 4, .inr (.inr (.inr (.inr (va_up (fun _ => none) 0 (some (ad2 21))))))))) 12 = some (.inl (gZ g, 6, .inl as)) := (fU_n (by omega)).trans hm12
  have hm13 : (fU Mn2 20 (.inl (gQ g, 4, .inr (.inr (.inr (.inr (va_up (fun _ => none) 0 (some (ad2 21))))))))) 13 = some (.inl (gI g, 140, .inl sp)) := (fU_n (by omega)).trans hm13
  have hm14 : (fU Mn2 20 (.inl (gQ g, 4, .inr (.inr (.inr (.inr (va_up (fun _ => none) 0 (some (ad2 21))))))))) 14 = some (.inl (gZ g, 30, .inl ca)) := (fU_n (by omega)).trans hm14
  have eS2 : (fU Mn2 20 (.inl (gQ g, 4, .inr (.inr (.inr (.inr (va_up (fun _ => none) 0 (some (ad2 21))))))))) 21 = some (.inl (gI g, 6, .inl wa)) := (fU_n (by omega)).trans eS2
  have eS1 : (fU Mn2 20 (.inl (gQ g, 4, .inr (.inr (.inr (.inr (va_up (fun _ => none) 0 (some (ad2 21))))))))) 20 = some (.inl (gQ g, 4, .inr (.inr (.inr (.inr (va_up (fun _ => none) 0 (some (ad2 21)))))))) := fU_s
  refine lv_dup hx hb dX6_kept_17 rfl ?_
  refine lv_iconst (v := 1) hx hb dX6_kept_18 (by decide) ?_
  refine lv_aload_n hx hb dX6_kept_19 rfl (lv_at hl 0 rfl) ?_
  refine f_adr (ad := ad2) (lb := 5) ((eA2 5 (by omega)).trans (eA1 5 (by omega))) ?_
  refine f_get X hw hMo fc7 6 (by decide) wq800 rfl (v := .ref (ad 8)) rfl dX6_kept_20 ?_
  refine f_adr (ad := ad2) (lb := 8) ((eA2 8 (by omega)).trans (eA1 8 (by omega))) ?_
  refine f_clone X hl.1 hw 22 (by omega) hm8 wq1031 (Nat.le_of_ble_eq_true rfl) (Nat.le_of_ble_eq_true rfl) (by dsimp only [fR]; omega) (by dsimp only [fR]; omega) dX6_kept_23 (fun q3 H hw => ?_)
  obtain ⟨ad3, ea3⟩ : ∃ z, z = fV ad2 22 q3 := ⟨_, rfl⟩
  have eq3 : ad3 22 = q3 := by rw [ea3]; exact fV_s
  have eA3 : ∀ l, l ≠ 22 → ad3 l = ad2 l := fun l h => by rw [ea3]; exact fV_n h
  rw [← ea3] at hw
  obtain ⟨Mn3, em3⟩ : ∃ z, z = fU (fU Mn2 20 (.inl (gQ g, 4, .inr (.inr (.inr (.inr (va_up (fun _ => none) 0 (some (ad2 21))))))))) 22 (.inl (gI g, 210, .inl ht)) := ⟨_, rfl⟩
  have eM3 : ∀ l, l ≠ 22 → Mn3 l = (fU Mn2 20 (.inl (gQ g, 4, .inr (.inr (.inr (.inr (va_up (fun _ => none) 0 (some (ad2 21))))))))) l := fun l h => by rw [em3]; exact fU_n h
  have eS3 : Mn3 22 = some (.inl (gI g, 210, .inl ht)) := by rw [em3]; exact fU_s
  rw [← em3] at hw
  have hMo : Mn3 5 = some (.inr (7, [.int th, .int (nI (tHn U)), .int (nI (tPn U)), .int (nI (tEn U)), .ref (ad 6), .ref (ad 7), .ref (ad 8), .ref (ad 9), .ref (ad 10), .ref (ad 11), .ref (ad 12), .ref (ad 13), .ref (ad 14)])) := (eM3 _ (by omega)).trans hMo
  have hm6 : Mn3 6 = some (.inl (gI g, 6, .inl pcs)) := (eM3 _ (by omega)).trans hm6
  have hm7 : Mn3 7 = some (.inl (gI g, 6, .inl wa)) := (eM3 _ (by omega)).trans hm7
  have hm8 : Mn3 8 = some (.inl (gI g, 210, .inl ht)) := (eM3 _ (by omega)).trans hm8
  have hm9 : Mn3 9 = some (.inl (gI g, 54, .inl et)) := (eM3 _ (by omega)).trans hm9
  have hm10 : Mn3 10 = some (.inl (gI g, 1, .inl mi)) := (eM3 _ (by omega)).trans hm10
  have hm11 : Mn3 11 = some (.inl (gI g, 6, .inl co)) := (eM3 _ (by omega)).trans hm11
  have hm12 : Mn3 12 = some (.inl (gZ g, 6, .inl as)) := (eM3 _ (by omega)).trans hm12
  have hm13 : Mn3 13 = some (.inl (gI g, 140, .inl sp)) := (eM3 _ (by omega)).trans hm13
  have hm14 : Mn3 14 = some (.inl (gZ g, 30, .inl ca)) := (eM3 _ (by omega)).trans hm14
  have eS1 : Mn3 20 = some (.inl (gQ g, 4, .inr (.inr (.inr (.inr (va_up (fun _ => none) 0 (some (ad2 21)))))))) := (eM3 _ (by omega)).trans eS1
  have eS2 : Mn3 21 = some (.inl (gI g, 6, .inl wa)) := (eM3 _ (by omega)).trans eS2
  refine f_adr (ad := ad3) (lb := 22) eq3 ?_
  refine f_castI X hw eS3 wq1029 dX6_kept_26 ?_
  refine f_adr (ad := ad3) (lb := 22) rfl ?_
  refine f_adr3 (ad := ad3) (lb := 20) ((eA3 20 (by omega)).trans ((eA2 20 (by omega)).trans eq1)) ?_
  refine f_aastQ X hw eS1 eS3 (by unfold vp_in; decide) dX6_kept_29 (fun H locs hw => ?_)
  rw [show (1 : Int32).toNatClampNeg = 1 from rfl] at hw
  have hw : fw g ad3 (fU Mn3 20 (.inl (gQ g, 4, .inr (.inr (.inr (.inr (va_up (va_up (fun _ => none) 0 (some (ad2 21))) 1 (some (ad3 22))))))))) s H locs := hw
  have hMo : (fU Mn3 20 (.inl (gQ g, 4, .inr (.inr (.inr (.inr (va_up (va_up (fun _ => none) 0 (some (ad2 21))) 1 (some (ad3 22))))))))) 5 = some (.inr (7, [.int th, .int (nI (tHn U)), .int (nI (tPn U)), .int (nI (tEn U)), .ref (ad 6), .ref (ad 7), .ref (ad 8), .ref (ad 9), .ref (ad 10), .ref (ad 11), .ref (ad 12), .ref (ad 13), .ref (ad 14)])) := (fU_n (by omega)).trans hMo
  have hm6 : (fU Mn3 20 (.inl (gQ g, 4, .inr (.inr (.inr (.inr (va_up (va_up (fun _ => none) 0 (some (ad2 21))) 1 (some (ad3 22))))))))) 6 = some (.inl (gI g, 6, .inl pcs)) := (fU_n (by omega)).trans hm6
  have hm7 : (fU Mn3 20 (.inl (gQ g, 4, .inr (.inr (.inr (.inr (va_up (va_up (fun _ => none) 0 (some (ad2 21))) 1 (some (ad3 22))))))))) 7 = some (.inl (gI g, 6, .inl wa)) := (fU_n (by omega)).trans hm7
  have hm8 : (fU Mn3 20 (.inl (gQ g, 4, .inr (.inr (.inr (.inr (va_up (va_up (fun _ => none) 0 (some (ad2 21))) 1 (some (ad3 22))))))))) 8 = some (.inl (gI g, 210, .inl ht)) := (fU_n (by omega)).trans hm8
  have hm9 : (fU Mn3 20 (.inl (gQ g, 4, .inr (.inr (.inr (.inr (va_up (va_up (fun _ => none) 0 (some (ad2 21))) 1 (some (ad3 22))))))))) 9 = some (.inl (gI g, 54, .inl et)) := (fU_n (by omega)).trans hm9
  have hm10 : (fU Mn3 20 (.inl (gQ g, 4, .inr (.inr (.inr (.inr (va_up (va_up (fun _ => none) 0 (some (ad2 21))) 1 (some (ad3 22))))))))) 10 = some (.inl (gI g, 1, .inl mi)) := (fU_n (by omega)).trans hm10
  have hm11 : (fU Mn3 20 (.inl (gQ g, 4, .inr (.inr (.inr (.inr (va_up (va_up (fun _ => none) 0 (some (ad2 21))) 1 (some (ad3 22))))))))) 11 = some (.inl (gI g, 6, .inl co)) := (fU_n (by omega)).trans hm11
  have hm12 : (fU Mn3 20 (.inl (gQ g, 4, .inr (.inr (.inr (.inr (va_up (va_up (fun _ => none) 0 (some (ad2 21))) 1 (some (ad3 22))))))))) 12 = some (.inl (gZ g, 6, .inl as)) := (fU_n (by omega)).trans hm12
  have hm13 : (fU Mn3 20 (.inl (gQ g, 4, .inr (.inr (.inr (.inr (va_up (va_up (fun _ => none) 0 (some (ad2 21))) 1 (some (ad3 22))))))))) 13 = some (.inl (gI g, 140, .inl sp)) := (fU_n (by omega)).trans hm13
  have hm14 : (fU Mn3 20 (.inl (gQ g, 4, .inr (.inr (.inr (.inr (va_up (va_up (fun _ => none) 0 (some (ad2 21))) 1 (some (ad3 22))))))))) 14 = some (.inl (gZ g, 30, .inl ca)) := (fU_n (by omega)).trans hm14
  have eS2 : (fU Mn3 20 (.inl (gQ g, 4, .inr (.inr (.inr (.inr (va_up (va_up (fun _ => none) 0 (some (ad2 21))) 1 (some (ad3 22))))))))) 21 = some (.inl (gI g, 6, .inl wa)) := (fU_n (by omega)).trans eS2
  have eS3 : (fU Mn3 20 (.inl (gQ g, 4, .inr (.inr (.inr (.inr (va_up (va_up (fun _ => none) 0 (some (ad2 21))) 1 (some (ad3 22))))))))) 22 = some (.inl (gI g, 210, .inl ht)) := (fU_n (by omega)).trans eS3
  have eS1 : (fU Mn3 20 (.inl (gQ g, 4, .inr (.inr (.inr (.inr (va_up (va_up (fun _ => none) 0 (some (ad2 21))) 1 (some (ad3 22))))))))) 20 = some (.inl (gQ g, 4, .inr (.inr (.inr (.inr (va_up (va_up (fun _ => none) 0 (some (ad2 21))) 1 (some (ad3 22)))))))) := fU_s
  refine lv_dup hx hb dX6_kept_30 rfl ?_
  refine lv_iconst (v := 2) hx hb dX6_kept_31 (by decide) ?_
  refine lv_aload_n hx hb dX6_kept_32 rfl (lv_at hl 0 rfl) ?_
  refine f_adr (ad := ad3) (lb := 5) ((eA3 5 (by omega)).trans ((eA2 5 (by omega)).trans (eA1 5 (by omega)))) ?_
  refine f_get X hw hMo fc7 7 (by decide) wq801 rfl (v := .ref (ad 9)) rfl dX6_kept_33 ?_
  refine f_adr (ad := ad3) (lb := 9) ((eA3 9 (by omega)).trans ((eA2 9 (by omega)).trans (eA1 9 (by omega)))) ?_
  refine f_clone X hl.1 hw 23 (by omega) hm9 wq1031 (Nat.le_of_ble_eq_true rfl) (Nat.le_of_ble_eq_true rfl) (by dsimp only [fR]; omega) (by dsimp only [fR]; omega) dX6_kept_36 (fun q4 H hw => ?_)
  obtain ⟨ad4, ea4⟩ : ∃ z, z = fV ad3 23 q4 := ⟨_, rfl⟩
  have eq4 : ad4 23 = q4 := by rw [ea4]; exact fV_s
  have eA4 : ∀ l, l ≠ 23 → ad4 l = ad3 l := fun l h => by rw [ea4]; exact fV_n h
  rw [← ea4] at hw
  obtain ⟨Mn4, em4⟩ : ∃ z, z = fU (fU Mn3 20 (.inl (gQ g, 4, .inr (.inr (.inr (.inr (va_up (va_up (fun _ => none) 0 (some (ad2 21))) 1 (some (ad3 22))))))))) 23 (.inl (gI g, 54, .inl et)) := ⟨_, rfl⟩
  have eM4 : ∀ l, l ≠ 23 → Mn4 l = (fU Mn3 20 (.inl (gQ g, 4, .inr (.inr (.inr (.inr (va_up (va_up (fun _ => none) 0 (some (ad2 21))) 1 (some (ad3 22))))))))) l := fun l h => by rw [em4]; exact fU_n h
  have eS4 : Mn4 23 = some (.inl (gI g, 54, .inl et)) := by rw [em4]; exact fU_s
  rw [← em4] at hw
  have hMo : Mn4 5 = some (.inr (7, [.int th, .int (nI (tHn U)), .int (nI (tPn U)), .int (nI (tEn U)), .ref (ad 6), .ref (ad 7), .ref (ad 8), .ref (ad 9), .ref (ad 10), .ref (ad 11), .ref (ad 12), .ref (ad 13), .ref (ad 14)])) := (eM4 _ (by omega)).trans hMo
  have hm6 : Mn4 6 = some (.inl (gI g, 6, .inl pcs)) := (eM4 _ (by omega)).trans hm6
  have hm7 : Mn4 7 = some (.inl (gI g, 6, .inl wa)) := (eM4 _ (by omega)).trans hm7
  have hm8 : Mn4 8 = some (.inl (gI g, 210, .inl ht)) := (eM4 _ (by omega)).trans hm8
  have hm9 : Mn4 9 = some (.inl (gI g, 54, .inl et)) := (eM4 _ (by omega)).trans hm9
  have hm10 : Mn4 10 = some (.inl (gI g, 1, .inl mi)) := (eM4 _ (by omega)).trans hm10
  have hm11 : Mn4 11 = some (.inl (gI g, 6, .inl co)) := (eM4 _ (by omega)).trans hm11
  have hm12 : Mn4 12 = some (.inl (gZ g, 6, .inl as)) := (eM4 _ (by omega)).trans hm12
  have hm13 : Mn4 13 = some (.inl (gI g, 140, .inl sp)) := (eM4 _ (by omega)).trans hm13
  have hm14 : Mn4 14 = some (.inl (gZ g, 30, .inl ca)) := (eM4 _ (by omega)).trans hm14
  have eS1 : Mn4 20 = some (.inl (gQ g, 4, .inr (.inr (.inr (.inr (va_up (va_up (fun _ => none) 0 (some (ad2 21))) 1 (some (ad3 22)))))))) := (eM4 _ (by omega)).trans eS1
  have eS2 : Mn4 21 = some (.inl (gI g, 6, .inl wa)) := (eM4 _ (by omega)).trans eS2
  have eS3 : Mn4 22 = some (.inl (gI g, 210, .inl ht)) := (eM4 _ (by omega)).trans eS3
  refine f_adr (ad := ad4) (lb := 23) eq4 ?_
  refine f_castI X hw eS4 wq1029 dX6_kept_39 ?_
  refine f_adr (ad := ad4) (lb := 23) rfl ?_
  refine f_adr3 (ad := ad4) (lb := 20) ((eA4 20 (by omega)).trans ((eA3 20 (by omega)).trans ((eA2 20 (by omega)).trans eq1))) ?_
  refine f_aastQ X hw eS1 eS4 (by unfold vp_in; decide) dX6_kept_42 (fun H locs hw => ?_)
  rw [show (2 : Int32).toNatClampNeg = 2 from rfl] at hw
  have hw : fw g ad4 (fU Mn4 20 (.inl (gQ g, 4, .inr (.inr (.inr (.inr (va_up (va_up (va_up (fun _ => none) 0 (some (ad2 21))) 1 (some (ad3 22))) 2 (some (ad4 23))))))))) s H locs := hw
  have hMo : (fU Mn4 20 (.inl (gQ g, 4, .inr (.inr (.inr (.inr (va_up (va_up (va_up (fun _ => none) 0 (some (ad2 21))) 1 (some (ad3 22))) 2 (some (ad4 23))))))))) 5 = some (.inr (7, [.int th, .int (nI (tHn U)), .int (nI (tPn U)), .int (nI (tEn U)), .ref (ad 6), .ref (ad 7), .ref (ad 8), .ref (ad 9), .ref (ad 10), .ref (ad 11), .ref (ad 12), .ref (ad 13), .ref (ad 14)])) := (fU_n (by omega)).trans hMo
  have hm6 : (fU Mn4 20 (.inl (gQ g, 4, .inr (.inr (.inr (.inr (va_up (va_up (va_up (fun _ => none) 0 (some (ad2 21))) 1 (some (ad3 22))) 2 (some (ad4 23))))))))) 6 = some (.inl (gI g, 6, .inl pcs)) := (fU_n (by omega)).trans hm6
  have hm7 : (fU Mn4 20 (.inl (gQ g, 4, .inr (.inr (.inr (.inr (va_up (va_up (va_up (fun _ => none) 0 (some (ad2 21))) 1 (some (ad3 22))) 2 (some (ad4 23))))))))) 7 = some (.inl (gI g, 6, .inl wa)) := (fU_n (by omega)).trans hm7
  have hm8 : (fU Mn4 20 (.inl (gQ g, 4, .inr (.inr (.inr (.inr (va_up (va_up (va_up (fun _ => none) 0 (some (ad2 21))) 1 (some (ad3 22))) 2 (some (ad4 23))))))))) 8 = some (.inl (gI g, 210, .inl ht)) := (fU_n (by omega)).trans hm8
  have hm9 : (fU Mn4 20 (.inl (gQ g, 4, .inr (.inr (.inr (.inr (va_up (va_up (va_up (fun _ => none) 0 (some (ad2 21))) 1 (some (ad3 22))) 2 (some (ad4 23))))))))) 9 = some (.inl (gI g, 54, .inl et)) := (fU_n (by omega)).trans hm9
  have hm10 : (fU Mn4 20 (.inl (gQ g, 4, .inr (.inr (.inr (.inr (va_up (va_up (va_up (fun _ => none) 0 (some (ad2 21))) 1 (some (ad3 22))) 2 (some (ad4 23))))))))) 10 = some (.inl (gI g, 1, .inl mi)) := (fU_n (by omega)).trans hm10
  have hm11 : (fU Mn4 20 (.inl (gQ g, 4, .inr (.inr (.inr (.inr (va_up (va_up (va_up (fun _ => none) 0 (some (ad2 21))) 1 (some (ad3 22))) 2 (some (ad4 23))))))))) 11 = some (.inl (gI g, 6, .inl co)) := (fU_n (by omega)).trans hm11
  have hm12 : (fU Mn4 20 (.inl (gQ g, 4, .inr (.inr (.inr (.inr (va_up (va_up (va_up (fun _ => none) 0 (some (ad2 21))) 1 (some (ad3 22))) 2 (some (ad4 23))))))))) 12 = some (.inl (gZ g, 6, .inl as)) := (fU_n (by omega)).trans hm12
  have hm13 : (fU Mn4 20 (.inl (gQ g, 4, .inr (.inr (.inr (.inr (va_up (va_up (va_up (fun _ => none) 0 (some (ad2 21))) 1 (some (ad3 22))) 2 (some (ad4 23))))))))) 13 = some (.inl (gI g, 140, .inl sp)) := (fU_n (by omega)).trans hm13
  have hm14 : (fU Mn4 20 (.inl (gQ g, 4, .inr (.inr (.inr (.inr (va_up (va_up (va_up (fun _ => none) 0 (some (ad2 21))) 1 (some (ad3 22))) 2 (some (ad4 23))))))))) 14 = some (.inl (gZ g, 30, .inl ca)) := (fU_n (by omega)).trans hm14
  have eS2 : (fU Mn4 20 (.inl (gQ g, 4, .inr (.inr (.inr (.inr (va_up (va_up (va_up (fun _ => none) 0 (some (ad2 21))) 1 (some (ad3 22))) 2 (some (ad4 23))))))))) 21 = some (.inl (gI g, 6, .inl wa)) := (fU_n (by omega)).trans eS2
  have eS3 : (fU Mn4 20 (.inl (gQ g, 4, .inr (.inr (.inr (.inr (va_up (va_up (va_up (fun _ => none) 0 (some (ad2 21))) 1 (some (ad3 22))) 2 (some (ad4 23))))))))) 22 = some (.inl (gI g, 210, .inl ht)) := (fU_n (by omega)).trans eS3
  have eS4 : (fU Mn4 20 (.inl (gQ g, 4, .inr (.inr (.inr (.inr (va_up (va_up (va_up (fun _ => none) 0 (some (ad2 21))) 1 (some (ad3 22))) 2 (some (ad4 23))))))))) 23 = some (.inl (gI g, 54, .inl et)) := (fU_n (by omega)).trans eS4
  have eS1 : (fU Mn4 20 (.inl (gQ g, 4, .inr (.inr (.inr (.inr (va_up (va_up (va_up (fun _ => none) 0 (some (ad2 21))) 1 (some (ad3 22))) 2 (some (ad4 23))))))))) 20 = some (.inl (gQ g, 4, .inr (.inr (.inr (.inr (va_up (va_up (va_up (fun _ => none) 0 (some (ad2 21))) 1 (some (ad3 22))) 2 (some (ad4 23)))))))) := fU_s
  refine lv_dup hx hb dX6_kept_43 rfl ?_
  refine lv_iconst (v := 3) hx hb dX6_kept_44 (by decide) ?_
  refine lv_aload_n hx hb dX6_kept_45 rfl (lv_at hl 0 rfl) ?_
  refine f_adr (ad := ad4) (lb := 5) ((eA4 5 (by omega)).trans ((eA3 5 (by omega)).trans ((eA2 5 (by omega)).trans (eA1 5 (by omega))))) ?_
  refine f_get X hw hMo fc7 8 (by decide) wq802 rfl (v := .ref (ad 10)) rfl dX6_kept_46 ?_
  refine f_adr (ad := ad4) (lb := 10) ((eA4 10 (by omega)).trans ((eA3 10 (by omega)).trans ((eA2 10 (by omega)).trans (eA1 10 (by omega))))) ?_
  refine f_clone X hl.1 hw 24 (by omega) hm10 wq1031 (Nat.le_of_ble_eq_true rfl) (Nat.le_of_ble_eq_true rfl) (by dsimp only [fR]; omega) (by dsimp only [fR]; omega) dX6_kept_49 (fun q5 H hw => ?_)
  obtain ⟨ad5, ea5⟩ : ∃ z, z = fV ad4 24 q5 := ⟨_, rfl⟩
  have eq5 : ad5 24 = q5 := by rw [ea5]; exact fV_s
  have eA5 : ∀ l, l ≠ 24 → ad5 l = ad4 l := fun l h => by rw [ea5]; exact fV_n h
  rw [← ea5] at hw
  obtain ⟨Mn5, em5⟩ : ∃ z, z = fU (fU Mn4 20 (.inl (gQ g, 4, .inr (.inr (.inr (.inr (va_up (va_up (va_up (fun _ => none) 0 (some (ad2 21))) 1 (some (ad3 22))) 2 (some (ad4 23))))))))) 24 (.inl (gI g, 1, .inl mi)) := ⟨_, rfl⟩
  have eM5 : ∀ l, l ≠ 24 → Mn5 l = (fU Mn4 20 (.inl (gQ g, 4, .inr (.inr (.inr (.inr (va_up (va_up (va_up (fun _ => none) 0 (some (ad2 21))) 1 (some (ad3 22))) 2 (some (ad4 23))))))))) l := fun l h => by rw [em5]; exact fU_n h
  have eS5 : Mn5 24 = some (.inl (gI g, 1, .inl mi)) := by rw [em5]; exact fU_s
  rw [← em5] at hw
  have hMo : Mn5 5 = some (.inr (7, [.int th, .int (nI (tHn U)), .int (nI (tPn U)), .int (nI (tEn U)), .ref (ad 6), .ref (ad 7), .ref (ad 8), .ref (ad 9), .ref (ad 10), .ref (ad 11), .ref (ad 12), .ref (ad 13), .ref (ad 14)])) := (eM5 _ (by omega)).trans hMo
  have hm6 : Mn5 6 = some (.inl (gI g, 6, .inl pcs)) := (eM5 _ (by omega)).trans hm6
  have hm7 : Mn5 7 = some (.inl (gI g, 6, .inl wa)) := (eM5 _ (by omega)).trans hm7
  have hm8 : Mn5 8 = some (.inl (gI g, 210, .inl ht)) := (eM5 _ (by omega)).trans hm8
  have hm9 : Mn5 9 = some (.inl (gI g, 54, .inl et)) := (eM5 _ (by omega)).trans hm9
  have hm10 : Mn5 10 = some (.inl (gI g, 1, .inl mi)) := (eM5 _ (by omega)).trans hm10
  have hm11 : Mn5 11 = some (.inl (gI g, 6, .inl co)) := (eM5 _ (by omega)).trans hm11
  have hm12 : Mn5 12 = some (.inl (gZ g, 6, .inl as)) := (eM5 _ (by omega)).trans hm12
  have hm13 : Mn5 13 = some (.inl (gI g, 140, .inl sp)) := (eM5 _ (by omega)).trans hm13
  have hm14 : Mn5 14 = some (.inl (gZ g, 30, .inl ca)) := (eM5 _ (by omega)).trans hm14
  have eS1 : Mn5 20 = some (.inl (gQ g, 4, .inr (.inr (.inr (.inr (va_up (va_up (va_up (fun _ => none) 0 (some (ad2 21))) 1 (some (ad3 22))) 2 (some (ad4 23)))))))) := (eM5 _ (by omega)).trans eS1
  have eS2 : Mn5 21 = some (.inl (gI g, 6, .inl wa)) := (eM5 _ (by omega)).trans eS2
  have eS3 : Mn5 22 = some (.inl (gI g, 210, .inl ht)) := (eM5 _ (by omega)).trans eS3
  have eS4 : Mn5 23 = some (.inl (gI g, 54, .inl et)) := (eM5 _ (by omega)).trans eS4
  refine f_adr (ad := ad5) (lb := 24) eq5 ?_
  refine f_castI X hw eS5 wq1029 dX6_kept_52 ?_
  refine f_adr (ad := ad5) (lb := 24) rfl ?_
  refine f_adr3 (ad := ad5) (lb := 20) ((eA5 20 (by omega)).trans ((eA4 20 (by omega)).trans ((eA3 20 (by omega)).trans ((eA2 20 (by omega)).trans eq1)))) ?_
  refine f_aastQ X hw eS1 eS5 (by unfold vp_in; decide) dX6_kept_55 (fun H locs hw => ?_)
  rw [show (3 : Int32).toNatClampNeg = 3 from rfl] at hw
  have hw : fw g ad5 (fU Mn5 20 (.inl (gQ g, 4, .inr (.inr (.inr (.inr (va_up (va_up (va_up (va_up (fun _ => none) 0 (some (ad2 21))) 1 (some (ad3 22))) 2 (some (ad4 23))) 3 (some (ad5 24))))))))) s H locs := hw
  have hMo : (fU Mn5 20 (.inl (gQ g, 4, .inr (.inr (.inr (.inr (va_up (va_up (va_up (va_up (fun _ => none) 0 (some (ad2 21))) 1 (some (ad3 22))) 2 (some (ad4 23))) 3 (some (ad5 24))))))))) 5 = some (.inr (7, [.int th, .int (nI (tHn U)), .int (nI (tPn U)), .int (nI (tEn U)), .ref (ad 6), .ref (ad 7), .ref (ad 8), .ref (ad 9), .ref (ad 10), .ref (ad 11), .ref (ad 12), .ref (ad 13), .ref (ad 14)])) := (fU_n (by omega)).trans hMo
  have hm6 : (fU Mn5 20 (.inl (gQ g, 4, .inr (.inr (.inr (.inr (va_up (va_up (va_up (va_up (fun _ => none) 0 (some (ad2 21))) 1 (some (ad3 22))) 2 (some (ad4 23))) 3 (some (ad5 24))))))))) 6 = some (.inl (gI g, 6, .inl pcs)) := (fU_n (by omega)).trans hm6
  have hm7 : (fU Mn5 20 (.inl (gQ g, 4, .inr (.inr (.inr (.inr (va_up (va_up (va_up (va_up (fun _ => none) 0 (some (ad2 21))) 1 (some (ad3 22))) 2 (some (ad4 23))) 3 (some (ad5 24))))))))) 7 = some (.inl (gI g, 6, .inl wa)) := (fU_n (by omega)).trans hm7
  have hm8 : (fU Mn5 20 (.inl (gQ g, 4, .inr (.inr (.inr (.inr (va_up (va_up (va_up (va_up (fun _ => none) 0 (some (ad2 21))) 1 (some (ad3 22))) 2 (some (ad4 23))) 3 (some (ad5 24))))))))) 8 = some (.inl (gI g, 210, .inl ht)) := (fU_n (by omega)).trans hm8
  have hm9 : (fU Mn5 20 (.inl (gQ g, 4, .inr (.inr (.inr (.inr (va_up (va_up (va_up (va_up (fun _ => none) 0 (some (ad2 21))) 1 (some (ad3 22))) 2 (some (ad4 23))) 3 (some (ad5 24))))))))) 9 = some (.inl (gI g, 54, .inl et)) := (fU_n (by omega)).trans hm9
  have hm10 : (fU Mn5 20 (.inl (gQ g, 4, .inr (.inr (.inr (.inr (va_up (va_up (va_up (va_up (fun _ => none) 0 (some (ad2 21))) 1 (some (ad3 22))) 2 (some (ad4 23))) 3 (some (ad5 24))))))))) 10 = some (.inl (gI g, 1, .inl mi)) := (fU_n (by omega)).trans hm10
  have hm11 : (fU Mn5 20 (.inl (gQ g, 4, .inr (.inr (.inr (.inr (va_up (va_up (va_up (va_up (fun _ => none) 0 (some (ad2 21))) 1 (some (ad3 22))) 2 (some (ad4 23))) 3 (some (ad5 24))))))))) 11 = some (.inl (gI g, 6, .inl co)) := (fU_n (by omega)).trans hm11
  have hm12 : (fU Mn5 20 (.inl (gQ g, 4, .inr (.inr (.inr (.inr (va_up (va_up (va_up (va_up (fun _ => none) 0 (some (ad2 21))) 1 (some (ad3 22))) 2 (some (ad4 23))) 3 (some (ad5 24))))))))) 12 = some (.inl (gZ g, 6, .inl as)) := (fU_n (by omega)).trans hm12
  have hm13 : (fU Mn5 20 (.inl (gQ g, 4, .inr (.inr (.inr (.inr (va_up (va_up (va_up (va_up (fun _ => none) 0 (some (ad2 21))) 1 (some (ad3 22))) 2 (some (ad4 23))) 3 (some (ad5 24))))))))) 13 = some (.inl (gI g, 140, .inl sp)) := (fU_n (by omega)).trans hm13
  have hm14 : (fU Mn5 20 (.inl (gQ g, 4, .inr (.inr (.inr (.inr (va_up (va_up (va_up (va_up (fun _ => none) 0 (some (ad2 21))) 1 (some (ad3 22))) 2 (some (ad4 23))) 3 (some (ad5 24))))))))) 14 = some (.inl (gZ g, 30, .inl ca)) := (fU_n (by omega)).trans hm14
  have eS2 : (fU Mn5 20 (.inl (gQ g, 4, .inr (.inr (.inr (.inr (va_up (va_up (va_up (va_up (fun _ => none) 0 (some (ad2 21))) 1 (some (ad3 22))) 2 (some (ad4 23))) 3 (some (ad5 24))))))))) 21 = some (.inl (gI g, 6, .inl wa)) := (fU_n (by omega)).trans eS2
  have eS3 : (fU Mn5 20 (.inl (gQ g, 4, .inr (.inr (.inr (.inr (va_up (va_up (va_up (va_up (fun _ => none) 0 (some (ad2 21))) 1 (some (ad3 22))) 2 (some (ad4 23))) 3 (some (ad5 24))))))))) 22 = some (.inl (gI g, 210, .inl ht)) := (fU_n (by omega)).trans eS3
  have eS4 : (fU Mn5 20 (.inl (gQ g, 4, .inr (.inr (.inr (.inr (va_up (va_up (va_up (va_up (fun _ => none) 0 (some (ad2 21))) 1 (some (ad3 22))) 2 (some (ad4 23))) 3 (some (ad5 24))))))))) 23 = some (.inl (gI g, 54, .inl et)) := (fU_n (by omega)).trans eS4
  have eS5 : (fU Mn5 20 (.inl (gQ g, 4, .inr (.inr (.inr (.inr (va_up (va_up (va_up (va_up (fun _ => none) 0 (some (ad2 21))) 1 (some (ad3 22))) 2 (some (ad4 23))) 3 (some (ad5 24))))))))) 24 = some (.inl (gI g, 1, .inl mi)) := (fU_n (by omega)).trans eS5
  have eS1 : (fU Mn5 20 (.inl (gQ g, 4, .inr (.inr (.inr (.inr (va_up (va_up (va_up (va_up (fun _ => none) 0 (some (ad2 21))) 1 (some (ad3 22))) 2 (some (ad4 23))) 3 (some (ad5 24))))))))) 20 = some (.inl (gQ g, 4, .inr (.inr (.inr (.inr (va_up (va_up (va_up (va_up (fun _ => none) 0 (some (ad2 21))) 1 (some (ad3 22))) 2 (some (ad4 23))) 3 (some (ad5 24)))))))) := fU_s
  exact f_aret X rfl (Or.inr ⟨_, rfl⟩) hw ⟨((eA5 20 (by omega)).trans ((eA4 20 (by omega)).trans ((eA3 20 (by omega)).trans ((eA2 20 (by omega)).trans eq1)))), ⟨_, wa, ht, et, mi, eS1, ⟨by rw [eA5 21 (by omega), eA4 21 (by omega), eA3 21 (by omega)]; rfl, by rw [eA5 22 (by omega), eA4 22 (by omega)]; rfl, by rw [eA5 23 (by omega)]; rfl, rfl⟩, eS2, eS3, eS4, eS5, ⟨rH, fun i hi => (rP i hi).2, fun j hj => ⟨(rE j hj).1, (rE j hj).2.1⟩, rM⟩⟩, fun l a b => ⟨(eA5 l (by omega)).trans ((eA4 l (by omega)).trans ((eA3 l (by omega)).trans ((eA2 l (by omega)).trans (eA1 l (by omega))))), (fU_n (by omega)).trans ((eM5 l (by omega)).trans ((fU_n (by omega)).trans ((eM4 l (by omega)).trans ((fU_n (by omega)).trans ((eM3 l (by omega)).trans ((fU_n (by omega)).trans ((eM2 l (by omega)).trans (eM1 l (by omega)))))))))⟩⟩ (by omega) (by omega) dX6_kept_56
abbrev fBk (g : fG) (ad : Nat → Nat) (M : fM) (th : Int32) (U : fTn) (sp ca : Nat → Int32) : (Nat → Nat) → fM → Prop := fun ad1 M1 => isMo g ad1 M1 th U sp ca ∧ ∀ l, l ≠ 25 → l ≠ 4090 → ad1 l = ad l ∧ (¬ (5 ≤ l ∧ l < 15) → M1 l = M l)
set_option maxHeartbeats 4000000 in
set_option maxRecDepth 100000 in
theorem c_m_back (l : Launch) (g : fG) (ad : Nat → Nat) (M : fM) {th : Int32} {U : fTn} {sp ca : Nat → Int32} (hM : isMo g ad M th U sp ca) {K : fTn} (hK : isKp g ad M K) (e1 : tHn U = tHn K) (e2 : tPn U = tPn K) (e3 : tEn U = tEn K) : fCv l g yX6_bringBack cX6_bringBack 4 1 60 1 4 ad M [.ref (ad 5), .ref (ad 20)] (fBk g ad M th (backT U K) sp ca) := by
  refine f_body (own := RX6) (by decide +kernel) rfl (Nat.le_of_ble_eq_true rfl) ?_
  intro p e s m args below meth c ls X hw hin hl
  have hx := X.1
  have hb := X.2.1
  have hl : lv_has ls 4 [(0, .ref (ad 5)), (1, .ref (ad 20))] := hl
  obtain ⟨pcs, wa, ht, et, mi, co, as, hMo, ⟨hm6, hm7, hm8, hm9, hm10, hm11, hm12, hm13, hm14⟩, hRel, hCnt⟩ := id hM
  obtain ⟨hn1, hn2, hn3⟩ := id hCnt
  have hn1 : tHn U ≤ 30 := hn1
  have hn2 : tPn U ≤ 6 := hn2
  have hn3 : tEn U ≤ 6 := hn3
  have hMo : M 5 = some (.inr (7, [.int th, .int (nI (tHn U)), .int (nI (tPn U)), .int (nI (tEn U)), .ref (ad 6), .ref (ad 7), .ref (ad 8), .ref (ad 9), .ref (ad 10), .ref (ad 11), .ref (ad 12), .ref (ad 13), .ref (ad 14)])) := hMo
  obtain ⟨rH, rP, rE, rM⟩ := id hRel
  obtain ⟨ko, wa2, ht2, et2, mi2, hk20, ⟨hq0, hq1, hq2, hq3⟩, hk21, hk22, hk23, hk24, hkR⟩ := id hK
  refine lv_iconst (v := 4) hx hb dX6_bringBack_0 (by decide) ?_
  refine f_newQ X hw 25 (by omega) wq1029 (n := 4) (N' := 4) (by decide) rfl (by decide) (by dsimp only [fR]; omega) (by dsimp only [fR]; omega) dX6_bringBack_1 (fun q1 H hw => ?_)
  obtain ⟨ad1, ea1⟩ : ∃ z, z = fV ad 25 q1 := ⟨_, rfl⟩
  have eq1 : ad1 25 = q1 := by rw [ea1]; exact fV_s
  have eA1 : ∀ l, l ≠ 25 → ad1 l = ad l := fun l h => by rw [ea1]; exact fV_n h
  rw [← ea1] at hw
  obtain ⟨Mn1, em1⟩ : ∃ z, z = fU M 25 (.inl (gQ g, 4, .inr (.inr (.inr (.inr (fun _ => none)))))) := ⟨_, rfl⟩
  have eM1 : ∀ l, l ≠ 25 → Mn1 l = M l := fun l h => by rw [em1]; exact fU_n h
  have eS1 : Mn1 25 = some (.inl (gQ g, 4, .inr (.inr (.inr (.inr (fun _ => none)))))) := by rw [em1]; exact fU_s
  rw [← em1] at hw
  have hMo : Mn1 5 = some (.inr (7, [.int th, .int (nI (tHn U)), .int (nI (tPn U)), .int (nI (tEn U)), .ref (ad 6), .ref (ad 7), .ref (ad 8), .ref (ad 9), .ref (ad 10), .ref (ad 11), .ref (ad 12), .ref (ad 13), .ref (ad 14)])) := (eM1 _ (by omega)).trans hMo
  have hm6 : Mn1 6 = some (.inl (gI g, 6, .inl pcs)) := (eM1 _ (by omega)).trans hm6
  have hm7 : Mn1 7 = some (.inl (gI g, 6, .inl wa)) := (eM1 _ (by omega)).trans hm7
  have hm8 : Mn1 8 = some (.inl (gI g, 210, .inl ht)) := (eM1 _ (by omega)).trans hm8
  have hm9 : Mn1 9 = some (.inl (gI g, 54, .inl et)) := (eM1 _ (by omega)).trans hm9
  have hm10 : Mn1 10 = some (.inl (gI g, 1, .inl mi)) := (eM1 _ (by omega)).trans hm10
  have hm11 : Mn1 11 = some (.inl (gI g, 6, .inl co)) := (eM1 _ (by omega)).trans hm11
  have hm12 : Mn1 12 = some (.inl (gZ g, 6, .inl as)) := (eM1 _ (by omega)).trans hm12
  have hm13 : Mn1 13 = some (.inl (gI g, 140, .inl sp)) := (eM1 _ (by omega)).trans hm13
  have hm14 : Mn1 14 = some (.inl (gZ g, 30, .inl ca)) := (eM1 _ (by omega)).trans hm14
  have hk20 : Mn1 20 = some (.inl (gQ g, 4, .inr (.inr (.inr (.inr ko))))) := (eM1 _ (by omega)).trans hk20
  have hk21 : Mn1 21 = some (.inl (gI g, 6, .inl wa2)) := (eM1 _ (by omega)).trans hk21
  have hk22 : Mn1 22 = some (.inl (gI g, 210, .inl ht2)) := (eM1 _ (by omega)).trans hk22
  have hk23 : Mn1 23 = some (.inl (gI g, 54, .inl et2)) := (eM1 _ (by omega)).trans hk23
  have hk24 : Mn1 24 = some (.inl (gI g, 1, .inl mi2)) := (eM1 _ (by omega)).trans hk24
  refine lv_dup hx hb dX6_bringBack_4 rfl ?_
  refine lv_iconst (v := 0) hx hb dX6_bringBack_5 (by decide) ?_
  refine lv_aload_n hx hb dX6_bringBack_6 rfl (lv_at hl 0 rfl) ?_
  refine f_adr (ad := ad1) (lb := 5) (eA1 5 (by omega)) ?_
  refine f_get X hw hMo fc7 5 (by decide) wq799 rfl (v := .ref (ad 7)) rfl dX6_bringBack_7 ?_
  refine f_adr (ad := ad1) (lb := 7) (eA1 7 (by omega)) ?_
  refine f_adr3 (ad := ad1) (lb := 25) eq1 ?_
  refine f_aastQ X hw eS1 hm7 (by unfold vp_in; decide) dX6_bringBack_10 (fun H locs hw => ?_)
  rw [show (0 : Int32).toNatClampNeg = 0 from rfl] at hw
  have hw : fw g ad1 (fU Mn1 25 (.inl (gQ g, 4, .inr (.inr (.inr (.inr (va_up (fun _ => none) 0 (some (ad1 7))))))))) s H locs := hw
  have hMo : (fU Mn1 25 (.inl (gQ g, 4, .inr (.inr (.inr (.inr (va_up (fun _ => none) 0 (some (ad1 7))))))))) 5 = some (.inr (7, [.int th, .int (nI (tHn U)), .int (nI (tPn U)), .int (nI (tEn U)), .ref (ad 6), .ref (ad 7), .ref (ad 8), .ref (ad 9), .ref (ad 10), .ref (ad 11), .ref (ad 12), .ref (ad 13), .ref (ad 14)])) := (fU_n (by omega)).trans hMo
  have hm6 : (fU Mn1 25 (.inl (gQ g, 4, .inr (.inr (.inr (.inr (va_up (fun _ => none) 0 (some (ad1 7))))))))) 6 = some (.inl (gI g, 6, .inl pcs)) := (fU_n (by omega)).trans hm6
  have hm7 : (fU Mn1 25 (.inl (gQ g, 4, .inr (.inr (.inr (.inr (va_up (fun _ => none) 0 (some (ad1 7))))))))) 7 = some (.inl (gI g, 6, .inl wa)) := (fU_n (by omega)).trans hm7
  have hm8 : (fU Mn1 25 (.inl (gQ g, 4, .inr (.inr (.inr (.inr (va_up (fun _ => none) 0 (some (ad1 7))))))))) 8 = some (.inl (gI g, 210, .inl ht)) := (fU_n (by omega)).trans hm8
  have hm9 : (fU Mn1 25 (.inl (gQ g, 4, .inr (.inr (.inr (.inr (va_up (fun _ => none) 0 (some (ad1 7))))))))) 9 = some (.inl (gI g, 54, .inl et)) := (fU_n (by omega)).trans hm9
  have hm10 : (fU Mn1 25 (.inl (gQ g, 4, .inr (.inr (.inr (.inr (va_up (fun _ => none) 0 (some (ad1 7))))))))) 10 = some (.inl (gI g, 1, .inl mi)) := (fU_n (by omega)).trans hm10
  have hm11 : (fU Mn1 25 (.inl (gQ g, 4, .inr (.inr (.inr (.inr (va_up (fun _ => none) 0 (some (ad1 7))))))))) 11 = some (.inl (gI g, 6, .inl co)) := (fU_n (by omega)).trans hm11
  have hm12 : (fU Mn1 25 (.inl (gQ g, 4, .inr (.inr (.inr (.inr (va_up (fun _ => none) 0 (some (ad1 7))))))))) 12 = some (.inl (gZ g, 6, .inl as)) := (fU_n (by omega)).trans hm12
  have hm13 : (fU Mn1 25 (.inl (gQ g, 4, .inr (.inr (.inr (.inr (va_up (fun _ => none) 0 (some (ad1 7))))))))) 13 = some (.inl (gI g, 140, .inl sp)) := (fU_n (by omega)).trans hm13
  have hm14 : (fU Mn1 25 (.inl (gQ g, 4, .inr (.inr (.inr (.inr (va_up (fun _ => none) 0 (some (ad1 7))))))))) 14 = some (.inl (gZ g, 30, .inl ca)) := (fU_n (by omega)).trans hm14
  have hk20 : (fU Mn1 25 (.inl (gQ g, 4, .inr (.inr (.inr (.inr (va_up (fun _ => none) 0 (some (ad1 7))))))))) 20 = some (.inl (gQ g, 4, .inr (.inr (.inr (.inr ko))))) := (fU_n (by omega)).trans hk20
  have hk21 : (fU Mn1 25 (.inl (gQ g, 4, .inr (.inr (.inr (.inr (va_up (fun _ => none) 0 (some (ad1 7))))))))) 21 = some (.inl (gI g, 6, .inl wa2)) := (fU_n (by omega)).trans hk21
  have hk22 : (fU Mn1 25 (.inl (gQ g, 4, .inr (.inr (.inr (.inr (va_up (fun _ => none) 0 (some (ad1 7))))))))) 22 = some (.inl (gI g, 210, .inl ht2)) := (fU_n (by omega)).trans hk22
  have hk23 : (fU Mn1 25 (.inl (gQ g, 4, .inr (.inr (.inr (.inr (va_up (fun _ => none) 0 (some (ad1 7))))))))) 23 = some (.inl (gI g, 54, .inl et2)) := (fU_n (by omega)).trans hk23
  have hk24 : (fU Mn1 25 (.inl (gQ g, 4, .inr (.inr (.inr (.inr (va_up (fun _ => none) 0 (some (ad1 7))))))))) 24 = some (.inl (gI g, 1, .inl mi2)) := (fU_n (by omega)).trans hk24
  have eS1 : (fU Mn1 25 (.inl (gQ g, 4, .inr (.inr (.inr (.inr (va_up (fun _ => none) 0 (some (ad1 7))))))))) 25 = some (.inl (gQ g, 4, .inr (.inr (.inr (.inr (va_up (fun _ => none) 0 (some (ad1 7)))))))) := fU_s
  refine lv_dup hx hb dX6_bringBack_11 rfl ?_
  refine lv_iconst (v := 1) hx hb dX6_bringBack_12 (by decide) ?_
  refine lv_aload_n hx hb dX6_bringBack_13 rfl (lv_at hl 0 rfl) ?_
  refine f_adr (ad := ad1) (lb := 5) (eA1 5 (by omega)) ?_
  refine f_get X hw hMo fc7 6 (by decide) wq800 rfl (v := .ref (ad 8)) rfl dX6_bringBack_14 ?_
  refine f_adr (ad := ad1) (lb := 8) (eA1 8 (by omega)) ?_
  refine f_adr3 (ad := ad1) (lb := 25) eq1 ?_
  refine f_aastQ X hw eS1 hm8 (by unfold vp_in; decide) dX6_bringBack_17 (fun H locs hw => ?_)
  rw [show (1 : Int32).toNatClampNeg = 1 from rfl] at hw
  have hw : fw g ad1 (fU (fU Mn1 25 (.inl (gQ g, 4, .inr (.inr (.inr (.inr (va_up (fun _ => none) 0 (some (ad1 7))))))))) 25 (.inl (gQ g, 4, .inr (.inr (.inr (.inr (va_up (va_up (fun _ => none) 0 (some (ad1 7))) 1 (some (ad1 8))))))))) s H locs := hw
  rw [fU_U] at hw
  have hMo : (fU Mn1 25 (.inl (gQ g, 4, .inr (.inr (.inr (.inr (va_up (va_up (fun _ => none) 0 (some (ad1 7))) 1 (some (ad1 8))))))))) 5 = some (.inr (7, [.int th, .int (nI (tHn U)), .int (nI (tPn U)), .int (nI (tEn U)), .ref (ad 6), .ref (ad 7), .ref (ad 8), .ref (ad 9), .ref (ad 10), .ref (ad 11), .ref (ad 12), .ref (ad 13), .ref (ad 14)])) := ((fU_n (by omega)).trans (fU_n (by omega)).symm).trans hMo
  have hm6 : (fU Mn1 25 (.inl (gQ g, 4, .inr (.inr (.inr (.inr (va_up (va_up (fun _ => none) 0 (some (ad1 7))) 1 (some (ad1 8))))))))) 6 = some (.inl (gI g, 6, .inl pcs)) := ((fU_n (by omega)).trans (fU_n (by omega)).symm).trans hm6
  have hm7 : (fU Mn1 25 (.inl (gQ g, 4, .inr (.inr (.inr (.inr (va_up (va_up (fun _ => none) 0 (some (ad1 7))) 1 (some (ad1 8))))))))) 7 = some (.inl (gI g, 6, .inl wa)) := ((fU_n (by omega)).trans (fU_n (by omega)).symm).trans hm7
  have hm8 : (fU Mn1 25 (.inl (gQ g, 4, .inr (.inr (.inr (.inr (va_up (va_up (fun _ => none) 0 (some (ad1 7))) 1 (some (ad1 8))))))))) 8 = some (.inl (gI g, 210, .inl ht)) := ((fU_n (by omega)).trans (fU_n (by omega)).symm).trans hm8
  have hm9 : (fU Mn1 25 (.inl (gQ g, 4, .inr (.inr (.inr (.inr (va_up (va_up (fun _ => none) 0 (some (ad1 7))) 1 (some (ad1 8))))))))) 9 = some (.inl (gI g, 54, .inl et)) := ((fU_n (by omega)).trans (fU_n (by omega)).symm).trans hm9
  have hm10 : (fU Mn1 25 (.inl (gQ g, 4, .inr (.inr (.inr (.inr (va_up (va_up (fun _ => none) 0 (some (ad1 7))) 1 (some (ad1 8))))))))) 10 = some (.inl (gI g, 1, .inl mi)) := ((fU_n (by omega)).trans (fU_n (by omega)).symm).trans hm10
  have hm11 : (fU Mn1 25 (.inl (gQ g, 4, .inr (.inr (.inr (.inr (va_up (va_up (fun _ => none) 0 (some (ad1 7))) 1 (some (ad1 8))))))))) 11 = some (.inl (gI g, 6, .inl co)) := ((fU_n (by omega)).trans (fU_n (by omega)).symm).trans hm11
  have hm12 : (fU Mn1 25 (.inl (gQ g, 4, .inr (.inr (.inr (.inr (va_up (va_up (fun _ => none) 0 (some (ad1 7))) 1 (some (ad1 8))))))))) 12 = some (.inl (gZ g, 6, .inl as)) := ((fU_n (by omega)).trans (fU_n (by omega)).symm).trans hm12
  have hm13 : (fU Mn1 25 (.inl (gQ g, 4, .inr (.inr (.inr (.inr (va_up (va_up (fun _ => none) 0 (some (ad1 7))) 1 (some (ad1 8))))))))) 13 = some (.inl (gI g, 140, .inl sp)) := ((fU_n (by omega)).trans (fU_n (by omega)).symm).trans hm13
  have hm14 : (fU Mn1 25 (.inl (gQ g, 4, .inr (.inr (.inr (.inr (va_up (va_up (fun _ => none) 0 (some (ad1 7))) 1 (some (ad1 8))))))))) 14 = some (.inl (gZ g, 30, .inl ca)) := ((fU_n (by omega)).trans (fU_n (by omega)).symm).trans hm14
  have hk20 : (fU Mn1 25 (.inl (gQ g, 4, .inr (.inr (.inr (.inr (va_up (va_up (fun _ => none) 0 (some (ad1 7))) 1 (some (ad1 8))))))))) 20 = some (.inl (gQ g, 4, .inr (.inr (.inr (.inr ko))))) := ((fU_n (by omega)).trans (fU_n (by omega)).symm).trans hk20
  have hk21 : (fU Mn1 25 (.inl (gQ g, 4, .inr (.inr (.inr (.inr (va_up (va_up (fun _ => none) 0 (some (ad1 7))) 1 (some (ad1 8))))))))) 21 = some (.inl (gI g, 6, .inl wa2)) := ((fU_n (by omega)).trans (fU_n (by omega)).symm).trans hk21
  have hk22 : (fU Mn1 25 (.inl (gQ g, 4, .inr (.inr (.inr (.inr (va_up (va_up (fun _ => none) 0 (some (ad1 7))) 1 (some (ad1 8))))))))) 22 = some (.inl (gI g, 210, .inl ht2)) := ((fU_n (by omega)).trans (fU_n (by omega)).symm).trans hk22
  have hk23 : (fU Mn1 25 (.inl (gQ g, 4, .inr (.inr (.inr (.inr (va_up (va_up (fun _ => none) 0 (some (ad1 7))) 1 (some (ad1 8))))))))) 23 = some (.inl (gI g, 54, .inl et2)) := ((fU_n (by omega)).trans (fU_n (by omega)).symm).trans hk23
  have hk24 : (fU Mn1 25 (.inl (gQ g, 4, .inr (.inr (.inr (.inr (va_up (va_up (fun _ => none) 0 (some (ad1 7))) 1 (some (ad1 8))))))))) 24 = some (.inl (gI g, 1, .inl mi2)) := ((fU_n (by omega)).trans (fU_n (by omega)).symm).trans hk24
  have eS1 : (fU Mn1 25 (.inl (gQ g, 4, .inr (.inr (.inr (.inr (va_up (va_up (fun _ => none) 0 (some (ad1 7))) 1 (some (ad1 8))))))))) 25 = some (.inl (gQ g, 4, .inr (.inr (.inr (.inr (va_up (va_up (fun _ => none) 0 (some (ad1 7))) 1 (some (ad1 8)))))))) := fU_s
  refine lv_dup hx hb dX6_bringBack_18 rfl ?_
  refine lv_iconst (v := 2) hx hb dX6_bringBack_19 (by decide) ?_
  refine lv_aload_n hx hb dX6_bringBack_20 rfl (lv_at hl 0 rfl) ?_
  refine f_adr (ad := ad1) (lb := 5) (eA1 5 (by omega)) ?_
  refine f_get X hw hMo fc7 7 (by decide) wq801 rfl (v := .ref (ad 9)) rfl dX6_bringBack_21 ?_
  refine f_adr (ad := ad1) (lb := 9) (eA1 9 (by omega)) ?_
  refine f_adr3 (ad := ad1) (lb := 25) eq1 ?_
  refine f_aastQ X hw eS1 hm9 (by unfold vp_in; decide) dX6_bringBack_24 (fun H locs hw => ?_)
  rw [show (2 : Int32).toNatClampNeg = 2 from rfl] at hw
  have hw : fw g ad1 (fU (fU Mn1 25 (.inl (gQ g, 4, .inr (.inr (.inr (.inr (va_up (va_up (fun _ => none) 0 (some (ad1 7))) 1 (some (ad1 8))))))))) 25 (.inl (gQ g, 4, .inr (.inr (.inr (.inr (va_up (va_up (va_up (fun _ => none) 0 (some (ad1 7))) 1 (some (ad1 8))) 2 (some (ad1 9))))))))) s H locs := hw
  rw [fU_U] at hw
  have hMo : (fU Mn1 25 (.inl (gQ g, 4, .inr (.inr (.inr (.inr (va_up (va_up (va_up (fun _ => none) 0 (some (ad1 7))) 1 (some (ad1 8))) 2 (some (ad1 9))))))))) 5 = some (.inr (7, [.int th, .int (nI (tHn U)), .int (nI (tPn U)), .int (nI (tEn U)), .ref (ad 6), .ref (ad 7), .ref (ad 8), .ref (ad 9), .ref (ad 10), .ref (ad 11), .ref (ad 12), .ref (ad 13), .ref (ad 14)])) := ((fU_n (by omega)).trans (fU_n (by omega)).symm).trans hMo
  have hm6 : (fU Mn1 25 (.inl (gQ g, 4, .inr (.inr (.inr (.inr (va_up (va_up (va_up (fun _ => none) 0 (some (ad1 7))) 1 (some (ad1 8))) 2 (some (ad1 9))))))))) 6 = some (.inl (gI g, 6, .inl pcs)) := ((fU_n (by omega)).trans (fU_n (by omega)).symm).trans hm6
  have hm7 : (fU Mn1 25 (.inl (gQ g, 4, .inr (.inr (.inr (.inr (va_up (va_up (va_up (fun _ => none) 0 (some (ad1 7))) 1 (some (ad1 8))) 2 (some (ad1 9))))))))) 7 = some (.inl (gI g, 6, .inl wa)) := ((fU_n (by omega)).trans (fU_n (by omega)).symm).trans hm7
  have hm8 : (fU Mn1 25 (.inl (gQ g, 4, .inr (.inr (.inr (.inr (va_up (va_up (va_up (fun _ => none) 0 (some (ad1 7))) 1 (some (ad1 8))) 2 (some (ad1 9))))))))) 8 = some (.inl (gI g, 210, .inl ht)) := ((fU_n (by omega)).trans (fU_n (by omega)).symm).trans hm8
  have hm9 : (fU Mn1 25 (.inl (gQ g, 4, .inr (.inr (.inr (.inr (va_up (va_up (va_up (fun _ => none) 0 (some (ad1 7))) 1 (some (ad1 8))) 2 (some (ad1 9))))))))) 9 = some (.inl (gI g, 54, .inl et)) := ((fU_n (by omega)).trans (fU_n (by omega)).symm).trans hm9
  have hm10 : (fU Mn1 25 (.inl (gQ g, 4, .inr (.inr (.inr (.inr (va_up (va_up (va_up (fun _ => none) 0 (some (ad1 7))) 1 (some (ad1 8))) 2 (some (ad1 9))))))))) 10 = some (.inl (gI g, 1, .inl mi)) := ((fU_n (by omega)).trans (fU_n (by omega)).symm).trans hm10
  have hm11 : (fU Mn1 25 (.inl (gQ g, 4, .inr (.inr (.inr (.inr (va_up (va_up (va_up (fun _ => none) 0 (some (ad1 7))) 1 (some (ad1 8))) 2 (some (ad1 9))))))))) 11 = some (.inl (gI g, 6, .inl co)) := ((fU_n (by omega)).trans (fU_n (by omega)).symm).trans hm11
  have hm12 : (fU Mn1 25 (.inl (gQ g, 4, .inr (.inr (.inr (.inr (va_up (va_up (va_up (fun _ => none) 0 (some (ad1 7))) 1 (some (ad1 8))) 2 (some (ad1 9))))))))) 12 = some (.inl (gZ g, 6, .inl as)) := ((fU_n (by omega)).trans (fU_n (by omega)).symm).trans hm12
  have hm13 : (fU Mn1 25 (.inl (gQ g, 4, .inr (.inr (.inr (.inr (va_up (va_up (va_up (fun _ => none) 0 (some (ad1 7))) 1 (some (ad1 8))) 2 (some (ad1 9))))))))) 13 = some (.inl (gI g, 140, .inl sp)) := ((fU_n (by omega)).trans (fU_n (by omega)).symm).trans hm13
  have hm14 : (fU Mn1 25 (.inl (gQ g, 4, .inr (.inr (.inr (.inr (va_up (va_up (va_up (fun _ => none) 0 (some (ad1 7))) 1 (some (ad1 8))) 2 (some (ad1 9))))))))) 14 = some (.inl (gZ g, 30, .inl ca)) := ((fU_n (by omega)).trans (fU_n (by omega)).symm).trans hm14
  have hk20 : (fU Mn1 25 (.inl (gQ g, 4, .inr (.inr (.inr (.inr (va_up (va_up (va_up (fun _ => none) 0 (some (ad1 7))) 1 (some (ad1 8))) 2 (some (ad1 9))))))))) 20 = some (.inl (gQ g, 4, .inr (.inr (.inr (.inr ko))))) := ((fU_n (by omega)).trans (fU_n (by omega)).symm).trans hk20
  have hk21 : (fU Mn1 25 (.inl (gQ g, 4, .inr (.inr (.inr (.inr (va_up (va_up (va_up (fun _ => none) 0 (some (ad1 7))) 1 (some (ad1 8))) 2 (some (ad1 9))))))))) 21 = some (.inl (gI g, 6, .inl wa2)) := ((fU_n (by omega)).trans (fU_n (by omega)).symm).trans hk21
  have hk22 : (fU Mn1 25 (.inl (gQ g, 4, .inr (.inr (.inr (.inr (va_up (va_up (va_up (fun _ => none) 0 (some (ad1 7))) 1 (some (ad1 8))) 2 (some (ad1 9))))))))) 22 = some (.inl (gI g, 210, .inl ht2)) := ((fU_n (by omega)).trans (fU_n (by omega)).symm).trans hk22
  have hk23 : (fU Mn1 25 (.inl (gQ g, 4, .inr (.inr (.inr (.inr (va_up (va_up (va_up (fun _ => none) 0 (some (ad1 7))) 1 (some (ad1 8))) 2 (some (ad1 9))))))))) 23 = some (.inl (gI g, 54, .inl et2)) := ((fU_n (by omega)).trans (fU_n (by omega)).symm).trans hk23
  have hk24 : (fU Mn1 25 (.inl (gQ g, 4, .inr (.inr (.inr (.inr (va_up (va_up (va_up (fun _ => none) 0 (some (ad1 7))) 1 (some (ad1 8))) 2 (some (ad1 9))))))))) 24 = some (.inl (gI g, 1, .inl mi2)) := ((fU_n (by omega)).trans (fU_n (by omega)).symm).trans hk24
  have eS1 : (fU Mn1 25 (.inl (gQ g, 4, .inr (.inr (.inr (.inr (va_up (va_up (va_up (fun _ => none) 0 (some (ad1 7))) 1 (some (ad1 8))) 2 (some (ad1 9))))))))) 25 = some (.inl (gQ g, 4, .inr (.inr (.inr (.inr (va_up (va_up (va_up (fun _ => none) 0 (some (ad1 7))) 1 (some (ad1 8))) 2 (some (ad1 9)))))))) := fU_s
  refine lv_dup hx hb dX6_bringBack_25 rfl ?_
  refine lv_iconst (v := 3) hx hb dX6_bringBack_26 (by decide) ?_
  refine lv_aload_n hx hb dX6_bringBack_27 rfl (lv_at hl 0 rfl) ?_
  refine f_adr (ad := ad1) (lb := 5) (eA1 5 (by omega)) ?_
  refine f_get X hw hMo fc7 8 (by decide) wq802 rfl (v := .ref (ad 10)) rfl dX6_bringBack_28 ?_
  refine f_adr (ad := ad1) (lb := 10) (eA1 10 (by omega)) ?_
  refine f_adr3 (ad := ad1) (lb := 25) eq1 ?_
  refine f_aastQ X hw eS1 hm10 (by unfold vp_in; decide) dX6_bringBack_31 (fun H locs hw => ?_)
  rw [show (3 : Int32).toNatClampNeg = 3 from rfl] at hw
  have hw : fw g ad1 (fU (fU Mn1 25 (.inl (gQ g, 4, .inr (.inr (.inr (.inr (va_up (va_up (va_up (fun _ => none) 0 (some (ad1 7))) 1 (some (ad1 8))) 2 (some (ad1 9))))))))) 25 (.inl (gQ g, 4, .inr (.inr (.inr (.inr (va_up (va_up (va_up (va_up (fun _ => none) 0 (some (ad1 7))) 1 (some (ad1 8))) 2 (some (ad1 9))) 3 (some (ad1 10))))))))) s H locs := hw
  rw [fU_U] at hw
  have hMo : (fU Mn1 25 (.inl (gQ g, 4, .inr (.inr (.inr (.inr (va_up (va_up (va_up (va_up (fun _ => none) 0 (some (ad1 7))) 1 (some (ad1 8))) 2 (some (ad1 9))) 3 (some (ad1 10))))))))) 5 = some (.inr (7, [.int th, .int (nI (tHn U)), .int (nI (tPn U)), .int (nI (tEn U)), .ref (ad 6), .ref (ad 7), .ref (ad 8), .ref (ad 9), .ref (ad 10), .ref (ad 11), .ref (ad 12), .ref (ad 13), .ref (ad 14)])) := ((fU_n (by omega)).trans (fU_n (by omega)).symm).trans hMo
  have hm6 : (fU Mn1 25 (.inl (gQ g, 4, .inr (.inr (.inr (.inr (va_up (va_up (va_up (va_up (fun _ => none) 0 (some (ad1 7))) 1 (some (ad1 8))) 2 (some (ad1 9))) 3 (some (ad1 10))))))))) 6 = some (.inl (gI g, 6, .inl pcs)) := ((fU_n (by omega)).trans (fU_n (by omega)).symm).trans hm6
  have hm7 : (fU Mn1 25 (.inl (gQ g, 4, .inr (.inr (.inr (.inr (va_up (va_up (va_up (va_up (fun _ => none) 0 (some (ad1 7))) 1 (some (ad1 8))) 2 (some (ad1 9))) 3 (some (ad1 10))))))))) 7 = some (.inl (gI g, 6, .inl wa)) := ((fU_n (by omega)).trans (fU_n (by omega)).symm).trans hm7
  have hm8 : (fU Mn1 25 (.inl (gQ g, 4, .inr (.inr (.inr (.inr (va_up (va_up (va_up (va_up (fun _ => none) 0 (some (ad1 7))) 1 (some (ad1 8))) 2 (some (ad1 9))) 3 (some (ad1 10))))))))) 8 = some (.inl (gI g, 210, .inl ht)) := ((fU_n (by omega)).trans (fU_n (by omega)).symm).trans hm8
  have hm9 : (fU Mn1 25 (.inl (gQ g, 4, .inr (.inr (.inr (.inr (va_up (va_up (va_up (va_up (fun _ => none) 0 (some (ad1 7))) 1 (some (ad1 8))) 2 (some (ad1 9))) 3 (some (ad1 10))))))))) 9 = some (.inl (gI g, 54, .inl et)) := ((fU_n (by omega)).trans (fU_n (by omega)).symm).trans hm9
  have hm10 : (fU Mn1 25 (.inl (gQ g, 4, .inr (.inr (.inr (.inr (va_up (va_up (va_up (va_up (fun _ => none) 0 (some (ad1 7))) 1 (some (ad1 8))) 2 (some (ad1 9))) 3 (some (ad1 10))))))))) 10 = some (.inl (gI g, 1, .inl mi)) := ((fU_n (by omega)).trans (fU_n (by omega)).symm).trans hm10
  have hm11 : (fU Mn1 25 (.inl (gQ g, 4, .inr (.inr (.inr (.inr (va_up (va_up (va_up (va_up (fun _ => none) 0 (some (ad1 7))) 1 (some (ad1 8))) 2 (some (ad1 9))) 3 (some (ad1 10))))))))) 11 = some (.inl (gI g, 6, .inl co)) := ((fU_n (by omega)).trans (fU_n (by omega)).symm).trans hm11
  have hm12 : (fU Mn1 25 (.inl (gQ g, 4, .inr (.inr (.inr (.inr (va_up (va_up (va_up (va_up (fun _ => none) 0 (some (ad1 7))) 1 (some (ad1 8))) 2 (some (ad1 9))) 3 (some (ad1 10))))))))) 12 = some (.inl (gZ g, 6, .inl as)) := ((fU_n (by omega)).trans (fU_n (by omega)).symm).trans hm12
  have hm13 : (fU Mn1 25 (.inl (gQ g, 4, .inr (.inr (.inr (.inr (va_up (va_up (va_up (va_up (fun _ => none) 0 (some (ad1 7))) 1 (some (ad1 8))) 2 (some (ad1 9))) 3 (some (ad1 10))))))))) 13 = some (.inl (gI g, 140, .inl sp)) := ((fU_n (by omega)).trans (fU_n (by omega)).symm).trans hm13
  have hm14 : (fU Mn1 25 (.inl (gQ g, 4, .inr (.inr (.inr (.inr (va_up (va_up (va_up (va_up (fun _ => none) 0 (some (ad1 7))) 1 (some (ad1 8))) 2 (some (ad1 9))) 3 (some (ad1 10))))))))) 14 = some (.inl (gZ g, 30, .inl ca)) := ((fU_n (by omega)).trans (fU_n (by omega)).symm).trans hm14
  have hk20 : (fU Mn1 25 (.inl (gQ g, 4, .inr (.inr (.inr (.inr (va_up (va_up (va_up (va_up (fun _ => none) 0 (some (ad1 7))) 1 (some (ad1 8))) 2 (some (ad1 9))) 3 (some (ad1 10))))))))) 20 = some (.inl (gQ g, 4, .inr (.inr (.inr (.inr ko))))) := ((fU_n (by omega)).trans (fU_n (by omega)).symm).trans hk20
  have hk21 : (fU Mn1 25 (.inl (gQ g, 4, .inr (.inr (.inr (.inr (va_up (va_up (va_up (va_up (fun _ => none) 0 (some (ad1 7))) 1 (some (ad1 8))) 2 (some (ad1 9))) 3 (some (ad1 10))))))))) 21 = some (.inl (gI g, 6, .inl wa2)) := ((fU_n (by omega)).trans (fU_n (by omega)).symm).trans hk21
  have hk22 : (fU Mn1 25 (.inl (gQ g, 4, .inr (.inr (.inr (.inr (va_up (va_up (va_up (va_up (fun _ => none) 0 (some (ad1 7))) 1 (some (ad1 8))) 2 (some (ad1 9))) 3 (some (ad1 10))))))))) 22 = some (.inl (gI g, 210, .inl ht2)) := ((fU_n (by omega)).trans (fU_n (by omega)).symm).trans hk22
  have hk23 : (fU Mn1 25 (.inl (gQ g, 4, .inr (.inr (.inr (.inr (va_up (va_up (va_up (va_up (fun _ => none) 0 (some (ad1 7))) 1 (some (ad1 8))) 2 (some (ad1 9))) 3 (some (ad1 10))))))))) 23 = some (.inl (gI g, 54, .inl et2)) := ((fU_n (by omega)).trans (fU_n (by omega)).symm).trans hk23
  have hk24 : (fU Mn1 25 (.inl (gQ g, 4, .inr (.inr (.inr (.inr (va_up (va_up (va_up (va_up (fun _ => none) 0 (some (ad1 7))) 1 (some (ad1 8))) 2 (some (ad1 9))) 3 (some (ad1 10))))))))) 24 = some (.inl (gI g, 1, .inl mi2)) := ((fU_n (by omega)).trans (fU_n (by omega)).symm).trans hk24
  have eS1 : (fU Mn1 25 (.inl (gQ g, 4, .inr (.inr (.inr (.inr (va_up (va_up (va_up (va_up (fun _ => none) 0 (some (ad1 7))) 1 (some (ad1 8))) 2 (some (ad1 9))) 3 (some (ad1 10))))))))) 25 = some (.inl (gQ g, 4, .inr (.inr (.inr (.inr (va_up (va_up (va_up (va_up (fun _ => none) 0 (some (ad1 7))) 1 (some (ad1 8))) 2 (some (ad1 9))) 3 (some (ad1 10)))))))) := fU_s
  refine lv_astore_n (lv' := [(2, .ref q1), (0, .ref (ad 5)), (1, .ref (ad 20))]) hx hb dX6_bringBack_32 rfl hl (by decide) rfl (fun ls hl => ?_)
  refine lv_iconst (v := 0) hx hb dX6_bringBack_33 (by decide) ?_
  refine lv_istore_n (lv' := [(3, .int 0), (2, .ref q1), (0, .ref (ad 5)), (1, .ref (ad 20))]) hx hb dX6_bringBack_34 rfl hl (by decide) rfl (fun ls hl => ?_)
  refine lv_iload_n hx hb dX6_bringBack_35 rfl (lv_at hl 0 rfl) ?_
  refine lv_iconst (v := 4) hx hb dX6_bringBack_36 (by decide) ?_
  refine lv_icmp_ge (tgt := 61) hx hb dX6_bringBack_37 (by decide) (fun c_1 => absurd c_1 (by decide)) (fun c_1 => ?_)
  refine lv_aload_n hx hb dX6_bringBack_40 rfl (lv_at hl 3 rfl) ?_
  refine lv_iload_n hx hb dX6_bringBack_41 rfl (lv_at hl 0 rfl) ?_
  refine f_adr2 (ad := ad1) (lb := 20) (eA1 20 (by omega)) ?_
  refine f_aaldQ X hw hk20 (i := 0) (q := ad 21) (by unfold vp_in; decide) hq0 dX6_bringBack_42 ?_
  refine lv_iconst (v := 0) hx hb dX6_bringBack_43 (by decide) ?_
  refine lv_aload_n hx hb dX6_bringBack_44 rfl (lv_at hl 1 rfl) ?_
  refine lv_iload_n hx hb dX6_bringBack_45 rfl (lv_at hl 0 rfl) ?_
  refine f_adr2 (ad := ad1) (lb := 25) eq1 ?_
  refine f_aaldQ X hw eS1 (i := 0) (q := ad1 7) (by unfold vp_in; decide) (by rw [show (0 : Int32).toNatClampNeg = 0 from rfl]; simp [va_up]) dX6_bringBack_46 ?_
  refine lv_iconst (v := 0) hx hb dX6_bringBack_47 (by decide) ?_
  refine lv_aload_n hx hb dX6_bringBack_48 rfl (lv_at hl 1 rfl) ?_
  refine lv_iload_n hx hb dX6_bringBack_49 rfl (lv_at hl 0 rfl) ?_
  refine f_adr2 (ad := ad1) (lb := 25) eq1 ?_
  refine f_aaldQ X hw eS1 (i := 0) (q := ad1 7) (by unfold vp_in; decide) (by rw [show (0 : Int32).toNatClampNeg = 0 from rfl]; simp [va_up]) dX6_bringBack_50 ?_
  refine f_alen X hw 0 hm7 rfl dX6_bringBack_51 ?_
  refine f_adr5 (ad := ad1) (lb := 21) (eA1 21 (by omega)) ?_
  refine f_copyI X hl.1 hw (k := 6) (dp := 0) hk21 hm7 wq877 wq208 wq207 wq20 (by omega) (by omega) (by omega) (by omega) (Nat.le_of_ble_eq_true rfl) (Nat.le_of_ble_eq_true rfl) dX6_bringBack_52 (fun H locs hw => ?_)
  have hw : fw g ad1 (fU (fU Mn1 25 (.inl (gQ g, 4, .inr (.inr (.inr (.inr (va_up (va_up (va_up (va_up (fun _ => none) 0 (some (ad1 7))) 1 (some (ad1 8))) 2 (some (ad1 9))) 3 (some (ad1 10))))))))) 7 (.inl (gI g, 6, .inl (va_cpy wa2 wa 0 0 6)))) s H locs := hw
  have hMo : (fU (fU Mn1 25 (.inl (gQ g, 4, .inr (.inr (.inr (.inr (va_up (va_up (va_up (va_up (fun _ => none) 0 (some (ad1 7))) 1 (some (ad1 8))) 2 (some (ad1 9))) 3 (some (ad1 10))))))))) 7 (.inl (gI g, 6, .inl (va_cpy wa2 wa 0 0 6)))) 5 = some (.inr (7, [.int th, .int (nI (tHn U)), .int (nI (tPn U)), .int (nI (tEn U)), .ref (ad 6), .ref (ad 7), .ref (ad 8), .ref (ad 9), .ref (ad 10), .ref (ad 11), .ref (ad 12), .ref (ad 13), .ref (ad 14)])) := (fU_n (by omega)).trans hMo
  have hm6 : (fU (fU Mn1 25 (.inl (gQ g, 4, .inr (.inr (.inr (.inr (va_up (va_up (va_up (va_up (fun _ => none) 0 (some (ad1 7))) 1 (some (ad1 8))) 2 (some (ad1 9))) 3 (some (ad1 10))))))))) 7 (.inl (gI g, 6, .inl (va_cpy wa2 wa 0 0 6)))) 6 = some (.inl (gI g, 6, .inl pcs)) := (fU_n (by omega)).trans hm6
  have hm8 : (fU (fU Mn1 25 (.inl (gQ g, 4, .inr (.inr (.inr (.inr (va_up (va_up (va_up (va_up (fun _ => none) 0 (some (ad1 7))) 1 (some (ad1 8))) 2 (some (ad1 9))) 3 (some (ad1 10))))))))) 7 (.inl (gI g, 6, .inl (va_cpy wa2 wa 0 0 6)))) 8 = some (.inl (gI g, 210, .inl ht)) := (fU_n (by omega)).trans hm8
  have hm9 : (fU (fU Mn1 25 (.inl (gQ g, 4, .inr (.inr (.inr (.inr (va_up (va_up (va_up (va_up (fun _ => none) 0 (some (ad1 7))) 1 (some (ad1 8))) 2 (some (ad1 9))) 3 (some (ad1 10))))))))) 7 (.inl (gI g, 6, .inl (va_cpy wa2 wa 0 0 6)))) 9 = some (.inl (gI g, 54, .inl et)) := (fU_n (by omega)).trans hm9
  have hm10 : (fU (fU Mn1 25 (.inl (gQ g, 4, .inr (.inr (.inr (.inr (va_up (va_up (va_up (va_up (fun _ => none) 0 (some (ad1 7))) 1 (some (ad1 8))) 2 (some (ad1 9))) 3 (some (ad1 10))))))))) 7 (.inl (gI g, 6, .inl (va_cpy wa2 wa 0 0 6)))) 10 = some (.inl (gI g, 1, .inl mi)) := (fU_n (by omega)).trans hm10
  have hm11 : (fU (fU Mn1 25 (.inl (gQ g, 4, .inr (.inr (.inr (.inr (va_up (va_up (va_up (va_up (fun _ => none) 0 (some (ad1 7))) 1 (some (ad1 8))) 2 (some (ad1 9))) 3 (some (ad1 10))))))))) 7 (.inl (gI g, 6, .inl (va_cpy wa2 wa 0 0 6)))) 11 = some (.inl (gI g, 6, .inl co)) := (fU_n (by omega)).trans hm11
  have hm12 : (fU (fU Mn1 25 (.inl (gQ g, 4, .inr (.inr (.inr (.inr (va_up (va_up (va_up (va_up (fun _ => none) 0 (some (ad1 7))) 1 (some (ad1 8))) 2 (some (ad1 9))) 3 (some (ad1 10))))))))) 7 (.inl (gI g, 6, .inl (va_cpy wa2 wa 0 0 6)))) 12 = some (.inl (gZ g, 6, .inl as)) := (fU_n (by omega)).trans hm12
  have hm13 : (fU (fU Mn1 25 (.inl (gQ g, 4, .inr (.inr (.inr (.inr (va_up (va_up (va_up (va_up (fun _ => none) 0 (some (ad1 7))) 1 (some (ad1 8))) 2 (some (ad1 9))) 3 (some (ad1 10))))))))) 7 (.inl (gI g, 6, .inl (va_cpy wa2 wa 0 0 6)))) 13 = some (.inl (gI g, 140, .inl sp)) := (fU_n (by omega)).trans hm13
  have hm14 : (fU (fU Mn1 25 (.inl (gQ g, 4, .inr (.inr (.inr (.inr (va_up (va_up (va_up (va_up (fun _ => none) 0 (some (ad1 7))) 1 (some (ad1 8))) 2 (some (ad1 9))) 3 (some (ad1 10))))))))) 7 (.inl (gI g, 6, .inl (va_cpy wa2 wa 0 0 6)))) 14 = some (.inl (gZ g, 30, .inl ca)) := (fU_n (by omega)).trans hm14
  have hk20 : (fU (fU Mn1 25 (.inl (gQ g, 4, .inr (.inr (.inr (.inr (va_up (va_up (va_up (va_up (fun _ => none) 0 (some (ad1 7))) 1 (some (ad1 8))) 2 (some (ad1 9))) 3 (some (ad1 10))))))))) 7 (.inl (gI g, 6, .inl (va_cpy wa2 wa 0 0 6)))) 20 = some (.inl (gQ g, 4, .inr (.inr (.inr (.inr ko))))) := (fU_n (by omega)).trans hk20
  have hk21 : (fU (fU Mn1 25 (.inl (gQ g, 4, .inr (.inr (.inr (.inr (va_up (va_up (va_up (va_up (fun _ => none) 0 (some (ad1 7))) 1 (some (ad1 8))) 2 (some (ad1 9))) 3 (some (ad1 10))))))))) 7 (.inl (gI g, 6, .inl (va_cpy wa2 wa 0 0 6)))) 21 = some (.inl (gI g, 6, .inl wa2)) := (fU_n (by omega)).trans hk21
  have hk22 : (fU (fU Mn1 25 (.inl (gQ g, 4, .inr (.inr (.inr (.inr (va_up (va_up (va_up (va_up (fun _ => none) 0 (some (ad1 7))) 1 (some (ad1 8))) 2 (some (ad1 9))) 3 (some (ad1 10))))))))) 7 (.inl (gI g, 6, .inl (va_cpy wa2 wa 0 0 6)))) 22 = some (.inl (gI g, 210, .inl ht2)) := (fU_n (by omega)).trans hk22
  have hk23 : (fU (fU Mn1 25 (.inl (gQ g, 4, .inr (.inr (.inr (.inr (va_up (va_up (va_up (va_up (fun _ => none) 0 (some (ad1 7))) 1 (some (ad1 8))) 2 (some (ad1 9))) 3 (some (ad1 10))))))))) 7 (.inl (gI g, 6, .inl (va_cpy wa2 wa 0 0 6)))) 23 = some (.inl (gI g, 54, .inl et2)) := (fU_n (by omega)).trans hk23
  have hk24 : (fU (fU Mn1 25 (.inl (gQ g, 4, .inr (.inr (.inr (.inr (va_up (va_up (va_up (va_up (fun _ => none) 0 (some (ad1 7))) 1 (some (ad1 8))) 2 (some (ad1 9))) 3 (some (ad1 10))))))))) 7 (.inl (gI g, 6, .inl (va_cpy wa2 wa 0 0 6)))) 24 = some (.inl (gI g, 1, .inl mi2)) := (fU_n (by omega)).trans hk24
  have eS1 : (fU (fU Mn1 25 (.inl (gQ g, 4, .inr (.inr (.inr (.inr (va_up (va_up (va_up (va_up (fun _ => none) 0 (some (ad1 7))) 1 (some (ad1 8))) 2 (some (ad1 9))) 3 (some (ad1 10))))))))) 7 (.inl (gI g, 6, .inl (va_cpy wa2 wa 0 0 6)))) 25 = some (.inl (gQ g, 4, .inr (.inr (.inr (.inr (va_up (va_up (va_up (va_up (fun _ => none) 0 (some (ad1 7))) 1 (some (ad1 8))) 2 (some (ad1 9))) 3 (some (ad1 10)))))))) := (fU_n (by omega)).trans eS1
  have hm7 : (fU (fU Mn1 25 (.inl (gQ g, 4, .inr (.inr (.inr (.inr (va_up (va_up (va_up (va_up (fun _ => none) 0 (some (ad1 7))) 1 (some (ad1 8))) 2 (some (ad1 9))) 3 (some (ad1 10))))))))) 7 (.inl (gI g, 6, .inl (va_cpy wa2 wa 0 0 6)))) 7 = some (.inl (gI g, 6, .inl (va_cpy wa2 wa 0 0 6))) := fU_s
  refine lv_iinc (v := 1) (lv' := [(3, .int 1), (2, .ref q1), (0, .ref (ad 5)), (1, .ref (ad 20))]) hx hb dX6_bringBack_55 hl (k := 0) rfl rfl (by decide) rfl (fun ls hl => ?_)
  refine lv_goto (tgt := 35) hx hb dX6_bringBack_58 (by decide) ?_
  refine lv_iload_n hx hb dX6_bringBack_35 rfl (lv_at hl 0 rfl) ?_
  refine lv_iconst (v := 4) hx hb dX6_bringBack_36 (by decide) ?_
  refine lv_icmp_ge (tgt := 61) hx hb dX6_bringBack_37 (by decide) (fun c_2 => absurd c_2 (by decide)) (fun c_2 => ?_)
  refine lv_aload_n hx hb dX6_bringBack_40 rfl (lv_at hl 3 rfl) ?_
  refine lv_iload_n hx hb dX6_bringBack_41 rfl (lv_at hl 0 rfl) ?_
  refine f_adr2 (ad := ad1) (lb := 20) (eA1 20 (by omega)) ?_
  refine f_aaldQ X hw hk20 (i := 1) (q := ad 22) (by unfold vp_in; decide) hq1 dX6_bringBack_42 ?_
  refine lv_iconst (v := 0) hx hb dX6_bringBack_43 (by decide) ?_
  refine lv_aload_n hx hb dX6_bringBack_44 rfl (lv_at hl 1 rfl) ?_
  refine lv_iload_n hx hb dX6_bringBack_45 rfl (lv_at hl 0 rfl) ?_
  refine f_adr2 (ad := ad1) (lb := 25) eq1 ?_
  refine f_aaldQ X hw eS1 (i := 1) (q := ad1 8) (by unfold vp_in; decide) (by rw [show (1 : Int32).toNatClampNeg = 1 from rfl]; simp [va_up]) dX6_bringBack_46 ?_
  refine lv_iconst (v := 0) hx hb dX6_bringBack_47 (by decide) ?_
  refine lv_aload_n hx hb dX6_bringBack_48 rfl (lv_at hl 1 rfl) ?_
  refine lv_iload_n hx hb dX6_bringBack_49 rfl (lv_at hl 0 rfl) ?_
  refine f_adr2 (ad := ad1) (lb := 25) eq1 ?_
  refine f_aaldQ X hw eS1 (i := 1) (q := ad1 8) (by unfold vp_in; decide) (by rw [show (1 : Int32).toNatClampNeg = 1 from rfl]; simp [va_up]) dX6_bringBack_50 ?_
  refine f_alen X hw 0 hm8 rfl dX6_bringBack_51 ?_
  refine f_adr5 (ad := ad1) (lb := 22) (eA1 22 (by omega)) ?_
  refine f_copyI X hl.1 hw (k := 210) (dp := 0) hk22 hm8 wq877 wq208 wq207 wq20 (by omega) (by omega) (by omega) (by omega) (Nat.le_of_ble_eq_true rfl) (Nat.le_of_ble_eq_true rfl) dX6_bringBack_52 (fun H locs hw => ?_)
  have hw : fw g ad1 (fU (fU (fU Mn1 25 (.inl (gQ g, 4, .inr (.inr (.inr (.inr (va_up (va_up (va_up (va_up (fun _ => none) 0 (some (ad1 7))) 1 (some (ad1 8))) 2 (some (ad1 9))) 3 (some (ad1 10))))))))) 7 (.inl (gI g, 6, .inl (va_cpy wa2 wa 0 0 6)))) 8 (.inl (gI g, 210, .inl (va_cpy ht2 ht 0 0 210)))) s H locs := hw
  have hMo : (fU (fU (fU Mn1 25 (.inl (gQ g, 4, .inr (.inr (.inr (.inr (va_up (va_up (va_up (va_up (fun _ => none) 0 (some (ad1 7))) 1 (some (ad1 8))) 2 (some (ad1 9))) 3 (some (ad1 10))))))))) 7 (.inl (gI g, 6, .inl (va_cpy wa2 wa 0 0 6)))) 8 (.inl (gI g, 210, .inl (va_cpy ht2 ht 0 0 210)))) 5 = some (.inr (7, [.int th, .int (nI (tHn U)), .int (nI (tPn U)), .int (nI (tEn U)), .ref (ad 6), .ref (ad 7), .ref (ad 8), .ref (ad 9), .ref (ad 10), .ref (ad 11), .ref (ad 12), .ref (ad 13), .ref (ad 14)])) := (fU_n (by omega)).trans hMo
  have hm6 : (fU (fU (fU Mn1 25 (.inl (gQ g, 4, .inr (.inr (.inr (.inr (va_up (va_up (va_up (va_up (fun _ => none) 0 (some (ad1 7))) 1 (some (ad1 8))) 2 (some (ad1 9))) 3 (some (ad1 10))))))))) 7 (.inl (gI g, 6, .inl (va_cpy wa2 wa 0 0 6)))) 8 (.inl (gI g, 210, .inl (va_cpy ht2 ht 0 0 210)))) 6 = some (.inl (gI g, 6, .inl pcs)) := (fU_n (by omega)).trans hm6
  have hm7 : (fU (fU (fU Mn1 25 (.inl (gQ g, 4, .inr (.inr (.inr (.inr (va_up (va_up (va_up (va_up (fun _ => none) 0 (some (ad1 7))) 1 (some (ad1 8))) 2 (some (ad1 9))) 3 (some (ad1 10))))))))) 7 (.inl (gI g, 6, .inl (va_cpy wa2 wa 0 0 6)))) 8 (.inl (gI g, 210, .inl (va_cpy ht2 ht 0 0 210)))) 7 = some (.inl (gI g, 6, .inl (va_cpy wa2 wa 0 0 6))) := (fU_n (by omega)).trans hm7
  have hm9 : (fU (fU (fU Mn1 25 (.inl (gQ g, 4, .inr (.inr (.inr (.inr (va_up (va_up (va_up (va_up (fun _ => none) 0 (some (ad1 7))) 1 (some (ad1 8))) 2 (some (ad1 9))) 3 (some (ad1 10))))))))) 7 (.inl (gI g, 6, .inl (va_cpy wa2 wa 0 0 6)))) 8 (.inl (gI g, 210, .inl (va_cpy ht2 ht 0 0 210)))) 9 = some (.inl (gI g, 54, .inl et)) := (fU_n (by omega)).trans hm9
  have hm10 : (fU (fU (fU Mn1 25 (.inl (gQ g, 4, .inr (.inr (.inr (.inr (va_up (va_up (va_up (va_up (fun _ => none) 0 (some (ad1 7))) 1 (some (ad1 8))) 2 (some (ad1 9))) 3 (some (ad1 10))))))))) 7 (.inl (gI g, 6, .inl (va_cpy wa2 wa 0 0 6)))) 8 (.inl (gI g, 210, .inl (va_cpy ht2 ht 0 0 210)))) 10 = some (.inl (gI g, 1, .inl mi)) := (fU_n (by omega)).trans hm10
  have hm11 : (fU (fU (fU Mn1 25 (.inl (gQ g, 4, .inr (.inr (.inr (.inr (va_up (va_up (va_up (va_up (fun _ => none) 0 (some (ad1 7))) 1 (some (ad1 8))) 2 (some (ad1 9))) 3 (some (ad1 10))))))))) 7 (.inl (gI g, 6, .inl (va_cpy wa2 wa 0 0 6)))) 8 (.inl (gI g, 210, .inl (va_cpy ht2 ht 0 0 210)))) 11 = some (.inl (gI g, 6, .inl co)) := (fU_n (by omega)).trans hm11
  have hm12 : (fU (fU (fU Mn1 25 (.inl (gQ g, 4, .inr (.inr (.inr (.inr (va_up (va_up (va_up (va_up (fun _ => none) 0 (some (ad1 7))) 1 (some (ad1 8))) 2 (some (ad1 9))) 3 (some (ad1 10))))))))) 7 (.inl (gI g, 6, .inl (va_cpy wa2 wa 0 0 6)))) 8 (.inl (gI g, 210, .inl (va_cpy ht2 ht 0 0 210)))) 12 = some (.inl (gZ g, 6, .inl as)) := (fU_n (by omega)).trans hm12
  have hm13 : (fU (fU (fU Mn1 25 (.inl (gQ g, 4, .inr (.inr (.inr (.inr (va_up (va_up (va_up (va_up (fun _ => none) 0 (some (ad1 7))) 1 (some (ad1 8))) 2 (some (ad1 9))) 3 (some (ad1 10))))))))) 7 (.inl (gI g, 6, .inl (va_cpy wa2 wa 0 0 6)))) 8 (.inl (gI g, 210, .inl (va_cpy ht2 ht 0 0 210)))) 13 = some (.inl (gI g, 140, .inl sp)) := (fU_n (by omega)).trans hm13
  have hm14 : (fU (fU (fU Mn1 25 (.inl (gQ g, 4, .inr (.inr (.inr (.inr (va_up (va_up (va_up (va_up (fun _ => none) 0 (some (ad1 7))) 1 (some (ad1 8))) 2 (some (ad1 9))) 3 (some (ad1 10))))))))) 7 (.inl (gI g, 6, .inl (va_cpy wa2 wa 0 0 6)))) 8 (.inl (gI g, 210, .inl (va_cpy ht2 ht 0 0 210)))) 14 = some (.inl (gZ g, 30, .inl ca)) := (fU_n (by omega)).trans hm14
  have hk20 : (fU (fU (fU Mn1 25 (.inl (gQ g, 4, .inr (.inr (.inr (.inr (va_up (va_up (va_up (va_up (fun _ => none) 0 (some (ad1 7))) 1 (some (ad1 8))) 2 (some (ad1 9))) 3 (some (ad1 10))))))))) 7 (.inl (gI g, 6, .inl (va_cpy wa2 wa 0 0 6)))) 8 (.inl (gI g, 210, .inl (va_cpy ht2 ht 0 0 210)))) 20 = some (.inl (gQ g, 4, .inr (.inr (.inr (.inr ko))))) := (fU_n (by omega)).trans hk20
  have hk21 : (fU (fU (fU Mn1 25 (.inl (gQ g, 4, .inr (.inr (.inr (.inr (va_up (va_up (va_up (va_up (fun _ => none) 0 (some (ad1 7))) 1 (some (ad1 8))) 2 (some (ad1 9))) 3 (some (ad1 10))))))))) 7 (.inl (gI g, 6, .inl (va_cpy wa2 wa 0 0 6)))) 8 (.inl (gI g, 210, .inl (va_cpy ht2 ht 0 0 210)))) 21 = some (.inl (gI g, 6, .inl wa2)) := (fU_n (by omega)).trans hk21
  have hk22 : (fU (fU (fU Mn1 25 (.inl (gQ g, 4, .inr (.inr (.inr (.inr (va_up (va_up (va_up (va_up (fun _ => none) 0 (some (ad1 7))) 1 (some (ad1 8))) 2 (some (ad1 9))) 3 (some (ad1 10))))))))) 7 (.inl (gI g, 6, .inl (va_cpy wa2 wa 0 0 6)))) 8 (.inl (gI g, 210, .inl (va_cpy ht2 ht 0 0 210)))) 22 = some (.inl (gI g, 210, .inl ht2)) := (fU_n (by omega)).trans hk22
  have hk23 : (fU (fU (fU Mn1 25 (.inl (gQ g, 4, .inr (.inr (.inr (.inr (va_up (va_up (va_up (va_up (fun _ => none) 0 (some (ad1 7))) 1 (some (ad1 8))) 2 (some (ad1 9))) 3 (some (ad1 10))))))))) 7 (.inl (gI g, 6, .inl (va_cpy wa2 wa 0 0 6)))) 8 (.inl (gI g, 210, .inl (va_cpy ht2 ht 0 0 210)))) 23 = some (.inl (gI g, 54, .inl et2)) := (fU_n (by omega)).trans hk23
  have hk24 : (fU (fU (fU Mn1 25 (.inl (gQ g, 4, .inr (.inr (.inr (.inr (va_up (va_up (va_up (va_up (fun _ => none) 0 (some (ad1 7))) 1 (some (ad1 8))) 2 (some (ad1 9))) 3 (some (ad1 10))))))))) 7 (.inl (gI g, 6, .inl (va_cpy wa2 wa 0 0 6)))) 8 (.inl (gI g, 210, .inl (va_cpy ht2 ht 0 0 210)))) 24 = some (.inl (gI g, 1, .inl mi2)) := (fU_n (by omega)).trans hk24
  have eS1 : (fU (fU (fU Mn1 25 (.inl (gQ g, 4, .inr (.inr (.inr (.inr (va_up (va_up (va_up (va_up (fun _ => none) 0 (some (ad1 7))) 1 (some (ad1 8))) 2 (some (ad1 9))) 3 (some (ad1 10))))))))) 7 (.inl (gI g, 6, .inl (va_cpy wa2 wa 0 0 6)))) 8 (.inl (gI g, 210, .inl (va_cpy ht2 ht 0 0 210)))) 25 = some (.inl (gQ g, 4, .inr (.inr (.inr (.inr (va_up (va_up (va_up (va_up (fun _ => none) 0 (some (ad1 7))) 1 (some (ad1 8))) 2 (some (ad1 9))) 3 (some (ad1 10)))))))) := (fU_n (by omega)).trans eS1
  have hm8 : (fU (fU (fU Mn1 25 (.inl (gQ g, 4, .inr (.inr (.inr (.inr (va_up (va_up (va_up (va_up (fun _ => none) 0 (some (ad1 7))) 1 (some (ad1 8))) 2 (some (ad1 9))) 3 (some (ad1 10))))))))) 7 (.inl (gI g, 6, .inl (va_cpy wa2 wa 0 0 6)))) 8 (.inl (gI g, 210, .inl (va_cpy ht2 ht 0 0 210)))) 8 = some (.inl (gI g, 210, .inl (va_cpy ht2 ht 0 0 210))) := fU_s
  refine lv_iinc (v := 2) (lv' := [(3, .int 2), (2, .ref q1), (0, .ref (ad 5)), (1, .ref (ad 20))]) hx hb dX6_bringBack_55 hl (k := 0) rfl rfl (by decide) rfl (fun ls hl => ?_)
  refine lv_goto (tgt := 35) hx hb dX6_bringBack_58 (by decide) ?_
  refine lv_iload_n hx hb dX6_bringBack_35 rfl (lv_at hl 0 rfl) ?_
  refine lv_iconst (v := 4) hx hb dX6_bringBack_36 (by decide) ?_
  refine lv_icmp_ge (tgt := 61) hx hb dX6_bringBack_37 (by decide) (fun c_3 => absurd c_3 (by decide)) (fun c_3 => ?_)
  refine lv_aload_n hx hb dX6_bringBack_40 rfl (lv_at hl 3 rfl) ?_
  refine lv_iload_n hx hb dX6_bringBack_41 rfl (lv_at hl 0 rfl) ?_
  refine f_adr2 (ad := ad1) (lb := 20) (eA1 20 (by omega)) ?_
  refine f_aaldQ X hw hk20 (i := 2) (q := ad 23) (by unfold vp_in; decide) hq2 dX6_bringBack_42 ?_
  refine lv_iconst (v := 0) hx hb dX6_bringBack_43 (by decide) ?_
  refine lv_aload_n hx hb dX6_bringBack_44 rfl (lv_at hl 1 rfl) ?_
  refine lv_iload_n hx hb dX6_bringBack_45 rfl (lv_at hl 0 rfl) ?_
  refine f_adr2 (ad := ad1) (lb := 25) eq1 ?_
  refine f_aaldQ X hw eS1 (i := 2) (q := ad1 9) (by unfold vp_in; decide) (by rw [show (2 : Int32).toNatClampNeg = 2 from rfl]; simp [va_up]) dX6_bringBack_46 ?_
  refine lv_iconst (v := 0) hx hb dX6_bringBack_47 (by decide) ?_
  refine lv_aload_n hx hb dX6_bringBack_48 rfl (lv_at hl 1 rfl) ?_
  refine lv_iload_n hx hb dX6_bringBack_49 rfl (lv_at hl 0 rfl) ?_
  refine f_adr2 (ad := ad1) (lb := 25) eq1 ?_
  refine f_aaldQ X hw eS1 (i := 2) (q := ad1 9) (by unfold vp_in; decide) (by rw [show (2 : Int32).toNatClampNeg = 2 from rfl]; simp [va_up]) dX6_bringBack_50 ?_
  refine f_alen X hw 0 hm9 rfl dX6_bringBack_51 ?_
  refine f_adr5 (ad := ad1) (lb := 23) (eA1 23 (by omega)) ?_
  refine f_copyI X hl.1 hw (k := 54) (dp := 0) hk23 hm9 wq877 wq208 wq207 wq20 (by omega) (by omega) (by omega) (by omega) (Nat.le_of_ble_eq_true rfl) (Nat.le_of_ble_eq_true rfl) dX6_bringBack_52 (fun H locs hw => ?_)
  have hw : fw g ad1 (fU (fU (fU (fU Mn1 25 (.inl (gQ g, 4, .inr (.inr (.inr (.inr (va_up (va_up (va_up (va_up (fun _ => none) 0 (some (ad1 7))) 1 (some (ad1 8))) 2 (some (ad1 9))) 3 (some (ad1 10))))))))) 7 (.inl (gI g, 6, .inl (va_cpy wa2 wa 0 0 6)))) 8 (.inl (gI g, 210, .inl (va_cpy ht2 ht 0 0 210)))) 9 (.inl (gI g, 54, .inl (va_cpy et2 et 0 0 54)))) s H locs := hw
  have hMo : (fU (fU (fU (fU Mn1 25 (.inl (gQ g, 4, .inr (.inr (.inr (.inr (va_up (va_up (va_up (va_up (fun _ => none) 0 (some (ad1 7))) 1 (some (ad1 8))) 2 (some (ad1 9))) 3 (some (ad1 10))))))))) 7 (.inl (gI g, 6, .inl (va_cpy wa2 wa 0 0 6)))) 8 (.inl (gI g, 210, .inl (va_cpy ht2 ht 0 0 210)))) 9 (.inl (gI g, 54, .inl (va_cpy et2 et 0 0 54)))) 5 = some (.inr (7, [.int th, .int (nI (tHn U)), .int (nI (tPn U)), .int (nI (tEn U)), .ref (ad 6), .ref (ad 7), .ref (ad 8), .ref (ad 9), .ref (ad 10), .ref (ad 11), .ref (ad 12), .ref (ad 13), .ref (ad 14)])) := (fU_n (by omega)).trans hMo
  have hm6 : (fU (fU (fU (fU Mn1 25 (.inl (gQ g, 4, .inr (.inr (.inr (.inr (va_up (va_up (va_up (va_up (fun _ => none) 0 (some (ad1 7))) 1 (some (ad1 8))) 2 (some (ad1 9))) 3 (some (ad1 10))))))))) 7 (.inl (gI g, 6, .inl (va_cpy wa2 wa 0 0 6)))) 8 (.inl (gI g, 210, .inl (va_cpy ht2 ht 0 0 210)))) 9 (.inl (gI g, 54, .inl (va_cpy et2 et 0 0 54)))) 6 = some (.inl (gI g, 6, .inl pcs)) := (fU_n (by omega)).trans hm6
  have hm7 : (fU (fU (fU (fU Mn1 25 (.inl (gQ g, 4, .inr (.inr (.inr (.inr (va_up (va_up (va_up (va_up (fun _ => none) 0 (some (ad1 7))) 1 (some (ad1 8))) 2 (some (ad1 9))) 3 (some (ad1 10))))))))) 7 (.inl (gI g, 6, .inl (va_cpy wa2 wa 0 0 6)))) 8 (.inl (gI g, 210, .inl (va_cpy ht2 ht 0 0 210)))) 9 (.inl (gI g, 54, .inl (va_cpy et2 et 0 0 54)))) 7 = some (.inl (gI g, 6, .inl (va_cpy wa2 wa 0 0 6))) := (fU_n (by omega)).trans hm7
  have hm8 : (fU (fU (fU (fU Mn1 25 (.inl (gQ g, 4, .inr (.inr (.inr (.inr (va_up (va_up (va_up (va_up (fun _ => none) 0 (some (ad1 7))) 1 (some (ad1 8))) 2 (some (ad1 9))) 3 (some (ad1 10))))))))) 7 (.inl (gI g, 6, .inl (va_cpy wa2 wa 0 0 6)))) 8 (.inl (gI g, 210, .inl (va_cpy ht2 ht 0 0 210)))) 9 (.inl (gI g, 54, .inl (va_cpy et2 et 0 0 54)))) 8 = some (.inl (gI g, 210, .inl (va_cpy ht2 ht 0 0 210))) := (fU_n (by omega)).trans hm8
  have hm10 : (fU (fU (fU (fU Mn1 25 (.inl (gQ g, 4, .inr (.inr (.inr (.inr (va_up (va_up (va_up (va_up (fun _ => none) 0 (some (ad1 7))) 1 (some (ad1 8))) 2 (some (ad1 9))) 3 (some (ad1 10))))))))) 7 (.inl (gI g, 6, .inl (va_cpy wa2 wa 0 0 6)))) 8 (.inl (gI g, 210, .inl (va_cpy ht2 ht 0 0 210)))) 9 (.inl (gI g, 54, .inl (va_cpy et2 et 0 0 54)))) 10 = some (.inl (gI g, 1, .inl mi)) := (fU_n (by omega)).trans hm10
  have hm11 : (fU (fU (fU (fU Mn1 25 (.inl (gQ g, 4, .inr (.inr (.inr (.inr (va_up (va_up (va_up (va_up (fun _ => none) 0 (some (ad1 7))) 1 (some (ad1 8))) 2 (some (ad1 9))) 3 (some (ad1 10))))))))) 7 (.inl (gI g, 6, .inl (va_cpy wa2 wa 0 0 6)))) 8 (.inl (gI g, 210, .inl (va_cpy ht2 ht 0 0 210)))) 9 (.inl (gI g, 54, .inl (va_cpy et2 et 0 0 54)))) 11 = some (.inl (gI g, 6, .inl co)) := (fU_n (by omega)).trans hm11
  have hm12 : (fU (fU (fU (fU Mn1 25 (.inl (gQ g, 4, .inr (.inr (.inr (.inr (va_up (va_up (va_up (va_up (fun _ => none) 0 (some (ad1 7))) 1 (some (ad1 8))) 2 (some (ad1 9))) 3 (some (ad1 10))))))))) 7 (.inl (gI g, 6, .inl (va_cpy wa2 wa 0 0 6)))) 8 (.inl (gI g, 210, .inl (va_cpy ht2 ht 0 0 210)))) 9 (.inl (gI g, 54, .inl (va_cpy et2 et 0 0 54)))) 12 = some (.inl (gZ g, 6, .inl as)) := (fU_n (by omega)).trans hm12
  have hm13 : (fU (fU (fU (fU Mn1 25 (.inl (gQ g, 4, .inr (.inr (.inr (.inr (va_up (va_up (va_up (va_up (fun _ => none) 0 (some (ad1 7))) 1 (some (ad1 8))) 2 (some (ad1 9))) 3 (some (ad1 10))))))))) 7 (.inl (gI g, 6, .inl (va_cpy wa2 wa 0 0 6)))) 8 (.inl (gI g, 210, .inl (va_cpy ht2 ht 0 0 210)))) 9 (.inl (gI g, 54, .inl (va_cpy et2 et 0 0 54)))) 13 = some (.inl (gI g, 140, .inl sp)) := (fU_n (by omega)).trans hm13
  have hm14 : (fU (fU (fU (fU Mn1 25 (.inl (gQ g, 4, .inr (.inr (.inr (.inr (va_up (va_up (va_up (va_up (fun _ => none) 0 (some (ad1 7))) 1 (some (ad1 8))) 2 (some (ad1 9))) 3 (some (ad1 10))))))))) 7 (.inl (gI g, 6, .inl (va_cpy wa2 wa 0 0 6)))) 8 (.inl (gI g, 210, .inl (va_cpy ht2 ht 0 0 210)))) 9 (.inl (gI g, 54, .inl (va_cpy et2 et 0 0 54)))) 14 = some (.inl (gZ g, 30, .inl ca)) := (fU_n (by omega)).trans hm14
  have hk20 : (fU (fU (fU (fU Mn1 25 (.inl (gQ g, 4, .inr (.inr (.inr (.inr (va_up (va_up (va_up (va_up (fun _ => none) 0 (some (ad1 7))) 1 (some (ad1 8))) 2 (some (ad1 9))) 3 (some (ad1 10))))))))) 7 (.inl (gI g, 6, .inl (va_cpy wa2 wa 0 0 6)))) 8 (.inl (gI g, 210, .inl (va_cpy ht2 ht 0 0 210)))) 9 (.inl (gI g, 54, .inl (va_cpy et2 et 0 0 54)))) 20 = some (.inl (gQ g, 4, .inr (.inr (.inr (.inr ko))))) := (fU_n (by omega)).trans hk20
  have hk21 : (fU (fU (fU (fU Mn1 25 (.inl (gQ g, 4, .inr (.inr (.inr (.inr (va_up (va_up (va_up (va_up (fun _ => none) 0 (some (ad1 7))) 1 (some (ad1 8))) 2 (some (ad1 9))) 3 (some (ad1 10))))))))) 7 (.inl (gI g, 6, .inl (va_cpy wa2 wa 0 0 6)))) 8 (.inl (gI g, 210, .inl (va_cpy ht2 ht 0 0 210)))) 9 (.inl (gI g, 54, .inl (va_cpy et2 et 0 0 54)))) 21 = some (.inl (gI g, 6, .inl wa2)) := (fU_n (by omega)).trans hk21
  have hk22 : (fU (fU (fU (fU Mn1 25 (.inl (gQ g, 4, .inr (.inr (.inr (.inr (va_up (va_up (va_up (va_up (fun _ => none) 0 (some (ad1 7))) 1 (some (ad1 8))) 2 (some (ad1 9))) 3 (some (ad1 10))))))))) 7 (.inl (gI g, 6, .inl (va_cpy wa2 wa 0 0 6)))) 8 (.inl (gI g, 210, .inl (va_cpy ht2 ht 0 0 210)))) 9 (.inl (gI g, 54, .inl (va_cpy et2 et 0 0 54)))) 22 = some (.inl (gI g, 210, .inl ht2)) := (fU_n (by omega)).trans hk22
  have hk23 : (fU (fU (fU (fU Mn1 25 (.inl (gQ g, 4, .inr (.inr (.inr (.inr (va_up (va_up (va_up (va_up (fun _ => none) 0 (some (ad1 7))) 1 (some (ad1 8))) 2 (some (ad1 9))) 3 (some (ad1 10))))))))) 7 (.inl (gI g, 6, .inl (va_cpy wa2 wa 0 0 6)))) 8 (.inl (gI g, 210, .inl (va_cpy ht2 ht 0 0 210)))) 9 (.inl (gI g, 54, .inl (va_cpy et2 et 0 0 54)))) 23 = some (.inl (gI g, 54, .inl et2)) := (fU_n (by omega)).trans hk23
  have hk24 : (fU (fU (fU (fU Mn1 25 (.inl (gQ g, 4, .inr (.inr (.inr (.inr (va_up (va_up (va_up (va_up (fun _ => none) 0 (some (ad1 7))) 1 (some (ad1 8))) 2 (some (ad1 9))) 3 (some (ad1 10))))))))) 7 (.inl (gI g, 6, .inl (va_cpy wa2 wa 0 0 6)))) 8 (.inl (gI g, 210, .inl (va_cpy ht2 ht 0 0 210)))) 9 (.inl (gI g, 54, .inl (va_cpy et2 et 0 0 54)))) 24 = some (.inl (gI g, 1, .inl mi2)) := (fU_n (by omega)).trans hk24
  have eS1 : (fU (fU (fU (fU Mn1 25 (.inl (gQ g, 4, .inr (.inr (.inr (.inr (va_up (va_up (va_up (va_up (fun _ => none) 0 (some (ad1 7))) 1 (some (ad1 8))) 2 (some (ad1 9))) 3 (some (ad1 10))))))))) 7 (.inl (gI g, 6, .inl (va_cpy wa2 wa 0 0 6)))) 8 (.inl (gI g, 210, .inl (va_cpy ht2 ht 0 0 210)))) 9 (.inl (gI g, 54, .inl (va_cpy et2 et 0 0 54)))) 25 = some (.inl (gQ g, 4, .inr (.inr (.inr (.inr (va_up (va_up (va_up (va_up (fun _ => none) 0 (some (ad1 7))) 1 (some (ad1 8))) 2 (some (ad1 9))) 3 (some (ad1 10)))))))) := (fU_n (by omega)).trans eS1
  have hm9 : (fU (fU (fU (fU Mn1 25 (.inl (gQ g, 4, .inr (.inr (.inr (.inr (va_up (va_up (va_up (va_up (fun _ => none) 0 (some (ad1 7))) 1 (some (ad1 8))) 2 (some (ad1 9))) 3 (some (ad1 10))))))))) 7 (.inl (gI g, 6, .inl (va_cpy wa2 wa 0 0 6)))) 8 (.inl (gI g, 210, .inl (va_cpy ht2 ht 0 0 210)))) 9 (.inl (gI g, 54, .inl (va_cpy et2 et 0 0 54)))) 9 = some (.inl (gI g, 54, .inl (va_cpy et2 et 0 0 54))) := fU_s
  refine lv_iinc (v := 3) (lv' := [(3, .int 3), (2, .ref q1), (0, .ref (ad 5)), (1, .ref (ad 20))]) hx hb dX6_bringBack_55 hl (k := 0) rfl rfl (by decide) rfl (fun ls hl => ?_)
  refine lv_goto (tgt := 35) hx hb dX6_bringBack_58 (by decide) ?_
  refine lv_iload_n hx hb dX6_bringBack_35 rfl (lv_at hl 0 rfl) ?_
  refine lv_iconst (v := 4) hx hb dX6_bringBack_36 (by decide) ?_
  refine lv_icmp_ge (tgt := 61) hx hb dX6_bringBack_37 (by decide) (fun c_4 => absurd c_4 (by decide)) (fun c_4 => ?_)
  refine lv_aload_n hx hb dX6_bringBack_40 rfl (lv_at hl 3 rfl) ?_
  refine lv_iload_n hx hb dX6_bringBack_41 rfl (lv_at hl 0 rfl) ?_
  refine f_adr2 (ad := ad1) (lb := 20) (eA1 20 (by omega)) ?_
  refine f_aaldQ X hw hk20 (i := 3) (q := ad 24) (by unfold vp_in; decide) hq3 dX6_bringBack_42 ?_
  refine lv_iconst (v := 0) hx hb dX6_bringBack_43 (by decide) ?_
  refine lv_aload_n hx hb dX6_bringBack_44 rfl (lv_at hl 1 rfl) ?_
  refine lv_iload_n hx hb dX6_bringBack_45 rfl (lv_at hl 0 rfl) ?_
  refine f_adr2 (ad := ad1) (lb := 25) eq1 ?_
  refine f_aaldQ X hw eS1 (i := 3) (q := ad1 10) (by unfold vp_in; decide) (by rw [show (3 : Int32).toNatClampNeg = 3 from rfl]; simp [va_up]) dX6_bringBack_46 ?_
  refine lv_iconst (v := 0) hx hb dX6_bringBack_47 (by decide) ?_
  refine lv_aload_n hx hb dX6_bringBack_48 rfl (lv_at hl 1 rfl) ?_
  refine lv_iload_n hx hb dX6_bringBack_49 rfl (lv_at hl 0 rfl) ?_
  refine f_adr2 (ad := ad1) (lb := 25) eq1 ?_
  refine f_aaldQ X hw eS1 (i := 3) (q := ad1 10) (by unfold vp_in; decide) (by rw [show (3 : Int32).toNatClampNeg = 3 from rfl]; simp [va_up]) dX6_bringBack_50 ?_
  refine f_alen X hw 0 hm10 rfl dX6_bringBack_51 ?_
  refine f_adr5 (ad := ad1) (lb := 24) (eA1 24 (by omega)) ?_
  refine f_copyI X hl.1 hw (k := 1) (dp := 0) hk24 hm10 wq877 wq208 wq207 wq20 (by omega) (by omega) (by omega) (by omega) (Nat.le_of_ble_eq_true rfl) (Nat.le_of_ble_eq_true rfl) dX6_bringBack_52 (fun H locs hw => ?_)
  have hw : fw g ad1 (fU (fU (fU (fU (fU Mn1 25 (.inl (gQ g, 4, .inr (.inr (.inr (.inr (va_up (va_up (va_up (va_up (fun _ => none) 0 (some (ad1 7))) 1 (some (ad1 8))) 2 (some (ad1 9))) 3 (some (ad1 10))))))))) 7 (.inl (gI g, 6, .inl (va_cpy wa2 wa 0 0 6)))) 8 (.inl (gI g, 210, .inl (va_cpy ht2 ht 0 0 210)))) 9 (.inl (gI g, 54, .inl (va_cpy et2 et 0 0 54)))) 10 (.inl (gI g, 1, .inl (va_cpy mi2 mi 0 0 1)))) s H locs := hw
  have hMo : (fU (fU (fU (fU (fU Mn1 25 (.inl (gQ g, 4, .inr (.inr (.inr (.inr (va_up (va_up (va_up (va_up (fun _ => none) 0 (some (ad1 7))) 1 (some (ad1 8))) 2 (some (ad1 9))) 3 (some (ad1 10))))))))) 7 (.inl (gI g, 6, .inl (va_cpy wa2 wa 0 0 6)))) 8 (.inl (gI g, 210, .inl (va_cpy ht2 ht 0 0 210)))) 9 (.inl (gI g, 54, .inl (va_cpy et2 et 0 0 54)))) 10 (.inl (gI g, 1, .inl (va_cpy mi2 mi 0 0 1)))) 5 = some (.inr (7, [.int th, .int (nI (tHn U)), .int (nI (tPn U)), .int (nI (tEn U)), .ref (ad 6), .ref (ad 7), .ref (ad 8), .ref (ad 9), .ref (ad 10), .ref (ad 11), .ref (ad 12), .ref (ad 13), .ref (ad 14)])) := (fU_n (by omega)).trans hMo
  have hm6 : (fU (fU (fU (fU (fU Mn1 25 (.inl (gQ g, 4, .inr (.inr (.inr (.inr (va_up (va_up (va_up (va_up (fun _ => none) 0 (some (ad1 7))) 1 (some (ad1 8))) 2 (some (ad1 9))) 3 (some (ad1 10))))))))) 7 (.inl (gI g, 6, .inl (va_cpy wa2 wa 0 0 6)))) 8 (.inl (gI g, 210, .inl (va_cpy ht2 ht 0 0 210)))) 9 (.inl (gI g, 54, .inl (va_cpy et2 et 0 0 54)))) 10 (.inl (gI g, 1, .inl (va_cpy mi2 mi 0 0 1)))) 6 = some (.inl (gI g, 6, .inl pcs)) := (fU_n (by omega)).trans hm6
  have hm7 : (fU (fU (fU (fU (fU Mn1 25 (.inl (gQ g, 4, .inr (.inr (.inr (.inr (va_up (va_up (va_up (va_up (fun _ => none) 0 (some (ad1 7))) 1 (some (ad1 8))) 2 (some (ad1 9))) 3 (some (ad1 10))))))))) 7 (.inl (gI g, 6, .inl (va_cpy wa2 wa 0 0 6)))) 8 (.inl (gI g, 210, .inl (va_cpy ht2 ht 0 0 210)))) 9 (.inl (gI g, 54, .inl (va_cpy et2 et 0 0 54)))) 10 (.inl (gI g, 1, .inl (va_cpy mi2 mi 0 0 1)))) 7 = some (.inl (gI g, 6, .inl (va_cpy wa2 wa 0 0 6))) := (fU_n (by omega)).trans hm7
  have hm8 : (fU (fU (fU (fU (fU Mn1 25 (.inl (gQ g, 4, .inr (.inr (.inr (.inr (va_up (va_up (va_up (va_up (fun _ => none) 0 (some (ad1 7))) 1 (some (ad1 8))) 2 (some (ad1 9))) 3 (some (ad1 10))))))))) 7 (.inl (gI g, 6, .inl (va_cpy wa2 wa 0 0 6)))) 8 (.inl (gI g, 210, .inl (va_cpy ht2 ht 0 0 210)))) 9 (.inl (gI g, 54, .inl (va_cpy et2 et 0 0 54)))) 10 (.inl (gI g, 1, .inl (va_cpy mi2 mi 0 0 1)))) 8 = some (.inl (gI g, 210, .inl (va_cpy ht2 ht 0 0 210))) := (fU_n (by omega)).trans hm8
  have hm9 : (fU (fU (fU (fU (fU Mn1 25 (.inl (gQ g, 4, .inr (.inr (.inr (.inr (va_up (va_up (va_up (va_up (fun _ => none) 0 (some (ad1 7))) 1 (some (ad1 8))) 2 (some (ad1 9))) 3 (some (ad1 10))))))))) 7 (.inl (gI g, 6, .inl (va_cpy wa2 wa 0 0 6)))) 8 (.inl (gI g, 210, .inl (va_cpy ht2 ht 0 0 210)))) 9 (.inl (gI g, 54, .inl (va_cpy et2 et 0 0 54)))) 10 (.inl (gI g, 1, .inl (va_cpy mi2 mi 0 0 1)))) 9 = some (.inl (gI g, 54, .inl (va_cpy et2 et 0 0 54))) := (fU_n (by omega)).trans hm9
  have hm11 : (fU (fU (fU (fU (fU Mn1 25 (.inl (gQ g, 4, .inr (.inr (.inr (.inr (va_up (va_up (va_up (va_up (fun _ => none) 0 (some (ad1 7))) 1 (some (ad1 8))) 2 (some (ad1 9))) 3 (some (ad1 10))))))))) 7 (.inl (gI g, 6, .inl (va_cpy wa2 wa 0 0 6)))) 8 (.inl (gI g, 210, .inl (va_cpy ht2 ht 0 0 210)))) 9 (.inl (gI g, 54, .inl (va_cpy et2 et 0 0 54)))) 10 (.inl (gI g, 1, .inl (va_cpy mi2 mi 0 0 1)))) 11 = some (.inl (gI g, 6, .inl co)) := (fU_n (by omega)).trans hm11
  have hm12 : (fU (fU (fU (fU (fU Mn1 25 (.inl (gQ g, 4, .inr (.inr (.inr (.inr (va_up (va_up (va_up (va_up (fun _ => none) 0 (some (ad1 7))) 1 (some (ad1 8))) 2 (some (ad1 9))) 3 (some (ad1 10))))))))) 7 (.inl (gI g, 6, .inl (va_cpy wa2 wa 0 0 6)))) 8 (.inl (gI g, 210, .inl (va_cpy ht2 ht 0 0 210)))) 9 (.inl (gI g, 54, .inl (va_cpy et2 et 0 0 54)))) 10 (.inl (gI g, 1, .inl (va_cpy mi2 mi 0 0 1)))) 12 = some (.inl (gZ g, 6, .inl as)) := (fU_n (by omega)).trans hm12
  have hm13 : (fU (fU (fU (fU (fU Mn1 25 (.inl (gQ g, 4, .inr (.inr (.inr (.inr (va_up (va_up (va_up (va_up (fun _ => none) 0 (some (ad1 7))) 1 (some (ad1 8))) 2 (some (ad1 9))) 3 (some (ad1 10))))))))) 7 (.inl (gI g, 6, .inl (va_cpy wa2 wa 0 0 6)))) 8 (.inl (gI g, 210, .inl (va_cpy ht2 ht 0 0 210)))) 9 (.inl (gI g, 54, .inl (va_cpy et2 et 0 0 54)))) 10 (.inl (gI g, 1, .inl (va_cpy mi2 mi 0 0 1)))) 13 = some (.inl (gI g, 140, .inl sp)) := (fU_n (by omega)).trans hm13
  have hm14 : (fU (fU (fU (fU (fU Mn1 25 (.inl (gQ g, 4, .inr (.inr (.inr (.inr (va_up (va_up (va_up (va_up (fun _ => none) 0 (some (ad1 7))) 1 (some (ad1 8))) 2 (some (ad1 9))) 3 (some (ad1 10))))))))) 7 (.inl (gI g, 6, .inl (va_cpy wa2 wa 0 0 6)))) 8 (.inl (gI g, 210, .inl (va_cpy ht2 ht 0 0 210)))) 9 (.inl (gI g, 54, .inl (va_cpy et2 et 0 0 54)))) 10 (.inl (gI g, 1, .inl (va_cpy mi2 mi 0 0 1)))) 14 = some (.inl (gZ g, 30, .inl ca)) := (fU_n (by omega)).trans hm14
  have hk20 : (fU (fU (fU (fU (fU Mn1 25 (.inl (gQ g, 4, .inr (.inr (.inr (.inr (va_up (va_up (va_up (va_up (fun _ => none) 0 (some (ad1 7))) 1 (some (ad1 8))) 2 (some (ad1 9))) 3 (some (ad1 10))))))))) 7 (.inl (gI g, 6, .inl (va_cpy wa2 wa 0 0 6)))) 8 (.inl (gI g, 210, .inl (va_cpy ht2 ht 0 0 210)))) 9 (.inl (gI g, 54, .inl (va_cpy et2 et 0 0 54)))) 10 (.inl (gI g, 1, .inl (va_cpy mi2 mi 0 0 1)))) 20 = some (.inl (gQ g, 4, .inr (.inr (.inr (.inr ko))))) := (fU_n (by omega)).trans hk20
  have hk21 : (fU (fU (fU (fU (fU Mn1 25 (.inl (gQ g, 4, .inr (.inr (.inr (.inr (va_up (va_up (va_up (va_up (fun _ => none) 0 (some (ad1 7))) 1 (some (ad1 8))) 2 (some (ad1 9))) 3 (some (ad1 10))))))))) 7 (.inl (gI g, 6, .inl (va_cpy wa2 wa 0 0 6)))) 8 (.inl (gI g, 210, .inl (va_cpy ht2 ht 0 0 210)))) 9 (.inl (gI g, 54, .inl (va_cpy et2 et 0 0 54)))) 10 (.inl (gI g, 1, .inl (va_cpy mi2 mi 0 0 1)))) 21 = some (.inl (gI g, 6, .inl wa2)) := (fU_n (by omega)).trans hk21
  have hk22 : (fU (fU (fU (fU (fU Mn1 25 (.inl (gQ g, 4, .inr (.inr (.inr (.inr (va_up (va_up (va_up (va_up (fun _ => none) 0 (some (ad1 7))) 1 (some (ad1 8))) 2 (some (ad1 9))) 3 (some (ad1 10))))))))) 7 (.inl (gI g, 6, .inl (va_cpy wa2 wa 0 0 6)))) 8 (.inl (gI g, 210, .inl (va_cpy ht2 ht 0 0 210)))) 9 (.inl (gI g, 54, .inl (va_cpy et2 et 0 0 54)))) 10 (.inl (gI g, 1, .inl (va_cpy mi2 mi 0 0 1)))) 22 = some (.inl (gI g, 210, .inl ht2)) := (fU_n (by omega)).trans hk22
  have hk23 : (fU (fU (fU (fU (fU Mn1 25 (.inl (gQ g, 4, .inr (.inr (.inr (.inr (va_up (va_up (va_up (va_up (fun _ => none) 0 (some (ad1 7))) 1 (some (ad1 8))) 2 (some (ad1 9))) 3 (some (ad1 10))))))))) 7 (.inl (gI g, 6, .inl (va_cpy wa2 wa 0 0 6)))) 8 (.inl (gI g, 210, .inl (va_cpy ht2 ht 0 0 210)))) 9 (.inl (gI g, 54, .inl (va_cpy et2 et 0 0 54)))) 10 (.inl (gI g, 1, .inl (va_cpy mi2 mi 0 0 1)))) 23 = some (.inl (gI g, 54, .inl et2)) := (fU_n (by omega)).trans hk23
  have hk24 : (fU (fU (fU (fU (fU Mn1 25 (.inl (gQ g, 4, .inr (.inr (.inr (.inr (va_up (va_up (va_up (va_up (fun _ => none) 0 (some (ad1 7))) 1 (some (ad1 8))) 2 (some (ad1 9))) 3 (some (ad1 10))))))))) 7 (.inl (gI g, 6, .inl (va_cpy wa2 wa 0 0 6)))) 8 (.inl (gI g, 210, .inl (va_cpy ht2 ht 0 0 210)))) 9 (.inl (gI g, 54, .inl (va_cpy et2 et 0 0 54)))) 10 (.inl (gI g, 1, .inl (va_cpy mi2 mi 0 0 1)))) 24 = some (.inl (gI g, 1, .inl mi2)) := (fU_n (by omega)).trans hk24
  have eS1 : (fU (fU (fU (fU (fU Mn1 25 (.inl (gQ g, 4, .inr (.inr (.inr (.inr (va_up (va_up (va_up (va_up (fun _ => none) 0 (some (ad1 7))) 1 (some (ad1 8))) 2 (some (ad1 9))) 3 (some (ad1 10))))))))) 7 (.inl (gI g, 6, .inl (va_cpy wa2 wa 0 0 6)))) 8 (.inl (gI g, 210, .inl (va_cpy ht2 ht 0 0 210)))) 9 (.inl (gI g, 54, .inl (va_cpy et2 et 0 0 54)))) 10 (.inl (gI g, 1, .inl (va_cpy mi2 mi 0 0 1)))) 25 = some (.inl (gQ g, 4, .inr (.inr (.inr (.inr (va_up (va_up (va_up (va_up (fun _ => none) 0 (some (ad1 7))) 1 (some (ad1 8))) 2 (some (ad1 9))) 3 (some (ad1 10)))))))) := (fU_n (by omega)).trans eS1
  have hm10 : (fU (fU (fU (fU (fU Mn1 25 (.inl (gQ g, 4, .inr (.inr (.inr (.inr (va_up (va_up (va_up (va_up (fun _ => none) 0 (some (ad1 7))) 1 (some (ad1 8))) 2 (some (ad1 9))) 3 (some (ad1 10))))))))) 7 (.inl (gI g, 6, .inl (va_cpy wa2 wa 0 0 6)))) 8 (.inl (gI g, 210, .inl (va_cpy ht2 ht 0 0 210)))) 9 (.inl (gI g, 54, .inl (va_cpy et2 et 0 0 54)))) 10 (.inl (gI g, 1, .inl (va_cpy mi2 mi 0 0 1)))) 10 = some (.inl (gI g, 1, .inl (va_cpy mi2 mi 0 0 1))) := fU_s
  refine lv_iinc (v := 4) (lv' := [(3, .int 4), (2, .ref q1), (0, .ref (ad 5)), (1, .ref (ad 20))]) hx hb dX6_bringBack_55 hl (k := 0) rfl rfl (by decide) rfl (fun ls hl => ?_)
  refine lv_goto (tgt := 35) hx hb dX6_bringBack_58 (by decide) ?_
  refine lv_iload_n hx hb dX6_bringBack_35 rfl (lv_at hl 0 rfl) ?_
  refine lv_iconst (v := 4) hx hb dX6_bringBack_36 (by decide) ?_
  refine lv_icmp_ge (tgt := 61) hx hb dX6_bringBack_37 (by decide) (fun c_5 => ?_) (fun c_5 => absurd (by decide) c_5)
  have hMz : isMo g ad1 (fU (fU (fU (fU (fU Mn1 25 (.inl (gQ g, 4, .inr (.inr (.inr (.inr (va_up (va_up (va_up (va_up (fun _ => none) 0 (some (ad1 7))) 1 (some (ad1 8))) 2 (some (ad1 9))) 3 (some (ad1 10))))))))) 7 (.inl (gI g, 6, .inl (va_cpy wa2 wa 0 0 6)))) 8 (.inl (gI g, 210, .inl (va_cpy ht2 ht 0 0 210)))) 9 (.inl (gI g, 54, .inl (va_cpy et2 et 0 0 54)))) 10 (.inl (gI g, 1, .inl (va_cpy mi2 mi 0 0 1)))) th (backT U K) sp ca := ⟨_, _, _, _, _, _, _, (by unfold mObj; rw [hMo]; simp only [eA1 6 (by omega), eA1 7 (by omega), eA1 8 (by omega), eA1 9 (by omega), eA1 10 (by omega), eA1 11 (by omega), eA1 12 (by omega), eA1 13 (by omega), eA1 14 (by omega)]; rfl), ⟨hm6, hm7, hm8, hm9, hm10, hm11, hm12, hm13, hm14⟩, mRel_back hRel hkR e1 e2 e3 hn1 hn2 hn3, hCnt⟩
  refine f_vret X hw ⟨hMz, fun l a b => ⟨eA1 l a, fun c9 => ?_⟩⟩ (by omega) (by omega) dX6_bringBack_61
  rw [fU_n (show l ≠ 10 by omega), fU_n (show l ≠ 9 by omega), fU_n (show l ≠ 8 by omega), fU_n (show l ≠ 7 by omega), fU_n (show l ≠ 25 by omega), eM1 l a]
