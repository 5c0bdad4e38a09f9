/-! Sim.gives: the water of a minute. A state of it: the town, what comes, who is done, what is given -/
abbrev fGs : Type := fTn × (Nat → Int32) × (Nat → Int32) × (Nat → Int32)
abbrev qV (q : fGs) : fTn := q.1
abbrev qC (q : fGs) : Nat → Int32 := q.2.1
abbrev qD (q : fGs) : Nat → Int32 := q.2.2.1
abbrev qG (q : fGs) : Nat → Int32 := q.2.2.2
def sWts (f : Nat → Nat → Int32) (dn : Nat → Int32) (x : Int32) : Nat → Bool
  | 0 => false
  | k + 1 => sWts f dn x k || (decide (dn k = 0) && decide (f k 7 = x))
def sOpn (V : fTn) (dn : Nat → Int32) (k : Nat) : Bool := decide (dn k = 0) && !(sWts (tE V) dn (nI k) (tEn V))
def sNxt (q : fGs) : Int32 := jFirst (sOpn (qV q) (qD q)) (tEn (qV q))
def sSk (q : fGs) (e : Nat) : Int32 := if sSrc (qV q) (tE (qV q) e) < 0 then 0 else if sPump (tE (qV q) e) ≤ qC q e then 0 else iMin (sPump (tE (qV q) e) - qC q e) (tP (qV q) (sSrc (qV q) (tE (qV q) e)).toNatClampNeg 1)
def sVp (q : fGs) (e : Nat) : fTn := if 0 < sSk q e then sP (qV q) (sSrc (qV q) (tE (qV q) e)).toNatClampNeg (upd (tP (qV q) (sSrc (qV q) (tE (qV q) e)).toNatClampNeg) 1 (tP (qV q) (sSrc (qV q) (tE (qV q) e)).toNatClampNeg 1 - sSk q e)) else qV q
def sGi (q : fGs) (e : Nat) : Int32 := iMin (sPump (tE (qV q) e)) (qC q e + sSk q e)
def sLf (x a b : Int32) : Int32 := x - aDist a b / 2 * x / 10
def sTurn (q : fGs) (e : Nat) : fGs :=
  if tE (qV q) e 7 < 0 then (qV q, qC q, upd (qD q) e (1 &&& 1), qG q)
  else if tE (qV q) e 7 < 100 then (sVp q e, upd (qC q) (tE (qV q) e 7).toNatClampNeg (qC q (tE (qV q) e 7).toNatClampNeg + sLf (sGi q e) (tE (qV q) e 0) (tE (qV q) (tE (qV q) e 7).toNatClampNeg 0)), upd (qD q) e (1 &&& 1), upd (qG q) e (sGi q e))
  else (sH (sVp q e) (tE (qV q) e 7 - 100).toNatClampNeg (upd (tH (qV q) (tE (qV q) e 7 - 100).toNatClampNeg) 5 (tH (qV q) (tE (qV q) e 7 - 100).toNatClampNeg 5 + sLf (sGi q e) (tE (qV q) e 0) (tH (qV q) (tE (qV q) e 7 - 100).toNatClampNeg 0))), qC q, upd (qD q) e (1 &&& 1), upd (qG q) e (sGi q e))
def sTurns (q : fGs) : Nat → fGs
  | 0 => q
  | n + 1 => sTurn (sTurns q n) (sNxt (sTurns q n)).toNatClampNeg
def q0 (U : fTn) : fGs := (U, f0, f0, f0)
theorem sVp_n (q : fGs) (e : Nat) : tE (sVp q e) = tE (qV q) ∧ tEn (sVp q e) = tEn (qV q) ∧ tHn (sVp q e) = tHn (qV q) ∧ tPn (sVp q e) = tPn (qV q) ∧ tH (sVp q e) = tH (qV q) ∧ tM (sVp q e) = tM (qV q) := by
  unfold sVp
  split <;> exact ⟨rfl, rfl, rfl, rfl, rfl, rfl⟩
theorem sTurn_n (q : fGs) (e : Nat) : tE (qV (sTurn q e)) = tE (qV q) ∧ tEn (qV (sTurn q e)) = tEn (qV q) ∧ tHn (qV (sTurn q e)) = tHn (qV q) ∧ tPn (qV (sTurn q e)) = tPn (qV q) ∧ tM (qV (sTurn q e)) = tM (qV q) := by
  have z := sVp_n q e
  unfold sTurn
  split
  · exact ⟨rfl, rfl, rfl, rfl, rfl⟩
  · split
    · exact ⟨z.1, z.2.1, z.2.2.1, z.2.2.2.1, z.2.2.2.2.2⟩
    · exact ⟨z.1, z.2.1, z.2.2.1, z.2.2.2.1, z.2.2.2.2.2⟩
theorem sTurns_n (q : fGs) (n : Nat) : tE (qV (sTurns q n)) = tE (qV q) ∧ tEn (qV (sTurns q n)) = tEn (qV q) ∧ tHn (qV (sTurns q n)) = tHn (qV q) ∧ tPn (qV (sTurns q n)) = tPn (qV q) ∧ tM (qV (sTurns q n)) = tM (qV q) := by
  induction n with
  | zero => exact ⟨rfl, rfl, rfl, rfl, rfl⟩
  | succ n ih =>
    obtain ⟨a, b, c, d, e⟩ := ih
    obtain ⟨a1, b1, c1, d1, e1⟩ := sTurn_n (sTurns q n) (sNxt (sTurns q n)).toNatClampNeg
    exact ⟨a1.trans a, b1.trans b, c1.trans c, d1.trans d, e1.trans e⟩
/-- the smallest that is open, of those from r on -/
def whoOk (V : fTn) (dn : Nat → Int32) (r : Nat) (w : Int32) : Prop := (w = -1 ∧ ∀ j, r ≤ j → j < tEn V → sOpn V dn j = false) ∨ ∃ i, r ≤ i ∧ i < tEn V ∧ w = nI i ∧ sOpn V dn i = true ∧ ∀ j, r ≤ j → j < i → sOpn V dn j = false
theorem whoOk_y {V : fTn} {dn : Nat → Int32} {r : Nat} (h : sOpn V dn r = true) (hr : r < tEn V) : whoOk V dn r (nI r) := Or.inr ⟨r, Nat.le_refl _, hr, rfl, h, fun j h1 h2 => absurd h1 (by omega)⟩
theorem whoOk_n {V : fTn} {dn : Nat → Int32} {r : Nat} {w : Int32} (h : sOpn V dn r = false) (hw : whoOk V dn (r + 1) w) : whoOk V dn r w := by
  rcases hw with ⟨a, b⟩ | ⟨i, a, b, c, d, e⟩
  · refine Or.inl ⟨a, fun j h1 h2 => ?_⟩
    rcases Nat.eq_or_lt_of_le h1 with q | q
    · rw [← q]; exact h
    · exact b j q h2
  · refine Or.inr ⟨i, by omega, b, c, d, fun j h1 h2 => ?_⟩
    rcases Nat.eq_or_lt_of_le h1 with q | q
    · rw [← q]; exact h
    · exact e j q h2
theorem whoOk_0 {V : fTn} {co dn gi : Nat → Int32} {w : Int32} (h : whoOk V dn 0 w) : w = sNxt (V, co, dn, gi) := by
  rcases h with ⟨a, b⟩ | ⟨i, a, b, c, d, e⟩
  · rw [a]; exact jFirst_none (fun j hj => b j (Nat.zero_le _) hj)
  · rw [c]; exact jFirst_at b d (fun j hj => e j (Nat.zero_le _) hj)
theorem nI_m {r : Nat} : nI r + (-1) = nI r - 1 := by rw [Int32.sub_eq_add_neg]
theorem nI_p {r : Nat} : nI (r + 1) - 1 = nI r := pk_sub (a := r + 1) (b := 1) (by omega)
theorem jFirst_cs {p : Nat → Bool} {n : Nat} : jFirst p n = -1 ∨ ∃ i, i < n ∧ jFirst p n = nI i ∧ p i = true := by
  unfold jFirst
  by_cases h : firstN p n < n
  · rw [if_pos h]; exact Or.inr ⟨_, h, rfl, firstN_yes h⟩
  · rw [if_neg h]; exact Or.inl rfl
theorem sSrc_cs {U : fTn} {f : Nat → Int32} (h : ¬ sSrc U f < 0) : ∃ i, i < tPn U ∧ sSrc U f = nI i := by
  unfold sSrc at h ⊢
  by_cases z : 0 < f 5
  · rw [if_pos z] at h; exact absurd (by decide) h
  · rw [if_neg z] at h ⊢
    rcases jFirst_cs (p := fun i => sNear (tP U i 0) (f 0)) (n := tPn U) with a | ⟨i, a, b, -⟩
    · rw [a] at h; exact absurd (by decide) h
    · exact ⟨i, a, b⟩
/-- hoses that are good -/
def hzOk (U : fTn) : Prop := ∀ j, j < tEn U → tE U j 7 < 0 ∨ (∃ i, i < tEn U ∧ tE U j 7 = nI i) ∨ (∃ h, h < tHn U ∧ tE U j 7 = nI (100 + h))
def sgOk (U : fTn) : Prop := hzOk U ∧ ∀ k, k < tEn U → ∃ e, e < tEn U ∧ sNxt (sTurns (q0 U) k) = nI e
abbrev fSg (g : fG) (ad : Nat → Nat) (M : fM) (q : fGs) : Nat → (Nat → Nat) → fM → Prop := fun r ad1 M1 => r = ad1 3403 ∧ M1 3403 = some (.inl (gI g, tEn (qV q), .inl (qG q))) ∧ isSim g ad1 M1 (qV q) ∧ fReg 3000 3420 ad M ad1 M1 ∧ ∀ l, l < 3400 → ad1 l = ad l
set_option maxHeartbeats 4000000 in
set_option maxRecDepth 100000 in
theorem c_s_gives (l : Launch) (g : fG) (ad : Nat → Nat) (M : fM) {U : fTn} (hS : isSim g ad M U) (hq : sgOk U) : fCr l g yX8_gives cX8_gives 13 ((some (.array .int))) 3 70 3 18 ad M [.ref (ad 3000)] (fSg g ad M (sTurns (q0 U) (tEn U))) := by
  refine f_body (own := RX8) (by decide +kernel) rfl (Nat.le_of_ble_eq_true rfl) ?_
  intro p e s m args below meth c ls X hw hin hl
  have hx := X.1
  have hb := X.2.1
  have hl : lv_has ls 13 [(0, .ref (ad 3000))] := hl
  obtain ⟨hS0, ⟨fHh, hSh, hSH⟩, ⟨fEe, hSe, hSE⟩, ⟨fPp, hSp, hSP⟩, hHs, hEs, hPs, hn1, hn3, hn2⟩ := id hS
  obtain ⟨hHz, hN⟩ := hq
  obtain ⟨ado, hado⟩ : ∃ z, z = ad := ⟨_, rfl⟩
  obtain ⟨Mo, hMo⟩ : ∃ z, z = M := ⟨_, rfl⟩
  obtain ⟨Q9, hQ9⟩ : ∃ z, z = MQ below (fQr g (fSg g ad M (sTurns (q0 U) (tEn U)))) args s 3 18 (fA g) := ⟨_, rfl⟩
  show W p l e (fR 3 70 3 18) s m args below meth c _ _ 0 0 (MQ below (fQr g (fSg g ad M (sTurns (q0 U) (tEn U)))) args s 3 18 (fA g)) (F0 m 0 ls [])
  rw [← hQ9]
  refine lv_aload_n hx hb dX8_gives_0 rfl (lv_at hl 0 rfl) ?_
  refine f_get X hw hS0 fc9 2 (by decide) wq624 rfl (v := .ref (ad 3002)) rfl dX8_gives_1 ?_
  refine f_alen X hw 5 hSe rfl dX8_gives_4 ?_
  refine lv_istore_n (lv' := [(1, .int (nI (tEn U))), (0, .ref (ad 3000))]) hx hb dX8_gives_5 rfl hl (by decide) rfl (fun ls hl => ?_)
  refine lv_iload_n hx hb dX8_gives_6 rfl (lv_at hl 0 rfl) ?_
  refine f_newI X hw 3401 (by omega) wq49 (n := nI (tEn U)) (N' := tEn U) (nI_pos (by omega)) (nI_clamp (by omega)) (by show tEn U * 4 ≤ 536870912; omega) (by dsimp only [fR]; omega) (by dsimp only [fR]; omega) dX8_gives_7 (fun q1 H hw => ?_)
  obtain ⟨ad1, ea1⟩ : ∃ z, z = fV ad 3401 q1 := ⟨_, rfl⟩
  have eq1 : ad1 3401 = q1 := by rw [ea1]; exact fV_s
  have eA1 : ∀ l, l ≠ 3401 → ad1 l = ad l := fun l h => by rw [ea1]; exact fV_n h
  rw [← ea1] at hw
  obtain ⟨Mn1, em1⟩ : ∃ z, z = fU M 3401 (.inl (gI g, tEn U, .inl (fun _ => 0))) := ⟨_, rfl⟩
  have eM1 : ∀ l, l ≠ 3401 → Mn1 l = M l := fun l h => by rw [em1]; exact fU_n h
  have eS1 : Mn1 3401 = some (.inl (gI g, tEn U, .inl (fun _ => 0))) := by rw [em1]; exact fU_s
  rw [← em1] at hw
  have hS0 : Mn1 3000 = some (.inr (9, [.int (tM U), .ref (ad 3001), .ref (ad 3002), .ref (ad 3003)])) := (eM1 _ (by omega)).trans hS0
  have hSh : Mn1 3001 = some (.inl (gY g, tHn U, .inr (.inr (.inr (.inr fHh))))) := (eM1 _ (by omega)).trans hSh
  have hSe : Mn1 3002 = some (.inl (gW g, tEn U, .inr (.inr (.inr (.inr fEe))))) := (eM1 _ (by omega)).trans hSe
  have hSp : Mn1 3003 = some (.inl (gQ g, tPn U, .inr (.inr (.inr (.inr fPp))))) := (eM1 _ (by omega)).trans hSp
  refine lv_astore_n (lv' := [(2, .ref q1), (1, .int (nI (tEn U))), (0, .ref (ad 3000))]) hx hb dX8_gives_9 rfl hl (by decide) rfl (fun ls hl => ?_)
  refine lv_iload_n hx hb dX8_gives_10 rfl (lv_at hl 1 rfl) ?_
  refine f_newZ X hw 3402 (by omega) wq601 (n := nI (tEn U)) (N' := tEn U) (nI_pos (by omega)) (nI_clamp (by omega)) (by show tEn U * 1 ≤ 536870912; omega) (by dsimp only [fR]; omega) (by dsimp only [fR]; omega) dX8_gives_11 (fun q2 H hw => ?_)
  obtain ⟨ad2, ea2⟩ : ∃ z, z = fV ad1 3402 q2 := ⟨_, rfl⟩
  have eq2 : ad2 3402 = q2 := by rw [ea2]; exact fV_s
  have eA2 : ∀ l, l ≠ 3402 → ad2 l = ad1 l := fun l h => by rw [ea2]; exact fV_n h
  rw [← ea2] at hw
  obtain ⟨Mn2, em2⟩ : ∃ z, z = fU Mn1 3402 (.inl (gZ g, tEn U, .inl (fun _ => 0))) := ⟨_, rfl⟩
  have eM2 : ∀ l, l ≠ 3402 → Mn2 l = Mn1 l := fun l h => by rw [em2]; exact fU_n h
  have eS2 : Mn2 3402 = some (.inl (gZ g, tEn U, .inl (fun _ => 0))) := by rw [em2]; exact fU_s
  rw [← em2] at hw
  have hS0 : Mn2 3000 = some (.inr (9, [.int (tM U), .ref (ad 3001), .ref (ad 3002), .ref (ad 3003)])) := (eM2 _ (by omega)).trans hS0
  have hSh : Mn2 3001 = some (.inl (gY g, tHn U, .inr (.inr (.inr (.inr fHh))))) := (eM2 _ (by omega)).trans hSh
  have hSe : Mn2 3002 = some (.inl (gW g, tEn U, .inr (.inr (.inr (.inr fEe))))) := (eM2 _ (by omega)).trans hSe
  have hSp : Mn2 3003 = some (.inl (gQ g, tPn U, .inr (.inr (.inr (.inr fPp))))) := (eM2 _ (by omega)).trans hSp
  have eS1 : Mn2 3401 = some (.inl (gI g, tEn U, .inl (fun _ => 0))) := (eM2 _ (by omega)).trans eS1
  refine lv_astore_n (lv' := [(3, .ref q2), (2, .ref q1), (1, .int (nI (tEn U))), (0, .ref (ad 3000))]) hx hb dX8_gives_13 rfl hl (by decide) rfl (fun ls hl => ?_)
  refine lv_iload_n hx hb dX8_gives_14 rfl (lv_at hl 2 rfl) ?_
  refine f_newI X hw 3403 (by omega) wq49 (n := nI (tEn U)) (N' := tEn U) (nI_pos (by omega)) (nI_clamp (by omega)) (by show tEn U * 4 ≤ 536870912; omega) (by dsimp only [fR]; omega) (by dsimp only [fR]; omega) dX8_gives_15 (fun q3 H hw => ?_)
  obtain ⟨ad3, ea3⟩ : ∃ z, z = fV ad2 3403 q3 := ⟨_, rfl⟩
  have eq3 : ad3 3403 = q3 := by rw [ea3]; exact fV_s
  have eA3 : ∀ l, l ≠ 3403 → ad3 l = ad2 l := fun l h => by rw [ea3]; exact fV_n h
  rw [← ea3] at hw
  obtain ⟨Mn3, em3⟩ : ∃ z, z = fU Mn2 3403 (.inl (gI g, tEn U, .inl (fun _ => 0))) := ⟨_, rfl⟩
  have eM3 : ∀ l, l ≠ 3403 → Mn3 l = Mn2 l := fun l h => by rw [em3]; exact fU_n h
  have eS3 : Mn3 3403 = some (.inl (gI g, tEn U, .inl (fun _ => 0))) := by rw [em3]; exact fU_s
  rw [← em3] at hw
  have hS0 : Mn3 3000 = some (.inr (9, [.int (tM U), .ref (ad 3001), .ref (ad 3002), .ref (ad 3003)])) := (eM3 _ (by omega)).trans hS0
  have hSh : Mn3 3001 = some (.inl (gY g, tHn U, .inr (.inr (.inr (.inr fHh))))) := (eM3 _ (by omega)).trans hSh
  have hSe : Mn3 3002 = some (.inl (gW g, tEn U, .inr (.inr (.inr (.inr fEe))))) := (eM3 _ (by omega)).trans hSe
  have hSp : Mn3 3003 = some (.inl (gQ g, tPn U, .inr (.inr (.inr (.inr fPp))))) := (eM3 _ (by omega)).trans hSp
  have eS1 : Mn3 3401 = some (.inl (gI g, tEn U, .inl (fun _ => 0))) := (eM3 _ (by omega)).trans eS1
  have eS2 : Mn3 3402 = some (.inl (gZ g, tEn U, .inl (fun _ => 0))) := (eM3 _ (by omega)).trans eS2
  refine lv_astore (lv' := [(4, .ref q3), (3, .ref q2), (2, .ref q1), (1, .int (nI (tEn U))), (0, .ref (ad 3000))]) hx hb dX8_gives_17 hl (by decide) rfl (fun ls hl => ?_)
  refine lv_iconst (v := 0) hx hb dX8_gives_19 (by decide) ?_
  refine lv_istore (lv' := [(5, .int 0), (4, .ref q3), (3, .ref q2), (2, .ref q1), (1, .int (nI (tEn U))), (0, .ref (ad 3000))]) hx hb dX8_gives_20 hl (by decide) rfl (fun ls hl => ?_)
  have loop22 : ∀ (n k : Nat), k ≤ tEn U → tEn U < k + n → ∀ (ad : Nat → Nat) (M : fM) (V : fTn) (co dn gi : Nat → Int32) (hq : (V, co, dn, gi) = sTurns (q0 U) k) (hS : isSim g ad M V) (hA1 : M 3401 = some (.inl (gI g, tEn U, .inl co))) (hA2 : M 3402 = some (.inl (gZ g, tEn U, .inl dn))) (hA3 : M 3403 = some (.inl (gI g, tEn U, .inl gi))) (hrA : fReg 3000 3420 ado Mo ad M) (h34 : ∀ l, l < 3400 → ad l = ado l) (ls : Array Slot) (H : Heap) (locs : List Loc), fw g ad M s H locs → lv_has ls 13 [(5, .int (nI k)), (4, .ref (ad 3403)), (3, .ref (ad 3402)), (2, .ref (ad 3401)), (1, .int (nI (tEn U))), (0, .ref (ad 3000))] → W p l e (fR 3 70 3 18) s m args below meth c H locs (0 + 1 + 1 + 1) (0 + tEn U + tEn U + tEn U) Q9 (F0 m 22 ls []) := by
    intro n
    induction n with
    | zero => intro k h1 h2; omega
    | succ n ih =>
      intro k hk_ hn_ ad M V co dn gi hq hS hA1 hA2 hA3 hrA h34 ls H locs hw hl
      have hn := sTurns_n (q0 U) k
      rw [← hq] at hn
      have eV : tE V = tE U := hn.1
      have eN : tEn V = tEn U := hn.2.1
      have eNh : tHn V = tHn U := hn.2.2.1
      have eNp : tPn V = tPn U := hn.2.2.2.1
      have eMn : tM V = tM U := hn.2.2.2.2
      obtain ⟨hS0, ⟨fHh, hSh, hSH⟩, ⟨fEe, hSe, hSE⟩, ⟨fPp, hSp, hSP⟩, hHs, hEs, hPs, hn1, hn3, hn2⟩ := id hS
      have hZ : ∀ j, j < tEn U → tE V j 7 < 0 ∨ (∃ i, i < tEn U ∧ tE V j 7 = nI i) ∨ (∃ h, h < tHn U ∧ tE V j 7 = nI (100 + h)) := by rw [eV]; exact hHz
      rw [eMn] at hS0
      rw [eNh] at hSh hSH hHs
      rw [eN] at hSe hSE hEs
      rw [eNp] at hSp hSP hPs
      have hn1 : tHn U ≤ 30 := by omega
      have hn2 : tPn U ≤ 6 := by omega
      have hn3 : tEn U ≤ 6 := by omega
      refine lv_iload hx hb dX8_gives_22 (lv_at hl 0 rfl) ?_
      refine lv_iload_n hx hb dX8_gives_24 rfl (lv_at hl 4 rfl) ?_
      refine lv_icmp_ge (tgt := 351) hx hb dX8_gives_25 (by decide) (fun c_1 => ?_) (fun c_1 => ?_)
      · have c_1 := nI_le' (a := (tEn U)) (b := k) c_1 (by omega) (by omega)
        refine lv_aload hx hb dX8_gives_351 (lv_at hl 1 rfl) ?_
        rw [hQ9, ← hado, ← hMo]
        have ek : k = tEn U := by omega
        rw [ek] at hq
        rw [← hq]
        exact f_aret X rfl (Or.inr ⟨_, rfl⟩) hw ⟨rfl, by show M 3403 = some (.inl (gI g, tEn V, .inl gi)); rw [eN]; exact hA3, hS, hrA, h34⟩ (by omega) (by omega) dX8_gives_353
      · have c_1 := nI_nle' (a := (tEn U)) (b := k) c_1 (by omega) (by omega)
        refine lv_iconst (v := (-1)) hx hb dX8_gives_28 (by decide) ?_
        refine lv_istore (lv' := [(6, .int (-1)), (5, .int (nI k)), (4, .ref (ad 3403)), (3, .ref (ad 3402)), (2, .ref (ad 3401)), (1, .int (nI (tEn U))), (0, .ref (ad 3000))]) hx hb dX8_gives_29 hl (by decide) rfl (fun ls hl => ?_)
        refine lv_iload_n hx hb dX8_gives_31 rfl (lv_at hl 5 rfl) ?_
        refine lv_iconst (v := 1) hx hb dX8_gives_32 (by decide) ?_
        refine lv_isub hx hb dX8_gives_33 ?_
        refine lv_istore (lv' := [(7, .int ((nI (tEn U)) - 1)), (6, .int (-1)), (5, .int (nI k)), (4, .ref (ad 3403)), (3, .ref (ad 3402)), (2, .ref (ad 3401)), (1, .int (nI (tEn U))), (0, .ref (ad 3000))]) hx hb dX8_gives_34 hl (by decide) rfl (fun ls hl => ?_)
        have loop36 : ∀ (r : Nat), r ≤ tEn U → ∀ (who : Int32), whoOk V dn r who → ∀ (ls : Array Slot) (H : Heap) (locs : List Loc), fw g ad M s H locs → lv_has ls 13 [(6, .int who), (7, .int (nI r - 1)), (5, .int (nI k)), (4, .ref (ad 3403)), (3, .ref (ad 3402)), (2, .ref (ad 3401)), (1, .int (nI (tEn U))), (0, .ref (ad 3000))] → W p l e (fR 3 70 3 18) s m args below meth c H locs (0 + 1 + 1 + 1) (0 + tEn U + tEn U + tEn U) Q9 (F0 m 36 ls []) := by
          intro r
          induction r with
          | zero =>
            intro hr_ who hwho ls H locs hw hl
            refine lv_iload hx hb dX8_gives_36 (lv_at hl 1 rfl) ?_
            refine lv_if_lt (tgt := 110) hx hb dX8_gives_38 (by decide) (fun c_2 => ?_) (fun c_2 => absurd (show nI 0 - 1 < 0 by decide) c_2)
            have hwn := whoOk_0 (co := co) (gi := gi) hwho
            have hNk := hN k (by omega)
            rw [← hq, ← hwn] at hNk
            obtain ⟨e0, he0, ew⟩ := hNk
            rw [ew] at hl hwn
            have hso : (sNxt (V, co, dn, gi)).toNatClampNeg = e0 := by rw [← hwn]; exact nI_clamp (by omega)
            refine lv_aload_n hx hb dX8_gives_110 rfl (lv_at hl 4 rfl) ?_
            refine lv_iload hx hb dX8_gives_111 (lv_at hl 0 rfl) ?_
            refine lv_iconst (v := 1) hx hb dX8_gives_113 (by decide) ?_
            refine f_zast X hw hA2 (vp_in_nI (n := e0) (by omega) (by omega)) dX8_gives_114 (fun H locs hw => ?_)
            rw [nI_clamp (n := e0) (by omega)] at hw
            have hw : fw g ad (fU M 3402 (.inl (gZ g, tEn U, .inl (upd dn e0 (1 &&& 1))))) s H locs := hw
            have hS0 : (fU M 3402 (.inl (gZ g, tEn U, .inl (upd dn e0 (1 &&& 1))))) 3000 = some (.inr (9, [.int (tM U), .ref (ad 3001), .ref (ad 3002), .ref (ad 3003)])) := (fU_n (by omega)).trans hS0
            have hSh : (fU M 3402 (.inl (gZ g, tEn U, .inl (upd dn e0 (1 &&& 1))))) 3001 = some (.inl (gY g, tHn U, .inr (.inr (.inr (.inr fHh))))) := (fU_n (by omega)).trans hSh
            have hSe : (fU M 3402 (.inl (gZ g, tEn U, .inl (upd dn e0 (1 &&& 1))))) 3002 = some (.inl (gW g, tEn U, .inr (.inr (.inr (.inr fEe))))) := (fU_n (by omega)).trans hSe
            have hSp : (fU M 3402 (.inl (gZ g, tEn U, .inl (upd dn e0 (1 &&& 1))))) 3003 = some (.inl (gQ g, tPn U, .inr (.inr (.inr (.inr fPp))))) := (fU_n (by omega)).trans hSp
            have hA1 : (fU M 3402 (.inl (gZ g, tEn U, .inl (upd dn e0 (1 &&& 1))))) 3401 = some (.inl (gI g, tEn U, .inl co)) := (fU_n (by omega)).trans hA1
            have hA3 : (fU M 3402 (.inl (gZ g, tEn U, .inl (upd dn e0 (1 &&& 1))))) 3403 = some (.inl (gI g, tEn U, .inl gi)) := (fU_n (by omega)).trans hA3
            have hA2 : (fU M 3402 (.inl (gZ g, tEn U, .inl (upd dn e0 (1 &&& 1))))) 3402 = some (.inl (gZ g, tEn U, .inl (upd dn e0 (1 &&& 1)))) := fU_s
            have hB3 : isSim g ad (fU M 3402 (.inl (gZ g, tEn U, .inl (upd dn e0 (1 &&& 1))))) V := isSim_eq hS (fun l a b => ⟨rfl, fU_n (by omega)⟩)
            refine lv_aload_n hx hb dX8_gives_115 rfl (lv_at hl 7 rfl) ?_
            refine f_get X hw hS0 fc9 2 (by decide) wq624 rfl (v := .ref (ad 3002)) rfl dX8_gives_116 ?_
            refine lv_iload hx hb dX8_gives_119 (lv_at hl 0 rfl) ?_
            refine f_aaldW X hw hSe (vp_in_nI (n := e0) (by omega) (by omega)) (q := ad (3300 + e0)) (by rw [nI_clamp (by omega)]; exact hSE e0 (by omega)) dX8_gives_121 ?_
            refine lv_astore (lv' := [(7, .ref (ad (3300 + e0))), (6, .int (nI e0)), (5, .int (nI k)), (4, .ref (ad 3403)), (3, .ref (ad 3402)), (2, .ref (ad 3401)), (1, .int (nI (tEn U))), (0, .ref (ad 3000))]) hx hb dX8_gives_122 hl (by decide) rfl (fun ls hl => ?_)
            refine lv_aload hx hb dX8_gives_124 (lv_at hl 0 rfl) ?_
            refine f_get X hw ((fU_n (by omega)).trans (hEs e0 (by omega))) fc7 7 (by decide) wq785 rfl (v := .int ((tE V e0) 7)) rfl dX8_gives_126 ?_
            refine lv_if_ge (tgt := 135) hx hb dX8_gives_129 (by decide) (fun c_4 => ?_) (fun c_4 => ?_)
            · refine lv_aload hx hb dX8_gives_135 (lv_at hl 0 rfl) ?_
              refine fk_di (fcV X hw (c_s_pumps l g ad (fU M 3402 (.inl (gZ g, tEn U, .inl (upd dn e0 (1 &&& 1))))) ((fU_n (by omega)).trans (hEs e0 (by omega)))) ((fU_n (by omega)).trans (hEs e0 (by omega))) rfl wq584 kVX6_pumps ⟨(Nat.le_of_ble_eq_true rfl), (Nat.le_of_ble_eq_true rfl)⟩ rfl hl.1 rfl (Nat.le_of_ble_eq_true rfl) dX8_gives_137 ⟨(by dsimp only [fR]; omega), (by dsimp only [fR]; omega)⟩) hw (fun H locs hw => ?_)
              refine lv_istore (lv' := [(8, .int (sPump (tE V e0))), (7, .ref (ad (3300 + e0))), (6, .int (nI e0)), (5, .int (nI k)), (4, .ref (ad 3403)), (3, .ref (ad 3402)), (2, .ref (ad 3401)), (1, .int (nI (tEn U))), (0, .ref (ad 3000))]) hx hb dX8_gives_140 hl (by decide) rfl (fun ls hl => ?_)
              refine lv_aload_n hx hb dX8_gives_142 rfl (lv_at hl 8 rfl) ?_
              refine lv_aload hx hb dX8_gives_143 (lv_at hl 1 rfl) ?_
              refine fk_di (fcV X hw (c_s_source l g ad (fU M 3402 (.inl (gZ g, tEn U, .inl (upd dn e0 (1 &&& 1))))) hB3 ((fU_n (by omega)).trans (hEs e0 (by omega)))) hS0 rfl wq588 kVX8_source ⟨(Nat.le_of_ble_eq_true rfl), (Nat.le_of_ble_eq_true rfl)⟩ rfl hl.1 rfl (Nat.le_of_ble_eq_true rfl) dX8_gives_145 ⟨(by dsimp only [fR]; omega), (by dsimp only [fR]; omega)⟩) hw (fun H locs hw => ?_)
              refine lv_istore (lv' := [(9, .int (sSrc V (tE V e0))), (8, .int (sPump (tE V e0))), (7, .ref (ad (3300 + e0))), (6, .int (nI e0)), (5, .int (nI k)), (4, .ref (ad 3403)), (3, .ref (ad 3402)), (2, .ref (ad 3401)), (1, .int (nI (tEn U))), (0, .ref (ad 3000))]) hx hb dX8_gives_148 hl (by decide) rfl (fun ls hl => ?_)
              have hhs : ¬ tE V e0 7 < 0 := Int32.not_lt.mpr c_4
              have rest188 : ∀ (sk : Int32), sSk (V, co, dn, gi) e0 = sk → (0 < sk → ∃ p0, p0 < tPn U ∧ sSrc V (tE V e0) = nI p0) → ∀ (ls : Array Slot) (H : Heap) (locs : List Loc), fw g ad (fU M 3402 (.inl (gZ g, tEn U, .inl (upd dn e0 (1 &&& 1))))) s H locs → lv_has ls 13 [(10, .int sk), (8, .int (sPump (tE V e0))), (9, .int (sSrc V (tE V e0))), (7, .ref (ad (3300 + e0))), (6, .int (nI e0)), (5, .int (nI k)), (4, .ref (ad 3403)), (3, .ref (ad 3402)), (2, .ref (ad 3401)), (1, .int (nI (tEn U))), (0, .ref (ad 3000))] → W p l e (fR 3 70 3 18) s m args below meth c H locs (0 + 1 + 1 + 1) (0 + tEn U + tEn U + tEn U) Q9 (F0 m 188 ls []) := by
                intro sk hsk hsp ls H locs hw hl
                refine lv_iload hx hb dX8_gives_188 (lv_at hl 0 rfl) ?_
                refine lv_if_le (tgt := 207) hx hb dX8_gives_190 (by decide) (fun c_5 => ?_) (fun c_5 => ?_)
                · have hvp : sVp (V, co, dn, gi) e0 = V := by unfold sVp; rw [hsk]; exact if_neg (Int32.not_lt.mpr c_5)
                  refine lv_aload hx hb dX8_gives_207 (lv_at hl 6 rfl) ?_
                  refine lv_iload hx hb dX8_gives_209 (lv_at hl 4 rfl) ?_
                  refine lv_iload hx hb dX8_gives_211 (lv_at hl 1 rfl) ?_
                  refine lv_aload_n hx hb dX8_gives_213 rfl (lv_at hl 8 rfl) ?_
                  refine lv_iload hx hb dX8_gives_214 (lv_at hl 4 rfl) ?_
                  refine f_iald X hw hA1 (vp_in_nI (n := e0) (by omega) (by omega)) dX8_gives_216 ?_
                  rw [nI_clamp (n := e0) (by omega)]
                  refine lv_iload hx hb dX8_gives_217 (lv_at hl 0 rfl) ?_
                  refine lv_iadd hx hb dX8_gives_219 ?_
                  refine va_mmin hx hb (X.2.2.1.trans hl.1.symm) X.2.2.2.1 (X.2.2.2.2.1 _ wq593) (X.2.2.2.2.1 _ wq287) (X.2.2.2.2.1 _ wq18) (X.2.2.2.2.1 _ wq288) (Nat.le_of_ble_eq_true rfl) (Nat.le_of_ble_eq_true rfl) (by dsimp only [fR]; omega) (by dsimp only [fR]; omega) dX8_gives_220 ?_
                  refine f_top (y := sGi (V, co, dn, gi) e0) (by unfold sGi; rw [hsk]; rfl) ?_
                  refine f_iast X hw hA3 (vp_in_nI (n := e0) (by omega) (by omega)) dX8_gives_223 (fun H locs hw => ?_)
                  rw [nI_clamp (n := e0) (by omega)] at hw
                  have hw : fw g ad (fU (fU M 3402 (.inl (gZ g, tEn U, .inl (upd dn e0 (1 &&& 1))))) 3403 (.inl (gI g, tEn U, .inl (upd gi e0 (sGi (V, co, dn, gi) e0))))) s H locs := hw
                  have hS0 : (fU (fU M 3402 (.inl (gZ g, tEn U, .inl (upd dn e0 (1 &&& 1))))) 3403 (.inl (gI g, tEn U, .inl (upd gi e0 (sGi (V, co, dn, gi) e0))))) 3000 = some (.inr (9, [.int (tM U), .ref (ad 3001), .ref (ad 3002), .ref (ad 3003)])) := (fU_n (by omega)).trans hS0
                  have hSh : (fU (fU M 3402 (.inl (gZ g, tEn U, .inl (upd dn e0 (1 &&& 1))))) 3403 (.inl (gI g, tEn U, .inl (upd gi e0 (sGi (V, co, dn, gi) e0))))) 3001 = some (.inl (gY g, tHn U, .inr (.inr (.inr (.inr fHh))))) := (fU_n (by omega)).trans hSh
                  have hSe : (fU (fU M 3402 (.inl (gZ g, tEn U, .inl (upd dn e0 (1 &&& 1))))) 3403 (.inl (gI g, tEn U, .inl (upd gi e0 (sGi (V, co, dn, gi) e0))))) 3002 = some (.inl (gW g, tEn U, .inr (.inr (.inr (.inr fEe))))) := (fU_n (by omega)).trans hSe
                  have hSp : (fU (fU M 3402 (.inl (gZ g, tEn U, .inl (upd dn e0 (1 &&& 1))))) 3403 (.inl (gI g, tEn U, .inl (upd gi e0 (sGi (V, co, dn, gi) e0))))) 3003 = some (.inl (gQ g, tPn U, .inr (.inr (.inr (.inr fPp))))) := (fU_n (by omega)).trans hSp
                  have hA1 : (fU (fU M 3402 (.inl (gZ g, tEn U, .inl (upd dn e0 (1 &&& 1))))) 3403 (.inl (gI g, tEn U, .inl (upd gi e0 (sGi (V, co, dn, gi) e0))))) 3401 = some (.inl (gI g, tEn U, .inl co)) := (fU_n (by omega)).trans hA1
                  have hA2 : (fU (fU M 3402 (.inl (gZ g, tEn U, .inl (upd dn e0 (1 &&& 1))))) 3403 (.inl (gI g, tEn U, .inl (upd gi e0 (sGi (V, co, dn, gi) e0))))) 3402 = some (.inl (gZ g, tEn U, .inl (upd dn e0 (1 &&& 1)))) := (fU_n (by omega)).trans hA2
                  have hA3 : (fU (fU M 3402 (.inl (gZ g, tEn U, .inl (upd dn e0 (1 &&& 1))))) 3403 (.inl (gI g, tEn U, .inl (upd gi e0 (sGi (V, co, dn, gi) e0))))) 3403 = some (.inl (gI g, tEn U, .inl (upd gi e0 (sGi (V, co, dn, gi) e0)))) := fU_s
                  have hB6 : isSim g ad (fU (fU M 3402 (.inl (gZ g, tEn U, .inl (upd dn e0 (1 &&& 1))))) 3403 (.inl (gI g, tEn U, .inl (upd gi e0 (sGi (V, co, dn, gi) e0))))) V := isSim_eq hB3 (fun l a b => ⟨rfl, fU_n (by omega)⟩)
                  refine lv_aload hx hb dX8_gives_224 (lv_at hl 3 rfl) ?_
                  refine f_get X hw ((fU_n (by omega)).trans ((fU_n (by omega)).trans (hEs e0 (by omega)))) fc7 7 (by decide) wq785 rfl (v := .int ((tE V e0) 7)) rfl dX8_gives_226 ?_
                  refine lv_bipush (v := 100) hx hb dX8_gives_229 (by decide) ?_
                  refine lv_icmp_ge (tgt := 250) hx hb dX8_gives_231 (by decide) (fun c_7 => ?_) (fun c_7 => ?_)
                  · obtain ⟨h0, hh0, eh0⟩ : ∃ h, h < tHn U ∧ tE V e0 7 = nI (100 + h) := by
                      rcases hZ e0 he0 with z | ⟨i, hi, ei⟩ | z
                      · exact absurd z hhs
                      · exact absurd (nI_le' (a := 100) (b := i) (by rw [← ei]; exact c_7) (by omega) (by omega)) (by omega)
                      · exact z
                    have eh1 : tE V e0 7 - 100 = nI h0 := by rw [eh0]; exact (pk_sub (a := 100 + h0) (b := 100) (by omega)).trans (by rw [Nat.add_sub_cancel_left])
                    refine lv_aload_n hx hb dX8_gives_250 rfl (lv_at hl 10 rfl) ?_
                    refine f_get X hw hS0 fc9 1 (by decide) wq622 rfl (v := .ref (ad 3001)) rfl dX8_gives_251 ?_
                    refine lv_aload hx hb dX8_gives_254 (lv_at hl 3 rfl) ?_
                    refine f_get X hw ((fU_n (by omega)).trans ((fU_n (by omega)).trans (hEs e0 (by omega)))) fc7 7 (by decide) wq785 rfl (v := .int ((tE V e0) 7)) rfl dX8_gives_256 ?_
                    refine lv_bipush (v := 100) hx hb dX8_gives_259 (by decide) ?_
                    refine lv_isub hx hb dX8_gives_261 ?_
                    refine f_top (y := nI h0) (eh1) ?_
                    refine f_aaldY X hw hSh (vp_in_nI (n := h0) (by omega) (by omega)) (q := ad (3100 + h0)) (by rw [nI_clamp (by omega)]; exact hSH h0 (by omega)) dX8_gives_262 ?_
                    refine f_get X hw ((fU_n (by omega)).trans ((fU_n (by omega)).trans (hHs h0 (by omega)))) fc8 0 (by decide) wq718 rfl (v := .int ((tH V h0) 0)) rfl dX8_gives_263 ?_
                    refine lv_istore (lv' := [(11, .int ((tH V h0) 0)), (10, .int sk), (8, .int (sPump (tE V e0))), (9, .int (sSrc V (tE V e0))), (7, .ref (ad (3300 + e0))), (6, .int (nI e0)), (5, .int (nI k)), (4, .ref (ad 3403)), (3, .ref (ad 3402)), (2, .ref (ad 3401)), (1, .int (nI (tEn U))), (0, .ref (ad 3000))]) hx hb dX8_gives_266 hl (by decide) rfl (fun ls hl => ?_)
                    refine lv_aload hx hb dX8_gives_268 (lv_at hl 7 rfl) ?_
                    refine lv_iload hx hb dX8_gives_270 (lv_at hl 5 rfl) ?_
                    refine f_iald X hw hA3 (vp_in_nI (n := e0) (by omega) (by omega)) dX8_gives_272 ?_
                    rw [nI_clamp (n := e0) (by omega)]
                    refine f_top (y := sGi (V, co, dn, gi) e0) upd_at ?_
                    refine lv_aload hx hb dX8_gives_273 (lv_at hl 4 rfl) ?_
                    refine f_get X hw ((fU_n (by omega)).trans ((fU_n (by omega)).trans (hEs e0 (by omega)))) fc7 0 (by decide) wq767 rfl (v := .int ((tE V e0) 0)) rfl dX8_gives_275 ?_
                    refine lv_iload hx hb dX8_gives_278 (lv_at hl 0 rfl) ?_
                    refine fk_di (fcS X hw (c_s_far l g ad (fU (fU M 3402 (.inl (gZ g, tEn U, .inl (upd dn e0 (1 &&& 1))))) 3403 (.inl (gI g, tEn U, .inl (upd gi e0 (sGi (V, co, dn, gi) e0))))) (tE V e0 0) ((tH V h0) 0)) wq594 kSX8_far ⟨(Nat.le_of_ble_eq_true rfl), (Nat.le_of_ble_eq_true rfl)⟩ rfl hl.1 rfl (Nat.le_of_ble_eq_true rfl) dX8_gives_280 ⟨(by dsimp only [fR]; omega), (by dsimp only [fR]; omega)⟩) hw (fun H locs hw => ?_)
                    refine lv_iconst (v := 2) hx hb dX8_gives_283 (by decide) ?_
                    refine lv_idiv hx hb dX8_gives_284 (by decide) ?_
                    refine lv_aload hx hb dX8_gives_285 (lv_at hl 7 rfl) ?_
                    refine lv_iload hx hb dX8_gives_287 (lv_at hl 5 rfl) ?_
                    refine f_iald X hw hA3 (vp_in_nI (n := e0) (by omega) (by omega)) dX8_gives_289 ?_
                    rw [nI_clamp (n := e0) (by omega)]
                    refine f_top (y := sGi (V, co, dn, gi) e0) upd_at ?_
                    refine lv_imul hx hb dX8_gives_290 ?_
                    refine lv_bipush (v := 10) hx hb dX8_gives_291 (by decide) ?_
                    refine lv_idiv hx hb dX8_gives_293 (by decide) ?_
                    refine lv_isub hx hb dX8_gives_294 ?_
                    refine f_top (y := sLf (sGi (V, co, dn, gi) e0) (tE V e0 0) ((tH V h0) 0)) rfl ?_
                    refine lv_istore (lv' := [(12, .int (sLf (sGi (V, co, dn, gi) e0) (tE V e0 0) ((tH V h0) 0))), (11, .int ((tH V h0) 0)), (10, .int sk), (8, .int (sPump (tE V e0))), (9, .int (sSrc V (tE V e0))), (7, .ref (ad (3300 + e0))), (6, .int (nI e0)), (5, .int (nI k)), (4, .ref (ad 3403)), (3, .ref (ad 3402)), (2, .ref (ad 3401)), (1, .int (nI (tEn U))), (0, .ref (ad 3000))]) hx hb dX8_gives_295 hl (by decide) rfl (fun ls hl => ?_)
                    refine lv_aload hx hb dX8_gives_297 (lv_at hl 5 rfl) ?_
                    refine f_get X hw ((fU_n (by omega)).trans ((fU_n (by omega)).trans (hEs e0 (by omega)))) fc7 7 (by decide) wq785 rfl (v := .int ((tE V e0) 7)) rfl dX8_gives_299 ?_
                    refine lv_bipush (v := 100) hx hb dX8_gives_302 (by decide) ?_
                    refine lv_icmp_ge (tgt := 322) hx hb dX8_gives_304 (by decide) (fun c_8 => ?_) (fun c_8 => absurd c_7 c_8)
                    refine lv_aload_n hx hb dX8_gives_322 rfl (lv_at hl 12 rfl) ?_
                    refine f_get X hw hS0 fc9 1 (by decide) wq622 rfl (v := .ref (ad 3001)) rfl dX8_gives_323 ?_
                    refine lv_aload hx hb dX8_gives_326 (lv_at hl 5 rfl) ?_
                    refine f_get X hw ((fU_n (by omega)).trans ((fU_n (by omega)).trans (hEs e0 (by omega)))) fc7 7 (by decide) wq785 rfl (v := .int ((tE V e0) 7)) rfl dX8_gives_328 ?_
                    refine lv_bipush (v := 100) hx hb dX8_gives_331 (by decide) ?_
                    refine lv_isub hx hb dX8_gives_333 ?_
                    refine f_top (y := nI h0) (eh1) ?_
                    refine f_aaldY X hw hSh (vp_in_nI (n := h0) (by omega) (by omega)) (q := ad (3100 + h0)) (by rw [nI_clamp (by omega)]; exact hSH h0 (by omega)) dX8_gives_334 ?_
                    refine lv_dup hx hb dX8_gives_335 rfl ?_
                    refine f_get X hw ((fU_n (by omega)).trans ((fU_n (by omega)).trans (hHs h0 (by omega)))) fc8 5 (by decide) wq726 rfl (v := .int ((tH V h0) 5)) rfl dX8_gives_336 ?_
                    refine lv_iload hx hb dX8_gives_339 (lv_at hl 0 rfl) ?_
                    refine lv_iadd hx hb dX8_gives_341 ?_
                    refine f_put X hw ((fU_n (by omega)).trans ((fU_n (by omega)).trans (hHs h0 (by omega)))) fc8 5 (by decide) wq726 rfl rfl (v := .int (((tH V h0) 5) + (sLf (sGi (V, co, dn, gi) e0) (tE V e0 0) ((tH V h0) 0)))) rfl rfl (Nat.le_of_ble_eq_true rfl) dX8_gives_342 (fun H locs hw => ?_)
                    have hw : fw g ad (fU (fU (fU M 3402 (.inl (gZ g, tEn U, .inl (upd dn e0 (1 &&& 1))))) 3403 (.inl (gI g, tEn U, .inl (upd gi e0 (sGi (V, co, dn, gi) e0))))) (3100 + h0) (.inr (8, hV (upd (tH V h0) 5 (tH V h0 5 + sLf (sGi (V, co, dn, gi) e0) (tE V e0 0) (tH V h0 0)))))) s H locs := hw
                    have hS0 : (fU (fU (fU M 3402 (.inl (gZ g, tEn U, .inl (upd dn e0 (1 &&& 1))))) 3403 (.inl (gI g, tEn U, .inl (upd gi e0 (sGi (V, co, dn, gi) e0))))) (3100 + h0) (.inr (8, hV (upd (tH V h0) 5 (tH V h0 5 + sLf (sGi (V, co, dn, gi) e0) (tE V e0 0) (tH V h0 0)))))) 3000 = some (.inr (9, [.int (tM U), .ref (ad 3001), .ref (ad 3002), .ref (ad 3003)])) := (fU_n (by omega)).trans hS0
                    have hSh : (fU (fU (fU M 3402 (.inl (gZ g, tEn U, .inl (upd dn e0 (1 &&& 1))))) 3403 (.inl (gI g, tEn U, .inl (upd gi e0 (sGi (V, co, dn, gi) e0))))) (3100 + h0) (.inr (8, hV (upd (tH V h0) 5 (tH V h0 5 + sLf (sGi (V, co, dn, gi) e0) (tE V e0 0) (tH V h0 0)))))) 3001 = some (.inl (gY g, tHn U, .inr (.inr (.inr (.inr fHh))))) := (fU_n (by omega)).trans hSh
                    have hSe : (fU (fU (fU M 3402 (.inl (gZ g, tEn U, .inl (upd dn e0 (1 &&& 1))))) 3403 (.inl (gI g, tEn U, .inl (upd gi e0 (sGi (V, co, dn, gi) e0))))) (3100 + h0) (.inr (8, hV (upd (tH V h0) 5 (tH V h0 5 + sLf (sGi (V, co, dn, gi) e0) (tE V e0 0) (tH V h0 0)))))) 3002 = some (.inl (gW g, tEn U, .inr (.inr (.inr (.inr fEe))))) := (fU_n (by omega)).trans hSe
                    have hSp : (fU (fU (fU M 3402 (.inl (gZ g, tEn U, .inl (upd dn e0 (1 &&& 1))))) 3403 (.inl (gI g, tEn U, .inl (upd gi e0 (sGi (V, co, dn, gi) e0))))) (3100 + h0) (.inr (8, hV (upd (tH V h0) 5 (tH V h0 5 + sLf (sGi (V, co, dn, gi) e0) (tE V e0 0) (tH V h0 0)))))) 3003 = some (.inl (gQ g, tPn U, .inr (.inr (.inr (.inr fPp))))) := (fU_n (by omega)).trans hSp
                    have hA1 : (fU (fU (fU M 3402 (.inl (gZ g, tEn U, .inl (upd dn e0 (1 &&& 1))))) 3403 (.inl (gI g, tEn U, .inl (upd gi e0 (sGi (V, co, dn, gi) e0))))) (3100 + h0) (.inr (8, hV (upd (tH V h0) 5 (tH V h0 5 + sLf (sGi (V, co, dn, gi) e0) (tE V e0 0) (tH V h0 0)))))) 3401 = some (.inl (gI g, tEn U, .inl co)) := (fU_n (by omega)).trans hA1
                    have hA2 : (fU (fU (fU M 3402 (.inl (gZ g, tEn U, .inl (upd dn e0 (1 &&& 1))))) 3403 (.inl (gI g, tEn U, .inl (upd gi e0 (sGi (V, co, dn, gi) e0))))) (3100 + h0) (.inr (8, hV (upd (tH V h0) 5 (tH V h0 5 + sLf (sGi (V, co, dn, gi) e0) (tE V e0 0) (tH V h0 0)))))) 3402 = some (.inl (gZ g, tEn U, .inl (upd dn e0 (1 &&& 1)))) := (fU_n (by omega)).trans hA2
                    have hA3 : (fU (fU (fU M 3402 (.inl (gZ g, tEn U, .inl (upd dn e0 (1 &&& 1))))) 3403 (.inl (gI g, tEn U, .inl (upd gi e0 (sGi (V, co, dn, gi) e0))))) (3100 + h0) (.inr (8, hV (upd (tH V h0) 5 (tH V h0 5 + sLf (sGi (V, co, dn, gi) e0) (tE V e0 0) (tH V h0 0)))))) 3403 = some (.inl (gI g, tEn U, .inl (upd gi e0 (sGi (V, co, dn, gi) e0)))) := (fU_n (by omega)).trans hA3
                    have hM_3100___h0 : (fU (fU (fU M 3402 (.inl (gZ g, tEn U, .inl (upd dn e0 (1 &&& 1))))) 3403 (.inl (gI g, tEn U, .inl (upd gi e0 (sGi (V, co, dn, gi) e0))))) (3100 + h0) (.inr (8, hV (upd (tH V h0) 5 (tH V h0 5 + sLf (sGi (V, co, dn, gi) e0) (tE V e0 0) (tH V h0 0)))))) (3100 + h0) = some (.inr (8, hV (upd (tH V h0) 5 (tH V h0 5 + sLf (sGi (V, co, dn, gi) e0) (tE V e0 0) (tH V h0 0))))) := fU_s
                    have hB9 : isSim g ad (fU (fU (fU M 3402 (.inl (gZ g, tEn U, .inl (upd dn e0 (1 &&& 1))))) 3403 (.inl (gI g, tEn U, .inl (upd gi e0 (sGi (V, co, dn, gi) e0))))) (3100 + h0) (.inr (8, hV (upd (tH V h0) 5 (tH V h0 5 + sLf (sGi (V, co, dn, gi) e0) (tE V e0 0) (tH V h0 0)))))) (sH V h0 (upd (tH V h0) 5 (tH V h0 5 + sLf (sGi (V, co, dn, gi) e0) (tE V e0 0) (tH V h0 0)))) := isSim_H hB6 (by show h0 < tHn V; omega)
                    refine lv_iinc (v := nI (k + 1)) (lv' := [(5, .int (nI (k + 1))), (12, .int (sLf (sGi (V, co, dn, gi) e0) (tE V e0 0) ((tH V h0) 0))), (11, .int ((tH V h0) 0)), (10, .int sk), (8, .int (sPump (tE V e0))), (9, .int (sSrc V (tE V e0))), (7, .ref (ad (3300 + e0))), (6, .int (nI e0)), (4, .ref (ad 3403)), (3, .ref (ad 3402)), (2, .ref (ad 3401)), (1, .int (nI (tEn U))), (0, .ref (ad 3000))]) hx hb dX8_gives_345 hl (k := 7) rfl (nI_1 k) (by decide) rfl (fun ls hl => ?_)
                    refine lv_goto (tgt := 22) hx hb dX8_gives_348 (by decide) ?_
                    have hq2 : (sH V h0 (upd (tH V h0) 5 (tH V h0 5 + sLf (sGi (V, co, dn, gi) e0) (tE V e0 0) (tH V h0 0))), co, upd dn e0 (1 &&& 1), upd gi e0 (sGi (V, co, dn, gi) e0)) = sTurns (q0 U) (k + 1) := by show _ = sTurn (sTurns (q0 U) k) (sNxt (sTurns (q0 U) k)).toNatClampNeg; rw [← hq, hso]; refine Eq.trans ?_ ((if_neg hhs).trans (if_neg (Int32.not_lt.mpr c_7))).symm; show _ = (sH (sVp (V, co, dn, gi) e0) (tE V e0 7 - 100).toNatClampNeg (upd (tH V (tE V e0 7 - 100).toNatClampNeg) 5 (tH V (tE V e0 7 - 100).toNatClampNeg 5 + sLf (sGi (V, co, dn, gi) e0) (tE V e0 0) (tH V (tE V e0 7 - 100).toNatClampNeg 0))), co, upd dn e0 (1 &&& 1), upd gi e0 (sGi (V, co, dn, gi) e0)); rw [hvp, eh1, nI_clamp (n := h0) (by omega)]
                    have hrA2 : fReg 3000 3420 ado Mo ad (fU (fU (fU M 3402 (.inl (gZ g, tEn U, .inl (upd dn e0 (1 &&& 1))))) 3403 (.inl (gI g, tEn U, .inl (upd gi e0 (sGi (V, co, dn, gi) e0))))) (3100 + h0) (.inr (8, hV (upd (tH V h0) 5 (tH V h0 5 + sLf (sGi (V, co, dn, gi) e0) (tE V e0 0) (tH V h0 0)))))) := fReg_U (fReg_U (fReg_U (hrA) (by omega)) (by omega)) (by omega)
                    exact ih (k + 1) (by omega) (by omega) ad _ _ _ _ _ hq2 hB9 hA1 hA2 hA3 hrA2 h34 ls _ _ hw (lv_sub hl [0, 8, 9, 10, 11, 12] rfl)
                  · obtain ⟨i0, hi0, ei0⟩ : ∃ i, i < tEn U ∧ tE V e0 7 = nI i := by
                      rcases hZ e0 he0 with z | z | ⟨h, hh, eh⟩
                      · exact absurd z hhs
                      · exact z
                      · exact absurd (by rw [eh]; exact nI_le (a := 100) (b := 100 + h) (by omega) (by omega)) c_7
                    refine lv_aload_n hx hb dX8_gives_234 rfl (lv_at hl 10 rfl) ?_
                    refine f_get X hw hS0 fc9 2 (by decide) wq624 rfl (v := .ref (ad 3002)) rfl dX8_gives_235 ?_
                    refine lv_aload hx hb dX8_gives_238 (lv_at hl 3 rfl) ?_
                    refine f_get X hw ((fU_n (by omega)).trans ((fU_n (by omega)).trans (hEs e0 (by omega)))) fc7 7 (by decide) wq785 rfl (v := .int ((tE V e0) 7)) rfl dX8_gives_240 ?_
                    refine f_top (y := nI i0) (ei0) ?_
                    refine f_aaldW X hw hSe (vp_in_nI (n := i0) (by omega) (by omega)) (q := ad (3300 + i0)) (by rw [nI_clamp (by omega)]; exact hSE i0 (by omega)) dX8_gives_243 ?_
                    refine f_get X hw ((fU_n (by omega)).trans ((fU_n (by omega)).trans (hEs i0 (by omega)))) fc7 0 (by decide) wq767 rfl (v := .int ((tE V i0) 0)) rfl dX8_gives_244 ?_
                    refine lv_goto (tgt := 266) hx hb dX8_gives_247 (by decide) ?_
                    refine lv_istore (lv' := [(11, .int ((tE V i0) 0)), (10, .int sk), (8, .int (sPump (tE V e0))), (9, .int (sSrc V (tE V e0))), (7, .ref (ad (3300 + e0))), (6, .int (nI e0)), (5, .int (nI k)), (4, .ref (ad 3403)), (3, .ref (ad 3402)), (2, .ref (ad 3401)), (1, .int (nI (tEn U))), (0, .ref (ad 3000))]) hx hb dX8_gives_266 hl (by decide) rfl (fun ls hl => ?_)
                    refine lv_aload hx hb dX8_gives_268 (lv_at hl 7 rfl) ?_
                    refine lv_iload hx hb dX8_gives_270 (lv_at hl 5 rfl) ?_
                    refine f_iald X hw hA3 (vp_in_nI (n := e0) (by omega) (by omega)) dX8_gives_272 ?_
                    rw [nI_clamp (n := e0) (by omega)]
                    refine f_top (y := sGi (V, co, dn, gi) e0) upd_at ?_
                    refine lv_aload hx hb dX8_gives_273 (lv_at hl 4 rfl) ?_
                    refine f_get X hw ((fU_n (by omega)).trans ((fU_n (by omega)).trans (hEs e0 (by omega)))) fc7 0 (by decide) wq767 rfl (v := .int ((tE V e0) 0)) rfl dX8_gives_275 ?_
                    refine lv_iload hx hb dX8_gives_278 (lv_at hl 0 rfl) ?_
                    refine fk_di (fcS X hw (c_s_far l g ad (fU (fU M 3402 (.inl (gZ g, tEn U, .inl (upd dn e0 (1 &&& 1))))) 3403 (.inl (gI g, tEn U, .inl (upd gi e0 (sGi (V, co, dn, gi) e0))))) (tE V e0 0) ((tE V i0) 0)) wq594 kSX8_far ⟨(Nat.le_of_ble_eq_true rfl), (Nat.le_of_ble_eq_true rfl)⟩ rfl hl.1 rfl (Nat.le_of_ble_eq_true rfl) dX8_gives_280 ⟨(by dsimp only [fR]; omega), (by dsimp only [fR]; omega)⟩) hw (fun H locs hw => ?_)
                    refine lv_iconst (v := 2) hx hb dX8_gives_283 (by decide) ?_
                    refine lv_idiv hx hb dX8_gives_284 (by decide) ?_
                    refine lv_aload hx hb dX8_gives_285 (lv_at hl 7 rfl) ?_
                    refine lv_iload hx hb dX8_gives_287 (lv_at hl 5 rfl) ?_
                    refine f_iald X hw hA3 (vp_in_nI (n := e0) (by omega) (by omega)) dX8_gives_289 ?_
                    rw [nI_clamp (n := e0) (by omega)]
                    refine f_top (y := sGi (V, co, dn, gi) e0) upd_at ?_
                    refine lv_imul hx hb dX8_gives_290 ?_
                    refine lv_bipush (v := 10) hx hb dX8_gives_291 (by decide) ?_
                    refine lv_idiv hx hb dX8_gives_293 (by decide) ?_
                    refine lv_isub hx hb dX8_gives_294 ?_
                    refine f_top (y := sLf (sGi (V, co, dn, gi) e0) (tE V e0 0) ((tE V i0) 0)) rfl ?_
                    refine lv_istore (lv' := [(12, .int (sLf (sGi (V, co, dn, gi) e0) (tE V e0 0) ((tE V i0) 0))), (11, .int ((tE V i0) 0)), (10, .int sk), (8, .int (sPump (tE V e0))), (9, .int (sSrc V (tE V e0))), (7, .ref (ad (3300 + e0))), (6, .int (nI e0)), (5, .int (nI k)), (4, .ref (ad 3403)), (3, .ref (ad 3402)), (2, .ref (ad 3401)), (1, .int (nI (tEn U))), (0, .ref (ad 3000))]) hx hb dX8_gives_295 hl (by decide) rfl (fun ls hl => ?_)
                    refine lv_aload hx hb dX8_gives_297 (lv_at hl 5 rfl) ?_
                    refine f_get X hw ((fU_n (by omega)).trans ((fU_n (by omega)).trans (hEs e0 (by omega)))) fc7 7 (by decide) wq785 rfl (v := .int ((tE V e0) 7)) rfl dX8_gives_299 ?_
                    refine lv_bipush (v := 100) hx hb dX8_gives_302 (by decide) ?_
                    refine lv_icmp_ge (tgt := 322) hx hb dX8_gives_304 (by decide) (fun c_10 => absurd c_10 c_7) (fun c_10 => ?_)
                    refine lv_aload_n hx hb dX8_gives_307 rfl (lv_at hl 10 rfl) ?_
                    refine lv_aload hx hb dX8_gives_308 (lv_at hl 5 rfl) ?_
                    refine f_get X hw ((fU_n (by omega)).trans ((fU_n (by omega)).trans (hEs e0 (by omega)))) fc7 7 (by decide) wq785 rfl (v := .int ((tE V e0) 7)) rfl dX8_gives_310 ?_
                    refine f_top (y := nI i0) ei0 ?_
                    refine lv_dup2_11 hx hb dX8_gives_313 rfl rfl ?_
                    refine f_iald X hw hA1 (vp_in_nI (n := i0) (by omega) (by omega)) dX8_gives_314 ?_
                    rw [nI_clamp (n := i0) (by omega)]
                    refine lv_iload hx hb dX8_gives_315 (lv_at hl 0 rfl) ?_
                    refine lv_iadd hx hb dX8_gives_317 ?_
                    refine f_iast X hw hA1 (vp_in_nI (n := i0) (by omega) (by omega)) dX8_gives_318 (fun H locs hw => ?_)
                    rw [nI_clamp (n := i0) (by omega)] at hw
                    have hw : fw g ad (fU (fU (fU M 3402 (.inl (gZ g, tEn U, .inl (upd dn e0 (1 &&& 1))))) 3403 (.inl (gI g, tEn U, .inl (upd gi e0 (sGi (V, co, dn, gi) e0))))) 3401 (.inl (gI g, tEn U, .inl (upd co i0 ((co i0) + (sLf (sGi (V, co, dn, gi) e0) (tE V e0 0) ((tE V i0) 0))))))) s H locs := hw
                    have hS0 : (fU (fU (fU M 3402 (.inl (gZ g, tEn U, .inl (upd dn e0 (1 &&& 1))))) 3403 (.inl (gI g, tEn U, .inl (upd gi e0 (sGi (V, co, dn, gi) e0))))) 3401 (.inl (gI g, tEn U, .inl (upd co i0 ((co i0) + (sLf (sGi (V, co, dn, gi) e0) (tE V e0 0) ((tE V i0) 0))))))) 3000 = some (.inr (9, [.int (tM U), .ref (ad 3001), .ref (ad 3002), .ref (ad 3003)])) := (fU_n (by omega)).trans hS0
                    have hSh : (fU (fU (fU M 3402 (.inl (gZ g, tEn U, .inl (upd dn e0 (1 &&& 1))))) 3403 (.inl (gI g, tEn U, .inl (upd gi e0 (sGi (V, co, dn, gi) e0))))) 3401 (.inl (gI g, tEn U, .inl (upd co i0 ((co i0) + (sLf (sGi (V, co, dn, gi) e0) (tE V e0 0) ((tE V i0) 0))))))) 3001 = some (.inl (gY g, tHn U, .inr (.inr (.inr (.inr fHh))))) := (fU_n (by omega)).trans hSh
                    have hSe : (fU (fU (fU M 3402 (.inl (gZ g, tEn U, .inl (upd dn e0 (1 &&& 1))))) 3403 (.inl (gI g, tEn U, .inl (upd gi e0 (sGi (V, co, dn, gi) e0))))) 3401 (.inl (gI g, tEn U, .inl (upd co i0 ((co i0) + (sLf (sGi (V, co, dn, gi) e0) (tE V e0 0) ((tE V i0) 0))))))) 3002 = some (.inl (gW g, tEn U, .inr (.inr (.inr (.inr fEe))))) := (fU_n (by omega)).trans hSe
                    have hSp : (fU (fU (fU M 3402 (.inl (gZ g, tEn U, .inl (upd dn e0 (1 &&& 1))))) 3403 (.inl (gI g, tEn U, .inl (upd gi e0 (sGi (V, co, dn, gi) e0))))) 3401 (.inl (gI g, tEn U, .inl (upd co i0 ((co i0) + (sLf (sGi (V, co, dn, gi) e0) (tE V e0 0) ((tE V i0) 0))))))) 3003 = some (.inl (gQ g, tPn U, .inr (.inr (.inr (.inr fPp))))) := (fU_n (by omega)).trans hSp
                    have hA2 : (fU (fU (fU M 3402 (.inl (gZ g, tEn U, .inl (upd dn e0 (1 &&& 1))))) 3403 (.inl (gI g, tEn U, .inl (upd gi e0 (sGi (V, co, dn, gi) e0))))) 3401 (.inl (gI g, tEn U, .inl (upd co i0 ((co i0) + (sLf (sGi (V, co, dn, gi) e0) (tE V e0 0) ((tE V i0) 0))))))) 3402 = some (.inl (gZ g, tEn U, .inl (upd dn e0 (1 &&& 1)))) := (fU_n (by omega)).trans hA2
                    have hA3 : (fU (fU (fU M 3402 (.inl (gZ g, tEn U, .inl (upd dn e0 (1 &&& 1))))) 3403 (.inl (gI g, tEn U, .inl (upd gi e0 (sGi (V, co, dn, gi) e0))))) 3401 (.inl (gI g, tEn U, .inl (upd co i0 ((co i0) + (sLf (sGi (V, co, dn, gi) e0) (tE V e0 0) ((tE V i0) 0))))))) 3403 = some (.inl (gI g, tEn U, .inl (upd gi e0 (sGi (V, co, dn, gi) e0)))) := (fU_n (by omega)).trans hA3
                    have hA1 : (fU (fU (fU M 3402 (.inl (gZ g, tEn U, .inl (upd dn e0 (1 &&& 1))))) 3403 (.inl (gI g, tEn U, .inl (upd gi e0 (sGi (V, co, dn, gi) e0))))) 3401 (.inl (gI g, tEn U, .inl (upd co i0 ((co i0) + (sLf (sGi (V, co, dn, gi) e0) (tE V e0 0) ((tE V i0) 0))))))) 3401 = some (.inl (gI g, tEn U, .inl (upd co i0 ((co i0) + (sLf (sGi (V, co, dn, gi) e0) (tE V e0 0) ((tE V i0) 0)))))) := fU_s
                    have hB11 : isSim g ad (fU (fU (fU M 3402 (.inl (gZ g, tEn U, .inl (upd dn e0 (1 &&& 1))))) 3403 (.inl (gI g, tEn U, .inl (upd gi e0 (sGi (V, co, dn, gi) e0))))) 3401 (.inl (gI g, tEn U, .inl (upd co i0 ((co i0) + (sLf (sGi (V, co, dn, gi) e0) (tE V e0 0) ((tE V i0) 0))))))) V := isSim_eq hB6 (fun l a b => ⟨rfl, fU_n (by omega)⟩)
                    refine lv_goto (tgt := 345) hx hb dX8_gives_319 (by decide) ?_
                    refine lv_iinc (v := nI (k + 1)) (lv' := [(5, .int (nI (k + 1))), (12, .int (sLf (sGi (V, co, dn, gi) e0) (tE V e0 0) ((tE V i0) 0))), (11, .int ((tE V i0) 0)), (10, .int sk), (8, .int (sPump (tE V e0))), (9, .int (sSrc V (tE V e0))), (7, .ref (ad (3300 + e0))), (6, .int (nI e0)), (4, .ref (ad 3403)), (3, .ref (ad 3402)), (2, .ref (ad 3401)), (1, .int (nI (tEn U))), (0, .ref (ad 3000))]) hx hb dX8_gives_345 hl (k := 7) rfl (nI_1 k) (by decide) rfl (fun ls hl => ?_)
                    refine lv_goto (tgt := 22) hx hb dX8_gives_348 (by decide) ?_
                    have hq2 : (V, upd co i0 ((co i0) + (sLf (sGi (V, co, dn, gi) e0) (tE V e0 0) ((tE V i0) 0))), upd dn e0 (1 &&& 1), upd gi e0 (sGi (V, co, dn, gi) e0)) = sTurns (q0 U) (k + 1) := by show _ = sTurn (sTurns (q0 U) k) (sNxt (sTurns (q0 U) k)).toNatClampNeg; rw [← hq, hso]; refine Eq.trans ?_ ((if_neg hhs).trans (if_pos (Int32.not_le.mp c_7))).symm; show _ = (sVp (V, co, dn, gi) e0, upd co (tE V e0 7).toNatClampNeg (co (tE V e0 7).toNatClampNeg + sLf (sGi (V, co, dn, gi) e0) (tE V e0 0) (tE V (tE V e0 7).toNatClampNeg 0)), upd dn e0 (1 &&& 1), upd gi e0 (sGi (V, co, dn, gi) e0)); rw [hvp, ei0, nI_clamp (n := i0) (by omega)]
                    have hrA2 : fReg 3000 3420 ado Mo ad (fU (fU (fU M 3402 (.inl (gZ g, tEn U, .inl (upd dn e0 (1 &&& 1))))) 3403 (.inl (gI g, tEn U, .inl (upd gi e0 (sGi (V, co, dn, gi) e0))))) 3401 (.inl (gI g, tEn U, .inl (upd co i0 ((co i0) + (sLf (sGi (V, co, dn, gi) e0) (tE V e0 0) ((tE V i0) 0))))))) := fReg_U (fReg_U (fReg_U (hrA) (by omega)) (by omega)) (by omega)
                    exact ih (k + 1) (by omega) (by omega) ad _ _ _ _ _ hq2 hB11 hA1 hA2 hA3 hrA2 h34 ls _ _ hw (lv_sub hl [0, 8, 9, 10, 11, 12] rfl)
                · obtain ⟨p0, hp0, ep0⟩ := hsp (Int32.not_le.mp c_5)
                  refine lv_aload_n hx hb dX8_gives_193 rfl (lv_at hl 10 rfl) ?_
                  refine f_get X hw hS0 fc9 3 (by decide) wq626 rfl (v := .ref (ad 3003)) rfl dX8_gives_194 ?_
                  refine lv_iload hx hb dX8_gives_197 (lv_at hl 2 rfl) ?_
                  refine f_top (y := nI p0) (ep0) ?_
                  refine f_aaldQ X hw hSp (vp_in_nI (n := p0) (by omega) (by omega)) (q := ad (3200 + p0)) (by rw [nI_clamp (by omega)]; exact hSP p0 (by omega)) dX8_gives_199 ?_
                  refine lv_iconst (v := 1) hx hb dX8_gives_200 (by decide) ?_
                  refine lv_dup2_11 hx hb dX8_gives_201 rfl rfl ?_
                  refine f_iald X hw ((fU_n (by omega)).trans (hPs p0 (by omega))) (by unfold vp_in; decide) dX8_gives_202 ?_
                  rw [show (1 : Int32).toNatClampNeg = 1 from rfl]
                  refine lv_iload hx hb dX8_gives_203 (lv_at hl 0 rfl) ?_
                  refine lv_isub hx hb dX8_gives_205 ?_
                  refine f_iast X hw ((fU_n (by omega)).trans (hPs p0 (by omega))) (by unfold vp_in; decide) dX8_gives_206 (fun H locs hw => ?_)
                  rw [show (1 : Int32).toNatClampNeg = 1 from rfl] at hw
                  have hw : fw g ad (fU (fU M 3402 (.inl (gZ g, tEn U, .inl (upd dn e0 (1 &&& 1))))) (3200 + p0) (.inl (gI g, 2, .inl (upd (tP V p0) 1 (((tP V p0) 1) - sk))))) s H locs := hw
                  have hS0 : (fU (fU M 3402 (.inl (gZ g, tEn U, .inl (upd dn e0 (1 &&& 1))))) (3200 + p0) (.inl (gI g, 2, .inl (upd (tP V p0) 1 (((tP V p0) 1) - sk))))) 3000 = some (.inr (9, [.int (tM U), .ref (ad 3001), .ref (ad 3002), .ref (ad 3003)])) := (fU_n (by omega)).trans hS0
                  have hSh : (fU (fU M 3402 (.inl (gZ g, tEn U, .inl (upd dn e0 (1 &&& 1))))) (3200 + p0) (.inl (gI g, 2, .inl (upd (tP V p0) 1 (((tP V p0) 1) - sk))))) 3001 = some (.inl (gY g, tHn U, .inr (.inr (.inr (.inr fHh))))) := (fU_n (by omega)).trans hSh
                  have hSe : (fU (fU M 3402 (.inl (gZ g, tEn U, .inl (upd dn e0 (1 &&& 1))))) (3200 + p0) (.inl (gI g, 2, .inl (upd (tP V p0) 1 (((tP V p0) 1) - sk))))) 3002 = some (.inl (gW g, tEn U, .inr (.inr (.inr (.inr fEe))))) := (fU_n (by omega)).trans hSe
                  have hSp : (fU (fU M 3402 (.inl (gZ g, tEn U, .inl (upd dn e0 (1 &&& 1))))) (3200 + p0) (.inl (gI g, 2, .inl (upd (tP V p0) 1 (((tP V p0) 1) - sk))))) 3003 = some (.inl (gQ g, tPn U, .inr (.inr (.inr (.inr fPp))))) := (fU_n (by omega)).trans hSp
                  have hA1 : (fU (fU M 3402 (.inl (gZ g, tEn U, .inl (upd dn e0 (1 &&& 1))))) (3200 + p0) (.inl (gI g, 2, .inl (upd (tP V p0) 1 (((tP V p0) 1) - sk))))) 3401 = some (.inl (gI g, tEn U, .inl co)) := (fU_n (by omega)).trans hA1
                  have hA2 : (fU (fU M 3402 (.inl (gZ g, tEn U, .inl (upd dn e0 (1 &&& 1))))) (3200 + p0) (.inl (gI g, 2, .inl (upd (tP V p0) 1 (((tP V p0) 1) - sk))))) 3402 = some (.inl (gZ g, tEn U, .inl (upd dn e0 (1 &&& 1)))) := (fU_n (by omega)).trans hA2
                  have hA3 : (fU (fU M 3402 (.inl (gZ g, tEn U, .inl (upd dn e0 (1 &&& 1))))) (3200 + p0) (.inl (gI g, 2, .inl (upd (tP V p0) 1 (((tP V p0) 1) - sk))))) 3403 = some (.inl (gI g, tEn U, .inl gi)) := (fU_n (by omega)).trans hA3
                  have hM_3200___p0 : (fU (fU M 3402 (.inl (gZ g, tEn U, .inl (upd dn e0 (1 &&& 1))))) (3200 + p0) (.inl (gI g, 2, .inl (upd (tP V p0) 1 (((tP V p0) 1) - sk))))) (3200 + p0) = some (.inl (gI g, 2, .inl (upd (tP V p0) 1 (((tP V p0) 1) - sk)))) := fU_s
                  have hB12 : isSim g ad (fU (fU M 3402 (.inl (gZ g, tEn U, .inl (upd dn e0 (1 &&& 1))))) (3200 + p0) (.inl (gI g, 2, .inl (upd (tP V p0) 1 (((tP V p0) 1) - sk))))) (sP V p0 (upd (tP V p0) 1 (tP V p0 1 - sk))) := isSim_P hB3 (by show p0 < tPn V; omega)
                  have hvp : sVp (V, co, dn, gi) e0 = sP V p0 (upd (tP V p0) 1 (tP V p0 1 - sk)) := by unfold sVp; rw [hsk]; refine (if_pos (Int32.not_le.mp c_5)).trans ?_; show sP V (sSrc V (tE V e0)).toNatClampNeg _ = _; rw [ep0, nI_clamp (by omega)]
                  refine lv_aload hx hb dX8_gives_207 (lv_at hl 6 rfl) ?_
                  refine lv_iload hx hb dX8_gives_209 (lv_at hl 4 rfl) ?_
                  refine lv_iload hx hb dX8_gives_211 (lv_at hl 1 rfl) ?_
                  refine lv_aload_n hx hb dX8_gives_213 rfl (lv_at hl 8 rfl) ?_
                  refine lv_iload hx hb dX8_gives_214 (lv_at hl 4 rfl) ?_
                  refine f_iald X hw hA1 (vp_in_nI (n := e0) (by omega) (by omega)) dX8_gives_216 ?_
                  rw [nI_clamp (n := e0) (by omega)]
                  refine lv_iload hx hb dX8_gives_217 (lv_at hl 0 rfl) ?_
                  refine lv_iadd hx hb dX8_gives_219 ?_
                  refine va_mmin hx hb (X.2.2.1.trans hl.1.symm) X.2.2.2.1 (X.2.2.2.2.1 _ wq593) (X.2.2.2.2.1 _ wq287) (X.2.2.2.2.1 _ wq18) (X.2.2.2.2.1 _ wq288) (Nat.le_of_ble_eq_true rfl) (Nat.le_of_ble_eq_true rfl) (by dsimp only [fR]; omega) (by dsimp only [fR]; omega) dX8_gives_220 ?_
                  refine f_top (y := sGi (V, co, dn, gi) e0) (by unfold sGi; rw [hsk]; rfl) ?_
                  refine f_iast X hw hA3 (vp_in_nI (n := e0) (by omega) (by omega)) dX8_gives_223 (fun H locs hw => ?_)
                  rw [nI_clamp (n := e0) (by omega)] at hw
                  have hw : fw g ad (fU (fU (fU M 3402 (.inl (gZ g, tEn U, .inl (upd dn e0 (1 &&& 1))))) (3200 + p0) (.inl (gI g, 2, .inl (upd (tP V p0) 1 (((tP V p0) 1) - sk))))) 3403 (.inl (gI g, tEn U, .inl (upd gi e0 (sGi (V, co, dn, gi) e0))))) s H locs := hw
                  have hS0 : (fU (fU (fU M 3402 (.inl (gZ g, tEn U, .inl (upd dn e0 (1 &&& 1))))) (3200 + p0) (.inl (gI g, 2, .inl (upd (tP V p0) 1 (((tP V p0) 1) - sk))))) 3403 (.inl (gI g, tEn U, .inl (upd gi e0 (sGi (V, co, dn, gi) e0))))) 3000 = some (.inr (9, [.int (tM U), .ref (ad 3001), .ref (ad 3002), .ref (ad 3003)])) := (fU_n (by omega)).trans hS0
                  have hSh : (fU (fU (fU M 3402 (.inl (gZ g, tEn U, .inl (upd dn e0 (1 &&& 1))))) (3200 + p0) (.inl (gI g, 2, .inl (upd (tP V p0) 1 (((tP V p0) 1) - sk))))) 3403 (.inl (gI g, tEn U, .inl (upd gi e0 (sGi (V, co, dn, gi) e0))))) 3001 = some (.inl (gY g, tHn U, .inr (.inr (.inr (.inr fHh))))) := (fU_n (by omega)).trans hSh
                  have hSe : (fU (fU (fU M 3402 (.inl (gZ g, tEn U, .inl (upd dn e0 (1 &&& 1))))) (3200 + p0) (.inl (gI g, 2, .inl (upd (tP V p0) 1 (((tP V p0) 1) - sk))))) 3403 (.inl (gI g, tEn U, .inl (upd gi e0 (sGi (V, co, dn, gi) e0))))) 3002 = some (.inl (gW g, tEn U, .inr (.inr (.inr (.inr fEe))))) := (fU_n (by omega)).trans hSe
                  have hSp : (fU (fU (fU M 3402 (.inl (gZ g, tEn U, .inl (upd dn e0 (1 &&& 1))))) (3200 + p0) (.inl (gI g, 2, .inl (upd (tP V p0) 1 (((tP V p0) 1) - sk))))) 3403 (.inl (gI g, tEn U, .inl (upd gi e0 (sGi (V, co, dn, gi) e0))))) 3003 = some (.inl (gQ g, tPn U, .inr (.inr (.inr (.inr fPp))))) := (fU_n (by omega)).trans hSp
                  have hA1 : (fU (fU (fU M 3402 (.inl (gZ g, tEn U, .inl (upd dn e0 (1 &&& 1))))) (3200 + p0) (.inl (gI g, 2, .inl (upd (tP V p0) 1 (((tP V p0) 1) - sk))))) 3403 (.inl (gI g, tEn U, .inl (upd gi e0 (sGi (V, co, dn, gi) e0))))) 3401 = some (.inl (gI g, tEn U, .inl co)) := (fU_n (by omega)).trans hA1
                  have hA2 : (fU (fU (fU M 3402 (.inl (gZ g, tEn U, .inl (upd dn e0 (1 &&& 1))))) (3200 + p0) (.inl (gI g, 2, .inl (upd (tP V p0) 1 (((tP V p0) 1) - sk))))) 3403 (.inl (gI g, tEn U, .inl (upd gi e0 (sGi (V, co, dn, gi) e0))))) 3402 = some (.inl (gZ g, tEn U, .inl (upd dn e0 (1 &&& 1)))) := (fU_n (by omega)).trans hA2
                  have hM_3200___p0 : (fU (fU (fU M 3402 (.inl (gZ g, tEn U, .inl (upd dn e0 (1 &&& 1))))) (3200 + p0) (.inl (gI g, 2, .inl (upd (tP V p0) 1 (((tP V p0) 1) - sk))))) 3403 (.inl (gI g, tEn U, .inl (upd gi e0 (sGi (V, co, dn, gi) e0))))) (3200 + p0) = some (.inl (gI g, 2, .inl (upd (tP V p0) 1 (((tP V p0) 1) - sk)))) := (fU_n (by omega)).trans hM_3200___p0
                  have hA3 : (fU (fU (fU M 3402 (.inl (gZ g, tEn U, .inl (upd dn e0 (1 &&& 1))))) (3200 + p0) (.inl (gI g, 2, .inl (upd (tP V p0) 1 (((tP V p0) 1) - sk))))) 3403 (.inl (gI g, tEn U, .inl (upd gi e0 (sGi (V, co, dn, gi) e0))))) 3403 = some (.inl (gI g, tEn U, .inl (upd gi e0 (sGi (V, co, dn, gi) e0)))) := fU_s
                  have hB13 : isSim g ad (fU (fU (fU M 3402 (.inl (gZ g, tEn U, .inl (upd dn e0 (1 &&& 1))))) (3200 + p0) (.inl (gI g, 2, .inl (upd (tP V p0) 1 (((tP V p0) 1) - sk))))) 3403 (.inl (gI g, tEn U, .inl (upd gi e0 (sGi (V, co, dn, gi) e0))))) (sP V p0 (upd (tP V p0) 1 (tP V p0 1 - sk))) := isSim_eq hB12 (fun l a b => ⟨rfl, fU_n (by omega)⟩)
                  refine lv_aload hx hb dX8_gives_224 (lv_at hl 3 rfl) ?_
                  refine f_get X hw ((fU_n (by omega)).trans ((fU_n (by omega)).trans ((fU_n (by omega)).trans (hEs e0 (by omega))))) fc7 7 (by decide) wq785 rfl (v := .int ((tE V e0) 7)) rfl dX8_gives_226 ?_
                  refine lv_bipush (v := 100) hx hb dX8_gives_229 (by decide) ?_
                  refine lv_icmp_ge (tgt := 250) hx hb dX8_gives_231 (by decide) (fun c_14 => ?_) (fun c_14 => ?_)
                  · obtain ⟨h0, hh0, eh0⟩ : ∃ h, h < tHn U ∧ tE V e0 7 = nI (100 + h) := by
                      rcases hZ e0 he0 with z | ⟨i, hi, ei⟩ | z
                      · exact absurd z hhs
                      · exact absurd (nI_le' (a := 100) (b := i) (by rw [← ei]; exact c_14) (by omega) (by omega)) (by omega)
                      · exact z
                    have eh1 : tE V e0 7 - 100 = nI h0 := by rw [eh0]; exact (pk_sub (a := 100 + h0) (b := 100) (by omega)).trans (by rw [Nat.add_sub_cancel_left])
                    refine lv_aload_n hx hb dX8_gives_250 rfl (lv_at hl 10 rfl) ?_
                    refine f_get X hw hS0 fc9 1 (by decide) wq622 rfl (v := .ref (ad 3001)) rfl dX8_gives_251 ?_
                    refine lv_aload hx hb dX8_gives_254 (lv_at hl 3 rfl) ?_
                    refine f_get X hw ((fU_n (by omega)).trans ((fU_n (by omega)).trans ((fU_n (by omega)).trans (hEs e0 (by omega))))) fc7 7 (by decide) wq785 rfl (v := .int ((tE V e0) 7)) rfl dX8_gives_256 ?_
                    refine lv_bipush (v := 100) hx hb dX8_gives_259 (by decide) ?_
                    refine lv_isub hx hb dX8_gives_261 ?_
                    refine f_top (y := nI h0) (eh1) ?_
                    refine f_aaldY X hw hSh (vp_in_nI (n := h0) (by omega) (by omega)) (q := ad (3100 + h0)) (by rw [nI_clamp (by omega)]; exact hSH h0 (by omega)) dX8_gives_262 ?_
                    refine f_get X hw ((fU_n (by omega)).trans ((fU_n (by omega)).trans ((fU_n (by omega)).trans (hHs h0 (by omega))))) fc8 0 (by decide) wq718 rfl (v := .int ((tH V h0) 0)) rfl dX8_gives_263 ?_
                    refine lv_istore (lv' := [(11, .int ((tH V h0) 0)), (10, .int sk), (8, .int (sPump (tE V e0))), (9, .int (sSrc V (tE V e0))), (7, .ref (ad (3300 + e0))), (6, .int (nI e0)), (5, .int (nI k)), (4, .ref (ad 3403)), (3, .ref (ad 3402)), (2, .ref (ad 3401)), (1, .int (nI (tEn U))), (0, .ref (ad 3000))]) hx hb dX8_gives_266 hl (by decide) rfl (fun ls hl => ?_)
                    refine lv_aload hx hb dX8_gives_268 (lv_at hl 7 rfl) ?_
                    refine lv_iload hx hb dX8_gives_270 (lv_at hl 5 rfl) ?_
                    refine f_iald X hw hA3 (vp_in_nI (n := e0) (by omega) (by omega)) dX8_gives_272 ?_
                    rw [nI_clamp (n := e0) (by omega)]
                    refine f_top (y := sGi (V, co, dn, gi) e0) upd_at ?_
                    refine lv_aload hx hb dX8_gives_273 (lv_at hl 4 rfl) ?_
                    refine f_get X hw ((fU_n (by omega)).trans ((fU_n (by omega)).trans ((fU_n (by omega)).trans (hEs e0 (by omega))))) fc7 0 (by decide) wq767 rfl (v := .int ((tE V e0) 0)) rfl dX8_gives_275 ?_
                    refine lv_iload hx hb dX8_gives_278 (lv_at hl 0 rfl) ?_
                    refine fk_di (fcS X hw (c_s_far l g ad (fU (fU (fU M 3402 (.inl (gZ g, tEn U, .inl (upd dn e0 (1 &&& 1))))) (3200 + p0) (.inl (gI g, 2, .inl (upd (tP V p0) 1 (((tP V p0) 1) - sk))))) 3403 (.inl (gI g, tEn U, .inl (upd gi e0 (sGi (V, co, dn, gi) e0))))) (tE V e0 0) ((tH V h0) 0)) wq594 kSX8_far ⟨(Nat.le_of_ble_eq_true rfl), (Nat.le_of_ble_eq_true rfl)⟩ rfl hl.1 rfl (Nat.le_of_ble_eq_true rfl) dX8_gives_280 ⟨(by dsimp only [fR]; omega), (by dsimp only [fR]; omega)⟩) hw (fun H locs hw => ?_)
                    refine lv_iconst (v := 2) hx hb dX8_gives_283 (by decide) ?_
                    refine lv_idiv hx hb dX8_gives_284 (by decide) ?_
                    refine lv_aload hx hb dX8_gives_285 (lv_at hl 7 rfl) ?_
                    refine lv_iload hx hb dX8_gives_287 (lv_at hl 5 rfl) ?_
                    refine f_iald X hw hA3 (vp_in_nI (n := e0) (by omega) (by omega)) dX8_gives_289 ?_
                    rw [nI_clamp (n := e0) (by omega)]
                    refine f_top (y := sGi (V, co, dn, gi) e0) upd_at ?_
                    refine lv_imul hx hb dX8_gives_290 ?_
                    refine lv_bipush (v := 10) hx hb dX8_gives_291 (by decide) ?_
                    refine lv_idiv hx hb dX8_gives_293 (by decide) ?_
                    refine lv_isub hx hb dX8_gives_294 ?_
                    refine f_top (y := sLf (sGi (V, co, dn, gi) e0) (tE V e0 0) ((tH V h0) 0)) rfl ?_
                    refine lv_istore (lv' := [(12, .int (sLf (sGi (V, co, dn, gi) e0) (tE V e0 0) ((tH V h0) 0))), (11, .int ((tH V h0) 0)), (10, .int sk), (8, .int (sPump (tE V e0))), (9, .int (sSrc V (tE V e0))), (7, .ref (ad (3300 + e0))), (6, .int (nI e0)), (5, .int (nI k)), (4, .ref (ad 3403)), (3, .ref (ad 3402)), (2, .ref (ad 3401)), (1, .int (nI (tEn U))), (0, .ref (ad 3000))]) hx hb dX8_gives_295 hl (by decide) rfl (fun ls hl => ?_)
                    refine lv_aload hx hb dX8_gives_297 (lv_at hl 5 rfl) ?_
                    refine f_get X hw ((fU_n (by omega)).trans ((fU_n (by omega)).trans ((fU_n (by omega)).trans (hEs e0 (by omega))))) fc7 7 (by decide) wq785 rfl (v := .int ((tE V e0) 7)) rfl dX8_gives_299 ?_
                    refine lv_bipush (v := 100) hx hb dX8_gives_302 (by decide) ?_
                    refine lv_icmp_ge (tgt := 322) hx hb dX8_gives_304 (by decide) (fun c_15 => ?_) (fun c_15 => absurd c_14 c_15)
                    refine lv_aload_n hx hb dX8_gives_322 rfl (lv_at hl 12 rfl) ?_
                    refine f_get X hw hS0 fc9 1 (by decide) wq622 rfl (v := .ref (ad 3001)) rfl dX8_gives_323 ?_
                    refine lv_aload hx hb dX8_gives_326 (lv_at hl 5 rfl) ?_
                    refine f_get X hw ((fU_n (by omega)).trans ((fU_n (by omega)).trans ((fU_n (by omega)).trans (hEs e0 (by omega))))) fc7 7 (by decide) wq785 rfl (v := .int ((tE V e0) 7)) rfl dX8_gives_328 ?_
                    refine lv_bipush (v := 100) hx hb dX8_gives_331 (by decide) ?_
                    refine lv_isub hx hb dX8_gives_333 ?_
                    refine f_top (y := nI h0) (eh1) ?_
                    refine f_aaldY X hw hSh (vp_in_nI (n := h0) (by omega) (by omega)) (q := ad (3100 + h0)) (by rw [nI_clamp (by omega)]; exact hSH h0 (by omega)) dX8_gives_334 ?_
                    refine lv_dup hx hb dX8_gives_335 rfl ?_
                    refine f_get X hw ((fU_n (by omega)).trans ((fU_n (by omega)).trans ((fU_n (by omega)).trans (hHs h0 (by omega))))) fc8 5 (by decide) wq726 rfl (v := .int ((tH V h0) 5)) rfl dX8_gives_336 ?_
                    refine lv_iload hx hb dX8_gives_339 (lv_at hl 0 rfl) ?_
                    refine lv_iadd hx hb dX8_gives_341 ?_
                    refine f_put X hw ((fU_n (by omega)).trans ((fU_n (by omega)).trans ((fU_n (by omega)).trans (hHs h0 (by omega))))) fc8 5 (by decide) wq726 rfl rfl (v := .int (((tH V h0) 5) + (sLf (sGi (V, co, dn, gi) e0) (tE V e0 0) ((tH V h0) 0)))) rfl rfl (Nat.le_of_ble_eq_true rfl) dX8_gives_342 (fun H locs hw => ?_)
                    have hw : fw g ad (fU (fU (fU (fU M 3402 (.inl (gZ g, tEn U, .inl (upd dn e0 (1 &&& 1))))) (3200 + p0) (.inl (gI g, 2, .inl (upd (tP V p0) 1 (((tP V p0) 1) - sk))))) 3403 (.inl (gI g, tEn U, .inl (upd gi e0 (sGi (V, co, dn, gi) e0))))) (3100 + h0) (.inr (8, hV (upd (tH V h0) 5 (tH V h0 5 + sLf (sGi (V, co, dn, gi) e0) (tE V e0 0) (tH V h0 0)))))) s H locs := hw
                    have hS0 : (fU (fU (fU (fU M 3402 (.inl (gZ g, tEn U, .inl (upd dn e0 (1 &&& 1))))) (3200 + p0) (.inl (gI g, 2, .inl (upd (tP V p0) 1 (((tP V p0) 1) - sk))))) 3403 (.inl (gI g, tEn U, .inl (upd gi e0 (sGi (V, co, dn, gi) e0))))) (3100 + h0) (.inr (8, hV (upd (tH V h0) 5 (tH V h0 5 + sLf (sGi (V, co, dn, gi) e0) (tE V e0 0) (tH V h0 0)))))) 3000 = some (.inr (9, [.int (tM U), .ref (ad 3001), .ref (ad 3002), .ref (ad 3003)])) := (fU_n (by omega)).trans hS0
                    have hSh : (fU (fU (fU (fU M 3402 (.inl (gZ g, tEn U, .inl (upd dn e0 (1 &&& 1))))) (3200 + p0) (.inl (gI g, 2, .inl (upd (tP V p0) 1 (((tP V p0) 1) - sk))))) 3403 (.inl (gI g, tEn U, .inl (upd gi e0 (sGi (V, co, dn, gi) e0))))) (3100 + h0) (.inr (8, hV (upd (tH V h0) 5 (tH V h0 5 + sLf (sGi (V, co, dn, gi) e0) (tE V e0 0) (tH V h0 0)))))) 3001 = some (.inl (gY g, tHn U, .inr (.inr (.inr (.inr fHh))))) := (fU_n (by omega)).trans hSh
                    have hSe : (fU (fU (fU (fU M 3402 (.inl (gZ g, tEn U, .inl (upd dn e0 (1 &&& 1))))) (3200 + p0) (.inl (gI g, 2, .inl (upd (tP V p0) 1 (((tP V p0) 1) - sk))))) 3403 (.inl (gI g, tEn U, .inl (upd gi e0 (sGi (V, co, dn, gi) e0))))) (3100 + h0) (.inr (8, hV (upd (tH V h0) 5 (tH V h0 5 + sLf (sGi (V, co, dn, gi) e0) (tE V e0 0) (tH V h0 0)))))) 3002 = some (.inl (gW g, tEn U, .inr (.inr (.inr (.inr fEe))))) := (fU_n (by omega)).trans hSe
                    have hSp : (fU (fU (fU (fU M 3402 (.inl (gZ g, tEn U, .inl (upd dn e0 (1 &&& 1))))) (3200 + p0) (.inl (gI g, 2, .inl (upd (tP V p0) 1 (((tP V p0) 1) - sk))))) 3403 (.inl (gI g, tEn U, .inl (upd gi e0 (sGi (V, co, dn, gi) e0))))) (3100 + h0) (.inr (8, hV (upd (tH V h0) 5 (tH V h0 5 + sLf (sGi (V, co, dn, gi) e0) (tE V e0 0) (tH V h0 0)))))) 3003 = some (.inl (gQ g, tPn U, .inr (.inr (.inr (.inr fPp))))) := (fU_n (by omega)).trans hSp
                    have hA1 : (fU (fU (fU (fU M 3402 (.inl (gZ g, tEn U, .inl (upd dn e0 (1 &&& 1))))) (3200 + p0) (.inl (gI g, 2, .inl (upd (tP V p0) 1 (((tP V p0) 1) - sk))))) 3403 (.inl (gI g, tEn U, .inl (upd gi e0 (sGi (V, co, dn, gi) e0))))) (3100 + h0) (.inr (8, hV (upd (tH V h0) 5 (tH V h0 5 + sLf (sGi (V, co, dn, gi) e0) (tE V e0 0) (tH V h0 0)))))) 3401 = some (.inl (gI g, tEn U, .inl co)) := (fU_n (by omega)).trans hA1
                    have hA2 : (fU (fU (fU (fU M 3402 (.inl (gZ g, tEn U, .inl (upd dn e0 (1 &&& 1))))) (3200 + p0) (.inl (gI g, 2, .inl (upd (tP V p0) 1 (((tP V p0) 1) - sk))))) 3403 (.inl (gI g, tEn U, .inl (upd gi e0 (sGi (V, co, dn, gi) e0))))) (3100 + h0) (.inr (8, hV (upd (tH V h0) 5 (tH V h0 5 + sLf (sGi (V, co, dn, gi) e0) (tE V e0 0) (tH V h0 0)))))) 3402 = some (.inl (gZ g, tEn U, .inl (upd dn e0 (1 &&& 1)))) := (fU_n (by omega)).trans hA2
                    have hA3 : (fU (fU (fU (fU M 3402 (.inl (gZ g, tEn U, .inl (upd dn e0 (1 &&& 1))))) (3200 + p0) (.inl (gI g, 2, .inl (upd (tP V p0) 1 (((tP V p0) 1) - sk))))) 3403 (.inl (gI g, tEn U, .inl (upd gi e0 (sGi (V, co, dn, gi) e0))))) (3100 + h0) (.inr (8, hV (upd (tH V h0) 5 (tH V h0 5 + sLf (sGi (V, co, dn, gi) e0) (tE V e0 0) (tH V h0 0)))))) 3403 = some (.inl (gI g, tEn U, .inl (upd gi e0 (sGi (V, co, dn, gi) e0)))) := (fU_n (by omega)).trans hA3
                    have hM_3200___p0 : (fU (fU (fU (fU M 3402 (.inl (gZ g, tEn U, .inl (upd dn e0 (1 &&& 1))))) (3200 + p0) (.inl (gI g, 2, .inl (upd (tP V p0) 1 (((tP V p0) 1) - sk))))) 3403 (.inl (gI g, tEn U, .inl (upd gi e0 (sGi (V, co, dn, gi) e0))))) (3100 + h0) (.inr (8, hV (upd (tH V h0) 5 (tH V h0 5 + sLf (sGi (V, co, dn, gi) e0) (tE V e0 0) (tH V h0 0)))))) (3200 + p0) = some (.inl (gI g, 2, .inl (upd (tP V p0) 1 (((tP V p0) 1) - sk)))) := (fU_n (by omega)).trans hM_3200___p0
                    have hM_3100___h0 : (fU (fU (fU (fU M 3402 (.inl (gZ g, tEn U, .inl (upd dn e0 (1 &&& 1))))) (3200 + p0) (.inl (gI g, 2, .inl (upd (tP V p0) 1 (((tP V p0) 1) - sk))))) 3403 (.inl (gI g, tEn U, .inl (upd gi e0 (sGi (V, co, dn, gi) e0))))) (3100 + h0) (.inr (8, hV (upd (tH V h0) 5 (tH V h0 5 + sLf (sGi (V, co, dn, gi) e0) (tE V e0 0) (tH V h0 0)))))) (3100 + h0) = some (.inr (8, hV (upd (tH V h0) 5 (tH V h0 5 + sLf (sGi (V, co, dn, gi) e0) (tE V e0 0) (tH V h0 0))))) := fU_s
                    have hB16 : isSim g ad (fU (fU (fU (fU M 3402 (.inl (gZ g, tEn U, .inl (upd dn e0 (1 &&& 1))))) (3200 + p0) (.inl (gI g, 2, .inl (upd (tP V p0) 1 (((tP V p0) 1) - sk))))) 3403 (.inl (gI g, tEn U, .inl (upd gi e0 (sGi (V, co, dn, gi) e0))))) (3100 + h0) (.inr (8, hV (upd (tH V h0) 5 (tH V h0 5 + sLf (sGi (V, co, dn, gi) e0) (tE V e0 0) (tH V h0 0)))))) (sH (sP V p0 (upd (tP V p0) 1 (tP V p0 1 - sk))) h0 (upd (tH V h0) 5 (tH V h0 5 + sLf (sGi (V, co, dn, gi) e0) (tE V e0 0) (tH V h0 0)))) := isSim_H hB13 (by show h0 < tHn V; omega)
                    refine lv_iinc (v := nI (k + 1)) (lv' := [(5, .int (nI (k + 1))), (12, .int (sLf (sGi (V, co, dn, gi) e0) (tE V e0 0) ((tH V h0) 0))), (11, .int ((tH V h0) 0)), (10, .int sk), (8, .int (sPump (tE V e0))), (9, .int (sSrc V (tE V e0))), (7, .ref (ad (3300 + e0))), (6, .int (nI e0)), (4, .ref (ad 3403)), (3, .ref (ad 3402)), (2, .ref (ad 3401)), (1, .int (nI (tEn U))), (0, .ref (ad 3000))]) hx hb dX8_gives_345 hl (k := 7) rfl (nI_1 k) (by decide) rfl (fun ls hl => ?_)
                    refine lv_goto (tgt := 22) hx hb dX8_gives_348 (by decide) ?_
                    have hq2 : (sH (sP V p0 (upd (tP V p0) 1 (tP V p0 1 - sk))) h0 (upd (tH V h0) 5 (tH V h0 5 + sLf (sGi (V, co, dn, gi) e0) (tE V e0 0) (tH V h0 0))), co, upd dn e0 (1 &&& 1), upd gi e0 (sGi (V, co, dn, gi) e0)) = sTurns (q0 U) (k + 1) := by show _ = sTurn (sTurns (q0 U) k) (sNxt (sTurns (q0 U) k)).toNatClampNeg; rw [← hq, hso]; refine Eq.trans ?_ ((if_neg hhs).trans (if_neg (Int32.not_lt.mpr c_14))).symm; show _ = (sH (sVp (V, co, dn, gi) e0) (tE V e0 7 - 100).toNatClampNeg (upd (tH V (tE V e0 7 - 100).toNatClampNeg) 5 (tH V (tE V e0 7 - 100).toNatClampNeg 5 + sLf (sGi (V, co, dn, gi) e0) (tE V e0 0) (tH V (tE V e0 7 - 100).toNatClampNeg 0))), co, upd dn e0 (1 &&& 1), upd gi e0 (sGi (V, co, dn, gi) e0)); rw [hvp, eh1, nI_clamp (n := h0) (by omega)]
                    have hrA2 : fReg 3000 3420 ado Mo ad (fU (fU (fU (fU M 3402 (.inl (gZ g, tEn U, .inl (upd dn e0 (1 &&& 1))))) (3200 + p0) (.inl (gI g, 2, .inl (upd (tP V p0) 1 (((tP V p0) 1) - sk))))) 3403 (.inl (gI g, tEn U, .inl (upd gi e0 (sGi (V, co, dn, gi) e0))))) (3100 + h0) (.inr (8, hV (upd (tH V h0) 5 (tH V h0 5 + sLf (sGi (V, co, dn, gi) e0) (tE V e0 0) (tH V h0 0)))))) := fReg_U (fReg_U (fReg_U (fReg_U (hrA) (by omega)) (by omega)) (by omega)) (by omega)
                    exact ih (k + 1) (by omega) (by omega) ad _ _ _ _ _ hq2 hB16 hA1 hA2 hA3 hrA2 h34 ls _ _ hw (lv_sub hl [0, 8, 9, 10, 11, 12] rfl)
                  · obtain ⟨i0, hi0, ei0⟩ : ∃ i, i < tEn U ∧ tE V e0 7 = nI i := by
                      rcases hZ e0 he0 with z | z | ⟨h, hh, eh⟩
                      · exact absurd z hhs
                      · exact z
                      · exact absurd (by rw [eh]; exact nI_le (a := 100) (b := 100 + h) (by omega) (by omega)) c_14
                    refine lv_aload_n hx hb dX8_gives_234 rfl (lv_at hl 10 rfl) ?_
                    refine f_get X hw hS0 fc9 2 (by decide) wq624 rfl (v := .ref (ad 3002)) rfl dX8_gives_235 ?_
                    refine lv_aload hx hb dX8_gives_238 (lv_at hl 3 rfl) ?_
                    refine f_get X hw ((fU_n (by omega)).trans ((fU_n (by omega)).trans ((fU_n (by omega)).trans (hEs e0 (by omega))))) fc7 7 (by decide) wq785 rfl (v := .int ((tE V e0) 7)) rfl dX8_gives_240 ?_
                    refine f_top (y := nI i0) (ei0) ?_
                    refine f_aaldW X hw hSe (vp_in_nI (n := i0) (by omega) (by omega)) (q := ad (3300 + i0)) (by rw [nI_clamp (by omega)]; exact hSE i0 (by omega)) dX8_gives_243 ?_
                    refine f_get X hw ((fU_n (by omega)).trans ((fU_n (by omega)).trans ((fU_n (by omega)).trans (hEs i0 (by omega))))) fc7 0 (by decide) wq767 rfl (v := .int ((tE V i0) 0)) rfl dX8_gives_244 ?_
                    refine lv_goto (tgt := 266) hx hb dX8_gives_247 (by decide) ?_
                    refine lv_istore (lv' := [(11, .int ((tE V i0) 0)), (10, .int sk), (8, .int (sPump (tE V e0))), (9, .int (sSrc V (tE V e0))), (7, .ref (ad (3300 + e0))), (6, .int (nI e0)), (5, .int (nI k)), (4, .ref (ad 3403)), (3, .ref (ad 3402)), (2, .ref (ad 3401)), (1, .int (nI (tEn U))), (0, .ref (ad 3000))]) hx hb dX8_gives_266 hl (by decide) rfl (fun ls hl => ?_)
                    refine lv_aload hx hb dX8_gives_268 (lv_at hl 7 rfl) ?_
                    refine lv_iload hx hb dX8_gives_270 (lv_at hl 5 rfl) ?_
                    refine f_iald X hw hA3 (vp_in_nI (n := e0) (by omega) (by omega)) dX8_gives_272 ?_
                    rw [nI_clamp (n := e0) (by omega)]
                    refine f_top (y := sGi (V, co, dn, gi) e0) upd_at ?_
                    refine lv_aload hx hb dX8_gives_273 (lv_at hl 4 rfl) ?_
                    refine f_get X hw ((fU_n (by omega)).trans ((fU_n (by omega)).trans ((fU_n (by omega)).trans (hEs e0 (by omega))))) fc7 0 (by decide) wq767 rfl (v := .int ((tE V e0) 0)) rfl dX8_gives_275 ?_
                    refine lv_iload hx hb dX8_gives_278 (lv_at hl 0 rfl) ?_
                    refine fk_di (fcS X hw (c_s_far l g ad (fU (fU (fU M 3402 (.inl (gZ g, tEn U, .inl (upd dn e0 (1 &&& 1))))) (3200 + p0) (.inl (gI g, 2, .inl (upd (tP V p0) 1 (((tP V p0) 1) - sk))))) 3403 (.inl (gI g, tEn U, .inl (upd gi e0 (sGi (V, co, dn, gi) e0))))) (tE V e0 0) ((tE V i0) 0)) wq594 kSX8_far ⟨(Nat.le_of_ble_eq_true rfl), (Nat.le_of_ble_eq_true rfl)⟩ rfl hl.1 rfl (Nat.le_of_ble_eq_true rfl) dX8_gives_280 ⟨(by dsimp only [fR]; omega), (by dsimp only [fR]; omega)⟩) hw (fun H locs hw => ?_)
                    refine lv_iconst (v := 2) hx hb dX8_gives_283 (by decide) ?_
                    refine lv_idiv hx hb dX8_gives_284 (by decide) ?_
                    refine lv_aload hx hb dX8_gives_285 (lv_at hl 7 rfl) ?_
                    refine lv_iload hx hb dX8_gives_287 (lv_at hl 5 rfl) ?_
                    refine f_iald X hw hA3 (vp_in_nI (n := e0) (by omega) (by omega)) dX8_gives_289 ?_
                    rw [nI_clamp (n := e0) (by omega)]
                    refine f_top (y := sGi (V, co, dn, gi) e0) upd_at ?_
                    refine lv_imul hx hb dX8_gives_290 ?_
                    refine lv_bipush (v := 10) hx hb dX8_gives_291 (by decide) ?_
                    refine lv_idiv hx hb dX8_gives_293 (by decide) ?_
                    refine lv_isub hx hb dX8_gives_294 ?_
                    refine f_top (y := sLf (sGi (V, co, dn, gi) e0) (tE V e0 0) ((tE V i0) 0)) rfl ?_
                    refine lv_istore (lv' := [(12, .int (sLf (sGi (V, co, dn, gi) e0) (tE V e0 0) ((tE V i0) 0))), (11, .int ((tE V i0) 0)), (10, .int sk), (8, .int (sPump (tE V e0))), (9, .int (sSrc V (tE V e0))), (7, .ref (ad (3300 + e0))), (6, .int (nI e0)), (5, .int (nI k)), (4, .ref (ad 3403)), (3, .ref (ad 3402)), (2, .ref (ad 3401)), (1, .int (nI (tEn U))), (0, .ref (ad 3000))]) hx hb dX8_gives_295 hl (by decide) rfl (fun ls hl => ?_)
                    refine lv_aload hx hb dX8_gives_297 (lv_at hl 5 rfl) ?_
                    refine f_get X hw ((fU_n (by omega)).trans ((fU_n (by omega)).trans ((fU_n (by omega)).trans (hEs e0 (by omega))))) fc7 7 (by decide) wq785 rfl (v := .int ((tE V e0) 7)) rfl dX8_gives_299 ?_
                    refine lv_bipush (v := 100) hx hb dX8_gives_302 (by decide) ?_
                    refine lv_icmp_ge (tgt := 322) hx hb dX8_gives_304 (by decide) (fun c_17 => absurd c_17 c_14) (fun c_17 => ?_)
                    refine lv_aload_n hx hb dX8_gives_307 rfl (lv_at hl 10 rfl) ?_
                    refine lv_aload hx hb dX8_gives_308 (lv_at hl 5 rfl) ?_
                    refine f_get X hw ((fU_n (by omega)).trans ((fU_n (by omega)).trans ((fU_n (by omega)).trans (hEs e0 (by omega))))) fc7 7 (by decide) wq785 rfl (v := .int ((tE V e0) 7)) rfl dX8_gives_310 ?_
                    refine f_top (y := nI i0) ei0 ?_
                    refine lv_dup2_11 hx hb dX8_gives_313 rfl rfl ?_
                    refine f_iald X hw hA1 (vp_in_nI (n := i0) (by omega) (by omega)) dX8_gives_314 ?_
                    rw [nI_clamp (n := i0) (by omega)]
                    refine lv_iload hx hb dX8_gives_315 (lv_at hl 0 rfl) ?_
                    refine lv_iadd hx hb dX8_gives_317 ?_
                    refine f_iast X hw hA1 (vp_in_nI (n := i0) (by omega) (by omega)) dX8_gives_318 (fun H locs hw => ?_)
                    rw [nI_clamp (n := i0) (by omega)] at hw
                    have hw : fw g ad (fU (fU (fU (fU M 3402 (.inl (gZ g, tEn U, .inl (upd dn e0 (1 &&& 1))))) (3200 + p0) (.inl (gI g, 2, .inl (upd (tP V p0) 1 (((tP V p0) 1) - sk))))) 3403 (.inl (gI g, tEn U, .inl (upd gi e0 (sGi (V, co, dn, gi) e0))))) 3401 (.inl (gI g, tEn U, .inl (upd co i0 ((co i0) + (sLf (sGi (V, co, dn, gi) e0) (tE V e0 0) ((tE V i0) 0))))))) s H locs := hw
                    have hS0 : (fU (fU (fU (fU M 3402 (.inl (gZ g, tEn U, .inl (upd dn e0 (1 &&& 1))))) (3200 + p0) (.inl (gI g, 2, .inl (upd (tP V p0) 1 (((tP V p0) 1) - sk))))) 3403 (.inl (gI g, tEn U, .inl (upd gi e0 (sGi (V, co, dn, gi) e0))))) 3401 (.inl (gI g, tEn U, .inl (upd co i0 ((co i0) + (sLf (sGi (V, co, dn, gi) e0) (tE V e0 0) ((tE V i0) 0))))))) 3000 = some (.inr (9, [.int (tM U), .ref (ad 3001), .ref (ad 3002), .ref (ad 3003)])) := (fU_n (by omega)).trans hS0
                    have hSh : (fU (fU (fU (fU M 3402 (.inl (gZ g, tEn U, .inl (upd dn e0 (1 &&& 1))))) (3200 + p0) (.inl (gI g, 2, .inl (upd (tP V p0) 1 (((tP V p0) 1) - sk))))) 3403 (.inl (gI g, tEn U, .inl (upd gi e0 (sGi (V, co, dn, gi) e0))))) 3401 (.inl (gI g, tEn U, .inl (upd co i0 ((co i0) + (sLf (sGi (V, co, dn, gi) e0) (tE V e0 0) ((tE V i0) 0))))))) 3001 = some (.inl (gY g, tHn U, .inr (.inr (.inr (.inr fHh))))) := (fU_n (by omega)).trans hSh
                    have hSe : (fU (fU (fU (fU M 3402 (.inl (gZ g, tEn U, .inl (upd dn e0 (1 &&& 1))))) (3200 + p0) (.inl (gI g, 2, .inl (upd (tP V p0) 1 (((tP V p0) 1) - sk))))) 3403 (.inl (gI g, tEn U, .inl (upd gi e0 (sGi (V, co, dn, gi) e0))))) 3401 (.inl (gI g, tEn U, .inl (upd co i0 ((co i0) + (sLf (sGi (V, co, dn, gi) e0) (tE V e0 0) ((tE V i0) 0))))))) 3002 = some (.inl (gW g, tEn U, .inr (.inr (.inr (.inr fEe))))) := (fU_n (by omega)).trans hSe
                    have hSp : (fU (fU (fU (fU M 3402 (.inl (gZ g, tEn U, .inl (upd dn e0 (1 &&& 1))))) (3200 + p0) (.inl (gI g, 2, .inl (upd (tP V p0) 1 (((tP V p0) 1) - sk))))) 3403 (.inl (gI g, tEn U, .inl (upd gi e0 (sGi (V, co, dn, gi) e0))))) 3401 (.inl (gI g, tEn U, .inl (upd co i0 ((co i0) + (sLf (sGi (V, co, dn, gi) e0) (tE V e0 0) ((tE V i0) 0))))))) 3003 = some (.inl (gQ g, tPn U, .inr (.inr (.inr (.inr fPp))))) := (fU_n (by omega)).trans hSp
                    have hA2 : (fU (fU (fU (fU M 3402 (.inl (gZ g, tEn U, .inl (upd dn e0 (1 &&& 1))))) (3200 + p0) (.inl (gI g, 2, .inl (upd (tP V p0) 1 (((tP V p0) 1) - sk))))) 3403 (.inl (gI g, tEn U, .inl (upd gi e0 (sGi (V, co, dn, gi) e0))))) 3401 (.inl (gI g, tEn U, .inl (upd co i0 ((co i0) + (sLf (sGi (V, co, dn, gi) e0) (tE V e0 0) ((tE V i0) 0))))))) 3402 = some (.inl (gZ g, tEn U, .inl (upd dn e0 (1 &&& 1)))) := (fU_n (by omega)).trans hA2
                    have hA3 : (fU (fU (fU (fU M 3402 (.inl (gZ g, tEn U, .inl (upd dn e0 (1 &&& 1))))) (3200 + p0) (.inl (gI g, 2, .inl (upd (tP V p0) 1 (((tP V p0) 1) - sk))))) 3403 (.inl (gI g, tEn U, .inl (upd gi e0 (sGi (V, co, dn, gi) e0))))) 3401 (.inl (gI g, tEn U, .inl (upd co i0 ((co i0) + (sLf (sGi (V, co, dn, gi) e0) (tE V e0 0) ((tE V i0) 0))))))) 3403 = some (.inl (gI g, tEn U, .inl (upd gi e0 (sGi (V, co, dn, gi) e0)))) := (fU_n (by omega)).trans hA3
                    have hM_3200___p0 : (fU (fU (fU (fU M 3402 (.inl (gZ g, tEn U, .inl (upd dn e0 (1 &&& 1))))) (3200 + p0) (.inl (gI g, 2, .inl (upd (tP V p0) 1 (((tP V p0) 1) - sk))))) 3403 (.inl (gI g, tEn U, .inl (upd gi e0 (sGi (V, co, dn, gi) e0))))) 3401 (.inl (gI g, tEn U, .inl (upd co i0 ((co i0) + (sLf (sGi (V, co, dn, gi) e0) (tE V e0 0) ((tE V i0) 0))))))) (3200 + p0) = some (.inl (gI g, 2, .inl (upd (tP V p0) 1 (((tP V p0) 1) - sk)))) := (fU_n (by omega)).trans hM_3200___p0
                    have hA1 : (fU (fU (fU (fU M 3402 (.inl (gZ g, tEn U, .inl (upd dn e0 (1 &&& 1))))) (3200 + p0) (.inl (gI g, 2, .inl (upd (tP V p0) 1 (((tP V p0) 1) - sk))))) 3403 (.inl (gI g, tEn U, .inl (upd gi e0 (sGi (V, co, dn, gi) e0))))) 3401 (.inl (gI g, tEn U, .inl (upd co i0 ((co i0) + (sLf (sGi (V, co, dn, gi) e0) (tE V e0 0) ((tE V i0) 0))))))) 3401 = some (.inl (gI g, tEn U, .inl (upd co i0 ((co i0) + (sLf (sGi (V, co, dn, gi) e0) (tE V e0 0) ((tE V i0) 0)))))) := fU_s
                    have hB18 : isSim g ad (fU (fU (fU (fU M 3402 (.inl (gZ g, tEn U, .inl (upd dn e0 (1 &&& 1))))) (3200 + p0) (.inl (gI g, 2, .inl (upd (tP V p0) 1 (((tP V p0) 1) - sk))))) 3403 (.inl (gI g, tEn U, .inl (upd gi e0 (sGi (V, co, dn, gi) e0))))) 3401 (.inl (gI g, tEn U, .inl (upd co i0 ((co i0) + (sLf (sGi (V, co, dn, gi) e0) (tE V e0 0) ((tE V i0) 0))))))) (sP V p0 (upd (tP V p0) 1 (tP V p0 1 - sk))) := isSim_eq hB13 (fun l a b => ⟨rfl, fU_n (by omega)⟩)
                    refine lv_goto (tgt := 345) hx hb dX8_gives_319 (by decide) ?_
                    refine lv_iinc (v := nI (k + 1)) (lv' := [(5, .int (nI (k + 1))), (12, .int (sLf (sGi (V, co, dn, gi) e0) (tE V e0 0) ((tE V i0) 0))), (11, .int ((tE V i0) 0)), (10, .int sk), (8, .int (sPump (tE V e0))), (9, .int (sSrc V (tE V e0))), (7, .ref (ad (3300 + e0))), (6, .int (nI e0)), (4, .ref (ad 3403)), (3, .ref (ad 3402)), (2, .ref (ad 3401)), (1, .int (nI (tEn U))), (0, .ref (ad 3000))]) hx hb dX8_gives_345 hl (k := 7) rfl (nI_1 k) (by decide) rfl (fun ls hl => ?_)
                    refine lv_goto (tgt := 22) hx hb dX8_gives_348 (by decide) ?_
                    have hq2 : (sP V p0 (upd (tP V p0) 1 (tP V p0 1 - sk)), upd co i0 ((co i0) + (sLf (sGi (V, co, dn, gi) e0) (tE V e0 0) ((tE V i0) 0))), upd dn e0 (1 &&& 1), upd gi e0 (sGi (V, co, dn, gi) e0)) = sTurns (q0 U) (k + 1) := by show _ = sTurn (sTurns (q0 U) k) (sNxt (sTurns (q0 U) k)).toNatClampNeg; rw [← hq, hso]; refine Eq.trans ?_ ((if_neg hhs).trans (if_pos (Int32.not_le.mp c_14))).symm; show _ = (sVp (V, co, dn, gi) e0, upd co (tE V e0 7).toNatClampNeg (co (tE V e0 7).toNatClampNeg + sLf (sGi (V, co, dn, gi) e0) (tE V e0 0) (tE V (tE V e0 7).toNatClampNeg 0)), upd dn e0 (1 &&& 1), upd gi e0 (sGi (V, co, dn, gi) e0)); rw [hvp, ei0, nI_clamp (n := i0) (by omega)]
                    have hrA2 : fReg 3000 3420 ado Mo ad (fU (fU (fU (fU M 3402 (.inl (gZ g, tEn U, .inl (upd dn e0 (1 &&& 1))))) (3200 + p0) (.inl (gI g, 2, .inl (upd (tP V p0) 1 (((tP V p0) 1) - sk))))) 3403 (.inl (gI g, tEn U, .inl (upd gi e0 (sGi (V, co, dn, gi) e0))))) 3401 (.inl (gI g, tEn U, .inl (upd co i0 ((co i0) + (sLf (sGi (V, co, dn, gi) e0) (tE V e0 0) ((tE V i0) 0))))))) := fReg_U (fReg_U (fReg_U (fReg_U (hrA) (by omega)) (by omega)) (by omega)) (by omega)
                    exact ih (k + 1) (by omega) (by omega) ad _ _ _ _ _ hq2 hB18 hA1 hA2 hA3 hrA2 h34 ls _ _ hw (lv_sub hl [0, 8, 9, 10, 11, 12] rfl)
              refine lv_iconst (v := 0) hx hb dX8_gives_150 (by decide) ?_
              refine lv_istore (lv' := [(10, .int 0), (9, .int (sSrc V (tE V e0))), (8, .int (sPump (tE V e0))), (7, .ref (ad (3300 + e0))), (6, .int (nI e0)), (5, .int (nI k)), (4, .ref (ad 3403)), (3, .ref (ad 3402)), (2, .ref (ad 3401)), (1, .int (nI (tEn U))), (0, .ref (ad 3000))]) hx hb dX8_gives_151 hl (by decide) rfl (fun ls hl => ?_)
              refine lv_iload hx hb dX8_gives_153 (lv_at hl 1 rfl) ?_
              refine lv_if_lt (tgt := 188) hx hb dX8_gives_155 (by decide) (fun c_19 => ?_) (fun c_19 => ?_)
              · exact rest188 0 (if_pos c_19) (fun z => absurd z (by decide)) ls _ _ hw (lv_sub hl [0, 2, 1, 3, 4, 5, 6, 7, 8, 9, 10] rfl)
              · obtain ⟨p0, hp0, ep0⟩ := sSrc_cs c_19
                rw [eNp] at hp0
                refine lv_iload hx hb dX8_gives_158 (lv_at hl 2 rfl) ?_
                refine lv_aload_n hx hb dX8_gives_160 rfl (lv_at hl 8 rfl) ?_
                refine lv_iload hx hb dX8_gives_161 (lv_at hl 4 rfl) ?_
                refine f_iald X hw hA1 (vp_in_nI (n := e0) (by omega) (by omega)) dX8_gives_163 ?_
                rw [nI_clamp (n := e0) (by omega)]
                refine lv_icmp_le (tgt := 188) hx hb dX8_gives_164 (by decide) (fun c_20 => ?_) (fun c_20 => ?_)
                · exact rest188 0 ((if_neg c_19).trans (if_pos c_20)) (fun z => absurd z (by decide)) ls _ _ hw (lv_sub hl [0, 2, 1, 3, 4, 5, 6, 7, 8, 9, 10] rfl)
                · refine lv_iload hx hb dX8_gives_167 (lv_at hl 2 rfl) ?_
                  refine lv_aload_n hx hb dX8_gives_169 rfl (lv_at hl 8 rfl) ?_
                  refine lv_iload hx hb dX8_gives_170 (lv_at hl 4 rfl) ?_
                  refine f_iald X hw hA1 (vp_in_nI (n := e0) (by omega) (by omega)) dX8_gives_172 ?_
                  rw [nI_clamp (n := e0) (by omega)]
                  refine lv_isub hx hb dX8_gives_173 ?_
                  refine lv_aload_n hx hb dX8_gives_174 rfl (lv_at hl 10 rfl) ?_
                  refine f_get X hw hS0 fc9 3 (by decide) wq626 rfl (v := .ref (ad 3003)) rfl dX8_gives_175 ?_
                  refine lv_iload hx hb dX8_gives_178 (lv_at hl 1 rfl) ?_
                  refine f_top (y := nI p0) (ep0) ?_
                  refine f_aaldQ X hw hSp (vp_in_nI (n := p0) (by omega) (by omega)) (q := ad (3200 + p0)) (by rw [nI_clamp (by omega)]; exact hSP p0 (by omega)) dX8_gives_180 ?_
                  refine lv_iconst (v := 1) hx hb dX8_gives_181 (by decide) ?_
                  refine f_iald X hw ((fU_n (by omega)).trans (hPs p0 (by omega))) (by unfold vp_in; decide) dX8_gives_182 ?_
                  rw [show (1 : Int32).toNatClampNeg = 1 from rfl]
                  refine va_mmin hx hb (X.2.2.1.trans hl.1.symm) X.2.2.2.1 (X.2.2.2.2.1 _ wq593) (X.2.2.2.2.1 _ wq287) (X.2.2.2.2.1 _ wq18) (X.2.2.2.2.1 _ wq288) (Nat.le_of_ble_eq_true rfl) (Nat.le_of_ble_eq_true rfl) (by dsimp only [fR]; omega) (by dsimp only [fR]; omega) dX8_gives_183 ?_
                  refine f_top (y := iMin (sPump (tE V e0) - co e0) (tP V p0 1)) rfl ?_
                  refine lv_istore (lv' := [(10, .int (iMin (sPump (tE V e0) - co e0) (tP V p0 1))), (9, .int (sSrc V (tE V e0))), (8, .int (sPump (tE V e0))), (7, .ref (ad (3300 + e0))), (6, .int (nI e0)), (5, .int (nI k)), (4, .ref (ad 3403)), (3, .ref (ad 3402)), (2, .ref (ad 3401)), (1, .int (nI (tEn U))), (0, .ref (ad 3000))]) hx hb dX8_gives_186 hl (by decide) rfl (fun ls hl => ?_)
                  exact rest188 _ ((if_neg c_19).trans ((if_neg c_20).trans (by show iMin (sPump (tE V e0) - co e0) (tP V (sSrc V (tE V e0)).toNatClampNeg 1) = _; rw [ep0, nI_clamp (by omega)]))) (fun _ => ⟨p0, hp0, ep0⟩) ls _ _ hw (lv_sub hl [0, 2, 1, 3, 4, 5, 6, 7, 8, 9, 10] rfl)
            · refine lv_goto (tgt := 345) hx hb dX8_gives_132 (by decide) ?_
              refine lv_iinc (v := nI (k + 1)) (lv' := [(5, .int (nI (k + 1))), (7, .ref (ad (3300 + e0))), (6, .int (nI e0)), (4, .ref (ad 3403)), (3, .ref (ad 3402)), (2, .ref (ad 3401)), (1, .int (nI (tEn U))), (0, .ref (ad 3000))]) hx hb dX8_gives_345 hl (k := 2) rfl (nI_1 k) (by decide) rfl (fun ls hl => ?_)
              refine lv_goto (tgt := 22) hx hb dX8_gives_348 (by decide) ?_
              have hq2 : (V, co, upd dn e0 (1 &&& 1), gi) = sTurns (q0 U) (k + 1) := by show _ = sTurn (sTurns (q0 U) k) (sNxt (sTurns (q0 U) k)).toNatClampNeg; rw [← hq, hso]; exact (if_pos (Int32.not_le.mp c_4)).symm
              have hrA2 : fReg 3000 3420 ado Mo ad (fU M 3402 (.inl (gZ g, tEn U, .inl (upd dn e0 (1 &&& 1))))) := fReg_U (hrA) (by omega)
              exact ih (k + 1) (by omega) (by omega) ad _ _ _ _ _ hq2 hB3 hA1 hA2 hA3 hrA2 h34 ls _ _ hw (lv_sub hl [0, 3, 4, 5, 6, 7] rfl)
          | succ r ihr =>
            intro hr_ who hwho ls H locs hw hl
            rw [nI_p] at hl
            refine lv_iload hx hb dX8_gives_36 (lv_at hl 1 rfl) ?_
            refine lv_if_lt (tgt := 110) hx hb dX8_gives_38 (by decide) (fun c_21 => absurd c_21 (nI_pos (n := r) (by omega))) (fun c_21 => ?_)
            have c_21 := nI_nlt' (a := r) (b := 0) c_21 (by omega) (by omega)
            refine lv_aload_n hx hb dX8_gives_41 rfl (lv_at hl 4 rfl) ?_
            refine lv_iload hx hb dX8_gives_42 (lv_at hl 1 rfl) ?_
            refine f_zald X hw hA2 (vp_in_nI (n := r) (by omega) (by omega)) dX8_gives_44 ?_
            rw [nI_clamp (n := r) (by omega)]
            refine lv_if_ne (tgt := 52) hx hb dX8_gives_45 (by decide) (fun c_22 => ?_) (fun c_22 => ?_)
            · refine lv_iconst (v := 0) hx hb dX8_gives_52 (by decide) ?_
              refine lv_istore (lv' := [(8, .int 0), (6, .int who), (7, .int (nI r)), (5, .int (nI k)), (4, .ref (ad 3403)), (3, .ref (ad 3402)), (2, .ref (ad 3401)), (1, .int (nI (tEn U))), (0, .ref (ad 3000))]) hx hb dX8_gives_53 hl (by decide) rfl (fun ls hl => ?_)
              refine lv_iconst (v := 0) hx hb dX8_gives_55 (by decide) ?_
              refine lv_istore (lv' := [(9, .int 0), (8, .int 0), (6, .int who), (7, .int (nI r)), (5, .int (nI k)), (4, .ref (ad 3403)), (3, .ref (ad 3402)), (2, .ref (ad 3401)), (1, .int (nI (tEn U))), (0, .ref (ad 3000))]) hx hb dX8_gives_56 hl (by decide) rfl (fun ls hl => ?_)
              have loop58 : ∀ (n58 o : Nat), o ≤ tEn U → tEn U < o + n58 → ∀ (ls : Array Slot) (H : Heap) (locs : List Loc), fw g ad M s H locs → lv_has ls 13 [(8, .int (bI (decide (dn r = 0) && !(sWts (tE V) dn (nI r) o)))), (9, .int (nI o)), (6, .int who), (7, .int (nI r)), (5, .int (nI k)), (4, .ref (ad 3403)), (3, .ref (ad 3402)), (2, .ref (ad 3401)), (1, .int (nI (tEn U))), (0, .ref (ad 3000))] → W p l e (fR 3 70 3 18) s m args below meth c H locs (0 + 1 + 1 + 1) (0 + tEn U + tEn U + tEn U) Q9 (F0 m 58 ls []) := by
                intro n58
                induction n58 with
                | zero => intro o h1 h2; omega
                | succ n58 ih58 =>
                  intro o hk_o hn_o ls H locs hw hl
                  refine lv_iload hx hb dX8_gives_58 (lv_at hl 1 rfl) ?_
                  refine lv_iload_n hx hb dX8_gives_60 rfl (lv_at hl 8 rfl) ?_
                  refine lv_icmp_ge (tgt := 95) hx hb dX8_gives_61 (by decide) (fun c_23 => ?_) (fun c_23 => ?_)
                  · have c_23 := nI_le' (a := (tEn U)) (b := o) c_23 (by omega) (by omega)
                    have eo : o = tEn U := by omega
                    refine lv_iload hx hb dX8_gives_95 (lv_at hl 0 rfl) ?_
                    refine lv_if_eq (tgt := 104) hx hb dX8_gives_97 (by decide) (fun c_24 => ?_) (fun c_24 => ?_)
                    · have c_24 := bI_f.mp c_24
                      refine lv_iinc (v := nI r - 1) (lv' := [(7, .int (nI r - 1)), (8, .int (bI (decide (dn r = 0) && !(sWts (tE V) dn (nI r) o)))), (9, .int (nI o)), (6, .int who), (5, .int (nI k)), (4, .ref (ad 3403)), (3, .ref (ad 3402)), (2, .ref (ad 3401)), (1, .int (nI (tEn U))), (0, .ref (ad 3000))]) hx hb dX8_gives_104 hl (k := 3) rfl nI_m (by decide) rfl (fun ls hl => ?_)
                      refine lv_goto (tgt := 36) hx hb dX8_gives_107 (by decide) ?_
                      exact ihr (by omega) _ (whoOk_n (by unfold sOpn; rw [eN, ← eo]; exact c_24) hwho) ls _ _ hw (lv_sub hl [3, 0, 4, 5, 6, 7, 8, 9] rfl)
                    · have c_24 := bI_nf.mp c_24
                      refine lv_iload hx hb dX8_gives_100 (lv_at hl 3 rfl) ?_
                      refine lv_istore (lv' := [(6, .int (nI r)), (8, .int (bI (decide (dn r = 0) && !(sWts (tE V) dn (nI r) o)))), (9, .int (nI o)), (7, .int (nI r)), (5, .int (nI k)), (4, .ref (ad 3403)), (3, .ref (ad 3402)), (2, .ref (ad 3401)), (1, .int (nI (tEn U))), (0, .ref (ad 3000))]) hx hb dX8_gives_102 hl (by decide) rfl (fun ls hl => ?_)
                      refine lv_iinc (v := nI r - 1) (lv' := [(7, .int (nI r - 1)), (6, .int (nI r)), (8, .int (bI (decide (dn r = 0) && !(sWts (tE V) dn (nI r) o)))), (9, .int (nI o)), (5, .int (nI k)), (4, .ref (ad 3403)), (3, .ref (ad 3402)), (2, .ref (ad 3401)), (1, .int (nI (tEn U))), (0, .ref (ad 3000))]) hx hb dX8_gives_104 hl (k := 3) rfl nI_m (by decide) rfl (fun ls hl => ?_)
                      refine lv_goto (tgt := 36) hx hb dX8_gives_107 (by decide) ?_
                      exact ihr (by omega) _ (whoOk_y (by unfold sOpn; rw [eN, ← eo]; exact c_24) (by omega)) ls _ _ hw (lv_sub hl [1, 0, 4, 5, 6, 7, 8, 9] rfl)
                  · have c_23 := nI_nle' (a := (tEn U)) (b := o) c_23 (by omega) (by omega)
                    refine lv_aload_n hx hb dX8_gives_64 rfl (lv_at hl 6 rfl) ?_
                    refine lv_iload hx hb dX8_gives_65 (lv_at hl 1 rfl) ?_
                    refine f_zald X hw hA2 (vp_in_nI (n := o) (by omega) (by omega)) dX8_gives_67 ?_
                    rw [nI_clamp (n := o) (by omega)]
                    refine lv_if_ne (tgt := 89) hx hb dX8_gives_68 (by decide) (fun c_25 => ?_) (fun c_25 => ?_)
                    · refine lv_iinc (v := nI (o + 1)) (lv' := [(9, .int (nI (o + 1))), (8, .int (bI (decide (dn r = 0) && !(sWts (tE V) dn (nI r) o)))), (6, .int who), (7, .int (nI r)), (5, .int (nI k)), (4, .ref (ad 3403)), (3, .ref (ad 3402)), (2, .ref (ad 3401)), (1, .int (nI (tEn U))), (0, .ref (ad 3000))]) hx hb dX8_gives_89 hl (k := 1) rfl (nI_1 o) (by decide) rfl (fun ls hl => ?_)
                      refine lv_goto (tgt := 58) hx hb dX8_gives_92 (by decide) ?_
                      exact ih58 (o + 1) (by omega) (by omega) ls _ _ hw (by rw [show (bI (decide (dn r = 0) && !(sWts (tE V) dn (nI r) (o + 1)))) = (bI (decide (dn r = 0) && !(sWts (tE V) dn (nI r) o))) from (by simp [sWts, bI, c_21, c_22, c_23, c_25])]; exact lv_sub hl [1, 0, 2, 3, 4, 5, 6, 7, 8, 9] rfl)
                    · refine lv_aload_n hx hb dX8_gives_71 rfl (lv_at hl 9 rfl) ?_
                      refine f_get X hw hS0 fc9 2 (by decide) wq624 rfl (v := .ref (ad 3002)) rfl dX8_gives_72 ?_
                      refine lv_iload hx hb dX8_gives_75 (lv_at hl 1 rfl) ?_
                      refine f_aaldW X hw hSe (vp_in_nI (n := o) (by omega) (by omega)) (q := ad (3300 + o)) (by rw [nI_clamp (by omega)]; exact hSE o (by omega)) dX8_gives_77 ?_
                      refine f_get X hw (hEs o (by omega)) fc7 7 (by decide) wq785 rfl (v := .int ((tE V o) 7)) rfl dX8_gives_78 ?_
                      refine lv_iload hx hb dX8_gives_81 (lv_at hl 3 rfl) ?_
                      refine lv_icmp_ne (tgt := 89) hx hb dX8_gives_83 (by decide) (fun c_26 => ?_) (fun c_26 => ?_)
                      · refine lv_iinc (v := nI (o + 1)) (lv' := [(9, .int (nI (o + 1))), (8, .int (bI (decide (dn r = 0) && !(sWts (tE V) dn (nI r) o)))), (6, .int who), (7, .int (nI r)), (5, .int (nI k)), (4, .ref (ad 3403)), (3, .ref (ad 3402)), (2, .ref (ad 3401)), (1, .int (nI (tEn U))), (0, .ref (ad 3000))]) hx hb dX8_gives_89 hl (k := 1) rfl (nI_1 o) (by decide) rfl (fun ls hl => ?_)
                        refine lv_goto (tgt := 58) hx hb dX8_gives_92 (by decide) ?_
                        exact ih58 (o + 1) (by omega) (by omega) ls _ _ hw (by rw [show (bI (decide (dn r = 0) && !(sWts (tE V) dn (nI r) (o + 1)))) = (bI (decide (dn r = 0) && !(sWts (tE V) dn (nI r) o))) from (by simp [sWts, bI, c_21, c_22, c_23, c_25, c_26])]; exact lv_sub hl [1, 0, 2, 3, 4, 5, 6, 7, 8, 9] rfl)
                      · refine lv_iconst (v := 0) hx hb dX8_gives_86 (by decide) ?_
                        refine lv_istore (lv' := [(8, .int 0), (9, .int (nI o)), (6, .int who), (7, .int (nI r)), (5, .int (nI k)), (4, .ref (ad 3403)), (3, .ref (ad 3402)), (2, .ref (ad 3401)), (1, .int (nI (tEn U))), (0, .ref (ad 3000))]) hx hb dX8_gives_87 hl (by decide) rfl (fun ls hl => ?_)
                        refine lv_iinc (v := nI (o + 1)) (lv' := [(9, .int (nI (o + 1))), (8, .int 0), (6, .int who), (7, .int (nI r)), (5, .int (nI k)), (4, .ref (ad 3403)), (3, .ref (ad 3402)), (2, .ref (ad 3401)), (1, .int (nI (tEn U))), (0, .ref (ad 3000))]) hx hb dX8_gives_89 hl (k := 1) rfl (nI_1 o) (by decide) rfl (fun ls hl => ?_)
                        refine lv_goto (tgt := 58) hx hb dX8_gives_92 (by decide) ?_
                        exact ih58 (o + 1) (by omega) (by omega) ls _ _ hw (by rw [show (bI (decide (dn r = 0) && !(sWts (tE V) dn (nI r) (o + 1)))) = 0 from (by simp [sWts, bI, c_21, c_22, c_23, c_25, c_26])]; exact lv_sub hl [1, 0, 2, 3, 4, 5, 6, 7, 8, 9] rfl)
              exact loop58 (tEn U + 1) 0 (by omega) (by omega) ls _ _ hw (by rw [show (bI (decide (dn r = 0) && !(sWts (tE V) dn (nI r) 0))) = 0 from (by simp [sWts, bI, c_21, c_22])]; exact lv_sub hl [1, 0, 2, 3, 4, 5, 6, 7, 8, 9] rfl)
            · refine lv_iconst (v := 1) hx hb dX8_gives_48 (by decide) ?_
              refine lv_goto (tgt := 53) hx hb dX8_gives_49 (by decide) ?_
              refine lv_istore (lv' := [(8, .int 1), (6, .int who), (7, .int (nI r)), (5, .int (nI k)), (4, .ref (ad 3403)), (3, .ref (ad 3402)), (2, .ref (ad 3401)), (1, .int (nI (tEn U))), (0, .ref (ad 3000))]) hx hb dX8_gives_53 hl (by decide) rfl (fun ls hl => ?_)
              refine lv_iconst (v := 0) hx hb dX8_gives_55 (by decide) ?_
              refine lv_istore (lv' := [(9, .int 0), (8, .int 1), (6, .int who), (7, .int (nI r)), (5, .int (nI k)), (4, .ref (ad 3403)), (3, .ref (ad 3402)), (2, .ref (ad 3401)), (1, .int (nI (tEn U))), (0, .ref (ad 3000))]) hx hb dX8_gives_56 hl (by decide) rfl (fun ls hl => ?_)
              have loop58 : ∀ (n58 o : Nat), o ≤ tEn U → tEn U < o + n58 → ∀ (ls : Array Slot) (H : Heap) (locs : List Loc), fw g ad M s H locs → lv_has ls 13 [(8, .int (bI (decide (dn r = 0) && !(sWts (tE V) dn (nI r) o)))), (9, .int (nI o)), (6, .int who), (7, .int (nI r)), (5, .int (nI k)), (4, .ref (ad 3403)), (3, .ref (ad 3402)), (2, .ref (ad 3401)), (1, .int (nI (tEn U))), (0, .ref (ad 3000))] → W p l e (fR 3 70 3 18) s m args below meth c H locs (0 + 1 + 1 + 1) (0 + tEn U + tEn U + tEn U) Q9 (F0 m 58 ls []) := by
                intro n58
                induction n58 with
                | zero => intro o h1 h2; omega
                | succ n58 ih58 =>
                  intro o hk_o hn_o ls H locs hw hl
                  refine lv_iload hx hb dX8_gives_58 (lv_at hl 1 rfl) ?_
                  refine lv_iload_n hx hb dX8_gives_60 rfl (lv_at hl 8 rfl) ?_
                  refine lv_icmp_ge (tgt := 95) hx hb dX8_gives_61 (by decide) (fun c_27 => ?_) (fun c_27 => ?_)
                  · have c_27 := nI_le' (a := (tEn U)) (b := o) c_27 (by omega) (by omega)
                    have eo : o = tEn U := by omega
                    refine lv_iload hx hb dX8_gives_95 (lv_at hl 0 rfl) ?_
                    refine lv_if_eq (tgt := 104) hx hb dX8_gives_97 (by decide) (fun c_28 => ?_) (fun c_28 => ?_)
                    · have c_28 := bI_f.mp c_28
                      refine lv_iinc (v := nI r - 1) (lv' := [(7, .int (nI r - 1)), (8, .int (bI (decide (dn r = 0) && !(sWts (tE V) dn (nI r) o)))), (9, .int (nI o)), (6, .int who), (5, .int (nI k)), (4, .ref (ad 3403)), (3, .ref (ad 3402)), (2, .ref (ad 3401)), (1, .int (nI (tEn U))), (0, .ref (ad 3000))]) hx hb dX8_gives_104 hl (k := 3) rfl nI_m (by decide) rfl (fun ls hl => ?_)
                      refine lv_goto (tgt := 36) hx hb dX8_gives_107 (by decide) ?_
                      exact ihr (by omega) _ (whoOk_n (by unfold sOpn; rw [eN, ← eo]; exact c_28) hwho) ls _ _ hw (lv_sub hl [3, 0, 4, 5, 6, 7, 8, 9] rfl)
                    · have c_28 := bI_nf.mp c_28
                      refine lv_iload hx hb dX8_gives_100 (lv_at hl 3 rfl) ?_
                      refine lv_istore (lv' := [(6, .int (nI r)), (8, .int (bI (decide (dn r = 0) && !(sWts (tE V) dn (nI r) o)))), (9, .int (nI o)), (7, .int (nI r)), (5, .int (nI k)), (4, .ref (ad 3403)), (3, .ref (ad 3402)), (2, .ref (ad 3401)), (1, .int (nI (tEn U))), (0, .ref (ad 3000))]) hx hb dX8_gives_102 hl (by decide) rfl (fun ls hl => ?_)
                      refine lv_iinc (v := nI r - 1) (lv' := [(7, .int (nI r - 1)), (6, .int (nI r)), (8, .int (bI (decide (dn r = 0) && !(sWts (tE V) dn (nI r) o)))), (9, .int (nI o)), (5, .int (nI k)), (4, .ref (ad 3403)), (3, .ref (ad 3402)), (2, .ref (ad 3401)), (1, .int (nI (tEn U))), (0, .ref (ad 3000))]) hx hb dX8_gives_104 hl (k := 3) rfl nI_m (by decide) rfl (fun ls hl => ?_)
                      refine lv_goto (tgt := 36) hx hb dX8_gives_107 (by decide) ?_
                      exact ihr (by omega) _ (whoOk_y (by unfold sOpn; rw [eN, ← eo]; exact c_28) (by omega)) ls _ _ hw (lv_sub hl [1, 0, 4, 5, 6, 7, 8, 9] rfl)
                  · have c_27 := nI_nle' (a := (tEn U)) (b := o) c_27 (by omega) (by omega)
                    refine lv_aload_n hx hb dX8_gives_64 rfl (lv_at hl 6 rfl) ?_
                    refine lv_iload hx hb dX8_gives_65 (lv_at hl 1 rfl) ?_
                    refine f_zald X hw hA2 (vp_in_nI (n := o) (by omega) (by omega)) dX8_gives_67 ?_
                    rw [nI_clamp (n := o) (by omega)]
                    refine lv_if_ne (tgt := 89) hx hb dX8_gives_68 (by decide) (fun c_29 => ?_) (fun c_29 => ?_)
                    · refine lv_iinc (v := nI (o + 1)) (lv' := [(9, .int (nI (o + 1))), (8, .int (bI (decide (dn r = 0) && !(sWts (tE V) dn (nI r) o)))), (6, .int who), (7, .int (nI r)), (5, .int (nI k)), (4, .ref (ad 3403)), (3, .ref (ad 3402)), (2, .ref (ad 3401)), (1, .int (nI (tEn U))), (0, .ref (ad 3000))]) hx hb dX8_gives_89 hl (k := 1) rfl (nI_1 o) (by decide) rfl (fun ls hl => ?_)
                      refine lv_goto (tgt := 58) hx hb dX8_gives_92 (by decide) ?_
                      exact ih58 (o + 1) (by omega) (by omega) ls _ _ hw (by rw [show (bI (decide (dn r = 0) && !(sWts (tE V) dn (nI r) (o + 1)))) = (bI (decide (dn r = 0) && !(sWts (tE V) dn (nI r) o))) from (by simp [sWts, bI, c_21, c_22, c_27, c_29])]; exact lv_sub hl [1, 0, 2, 3, 4, 5, 6, 7, 8, 9] rfl)
                    · refine lv_aload_n hx hb dX8_gives_71 rfl (lv_at hl 9 rfl) ?_
                      refine f_get X hw hS0 fc9 2 (by decide) wq624 rfl (v := .ref (ad 3002)) rfl dX8_gives_72 ?_
                      refine lv_iload hx hb dX8_gives_75 (lv_at hl 1 rfl) ?_
                      refine f_aaldW X hw hSe (vp_in_nI (n := o) (by omega) (by omega)) (q := ad (3300 + o)) (by rw [nI_clamp (by omega)]; exact hSE o (by omega)) dX8_gives_77 ?_
                      refine f_get X hw (hEs o (by omega)) fc7 7 (by decide) wq785 rfl (v := .int ((tE V o) 7)) rfl dX8_gives_78 ?_
                      refine lv_iload hx hb dX8_gives_81 (lv_at hl 3 rfl) ?_
                      refine lv_icmp_ne (tgt := 89) hx hb dX8_gives_83 (by decide) (fun c_30 => ?_) (fun c_30 => ?_)
                      · refine lv_iinc (v := nI (o + 1)) (lv' := [(9, .int (nI (o + 1))), (8, .int (bI (decide (dn r = 0) && !(sWts (tE V) dn (nI r) o)))), (6, .int who), (7, .int (nI r)), (5, .int (nI k)), (4, .ref (ad 3403)), (3, .ref (ad 3402)), (2, .ref (ad 3401)), (1, .int (nI (tEn U))), (0, .ref (ad 3000))]) hx hb dX8_gives_89 hl (k := 1) rfl (nI_1 o) (by decide) rfl (fun ls hl => ?_)
                        refine lv_goto (tgt := 58) hx hb dX8_gives_92 (by decide) ?_
                        exact ih58 (o + 1) (by omega) (by omega) ls _ _ hw (by rw [show (bI (decide (dn r = 0) && !(sWts (tE V) dn (nI r) (o + 1)))) = (bI (decide (dn r = 0) && !(sWts (tE V) dn (nI r) o))) from (by simp [sWts, bI, c_21, c_22, c_27, c_29, c_30])]; exact lv_sub hl [1, 0, 2, 3, 4, 5, 6, 7, 8, 9] rfl)
                      · refine lv_iconst (v := 0) hx hb dX8_gives_86 (by decide) ?_
                        refine lv_istore (lv' := [(8, .int 0), (9, .int (nI o)), (6, .int who), (7, .int (nI r)), (5, .int (nI k)), (4, .ref (ad 3403)), (3, .ref (ad 3402)), (2, .ref (ad 3401)), (1, .int (nI (tEn U))), (0, .ref (ad 3000))]) hx hb dX8_gives_87 hl (by decide) rfl (fun ls hl => ?_)
                        refine lv_iinc (v := nI (o + 1)) (lv' := [(9, .int (nI (o + 1))), (8, .int 0), (6, .int who), (7, .int (nI r)), (5, .int (nI k)), (4, .ref (ad 3403)), (3, .ref (ad 3402)), (2, .ref (ad 3401)), (1, .int (nI (tEn U))), (0, .ref (ad 3000))]) hx hb dX8_gives_89 hl (k := 1) rfl (nI_1 o) (by decide) rfl (fun ls hl => ?_)
                        refine lv_goto (tgt := 58) hx hb dX8_gives_92 (by decide) ?_
                        exact ih58 (o + 1) (by omega) (by omega) ls _ _ hw (by rw [show (bI (decide (dn r = 0) && !(sWts (tE V) dn (nI r) (o + 1)))) = 0 from (by simp [sWts, bI, c_21, c_22, c_27, c_29, c_30])]; exact lv_sub hl [1, 0, 2, 3, 4, 5, 6, 7, 8, 9] rfl)
              exact loop58 (tEn U + 1) 0 (by omega) (by omega) ls _ _ hw (by rw [show (bI (decide (dn r = 0) && !(sWts (tE V) dn (nI r) 0))) = 1 from (by simp [sWts, bI, c_21, c_22])]; exact lv_sub hl [1, 0, 2, 3, 4, 5, 6, 7, 8, 9] rfl)
        exact loop36 (tEn U) (Nat.le_refl _) (-1) (Or.inl ⟨rfl, fun j a b => absurd b (by rw [eN]; omega)⟩) ls _ _ hw (by rw [show nI (tEn U) - 1 = nI (tEn U) - 1 from rfl]; exact lv_sub hl [1, 0, 2, 3, 4, 5, 6, 7] rfl)
  have e30 : ad3 3000 = ad 3000 := ((eA3 3000 (by omega)).trans ((eA2 3000 (by omega)).trans (eA1 3000 (by omega))))
  have hrA3 : fReg 3000 3420 ado Mo ad3 Mn3 := by
    rw [hado, hMo]
    intro l a b
    exact ⟨(eA3 l (by omega)).trans ((eA2 l (by omega)).trans (eA1 l (by omega))), (eM3 l (by omega)).trans ((eM2 l (by omega)).trans (eM1 l (by omega)))⟩
  have h34 : ∀ l, l < 3400 → ad3 l = ado l := fun l a => by rw [hado]; exact (eA3 l (by omega)).trans ((eA2 l (by omega)).trans (eA1 l (by omega)))
  have hS3 : isSim g ad3 Mn3 U := isSim_eq hS (fun l a b => ⟨(eA3 l (by omega)).trans ((eA2 l (by omega)).trans (eA1 l (by omega))), (eM3 l (by omega)).trans ((eM2 l (by omega)).trans (eM1 l (by omega)))⟩)
  rw [← e30, ← ((eA3 3401 (by omega)).trans ((eA2 3401 (by omega)).trans eq1)), ← ((eA3 3402 (by omega)).trans eq2), ← eq3] at hl
  exact loop22 (tEn U + 1) 0 (by omega) (by omega) ad3 Mn3 U f0 f0 f0 rfl hS3 eS1 eS2 eS3 hrA3 h34 ls _ _ hw (lv_sub hl [0, 1, 2, 3, 4, 5] rfl)
