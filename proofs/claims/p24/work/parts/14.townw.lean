/-! WRITING IN A TOWN -/
abbrev sH (T : fTn) (i : Nat) (f : Nat → Int32) : fTn := (tM T, (tHn T, fun j => if j = i then f else tH T j), (tPn T, tP T), (tEn T, tE T))
abbrev sP (T : fTn) (i : Nat) (f : Nat → Int32) : fTn := (tM T, (tHn T, tH T), (tPn T, fun j => if j = i then f else tP T j), (tEn T, tE T))
abbrev sE (T : fTn) (i : Nat) (f : Nat → Int32) : fTn := (tM T, (tHn T, tH T), (tPn T, tP T), (tEn T, fun j => if j = i then f else tE T j))
abbrev sM (T : fTn) (x : Int32) : fTn := (x, (tHn T, tH T), (tPn T, tP T), (tEn T, tE T))
abbrev mH (F : (Nat → Int32) → Nat → Int32) (n : Nat) (T : fTn) : fTn := (tM T, (tHn T, fun j => if j < n then F (tH T j) else tH T j), (tPn T, tP T), (tEn T, tE T))
abbrev mE (F : (Nat → Int32) → Nat → Int32) (n : Nat) (T : fTn) : fTn := (tM T, (tHn T, tH T), (tPn T, tP T), (tEn T, fun j => if j < n then F (tE T j) else tE T j))
theorem map_step {F : (Nat → Int32) → Nat → Int32} {f : Nat → Nat → Int32} {k : Nat} : (fun j => if j = k then F (f k) else (if j < k then F (f j) else f j)) = (fun j => if j < k + 1 then F (f j) else f j) := by
  funext j
  by_cases h : j = k
  · subst h
    rw [if_pos rfl, if_pos (Nat.lt_succ_self j)]
  · by_cases h2 : j < k
    · rw [if_neg h, if_pos h2, if_pos (by omega)]
    · rw [if_neg h, if_neg h2, if_neg (by omega)]
theorem mH_step {F : (Nat → Int32) → Nat → Int32} {T : fTn} {k : Nat} : sH (mH F k T) k (F (tH T k)) = mH F (k + 1) T := by
  show (tM T, (tHn T, fun j => if j = k then F (tH T k) else (if j < k then F (tH T j) else tH T j)), (tPn T, tP T), (tEn T, tE T)) = _
  rw [map_step]
theorem mE_step {F : (Nat → Int32) → Nat → Int32} {T : fTn} {k : Nat} : sE (mE F k T) k (F (tE T k)) = mE F (k + 1) T := by
  show (tM T, (tHn T, tH T), (tPn T, tP T), (tEn T, fun j => if j = k then F (tE T k) else (if j < k then F (tE T j) else tE T j))) = _
  rw [map_step]
theorem mH_ge {F : (Nat → Int32) → Nat → Int32} {T : fTn} {k i : Nat} (h : k ≤ i) : tH (mH F k T) i = tH T i := if_neg (by omega)
theorem mE_ge {F : (Nat → Int32) → Nat → Int32} {T : fTn} {k i : Nat} (h : k ≤ i) : tE (mE F k T) i = tE T i := if_neg (by omega)
theorem mH_0 {F : (Nat → Int32) → Nat → Int32} {T : fTn} : mH F 0 T = T := by
  obtain ⟨m, ⟨a, f⟩, ⟨b, f2⟩, c, f3⟩ := T
  simp [mH]
theorem mE_0 {F : (Nat → Int32) → Nat → Int32} {T : fTn} : mE F 0 T = T := by
  obtain ⟨m, ⟨a, f⟩, ⟨b, f2⟩, c, f3⟩ := T
  simp [mE]
theorem fList_V {g : fG} {ad : Nat → Nat} {M M' : fM} {ll la eb n : Nat} (h : fList g ad M ll la eb n) (h1 : M' ll = M ll) (h2 : M' la = M la) : fList g ad M' ll la eb n := by
  obtain ⟨mo, d, N, f, a1, a2, a3⟩ := h
  refine ⟨mo, d, N, f, h1.trans a1, a2, ?_⟩
  rcases a3 with a3 | ⟨b1, b2, b3⟩
  · exact Or.inl a3
  · exact Or.inr ⟨b1, h2.trans b2, b3⟩
theorem fList_U {g : fG} {ad : Nat → Nat} {M : fM} {ll la eb n l : Nat} {e : va_E} (h : fList g ad M ll la eb n) (h1 : ll ≠ l) (h2 : la ≠ l) : fList g ad (fU M l e) ll la eb n := fList_V h (fU_n h1) (fU_n h2)
theorem isTown_setH {g : fG} {ad : Nat → Nat} {M : fM} {b i : Nat} {T : fTn} {f : Nat → Int32} (h : isTown g ad M b T) (hi : i < tHn T) : isTown g ad (fU M (b + 100 + i) (.inr (3, hV f))) b (sH T i f) := by
  obtain ⟨h0, h1, h2, h3, h4, h5, h6, n1, n2, n3, hA⟩ := h
  refine ⟨(fU_n (by omega)).trans h0, fList_U h1 (by omega) (by omega), fList_U h2 (by omega) (by omega), fList_U h3 (by omega) (by omega), fun j hj => ?_, fun j (hj : j < tPn T) => (fU_n (by omega)).trans (h5 j hj), fun j (hj : j < tEn T) => (fU_n (by omega)).trans (h6 j hj), n1, n2, n3, hA⟩
  by_cases e : j = i
  · subst e
    show fU M (b + 100 + j) _ (b + 100 + j) = some (.inr (3, hV (if j = j then f else tH T j)))
    rw [fU_s, if_pos rfl]
  · show fU M (b + 100 + i) _ (b + 100 + j) = some (.inr (3, hV (if j = i then f else tH T j)))
    rw [fU_n (by omega), if_neg e]
    exact h4 j hj
theorem isTown_setP {g : fG} {ad : Nat → Nat} {M : fM} {b i : Nat} {T : fTn} {f : Nat → Int32} (h : isTown g ad M b T) (hi : i < tPn T) : isTown g ad (fU M (b + 200 + i) (.inr (4, pV f))) b (sP T i f) := by
  obtain ⟨h0, h1, h2, h3, h4, h5, h6, n1, n2, n3, hA⟩ := h
  refine ⟨(fU_n (by omega)).trans h0, fList_U h1 (by omega) (by omega), fList_U h2 (by omega) (by omega), fList_U h3 (by omega) (by omega), fun j (hj : j < tHn T) => (fU_n (by omega)).trans (h4 j hj), fun j hj => ?_, fun j (hj : j < tEn T) => (fU_n (by omega)).trans (h6 j hj), n1, n2, n3, hA⟩
  by_cases e : j = i
  · subst e
    show fU M (b + 200 + j) _ (b + 200 + j) = some (.inr (4, pV (if j = j then f else tP T j)))
    rw [fU_s, if_pos rfl]
  · show fU M (b + 200 + i) _ (b + 200 + j) = some (.inr (4, pV (if j = i then f else tP T j)))
    rw [fU_n (by omega), if_neg e]
    exact h5 j hj
theorem isTown_setE {g : fG} {ad : Nat → Nat} {M : fM} {b i : Nat} {T : fTn} {f : Nat → Int32} (h : isTown g ad M b T) (hi : i < tEn T) (ha : f 10 = 0 ∨ f 10 = 1) : isTown g ad (fU M (b + 300 + i) (.inr (1, eV f))) b (sE T i f) := by
  obtain ⟨h0, h1, h2, h3, h4, h5, h6, n1, n2, n3, hA⟩ := h
  refine ⟨(fU_n (by omega)).trans h0, fList_U h1 (by omega) (by omega), fList_U h2 (by omega) (by omega), fList_U h3 (by omega) (by omega), fun j (hj : j < tHn T) => (fU_n (by omega)).trans (h4 j hj), fun j (hj : j < tPn T) => (fU_n (by omega)).trans (h5 j hj), fun j hj => ?_, n1, n2, n3, fun j hj => ?_⟩
  · by_cases e : j = i
    · subst e
      show fU M (b + 300 + j) _ (b + 300 + j) = some (.inr (1, eV (if j = j then f else tE T j)))
      rw [fU_s, if_pos rfl]
    · show fU M (b + 300 + i) _ (b + 300 + j) = some (.inr (1, eV (if j = i then f else tE T j)))
      rw [fU_n (by omega), if_neg e]
      exact h6 j hj
  · show (if j = i then f else tE T j) 10 = 0 ∨ (if j = i then f else tE T j) 10 = 1
    split
    · exact ha
    · exact hA j hj
theorem isTown_setM {g : fG} {ad : Nat → Nat} {M : fM} {b : Nat} {T : fTn} {x : Int32} (h : isTown g ad M b T) : isTown g ad (fU M b (.inr (5, [.int x, .ref (ad (b + 1)), .ref (ad (b + 2)), .ref (ad (b + 3))]))) b (sM T x) := by
  obtain ⟨h0, h1, h2, h3, h4, h5, h6, n1, n2, n3, hA⟩ := h
  exact ⟨fU_s, fList_U h1 (by omega) (by omega), fList_U h2 (by omega) (by omega), fList_U h3 (by omega) (by omega), fun j (hj : j < tHn T) => (fU_n (by omega)).trans (h4 j hj), fun j (hj : j < tPn T) => (fU_n (by omega)).trans (h5 j hj), fun j (hj : j < tEn T) => (fU_n (by omega)).trans (h6 j hj), n1, n2, n3, hA⟩
/-- nothing but this town's cells has changed -/
def fOut (b : Nat) (M M' : fM) : Prop := ∀ l, ¬ (b ≤ l ∧ l < b + 1000) → M' l = M l
theorem fOut_rf {b : Nat} {M : fM} : fOut b M M := fun _ _ => rfl
theorem fOut_tr {b : Nat} {M M' M2 : fM} (h : fOut b M M') (h2 : fOut b M' M2) : fOut b M M2 := fun l hl => (h2 l hl).trans (h l hl)
theorem fOut_U {b l : Nat} {M M' : fM} {e : va_E} (h : fOut b M M') (hl : b ≤ l ∧ l < b + 1000) : fOut b M (fU M' l e) := fun k hk => (fU_n (fun z => hk (by rw [z]; exact hl))).trans (h k hk)
theorem isTown_out {g : fG} {ad : Nat → Nat} {M M' : fM} {b b' : Nat} {T : fTn} (h : isTown g ad M b T) (ho : fOut b' M M') (hb : b + 1000 ≤ b' ∨ b' + 1000 ≤ b) : isTown g ad M' b T := by
  obtain ⟨h0, h1, h2, h3, h4, h5, h6, n1, n2, n3, hA⟩ := h
  exact ⟨(ho _ (by omega)).trans h0, fList_V h1 (ho _ (by omega)) (ho _ (by omega)), fList_V h2 (ho _ (by omega)) (ho _ (by omega)), fList_V h3 (ho _ (by omega)) (ho _ (by omega)), fun j hj => (ho _ (by omega)).trans (h4 j hj), fun j hj => (ho _ (by omega)).trans (h5 j hj), fun j hj => (ho _ (by omega)).trans (h6 j hj), n1, n2, n3, hA⟩
abbrev fTw (g : fG) (ad : Nat → Nat) (M : fM) (b : Nat) (T : fTn) : (Nat → Nat) → fM → Prop := fun ad1 M1 => ad1 = ad ∧ isTown g ad M1 b T ∧ fOut b M M1
abbrev fTi (g : fG) (ad : Nat → Nat) (M : fM) (b : Nat) (T : fTn) (v : Int32) : Int32 → (Nat → Nat) → fM → Prop := fun r ad1 M1 => ad1 = ad ∧ isTown g ad M1 b T ∧ fOut b M M1 ∧ r = v
section FTW
variable {p : Program} {l : Launch} {e : Env} {R : Room} {s : State} {m : MethodId} {args : Array Value} {below : List Frame} {meth : Method} {c : Code} {H : Heap} {locs : List Loc} {cells slots : Nat} {Q : State → Prop}
variable {g : fG} {ad : Nat → Nat} {M : fM} {pc : Nat} {ls : Array Slot} {rest : List Value} {st0 : List Value} {a : Array Value} {mc ms b : Nat} {T : fTn}
theorem fk_tv (hr : va_Run p l e R s m args below meth c H locs cells slots mc ms (F0 m pc ls st0) rest (fQv g (fTw g ad M b T) a) (fA g)) (hw : fw g ad M s H locs)
    (kk : ∀ (M1 : fM) (H1 : Heap) (locs1 : List Loc), isTown g ad M1 b T → fOut b M M1 → fw g ad M1 s H1 locs1 → W p l e R s m args below meth c H1 locs1 (cells + mc) (slots + ms) Q (F0 m (pc + 3) ls rest)) : W p l e R s m args below meth c H locs cells slots Q (F0 m pc ls st0) :=
  fk_v hr hw (fun ad1 M1 H1 locs1 hp hw1 => by obtain ⟨e1, e2, e3⟩ := hp; rw [e1] at hw1; exact kk M1 H1 locs1 e2 e3 hw1)
theorem fk_ti {v : Int32} (hr : va_Run p l e R s m args below meth c H locs cells slots mc ms (F0 m pc ls st0) rest (fQi g (fTi g ad M b T v) a) (fA g)) (hw : fw g ad M s H locs)
    (kk : ∀ (M1 : fM) (H1 : Heap) (locs1 : List Loc), isTown g ad M1 b T → fOut b M M1 → fw g ad M1 s H1 locs1 → W p l e R s m args below meth c H1 locs1 (cells + mc) (slots + ms) Q (F0 m (pc + 3) ls (.int v :: rest))) : W p l e R s m args below meth c H locs cells slots Q (F0 m pc ls st0) :=
  fk_i hr hw (fun r ad1 M1 H1 locs1 hp hw1 => by obtain ⟨e1, e2, e3, e4⟩ := hp; rw [e4]; rw [e1] at hw1; exact kk M1 H1 locs1 e2 e3 hw1)
end FTW
/-! what a minute does -/
def eReset (f : Nat → Int32) : Nat → Int32 := upd (upd (upd f 8 0) 9 0) 10 0
def hReset (f : Nat → Int32) : Nat → Int32 := upd f 5 0
def hCatch (f : Nat → Int32) : Nat → Int32 := if f 3 = 1 then (if f 4 = 0 then upd f 4 5 else f) else f
def eGo (f : Nat → Int32) : Nat → Int32 := eDrive (eFire f)
/-- the hoses of an engine and to it are taken up -/
def upHose (x : Int32) (k : Nat) (f : Nat → Int32) : Nat → Int32 := if nI k = x then upd f 7 (-1) else if f 7 = x then upd f 7 (-1) else f
def arrivesI (given len : Int32) : Int32 := given - given * (len / 2) / 10
def askT (T : fTn) (e : Nat) : fTn :=
  if tE T e 7 = -1 then sE T e (upd (tE T e) 10 1)
  else if isIx (tPn T) (pondOf T (tE T e)) = true then
    sE (sP T (pondOf T (tE T e)).toNatClampNeg (upd (tP T (pondOf T (tE T e)).toNatClampNeg) 1 (tP T (pondOf T (tE T e)).toNatClampNeg 1 - pGive (tP T (pondOf T (tE T e)).toNatClampNeg) (ePump (tE T e) - tE T e 8)))) e
      (upd (upd (tE T e) 10 1) 9 (iMin (tE T e 8 + pGive (tP T (pondOf T (tE T e)).toNatClampNeg) (ePump (tE T e) - tE T e 8)) (ePump (tE T e))))
  else sE T e (upd (upd (tE T e) 10 1) 9 (iMin (tE T e 8) (ePump (tE T e))))
def sendT (T : fTn) (e : Nat) : fTn :=
  if isIx (tEn T) (tE T e 7) = true then
    sE T (tE T e 7).toNatClampNeg (upd (tE T (tE T e 7).toNatClampNeg) 8 (tE T (tE T e 7).toNatClampNeg 8 + arrivesI (tE T e 9) (aDist (tE T e 0) (tE T (tE T e 7).toNatClampNeg 0))))
  else if isIx (tHn T) (tE T e 7 - 100) = true then
    sH T (tE T e 7 - 100).toNatClampNeg (upd (upd (tH T (tE T e 7 - 100).toNatClampNeg) 5 (tH T (tE T e 7 - 100).toNatClampNeg 5 + arrivesI (tE T e 9) (aDist (tE T e 0) (tH T (tE T e 7 - 100).toNatClampNeg 0)))) 6 (tH T (tE T e 7 - 100).toNatClampNeg 6 + arrivesI (tE T e 9) (aDist (tE T e 0) (tH T (tE T e 7 - 100).toNatClampNeg 0))))
  else T
def turnT (T : fTn) : fTn := if isIx (tEn T) (nextE T) = true then sendT (askT T (nextE T).toNatClampNeg) (nextE T).toNatClampNeg else T
def turnsT : Nat → fTn → fTn
  | 0, T => T
  | n + 1, T => turnT (turnsT n T)
def moveT (T : fTn) : fTn := mE eSpend (tEn T) (turnsT (tEn T) (mE eReset (tEn T) (mH hReset (tHn T) T)))
/-- the first pass of catching fire -/
def catch1 (T : fTn) : Nat → fTn × Int32
  | 0 => (T, 0)
  | k + 1 => if tH (catch1 T k).1 k 3 = 0 then (if heatN (tH (catch1 T k).1) (tH (catch1 T k).1 k 0) (tHn T) - tH (catch1 T k).1 k 5 < 40 then catch1 T k else (sH (catch1 T k).1 k (upd (tH (catch1 T k).1 k) 3 1), (catch1 T k).2 + 1)) else catch1 T k
def catchT (T : fTn) : fTn × Int32 := (mH hCatch (tHn T) (catch1 T (tHn T)).1, (catch1 T (tHn T)).2)
def minT (T : fTn) : fTn × Int32 :=
  (sM (catchT (mH hBurn (tHn T) (moveT (mE eGo (tEn T) T)))).1 (tM T + 1), (catchT (mH hBurn (tHn T) (moveT (mE eGo (tEn T) T)))).2)
def goT (T : fTn) : Nat → fTn × Int32
  | 0 => (T, 0)
  | n + 1 => ((minT (goT T n).1).1, (goT T n).2 + (minT (goT T n).1).2)
theorem eFire_a {f : Nat → Int32} : eFire f 10 = f 10 := by unfold eFire; split <;> rfl
theorem eDrive_a {f : Nat → Int32} : eDrive f 10 = f 10 := by unfold eDrive; split <;> (try split) <;> rfl
theorem eSpend_a {f : Nat → Int32} : eSpend f 10 = f 10 := by unfold eSpend; split <;> rfl
theorem upHose_a {x : Int32} {k : Nat} {f : Nat → Int32} : upHose x k f 10 = f 10 := by unfold upHose; split <;> (try split) <;> rfl
theorem askT_n (T : fTn) (e : Nat) : tHn (askT T e) = tHn T ∧ tPn (askT T e) = tPn T ∧ tEn (askT T e) = tEn T ∧ tM (askT T e) = tM T := by unfold askT; split <;> (try split) <;> exact ⟨rfl, rfl, rfl, rfl⟩
theorem sendT_n (T : fTn) (e : Nat) : tHn (sendT T e) = tHn T ∧ tPn (sendT T e) = tPn T ∧ tEn (sendT T e) = tEn T ∧ tM (sendT T e) = tM T := by unfold sendT; split <;> (try split) <;> exact ⟨rfl, rfl, rfl, rfl⟩
theorem turnT_n (T : fTn) : tHn (turnT T) = tHn T ∧ tPn (turnT T) = tPn T ∧ tEn (turnT T) = tEn T ∧ tM (turnT T) = tM T := by
  unfold turnT
  split
  · obtain ⟨a1, a2, a3, a4⟩ := askT_n T (nextE T).toNatClampNeg
    obtain ⟨b1, b2, b3, b4⟩ := sendT_n (askT T (nextE T).toNatClampNeg) (nextE T).toNatClampNeg
    exact ⟨b1.trans a1, b2.trans a2, b3.trans a3, b4.trans a4⟩
  · exact ⟨rfl, rfl, rfl, rfl⟩
theorem turnsT_n (n : Nat) (T : fTn) : tHn (turnsT n T) = tHn T ∧ tPn (turnsT n T) = tPn T ∧ tEn (turnsT n T) = tEn T ∧ tM (turnsT n T) = tM T := by
  induction n with
  | zero => exact ⟨rfl, rfl, rfl, rfl⟩
  | succ n ih =>
    obtain ⟨a1, a2, a3, a4⟩ := turnT_n (turnsT n T)
    obtain ⟨b1, b2, b3, b4⟩ := ih
    exact ⟨a1.trans b1, a2.trans b2, a3.trans b3, a4.trans b4⟩
theorem moveT_n (T : fTn) : tHn (moveT T) = tHn T ∧ tPn (moveT T) = tPn T ∧ tEn (moveT T) = tEn T ∧ tM (moveT T) = tM T := turnsT_n (tEn T) (mE eReset (tEn T) (mH hReset (tHn T) T))
theorem catch1_n (T : fTn) (n : Nat) : tHn (catch1 T n).1 = tHn T ∧ tPn (catch1 T n).1 = tPn T ∧ tEn (catch1 T n).1 = tEn T ∧ tM (catch1 T n).1 = tM T := by
  induction n with
  | zero => exact ⟨rfl, rfl, rfl, rfl⟩
  | succ n ih =>
    unfold catch1
    split
    · split
      · exact ih
      · exact ih
    · exact ih
abbrev mEi (F : Nat → (Nat → Int32) → Nat → Int32) (n : Nat) (T : fTn) : fTn := (tM T, (tHn T, tH T), (tPn T, tP T), (tEn T, fun j => if j < n then F j (tE T j) else tE T j))
theorem mEi_step {F : Nat → (Nat → Int32) → Nat → Int32} {T : fTn} {k : Nat} : sE (mEi F k T) k (F k (tE T k)) = mEi F (k + 1) T := by
  show (tM T, (tHn T, tH T), (tPn T, tP T), (tEn T, fun j => if j = k then F k (tE T k) else (if j < k then F j (tE T j) else tE T j))) = _
  congr 4
  funext j
  by_cases h : j = k
  · subst h
    rw [if_pos rfl, if_pos (Nat.lt_succ_self j)]
  · by_cases h2 : j < k
    · rw [if_neg h, if_pos h2, if_pos (by omega)]
    · rw [if_neg h, if_neg h2, if_neg (by omega)]
theorem mEi_ge {F : Nat → (Nat → Int32) → Nat → Int32} {T : fTn} {k i : Nat} (h : k ≤ i) : tE (mEi F k T) i = tE T i := if_neg (by omega)
theorem mEi_0 {F : Nat → (Nat → Int32) → Nat → Int32} {T : fTn} : mEi F 0 T = T := by
  obtain ⟨m, ⟨a, f⟩, ⟨b, f2⟩, c, f3⟩ := T
  simp [mEi]
theorem sE_same {T : fTn} {k : Nat} : sE T k (tE T k) = T := by
  obtain ⟨m, ⟨a, f⟩, ⟨b, f2⟩, c, f3⟩ := T
  show (m, (a, f), (b, f2), (c, fun j => if j = k then f3 k else f3 j)) = _
  congr 4
  funext j
  by_cases h : j = k
  · rw [h, if_pos rfl]
  · rw [if_neg h]
theorem sH_same {T : fTn} {k : Nat} : sH T k (tH T k) = T := by
  obtain ⟨m, ⟨a, f⟩, ⟨b, f2⟩, c, f3⟩ := T
  show (m, (a, fun j => if j = k then f k else f j), (b, f2), (c, f3)) = _
  congr 3
  funext j
  by_cases h : j = k
  · rw [h, if_pos rfl]
  · rw [if_neg h]
theorem fU_c {M : fM} {l k : Nat} {e e' : va_E} (h : l ≠ k) : fU (fU M l e) k e' = fU (fU M k e') l e := by
  funext x
  unfold fU
  by_cases h1 : x = k
  · subst h1
    simp [Ne.symm h]
  · simp [h1]
theorem pondOf_ask {T : fTn} {e : Nat} {f h : Nat → Int32} {x : Int32} : pondOf (sE T e h) (upd f 10 x) = pondOf T f := by
  unfold pondOf eStands
  rfl
theorem ePump_ask {f : Nat → Int32} {x : Int32} : ePump (upd f 10 x) = ePump f := by
  unfold ePump eStands
  rfl
