/-! new int[n][k]: the rows' row at the label lo, the rows at li, li + 1 .. -/
abbrev va_E0 : va_E := .inr (0, [])
def mAd (ad : Nat → Nat) (lo li N q : Nat) (r : Nat → Nat) : Nat → Nat := fun l => if l = lo then q else if li ≤ l ∧ l < li + N then r (l - li) else ad l
def mMp (g : fG) (M : fM) (lo li N K : Nat) (r : Nat → Nat) : fM := fun l => if l = lo then some (.inl (gQ g, N, .inr (.inr (.inr (.inr (fun i => if i < N then some (r i) else none)))))) else if li ≤ l ∧ l < li + N then some (.inl (gI g, K, .inl (fun _ => 0))) else M l
theorem mAd_o {ad : Nat → Nat} {lo li N q : Nat} {r : Nat → Nat} : mAd ad lo li N q r lo = q := if_pos rfl
theorem mMp_o {g : fG} {M : fM} {lo li N K : Nat} {r : Nat → Nat} : mMp g M lo li N K r lo = some (.inl (gQ g, N, .inr (.inr (.inr (.inr (fun i => if i < N then some (r i) else none)))))) := if_pos rfl
theorem mAd_i {ad : Nat → Nat} {lo li N q i : Nat} {r : Nat → Nat} (h : lo < li) (hi : i < N) : mAd ad lo li N q r (li + i) = r i := by
  unfold mAd
  rw [if_neg (by omega), if_pos (by omega), show li + i - li = i by omega]
theorem mMp_i {g : fG} {M : fM} {lo li N K i : Nat} {r : Nat → Nat} (h : lo < li) (hi : i < N) : mMp g M lo li N K r (li + i) = some (.inl (gI g, K, .inl (fun _ => 0))) := by
  unfold mMp
  rw [if_neg (by omega), if_pos (by omega)]
theorem mna_r {g : fG} {ad : Nat → Nat} {M : fM} {lo li N K q l : Nat} {r : Nat → Nat} (h1 : l ≠ lo) (h2 : ¬ (li ≤ l ∧ l < li + N)) : mAd ad lo li N q r l = ad l ∧ mMp g M lo li N K r l = M l := ⟨(if_neg h1).trans (if_neg h2), (if_neg h1).trans (if_neg h2)⟩
theorem vr_at {A : va_W} {x : Nat × va_E} {N : Nat} {r : Nat → Nat} {f : Nat → va_E} {e : va_E} {i : Nat} (hi : i < N) : ((A ++ [x]) ++ va_pl ([] ++ (List.range N).map r) (vr_up f ((List.range N).map r) e))[A.length + 1 + i]? = some (r i, e) := by
  have hm : r i ∈ (List.range N).map r := List.mem_map.mpr ⟨i, List.mem_range.mpr hi, rfl⟩
  have hL : (A ++ [x]).length = A.length + 1 := by rw [List.length_append]; rfl
  rw [List.getElem?_append_right (by omega), hL, show A.length + 1 + i - (A.length + 1) = i by omega, List.nil_append]
  unfold va_pl
  rw [List.getElem?_map, List.getElem?_map, List.getElem?_range hi]
  show some (r i, vr_up f _ e (r i)) = _
  rw [vr_up_in hm]
theorem vr_q {A B : va_W} {x : Nat × va_E} : ((A ++ [x]) ++ B)[A.length]? = some x := by
  rw [List.append_assoc, List.getElem?_append_right (Nat.le_refl _), Nat.sub_self]; rfl
theorem vr_old {A B : va_W} {x y : Nat × va_E} {j : Nat} (h : A[j]? = some y) : ((A ++ [x]) ++ B)[j]? = some y := by
  have lj := (List.getElem?_eq_some_iff.mp h).1
  rw [List.append_assoc, List.getElem?_append_left lj]; exact h
theorem fh_mna {g : fG} {ad : Nat → Nat} {M : fM} {H H1 : Heap} {lo li N K q : Nat} {r : Nat → Nat} {f : Nat → va_E} (h : fh g ad M H) (h4 : lo < li) (h5 : li + N ≤ 4096) (hz : gB g ≤ H1.size) (hinj : ∀ i j, i < N → j < N → r i = r j → i = j)
    (hP : va_P (gD g) vwCl ((fwl ad M ++ [(q, .inl (gQ g, N, .inr (.inr (.inr (.inr (fun i => if i < N then some (r i) else none))))))]) ++ va_pl ([] ++ (List.range N).map r) (vr_up f ((List.range N).map r) (.inl (gI g, K, .inl (fun _ => 0))))) H1)
    (hD : va_D (fA g) ((fwl ad M ++ [(q, .inl (gQ g, N, .inr (.inr (.inr (.inr (fun i => if i < N then some (r i) else none))))))]) ++ va_pl ([] ++ (List.range N).map r) (vr_up f ((List.range N).map r) (.inl (gI g, K, .inl (fun _ => 0)))))) : fh g (mAd ad lo li N q r) (mMp g M lo li N K r) H1 := by
  have pOld : ∀ x ex, M x = some ex → ∃ j, j < (fwl ad M).length ∧ ((fwl ad M ++ [(q, .inl (gQ g, N, .inr (.inr (.inr (.inr (fun i => if i < N then some (r i) else none))))))]) ++ va_pl ([] ++ (List.range N).map r) (vr_up f ((List.range N).map r) (.inl (gI g, K, .inl (fun _ => 0)))))[j]? = some (ad x, ex) := fun x ex hx => by
    obtain ⟨j, hj⟩ := fh_k h hx
    exact ⟨j, (List.getElem?_eq_some_iff.mp hj).1, vr_old hj⟩
  have neq : ∀ x, M x ≠ none → ad x ≠ q ∧ ∀ i, i < N → ad x ≠ r i := fun x hx => by
    cases hM : M x with
    | none => exact absurd hM hx
    | some ex =>
      obtain ⟨j, hj, a1⟩ := pOld x ex hM
      refine ⟨fun z => ?_, fun i hi z => ?_⟩
      · have := hD.1 _ _ _ _ a1 vr_q z
        omega
      · have := hD.1 _ _ _ _ a1 (vr_at hi) z
        omega
  have neqi : ∀ i, i < N → q ≠ r i := fun i hi z => by
    have := hD.1 _ _ _ _ vr_q (vr_at hi) z
    omega
  have split : ∀ l, l = lo ∨ (∃ i, i < N ∧ l = li + i) ∨ (l ≠ lo ∧ ¬ (li ≤ l ∧ l < li + N)) := fun l => by
    by_cases a : l = lo
    · exact Or.inl a
    · by_cases b : li ≤ l ∧ l < li + N
      · exact Or.inr (Or.inl ⟨l - li, by omega, by omega⟩)
      · exact Or.inr (Or.inr ⟨a, b⟩)
  refine fh_of hz hP hD (fun x hx => ?_) (fun x ex hx => ?_) (fun x y hx hy hxy => ?_)
  · rcases split x with a | ⟨i, hi, a⟩ | ⟨a, b⟩
    · omega
    · omega
    · rw [(mna_r (ad := ad) (q := q) a b).2] at hx; exact h.2.1 x hx
  · rcases split x with a | ⟨i, hi, a⟩ | ⟨a, b⟩
    · rw [a, mMp_o] at hx
      cases hx
      rw [a, mAd_o]
      exact List.mem_of_getElem? vr_q
    · rw [a, mMp_i h4 hi] at hx
      cases hx
      rw [a, mAd_i h4 hi]
      exact List.mem_of_getElem? (vr_at hi)
    · rw [(mna_r (ad := ad) (q := q) a b).2] at hx
      rw [(mna_r (g := g) (M := M) (K := K) a b).1]
      obtain ⟨j, -, hj⟩ := pOld x ex hx
      exact List.mem_of_getElem? hj
  · rcases split x with a | ⟨i, hi, a⟩ | ⟨a, b⟩ <;> rcases split y with a' | ⟨i', hi', a'⟩ | ⟨a', b'⟩
    · rw [a, a']
    · rw [a, a', mAd_o, mAd_i h4 hi'] at hxy; exact absurd hxy (neqi i' hi')
    · rw [(mna_r (ad := ad) (q := q) a' b').2] at hy
      rw [a, mAd_o, (mna_r (g := g) (M := M) (K := K) a' b').1] at hxy; exact absurd hxy.symm (neq y hy).1
    · rw [a, a', mAd_o, mAd_i h4 hi] at hxy; exact absurd hxy.symm (neqi i hi)
    · rw [a, a', mAd_i h4 hi, mAd_i h4 hi'] at hxy; rw [a, a', hinj i i' hi hi' hxy]
    · rw [(mna_r (ad := ad) (q := q) a' b').2] at hy
      rw [a, mAd_i h4 hi, (mna_r (g := g) (M := M) (K := K) a' b').1] at hxy; exact absurd hxy.symm ((neq y hy).2 i hi)
    · rw [(mna_r (ad := ad) (q := q) a b).2] at hx
      rw [a', mAd_o, (mna_r (g := g) (M := M) (K := K) a b).1] at hxy; exact absurd hxy (neq x hx).1
    · rw [(mna_r (ad := ad) (q := q) a b).2] at hx
      rw [a', mAd_i h4 hi', (mna_r (g := g) (M := M) (K := K) a b).1] at hxy; exact absurd hxy ((neq x hx).2 i' hi')
    · rw [(mna_r (ad := ad) (q := q) a b).2] at hx
      rw [(mna_r (ad := ad) (q := q) a' b').2] at hy
      rw [(mna_r (g := g) (M := M) (K := K) a b).1, (mna_r (g := g) (M := M) (K := K) a' b').1] at hxy
      exact h.2.2.2 x y hx hy hxy
section FMNA
variable {p : Program} {l : Launch} {e : Env} {R : Room} {s : State} {m : MethodId} {args : Array Value} {below : List Frame} {meth : Method} {c : Code} {H : Heap} {locs : List Loc} {cells slots : Nat} {Q : State → Prop}
variable {cc : ByteArray} {nL : Nat} {ret : Option FieldType} {own : String} {g : fG} {ad : Nat → Nat} {M : fM} {pc : Nat} {ls : Array Slot} {rest : List Value}
theorem f_mna (X : fX p s m args meth c cc nL ret own g) (hw : fw g ad M s H locs) {index : Nat} (lo li : Nat) {n k : Int32} {N' K' : Nat} (h4 : lo < li) (h5 : li + N' ≤ 4096) (hcl : Cond.classLink own index "[[I" ∈ AL) (harr : Cond.arrayClass .int ∈ AL) (hn : ¬ n < 0) (hk : ¬ k < 0) (hN : n.toNatClampNeg = N') (hM : k.toNatClampNeg = K')
    (hb1 : N' * 4 ≤ 536870912) (hb2 : K' * 4 ≤ 536870912) (hcells : cells + (1 + N') ≤ R.cells) (hslots : slots + (N' + N' * K') ≤ R.slots) (hdg : decode cc pc = .ok (.multianewarray index 2, 4))
    (kk : ∀ (q : Nat) (r : Nat → Nat) (H1 : Heap), fw g (mAd ad lo li N' q r) (mMp g M lo li N' K' r) s H1 locs → W p l e R s m args below meth c H1 locs (cells + 1 + N') (slots + N' + N' * K') Q (F0 m (pc + 4) ls (.ref q :: rest))) : W p l e R s m args below meth c H locs cells slots Q (F0 m pc ls (.int k :: .int n :: rest)) := by
  obtain ⟨hx, hb, hml, hown, hts, hK, hz, hr, hlk⟩ := X
  have e0 : fwl ad M ++ va_pl [] (fun _ => va_E0) = fwl ad M := List.append_nil _
  refine va_mna (X := fwl ad M) (L := []) (f := fun _ => va_E0) (ty := .int) (cy := gI g) (z := (K', .inl (fun _ => 0))) hx hb hown (hts _ hcl) hK.2.2.2.2.2.1 (hts _ harr) (hK.1.2 0 (gI g, .int) rfl).2 hK.1 (by rw [e0]; exact fh_P hw.1) (by rw [e0]; exact fh_D hw.1) hw.2 (fw_A hz) hn hk hN hM hb1 hb2 (by omega) rfl rfl hcells hslots (fun cx => by rw [vp_cell_i]; show ({ cls := cx, slots := Array.replicate K' (.int 0), vm := .none } : Cell) = _; rw [arrV_new]) hdg (fun q r cA H1 hinj _ hK1 hP hD hS => ?_)
  have e1 : cA = gQ g := by
    have a1 := (hK1.2 6 (cA, .array .int) rfl).2
    have a2 := (hK.1.2 3 (gQ g, .array .int) rfl).2
    exact Option.some.inj (a1.symm.trans a2)
  subst e1
  exact kk q r H1 ⟨fh_mna hw.1 h4 h5 (Nat.le_trans hz.1 hS.1) hinj hP hD, hS⟩
end FMNA
