/-! doubles; the digest -/
theorem n64_no {x : UInt64} (h : Jvm.FP.Core.dIsNaN x = false) : vf_n64 x := by
  unfold vf_n64
  rw [UInt64.le_iff_toNat_le, UInt64.toNat_and]
  have h1 : (0x7fffffffffffffff : UInt64).toNat = 2 ^ 63 - 1 := by decide
  have h2 : (0x7ff0000000000000 : UInt64).toNat = 9218868437227405312 := by decide
  rw [h1, h2, Nat.and_two_pow_sub_one_eq_mod]
  rw [← Bool.not_eq_true, Jvm.FP.Core.isNaN_bits] at h
  omega
theorem i2d_no (v : Int32) : Jvm.FP.Core.dIsNaN (Jvm.FP.Core.i2d v) = false := by
  rw [← Bool.not_eq_true, Jvm.FP.Core.isNaN_bits]
  have := Jvm.FP.Core.i2d_mag v
  omega
theorem ddiv_no (x y : Int32) (h : y ≠ 0) : Jvm.FP.Core.dIsNaN (Jvm.FP.Core.ddiv (Jvm.FP.Core.i2d x) (Jvm.FP.Core.i2d y)) = false := Jvm.FP.Core.ddiv_out (i2d_no x) (Jvm.FP.Core.i2d_fin y) (by rw [Jvm.FP.Core.zero_bits2]; exact Jvm.FP.Core.i2d_ne_zero h)
def wallsD (T : fTn) : UInt64 := if tHn T = 0 then FP.dconst0 else FP.ddiv (FP.i2d (sumH (tH T) 2 (tHn T))) (FP.i2d (nI (tHn T)))
theorem wallsD_no (T : fTn) (h : tHn T ≤ 30) : Jvm.FP.Core.dIsNaN (wallsD T) = false := by
  unfold wallsD
  split
  · decide +kernel
  · rename_i hn
    exact ddiv_no _ _ (fun z => hn (nI_eq' (a := tHn T) (b := 0) z (by omega) (by omega)))
abbrev fQd (g : fG) (post : UInt64 → (Nat → Nat) → fM → Prop) : Array Value → State → Outcome → State → Prop := va_Qd (fun (r : UInt64) (u : (Nat → Nat) × fM) => post r u.1 u.2) (fun u t => fh g u.1 u.2 t.heap) (fA g)
abbrev fDd (ad : Nat → Nat) (M : fM) (v : UInt64) : UInt64 → (Nat → Nat) → fM → Prop := fun r ad1 M1 => ad1 = ad ∧ M1 = M ∧ r = v
abbrev fCd (l : Launch) (g : fG) (y : MethodName) (cc : ByteArray) (maxL : Nat) (ret : Option FieldType) (fr lo mc ms : Nat) (ad : Nat → Nat) (M : fM) (av : List Value) (post : UInt64 → (Nat → Nat) → fM → Prop) : Prop := Met l y (fWs y cc maxL ret) (fR fr lo mc ms) (va_Pc av (fS g ad M)) (fQd g post) mc ms (fA g)
section FDBL
variable {p : Program} {l : Launch} {e : Env} {R : Room} {s : State} {m : MethodId} {args : Array Value} {below : List Frame} {meth : Method} {c : Code} {H : Heap} {locs : List Loc} {cells slots : Nat} {Q : State → Prop}
variable {cc : ByteArray} {nL : Nat} {own : String} {g : fG} {ad : Nat → Nat} {M : fM} {pc : Nat} {ls : Array Slot} {rest st0 : List Value} {a : Array Value} {mc ms : Nat}
theorem f_dret (X : fX p s m args meth c cc nL (some .double) own g) (hw : fw g ad M s H locs) {post : UInt64 → (Nat → Nat) → fM → Prop} {v : UInt64} {mc ms : Nat} (hp : post v ad M) (hc : cells ≤ mc) (hs : slots ≤ ms) (hdg : decode cc pc = .ok (.dreturn, 1)) :
    W p l e R s m args below meth c H locs cells slots (MQ below (va_Qd (fun r (u : (Nat → Nat) × fM) => post r u.1 u.2) (fun u t => fh g u.1 u.2 t.heap) (fA g)) args s mc ms (fA g)) (F0 m pc ls [.double v]) := by
  obtain ⟨hx, hb, hml, hown, hts, hK, hz, hr, hlk⟩ := X
  exact W.widen hc hs (W.dret hx hb hr (fun t ht _ => ⟨⟨v, (ad, M), rfl, hp, (by show fh g ad M t.heap; rw [ht]; exact hw.1)⟩, hw.2.F ht⟩) hw.2.2.2 hdg hlk)
theorem fk_d {post : UInt64 → (Nat → Nat) → fM → Prop} (hr : va_Run p l e R s m args below meth c H locs cells slots mc ms (F0 m pc ls st0) rest (va_Qd (fun r (u : (Nat → Nat) × fM) => post r u.1 u.2) (fun u t => fh g u.1 u.2 t.heap) (fA g) a) (fA g)) (hw : fw g ad M s H locs)
    (kk : ∀ (r : UInt64) (ad1 : Nat → Nat) (M1 : fM) (H1 : Heap) (locs1 : List Loc), post r ad1 M1 → fw g ad1 M1 s H1 locs1 → W p l e R s m args below meth c H1 locs1 (cells + mc) (slots + ms) Q (F0 m (pc + 3) ls (.double r :: rest))) : W p l e R s m args below meth c H locs cells slots Q (F0 m pc ls st0) :=
  va_calld hr hw.2 (fun _ _ h => h) (fun _ h => h) (fun r u t H1 locs1 ht _ hp hB _ _ hS => kk r u.1 u.2 H1 locs1 hp ⟨by rw [← ht]; exact hB, hS⟩)
theorem fk_dd {ad2 : Nat → Nat} {M2 : fM} {v : UInt64} (hr : va_Run p l e R s m args below meth c H locs cells slots mc ms (F0 m pc ls st0) rest (fQd g (fDd ad2 M2 v) a) (fA g)) (hw : fw g ad M s H locs)
    (kk : ∀ (H1 : Heap) (locs1 : List Loc), fw g ad2 M2 s H1 locs1 → W p l e R s m args below meth c H1 locs1 (cells + mc) (slots + ms) Q (F0 m (pc + 3) ls (.double v :: rest))) : W p l e R s m args below meth c H locs cells slots Q (F0 m pc ls st0) :=
  fk_d hr hw (fun r ad1 M1 H1 locs1 hp hw1 => by obtain ⟨e1, e2, e3⟩ := hp; rw [e3]; rw [e1, e2] at hw1; exact kk H1 locs1 hw1)
end FDBL
def digM (d : Int64) (x : Int32) : Int64 := d * 31 + x.toInt64
def digC (T : fTn) : Nat → Int64
  | 0 => 607
  | k + 1 => digM (digC T k) (tTell T (nI k))
def digH1 (T : fTn) (h : Nat) (d : Int64) : Nat → Int64
  | 0 => d
  | k + 1 => digM (digH1 T h d k) (hTell (tH T h) (nI k))
def digH (T : fTn) : Nat → Int64
  | 0 => digC T 10
  | k + 1 => digH1 T k (digH T k) 7
def digP (T : fTn) : Nat → Int64
  | 0 => digH T (tHn T)
  | k + 1 => digM (digM (digP T k) (tP T k 0)) (tP T k 1)
def digE1 (T : fTn) (h : Nat) (d : Int64) : Nat → Int64
  | 0 => d
  | k + 1 => digM (digE1 T h d k) (eTell T (tE T h) (nI k))
def digE (T : fTn) : Nat → Int64
  | 0 => digP T (tPn T)
  | k + 1 => digE1 T k (digE T k) 10
set_option maxHeartbeats 4000000 in
set_option maxRecDepth 100000 in
theorem c_X5_walls (l : Launch) (g : fG) (ad : Nat → Nat) (M : fM) {T A : fTn} {kf nf sf : Nat → Int32} (hC : isC g ad M T A kf nf sf) : fCd l g yX5_walls cX5_walls 4 ((some .double)) 7 180 0 0 ad M [.ref (ad 0)] (fDd ad M (wallsD T)) := by
  refine f_body (own := RX5) (by decide +kernel) rfl (Nat.le_of_ble_eq_true rfl) ?_
  intro p e s m args below meth c ls X hw hin hl
  have hx := X.1
  have hb := X.2.1
  have hl : lv_has ls 4 [(0, .ref (ad 0))] := hl
  obtain ⟨hF, hG, hT, hTA⟩ := id hC
  have hF : M 0 = some (.inr (6, [.ref (ad 1), .ref (ad 1000), .ref (ad 2000)])) := hF
  have hG0 := hG.1
  obtain ⟨hT0, hTh, hTp, hTe, hHs, hPs, hEs, hn1, hn2, hn3, hA⟩ := id hT
  obtain ⟨hT0a, hTha, hTpa, hTea, hHsa, hPsa, hEsa, hn1a, hn2a, hn3a, hAa⟩ := id hTA
  refine lv_aload_n hx hb dX5_walls_0 rfl (lv_at hl 0 rfl) ?_
  refine f_get X hw hF fc6 1 (by decide) wq97 rfl (v := .ref (ad 1000)) rfl dX5_walls_1 ?_
  refine f_getN X hw hT0 fc5 1 (by decide) wn82 rfl (v := .ref (ad (1000 + 1))) rfl dX5_walls_4 ?_
  refine fk_di (fcVe X hw (c_size l g ad M hTh) (fList_obj hTh) rfl wq421 kVJx4a65c_size_8abf5 ⟨(Nat.le_of_ble_eq_true rfl), (Nat.le_of_ble_eq_true rfl)⟩ rfl hl.1 rfl (Nat.le_of_ble_eq_true rfl) dX5_walls_7 ⟨Nat.le_refl _, Nat.le_refl _⟩) hw (fun H locs hw => ?_)
  refine lv_istore_n (lv' := [(1, .int (nI (tHn T))), (0, .ref (ad 0))]) hx hb dX5_walls_10 rfl hl (by decide) rfl (fun ls hl => ?_)
  refine lv_iload_n hx hb dX5_walls_11 rfl (lv_at hl 0 rfl) ?_
  refine lv_if_ne (tgt := 17) hx hb dX5_walls_12 (by decide) (fun c_1 => ?_) (fun c_1 => ?_)
  · have c_1 := nI_neq' (a := (tHn T)) (b := 0) c_1 (by omega) (by omega)
    refine lv_iconst (v := 0) hx hb dX5_walls_17 (by decide) ?_
    refine lv_istore_n (lv' := [(2, .int 0), (1, .int (nI (tHn T))), (0, .ref (ad 0))]) hx hb dX5_walls_18 rfl hl (by decide) rfl (fun ls hl => ?_)
    refine lv_iconst (v := 0) hx hb dX5_walls_19 (by decide) ?_
    refine lv_istore_n (lv' := [(3, .int 0), (2, .int 0), (1, .int (nI (tHn T))), (0, .ref (ad 0))]) hx hb dX5_walls_20 rfl hl (by decide) rfl (fun ls hl => ?_)
    have loop21 : ∀ (n21 k : Nat), k ≤ tHn T → tHn T < k + n21 → ∀ (ls : Array Slot) (H : Heap) (locs : List Loc), fw g ad M s H locs → lv_has ls 4 [(2, .int (sumH (tH T) 2 k)), (3, .int (nI k)), (0, .ref (ad 0)), (1, .int (nI (tHn T)))] → W p l e (fR 7 180 0 0) s m args below meth c H locs 0 0 (MQ below (fQd g (fDd ad M (wallsD T))) args s 0 0 (fA g)) (F0 m 21 ls []) := by
      intro n21
      induction n21 with
      | zero => intro k h1 h2; omega
      | succ n21 ih21 =>
        intro k hk_k hn_k ls H locs hw hl
        refine lv_iload_n hx hb dX5_walls_21 rfl (lv_at hl 1 rfl) ?_
        refine lv_iload_n hx hb dX5_walls_22 rfl (lv_at hl 3 rfl) ?_
        refine lv_icmp_ge (tgt := 52) hx hb dX5_walls_23 (by decide) (fun c_2 => ?_) (fun c_2 => ?_)
        · have c_2 := nI_le' (a := (tHn T)) (b := k) c_2 (by omega) (by omega)
          refine lv_iload_n hx hb dX5_walls_52 rfl (lv_at hl 0 rfl) ?_
          refine lv_i2d hx hb dX5_walls_53 ?_
          refine lv_iload_n hx hb dX5_walls_54 rfl (lv_at hl 3 rfl) ?_
          refine lv_i2d hx hb dX5_walls_55 ?_
          refine lv_ddiv hx hb dX5_walls_56 (n64_no (ddiv_no _ _ (fun z => c_1 (nI_eq' (a := tHn T) (b := 0) z (by omega) (by omega))))) ?_
          exact f_dret X hw ⟨rfl, rfl, by rw [show k = tHn T by omega]; exact (if_neg c_1).symm⟩ (Nat.le_refl _) (Nat.le_refl _) dX5_walls_57
        · have c_2 := nI_nle' (a := (tHn T)) (b := k) c_2 (by omega) (by omega)
          refine lv_iload_n hx hb dX5_walls_26 rfl (lv_at hl 0 rfl) ?_
          refine lv_aload_n hx hb dX5_walls_27 rfl (lv_at hl 2 rfl) ?_
          refine f_get X hw hF fc6 1 (by decide) wq97 rfl (v := .ref (ad 1000)) rfl dX5_walls_28 ?_
          refine f_getN X hw hT0 fc5 1 (by decide) wn82 rfl (v := .ref (ad (1000 + 1))) rfl dX5_walls_31 ?_
          refine lv_iload_n hx hb dX5_walls_34 rfl (lv_at hl 1 rfl) ?_
          refine fk_dr (fcVe X hw (c_get l g ad M hTh (by omega)) (fList_obj hTh) rfl wq422 kVJx4a65c_get_915e3 ⟨(Nat.le_of_ble_eq_true rfl), (Nat.le_of_ble_eq_true rfl)⟩ rfl hl.1 rfl (Nat.le_of_ble_eq_true rfl) dX5_walls_35 ⟨Nat.le_refl _, Nat.le_refl _⟩) hw (fun H locs hw => ?_)
          refine f_cast X hw (hHs k (by omega)) fc3 wq423 dX5_walls_38 ?_
          refine f_getN X hw (hHs k (by omega)) fc3 2 (by decide) wn129 rfl (v := .int ((tH T k) 2)) rfl dX5_walls_41 ?_
          refine lv_iadd hx hb dX5_walls_44 ?_
          refine lv_istore_n (lv' := [(2, .int ((sumH (tH T) 2 k) + ((tH T k) 2))), (3, .int (nI k)), (0, .ref (ad 0)), (1, .int (nI (tHn T)))]) hx hb dX5_walls_45 rfl hl (by decide) rfl (fun ls hl => ?_)
          refine lv_iinc (v := nI (k + 1)) (lv' := [(3, .int (nI (k + 1))), (2, .int ((sumH (tH T) 2 k) + ((tH T k) 2))), (0, .ref (ad 0)), (1, .int (nI (tHn T)))]) hx hb dX5_walls_46 hl (k := 1) rfl (nI_1 k) (by decide) rfl (fun ls hl => ?_)
          refine lv_goto (tgt := 21) hx hb dX5_walls_49 (by decide) ?_
          exact ih21 (k + 1) (by omega) (by omega) ls _ _ hw (lv_sub hl [1, 0, 2, 3] rfl)
    exact loop21 (tHn T + 1) 0 (by omega) (by omega) ls _ _ hw (lv_sub hl [1, 0, 3, 2] rfl)
  · have c_1 := nI_eq' (a := (tHn T)) (b := 0) c_1 (by omega) (by omega)
    refine lv_dconst0 hx hb dX5_walls_15 ?_
    exact f_dret X hw ⟨rfl, rfl, (if_pos c_1).symm⟩ (Nat.le_refl _) (Nat.le_refl _) dX5_walls_16
set_option maxHeartbeats 4000000 in
set_option maxRecDepth 100000 in
theorem c_X5_digest (l : Launch) (g : fG) (ad : Nat → Nat) (M : fM) {T A : fTn} {kf nf sf : Nat → Int32} (hC : isC g ad M T A kf nf sf) : fCl l g yX5_digest cX5_digest 5 ((some .long)) 7 180 0 0 ad M [.ref (ad 0)] (fDl ad M (digE T (tEn T))) := by
  refine f_body (own := RX5) (by decide +kernel) rfl (Nat.le_of_ble_eq_true rfl) ?_
  intro p e s m args below meth c ls X hw hin hl
  have hx := X.1
  have hb := X.2.1
  have hl : lv_has ls 5 [(0, .ref (ad 0))] := hl
  obtain ⟨hF, hG, hT, hTA⟩ := id hC
  have hF : M 0 = some (.inr (6, [.ref (ad 1), .ref (ad 1000), .ref (ad 2000)])) := hF
  have hG0 := hG.1
  obtain ⟨hT0, hTh, hTp, hTe, hHs, hPs, hEs, hn1, hn2, hn3, hA⟩ := id hT
  obtain ⟨hT0a, hTha, hTpa, hTea, hHsa, hPsa, hEsa, hn1a, hn2a, hn3a, hAa⟩ := id hTA
  refine lv_ldc2 hx hb X.2.2.2.1 (X.2.2.2.2.1 _ wq428) dX5_digest_0 ?_
  refine lv_lstore_n (lv' := [(1, .long 607), (0, .ref (ad 0))]) hx hb dX5_digest_3 rfl hl (by decide) rfl (fun ls hl => ?_)
  refine lv_iconst (v := 0) hx hb dX5_digest_4 (by decide) ?_
  refine lv_istore_n (lv' := [(3, .int 0), (1, .long 607), (0, .ref (ad 0))]) hx hb dX5_digest_5 rfl hl (by decide) rfl (fun ls hl => ?_)
  have loop6 : ∀ (n6 k : Nat), k ≤ 10 → 10 < k + n6 → ∀ (ls : Array Slot) (H : Heap) (locs : List Loc), fw g ad M s H locs → lv_has ls 5 [(1, .long (digC T k)), (3, .int (nI k)), (0, .ref (ad 0))] → W p l e (fR 7 180 0 0) s m args below meth c H locs 0 0 (MQ below (fQl g (fDl ad M (digE T (tEn T)))) args s 0 0 (fA g)) (F0 m 6 ls []) := by
    intro n6
    induction n6 with
    | zero => intro k h1 h2; omega
    | succ n6 ih6 =>
      intro k hk_k hn_k ls H locs hw hl
      refine lv_iload_n hx hb dX5_digest_6 rfl (lv_at hl 1 rfl) ?_
      refine lv_bipush (v := 9) hx hb dX5_digest_7 (by decide) ?_
      refine lv_icmp_gt (tgt := 34) hx hb dX5_digest_9 (by decide) (fun c_1 => ?_) (fun c_1 => ?_)
      · have c_1 := nI_lt' (a := 9) (b := k) c_1 (by omega) (by omega)
        refine lv_iconst (v := 0) hx hb dX5_digest_34 (by decide) ?_
        refine lv_istore_n (lv' := [(3, .int 0), (1, .long (digC T k)), (0, .ref (ad 0))]) hx hb dX5_digest_35 rfl hl (by decide) rfl (fun ls hl => ?_)
        have loop36 : ∀ (n36 kh : Nat), kh ≤ tHn T → tHn T < kh + n36 → ∀ (ls : Array Slot) (H : Heap) (locs : List Loc), fw g ad M s H locs → lv_has ls 5 [(1, .long (digH T kh)), (3, .int (nI kh)), (0, .ref (ad 0))] → W p l e (fR 7 180 0 0) s m args below meth c H locs 0 0 (MQ below (fQl g (fDl ad M (digE T (tEn T)))) args s 0 0 (fA g)) (F0 m 36 ls []) := by
          intro n36
          induction n36 with
          | zero => intro kh h1 h2; omega
          | succ n36 ih36 =>
            intro kh hk_kh hn_kh ls H locs hw hl
            refine lv_iload_n hx hb dX5_digest_36 rfl (lv_at hl 1 rfl) ?_
            refine lv_aload_n hx hb dX5_digest_37 rfl (lv_at hl 2 rfl) ?_
            refine f_get X hw hF fc6 1 (by decide) wq97 rfl (v := .ref (ad 1000)) rfl dX5_digest_38 ?_
            refine f_getN X hw hT0 fc5 1 (by decide) wn82 rfl (v := .ref (ad (1000 + 1))) rfl dX5_digest_41 ?_
            refine fk_di (fcVe X hw (c_size l g ad M hTh) (fList_obj hTh) rfl wq421 kVJx4a65c_size_8abf5 ⟨(Nat.le_of_ble_eq_true rfl), (Nat.le_of_ble_eq_true rfl)⟩ rfl hl.1 rfl (Nat.le_of_ble_eq_true rfl) dX5_digest_44 ⟨Nat.le_refl _, Nat.le_refl _⟩) hw (fun H locs hw => ?_)
            refine lv_icmp_ge (tgt := 99) hx hb dX5_digest_47 (by decide) (fun c_2 => ?_) (fun c_2 => ?_)
            · have c_2 := nI_le' (a := (tHn T)) (b := kh) c_2 (by omega) (by omega)
              refine lv_iconst (v := 0) hx hb dX5_digest_99 (by decide) ?_
              refine lv_istore_n (lv' := [(3, .int 0), (1, .long (digH T kh)), (0, .ref (ad 0))]) hx hb dX5_digest_100 rfl hl (by decide) rfl (fun ls hl => ?_)
              have loop101 : ∀ (n101 kp : Nat), kp ≤ tPn T → tPn T < kp + n101 → ∀ (ls : Array Slot) (H : Heap) (locs : List Loc), fw g ad M s H locs → lv_has ls 5 [(1, .long (digP T kp)), (3, .int (nI kp)), (0, .ref (ad 0))] → W p l e (fR 7 180 0 0) s m args below meth c H locs 0 0 (MQ below (fQl g (fDl ad M (digE T (tEn T)))) args s 0 0 (fA g)) (F0 m 101 ls []) := by
                intro n101
                induction n101 with
                | zero => intro kp h1 h2; omega
                | succ n101 ih101 =>
                  intro kp hk_kp hn_kp ls H locs hw hl
                  refine lv_iload_n hx hb dX5_digest_101 rfl (lv_at hl 1 rfl) ?_
                  refine lv_aload_n hx hb dX5_digest_102 rfl (lv_at hl 2 rfl) ?_
                  refine f_get X hw hF fc6 1 (by decide) wq97 rfl (v := .ref (ad 1000)) rfl dX5_digest_103 ?_
                  refine f_getN X hw hT0 fc5 2 (by decide) wn84 rfl (v := .ref (ad (1000 + 2))) rfl dX5_digest_106 ?_
                  refine fk_di (fcVe X hw (c_size l g ad M hTp) (fList_obj hTp) rfl wq421 kVJx4a65c_size_8abf5 ⟨(Nat.le_of_ble_eq_true rfl), (Nat.le_of_ble_eq_true rfl)⟩ rfl hl.1 rfl (Nat.le_of_ble_eq_true rfl) dX5_digest_109 ⟨Nat.le_refl _, Nat.le_refl _⟩) hw (fun H locs hw => ?_)
                  refine lv_icmp_ge (tgt := 171) hx hb dX5_digest_112 (by decide) (fun c_3 => ?_) (fun c_3 => ?_)
                  · have c_3 := nI_le' (a := (tPn T)) (b := kp) c_3 (by omega) (by omega)
                    refine lv_iconst (v := 0) hx hb dX5_digest_171 (by decide) ?_
                    refine lv_istore_n (lv' := [(3, .int 0), (1, .long (digP T kp)), (0, .ref (ad 0))]) hx hb dX5_digest_172 rfl hl (by decide) rfl (fun ls hl => ?_)
                    have loop173 : ∀ (n173 ke : Nat), ke ≤ tEn T → tEn T < ke + n173 → ∀ (ls : Array Slot) (H : Heap) (locs : List Loc), fw g ad M s H locs → lv_has ls 5 [(1, .long (digE T ke)), (3, .int (nI ke)), (0, .ref (ad 0))] → W p l e (fR 7 180 0 0) s m args below meth c H locs 0 0 (MQ below (fQl g (fDl ad M (digE T (tEn T)))) args s 0 0 (fA g)) (F0 m 173 ls []) := by
                      intro n173
                      induction n173 with
                      | zero => intro ke h1 h2; omega
                      | succ n173 ih173 =>
                        intro ke hk_ke hn_ke ls H locs hw hl
                        refine lv_iload_n hx hb dX5_digest_173 rfl (lv_at hl 1 rfl) ?_
                        refine lv_aload_n hx hb dX5_digest_174 rfl (lv_at hl 2 rfl) ?_
                        refine f_get X hw hF fc6 1 (by decide) wq97 rfl (v := .ref (ad 1000)) rfl dX5_digest_175 ?_
                        refine f_getN X hw hT0 fc5 3 (by decide) wn86 rfl (v := .ref (ad (1000 + 3))) rfl dX5_digest_178 ?_
                        refine fk_di (fcVe X hw (c_size l g ad M hTe) (fList_obj hTe) rfl wq421 kVJx4a65c_size_8abf5 ⟨(Nat.le_of_ble_eq_true rfl), (Nat.le_of_ble_eq_true rfl)⟩ rfl hl.1 rfl (Nat.le_of_ble_eq_true rfl) dX5_digest_181 ⟨Nat.le_refl _, Nat.le_refl _⟩) hw (fun H locs hw => ?_)
                        refine lv_icmp_ge (tgt := 240) hx hb dX5_digest_184 (by decide) (fun c_4 => ?_) (fun c_4 => ?_)
                        · have c_4 := nI_le' (a := (tEn T)) (b := ke) c_4 (by omega) (by omega)
                          refine lv_lload_n hx hb dX5_digest_240 rfl (lv_at hl 0 rfl) ?_
                          exact f_lret X hw ⟨rfl, rfl, by rw [show ke = tEn T by omega]⟩ (Nat.le_refl _) (Nat.le_refl _) dX5_digest_241
                        · have c_4 := nI_nle' (a := (tEn T)) (b := ke) c_4 (by omega) (by omega)
                          refine lv_iconst (v := 0) hx hb dX5_digest_187 (by decide) ?_
                          refine lv_istore (lv' := [(4, .int 0), (1, .long (digE T ke)), (3, .int (nI ke)), (0, .ref (ad 0))]) hx hb dX5_digest_188 hl (by decide) rfl (fun ls hl => ?_)
                          have loop190 : ∀ (n190 kv : Nat), kv ≤ 10 → 10 < kv + n190 → ∀ (ls : Array Slot) (H : Heap) (locs : List Loc), fw g ad M s H locs → lv_has ls 5 [(1, .long (digE1 T ke (digE T ke) kv)), (4, .int (nI kv)), (3, .int (nI ke)), (0, .ref (ad 0))] → W p l e (fR 7 180 0 0) s m args below meth c H locs 0 0 (MQ below (fQl g (fDl ad M (digE T (tEn T)))) args s 0 0 (fA g)) (F0 m 190 ls []) := by
                            intro n190
                            induction n190 with
                            | zero => intro kv h1 h2; omega
                            | succ n190 ih190 =>
                              intro kv hk_kv hn_kv ls H locs hw hl
                              refine lv_iload hx hb dX5_digest_190 (lv_at hl 1 rfl) ?_
                              refine lv_bipush (v := 9) hx hb dX5_digest_192 (by decide) ?_
                              refine lv_icmp_gt (tgt := 234) hx hb dX5_digest_194 (by decide) (fun c_5 => ?_) (fun c_5 => ?_)
                              · have c_5 := nI_lt' (a := 9) (b := kv) c_5 (by omega) (by omega)
                                refine lv_iinc (v := nI (ke + 1)) (lv' := [(3, .int (nI (ke + 1))), (1, .long (digE1 T ke (digE T ke) kv)), (4, .int (nI kv)), (0, .ref (ad 0))]) hx hb dX5_digest_234 hl (k := 2) rfl (nI_1 ke) (by decide) rfl (fun ls hl => ?_)
                                refine lv_goto (tgt := 173) hx hb dX5_digest_237 (by decide) ?_
                                exact ih173 (ke + 1) (by omega) (by omega) ls _ _ hw (by rw [show (digE T (ke + 1)) = (digE1 T ke (digE T ke) kv) from (by rw [show kv = 10 by omega]; rfl)]; exact lv_sub hl [1, 0, 3] rfl)
                              · have c_5 := nI_nlt' (a := 9) (b := kv) c_5 (by omega) (by omega)
                                refine lv_lload_n hx hb dX5_digest_197 rfl (lv_at hl 0 rfl) ?_
                                refine lv_ldc2 hx hb X.2.2.2.1 (X.2.2.2.2.1 _ wq429) dX5_digest_198 ?_
                                refine lv_lmul hx hb dX5_digest_201 ?_
                                refine lv_aload_n hx hb dX5_digest_202 rfl (lv_at hl 3 rfl) ?_
                                refine f_get X hw hF fc6 1 (by decide) wq97 rfl (v := .ref (ad 1000)) rfl dX5_digest_203 ?_
                                refine lv_aload_n hx hb dX5_digest_206 rfl (lv_at hl 3 rfl) ?_
                                refine f_get X hw hF fc6 1 (by decide) wq97 rfl (v := .ref (ad 1000)) rfl dX5_digest_207 ?_
                                refine f_getN X hw hT0 fc5 3 (by decide) wn86 rfl (v := .ref (ad (1000 + 3))) rfl dX5_digest_210 ?_
                                refine lv_iload_n hx hb dX5_digest_213 rfl (lv_at hl 2 rfl) ?_
                                refine fk_dr (fcVe X hw (c_get l g ad M hTe (by omega)) (fList_obj hTe) rfl wq422 kVJx4a65c_get_915e3 ⟨(Nat.le_of_ble_eq_true rfl), (Nat.le_of_ble_eq_true rfl)⟩ rfl hl.1 rfl (Nat.le_of_ble_eq_true rfl) dX5_digest_214 ⟨Nat.le_refl _, Nat.le_refl _⟩) hw (fun H locs hw => ?_)
                                refine f_cast X hw (hEs ke (by omega)) fc1 wq449 dX5_digest_217 ?_
                                refine lv_iload hx hb dX5_digest_220 (lv_at hl 1 rfl) ?_
                                refine fk_di (fcV X hw (c_tellEngine l g ad M hT (hEs ke (by omega)) (nI kv)) hT0 rfl wq450 kVX4_tellEngine ⟨(Nat.le_of_ble_eq_true rfl), (Nat.le_of_ble_eq_true rfl)⟩ rfl hl.1 rfl (Nat.le_of_ble_eq_true rfl) dX5_digest_222 ⟨Nat.le_refl _, Nat.le_refl _⟩) hw (fun H locs hw => ?_)
                                refine lv_i2l hx hb dX5_digest_225 rfl ?_
                                refine lv_ladd hx hb dX5_digest_226 ?_
                                refine lv_lstore_n (lv' := [(1, .long (((digE1 T ke (digE T ke) kv) * 31) + ((eTell T (tE T ke) (nI kv)).toInt64))), (4, .int (nI kv)), (3, .int (nI ke)), (0, .ref (ad 0))]) hx hb dX5_digest_227 rfl hl (by decide) rfl (fun ls hl => ?_)
                                refine lv_iinc (v := nI (kv + 1)) (lv' := [(4, .int (nI (kv + 1))), (1, .long (((digE1 T ke (digE T ke) kv) * 31) + ((eTell T (tE T ke) (nI kv)).toInt64))), (3, .int (nI ke)), (0, .ref (ad 0))]) hx hb dX5_digest_228 hl (k := 1) rfl (nI_1 kv) (by decide) rfl (fun ls hl => ?_)
                                refine lv_goto (tgt := 190) hx hb dX5_digest_231 (by decide) ?_
                                exact ih190 (kv + 1) (by omega) (by omega) ls _ _ hw (lv_sub hl [1, 0, 2, 3] rfl)
                          exact loop190 (10 + 1) 0 (by omega) (by omega) ls _ _ hw (lv_sub hl [1, 0, 2, 3] rfl)
                    exact loop173 (tEn T + 1) 0 (by omega) (by omega) ls _ _ hw (by rw [show (digE T 0) = (digP T kp) from (by rw [show kp = tPn T by omega]; rfl)]; exact lv_sub hl [1, 0, 2] rfl)
                  · have c_3 := nI_nle' (a := (tPn T)) (b := kp) c_3 (by omega) (by omega)
                    refine lv_lload_n hx hb dX5_digest_115 rfl (lv_at hl 0 rfl) ?_
                    refine lv_ldc2 hx hb X.2.2.2.1 (X.2.2.2.2.1 _ wq429) dX5_digest_116 ?_
                    refine lv_lmul hx hb dX5_digest_119 ?_
                    refine lv_aload_n hx hb dX5_digest_120 rfl (lv_at hl 2 rfl) ?_
                    refine f_get X hw hF fc6 1 (by decide) wq97 rfl (v := .ref (ad 1000)) rfl dX5_digest_121 ?_
                    refine f_getN X hw hT0 fc5 2 (by decide) wn84 rfl (v := .ref (ad (1000 + 2))) rfl dX5_digest_124 ?_
                    refine lv_iload_n hx hb dX5_digest_127 rfl (lv_at hl 1 rfl) ?_
                    refine fk_dr (fcVe X hw (c_get l g ad M hTp (by omega)) (fList_obj hTp) rfl wq422 kVJx4a65c_get_915e3 ⟨(Nat.le_of_ble_eq_true rfl), (Nat.le_of_ble_eq_true rfl)⟩ rfl hl.1 rfl (Nat.le_of_ble_eq_true rfl) dX5_digest_128 ⟨Nat.le_refl _, Nat.le_refl _⟩) hw (fun H locs hw => ?_)
                    refine f_cast X hw (hPs kp (by omega)) fc4 wq448 dX5_digest_131 ?_
                    refine f_getN X hw (hPs kp (by omega)) fc4 0 (by decide) wn237 rfl (v := .int ((tP T kp) 0)) rfl dX5_digest_134 ?_
                    refine lv_i2l hx hb dX5_digest_137 rfl ?_
                    refine lv_ladd hx hb dX5_digest_138 ?_
                    refine lv_lstore_n (lv' := [(1, .long (((digP T kp) * 31) + (((tP T kp) 0).toInt64))), (3, .int (nI kp)), (0, .ref (ad 0))]) hx hb dX5_digest_139 rfl hl (by decide) rfl (fun ls hl => ?_)
                    refine lv_lload_n hx hb dX5_digest_140 rfl (lv_at hl 0 rfl) ?_
                    refine lv_ldc2 hx hb X.2.2.2.1 (X.2.2.2.2.1 _ wq429) dX5_digest_141 ?_
                    refine lv_lmul hx hb dX5_digest_144 ?_
                    refine lv_aload_n hx hb dX5_digest_145 rfl (lv_at hl 2 rfl) ?_
                    refine f_get X hw hF fc6 1 (by decide) wq97 rfl (v := .ref (ad 1000)) rfl dX5_digest_146 ?_
                    refine f_getN X hw hT0 fc5 2 (by decide) wn84 rfl (v := .ref (ad (1000 + 2))) rfl dX5_digest_149 ?_
                    refine lv_iload_n hx hb dX5_digest_152 rfl (lv_at hl 1 rfl) ?_
                    refine fk_dr (fcVe X hw (c_get l g ad M hTp (by omega)) (fList_obj hTp) rfl wq422 kVJx4a65c_get_915e3 ⟨(Nat.le_of_ble_eq_true rfl), (Nat.le_of_ble_eq_true rfl)⟩ rfl hl.1 rfl (Nat.le_of_ble_eq_true rfl) dX5_digest_153 ⟨Nat.le_refl _, Nat.le_refl _⟩) hw (fun H locs hw => ?_)
                    refine f_cast X hw (hPs kp (by omega)) fc4 wq448 dX5_digest_156 ?_
                    refine f_getN X hw (hPs kp (by omega)) fc4 1 (by decide) wn240 rfl (v := .int ((tP T kp) 1)) rfl dX5_digest_159 ?_
                    refine lv_i2l hx hb dX5_digest_162 rfl ?_
                    refine lv_ladd hx hb dX5_digest_163 ?_
                    refine lv_lstore_n (lv' := [(1, .long (((((digP T kp) * 31) + (((tP T kp) 0).toInt64)) * 31) + (((tP T kp) 1).toInt64))), (3, .int (nI kp)), (0, .ref (ad 0))]) hx hb dX5_digest_164 rfl hl (by decide) rfl (fun ls hl => ?_)
                    refine lv_iinc (v := nI (kp + 1)) (lv' := [(3, .int (nI (kp + 1))), (1, .long (((((digP T kp) * 31) + (((tP T kp) 0).toInt64)) * 31) + (((tP T kp) 1).toInt64))), (0, .ref (ad 0))]) hx hb dX5_digest_165 hl (k := 1) rfl (nI_1 kp) (by decide) rfl (fun ls hl => ?_)
                    refine lv_goto (tgt := 101) hx hb dX5_digest_168 (by decide) ?_
                    exact ih101 (kp + 1) (by omega) (by omega) ls _ _ hw (lv_sub hl [1, 0, 2] rfl)
              exact loop101 (tPn T + 1) 0 (by omega) (by omega) ls _ _ hw (by rw [show (digP T 0) = (digH T kh) from (by rw [show kh = tHn T by omega]; rfl)]; exact lv_sub hl [1, 0, 2] rfl)
            · have c_2 := nI_nle' (a := (tHn T)) (b := kh) c_2 (by omega) (by omega)
              refine lv_iconst (v := 0) hx hb dX5_digest_50 (by decide) ?_
              refine lv_istore (lv' := [(4, .int 0), (1, .long (digH T kh)), (3, .int (nI kh)), (0, .ref (ad 0))]) hx hb dX5_digest_51 hl (by decide) rfl (fun ls hl => ?_)
              have loop53 : ∀ (n53 kw : Nat), kw ≤ 7 → 7 < kw + n53 → ∀ (ls : Array Slot) (H : Heap) (locs : List Loc), fw g ad M s H locs → lv_has ls 5 [(1, .long (digH1 T kh (digH T kh) kw)), (4, .int (nI kw)), (3, .int (nI kh)), (0, .ref (ad 0))] → W p l e (fR 7 180 0 0) s m args below meth c H locs 0 0 (MQ below (fQl g (fDl ad M (digE T (tEn T)))) args s 0 0 (fA g)) (F0 m 53 ls []) := by
                intro n53
                induction n53 with
                | zero => intro kw h1 h2; omega
                | succ n53 ih53 =>
                  intro kw hk_kw hn_kw ls H locs hw hl
                  refine lv_iload hx hb dX5_digest_53 (lv_at hl 1 rfl) ?_
                  refine lv_bipush (v := 6) hx hb dX5_digest_55 (by decide) ?_
                  refine lv_icmp_gt (tgt := 93) hx hb dX5_digest_57 (by decide) (fun c_6 => ?_) (fun c_6 => ?_)
                  · have c_6 := nI_lt' (a := 6) (b := kw) c_6 (by omega) (by omega)
                    refine lv_iinc (v := nI (kh + 1)) (lv' := [(3, .int (nI (kh + 1))), (1, .long (digH1 T kh (digH T kh) kw)), (4, .int (nI kw)), (0, .ref (ad 0))]) hx hb dX5_digest_93 hl (k := 2) rfl (nI_1 kh) (by decide) rfl (fun ls hl => ?_)
                    refine lv_goto (tgt := 36) hx hb dX5_digest_96 (by decide) ?_
                    exact ih36 (kh + 1) (by omega) (by omega) ls _ _ hw (by rw [show (digH T (kh + 1)) = (digH1 T kh (digH T kh) kw) from (by rw [show kw = 7 by omega]; rfl)]; exact lv_sub hl [1, 0, 3] rfl)
                  · have c_6 := nI_nlt' (a := 6) (b := kw) c_6 (by omega) (by omega)
                    refine lv_lload_n hx hb dX5_digest_60 rfl (lv_at hl 0 rfl) ?_
                    refine lv_ldc2 hx hb X.2.2.2.1 (X.2.2.2.2.1 _ wq429) dX5_digest_61 ?_
                    refine lv_lmul hx hb dX5_digest_64 ?_
                    refine lv_aload_n hx hb dX5_digest_65 rfl (lv_at hl 3 rfl) ?_
                    refine f_get X hw hF fc6 1 (by decide) wq97 rfl (v := .ref (ad 1000)) rfl dX5_digest_66 ?_
                    refine f_getN X hw hT0 fc5 1 (by decide) wn82 rfl (v := .ref (ad (1000 + 1))) rfl dX5_digest_69 ?_
                    refine lv_iload_n hx hb dX5_digest_72 rfl (lv_at hl 2 rfl) ?_
                    refine fk_dr (fcVe X hw (c_get l g ad M hTh (by omega)) (fList_obj hTh) rfl wq422 kVJx4a65c_get_915e3 ⟨(Nat.le_of_ble_eq_true rfl), (Nat.le_of_ble_eq_true rfl)⟩ rfl hl.1 rfl (Nat.le_of_ble_eq_true rfl) dX5_digest_73 ⟨Nat.le_refl _, Nat.le_refl _⟩) hw (fun H locs hw => ?_)
                    refine f_cast X hw (hHs kh (by omega)) fc3 wq423 dX5_digest_76 ?_
                    refine lv_iload hx hb dX5_digest_79 (lv_at hl 1 rfl) ?_
                    refine fk_di (fcV X hw (c_X2_tell l g ad M (hHs kh (by omega)) (nI kw)) (hHs kh (by omega)) rfl wq447 kVX2_tell ⟨(Nat.le_of_ble_eq_true rfl), (Nat.le_of_ble_eq_true rfl)⟩ rfl hl.1 rfl (Nat.le_of_ble_eq_true rfl) dX5_digest_81 ⟨Nat.le_refl _, Nat.le_refl _⟩) hw (fun H locs hw => ?_)
                    refine lv_i2l hx hb dX5_digest_84 rfl ?_
                    refine lv_ladd hx hb dX5_digest_85 ?_
                    refine lv_lstore_n (lv' := [(1, .long (((digH1 T kh (digH T kh) kw) * 31) + ((hTell (tH T kh) (nI kw)).toInt64))), (4, .int (nI kw)), (3, .int (nI kh)), (0, .ref (ad 0))]) hx hb dX5_digest_86 rfl hl (by decide) rfl (fun ls hl => ?_)
                    refine lv_iinc (v := nI (kw + 1)) (lv' := [(4, .int (nI (kw + 1))), (1, .long (((digH1 T kh (digH T kh) kw) * 31) + ((hTell (tH T kh) (nI kw)).toInt64))), (3, .int (nI kh)), (0, .ref (ad 0))]) hx hb dX5_digest_87 hl (k := 1) rfl (nI_1 kw) (by decide) rfl (fun ls hl => ?_)
                    refine lv_goto (tgt := 53) hx hb dX5_digest_90 (by decide) ?_
                    exact ih53 (kw + 1) (by omega) (by omega) ls _ _ hw (lv_sub hl [1, 0, 2, 3] rfl)
              exact loop53 (7 + 1) 0 (by omega) (by omega) ls _ _ hw (lv_sub hl [1, 0, 2, 3] rfl)
        exact loop36 (tHn T + 1) 0 (by omega) (by omega) ls _ _ hw (by rw [show (digH T 0) = (digC T k) from (by rw [show k = 10 by omega]; rfl)]; exact lv_sub hl [1, 0, 2] rfl)
      · have c_1 := nI_nlt' (a := 9) (b := k) c_1 (by omega) (by omega)
        refine lv_lload_n hx hb dX5_digest_12 rfl (lv_at hl 0 rfl) ?_
        refine lv_ldc2 hx hb X.2.2.2.1 (X.2.2.2.2.1 _ wq429) dX5_digest_13 ?_
        refine lv_lmul hx hb dX5_digest_16 ?_
        refine lv_aload_n hx hb dX5_digest_17 rfl (lv_at hl 2 rfl) ?_
        refine f_get X hw hF fc6 1 (by decide) wq97 rfl (v := .ref (ad 1000)) rfl dX5_digest_18 ?_
        refine lv_iload_n hx hb dX5_digest_21 rfl (lv_at hl 1 rfl) ?_
        refine fk_di (fcV X hw (c_tell l g ad M hT (nI k)) hT0 rfl wq430 kVX4_tell ⟨(Nat.le_of_ble_eq_true rfl), (Nat.le_of_ble_eq_true rfl)⟩ rfl hl.1 rfl (Nat.le_of_ble_eq_true rfl) dX5_digest_22 ⟨Nat.le_refl _, Nat.le_refl _⟩) hw (fun H locs hw => ?_)
        refine lv_i2l hx hb dX5_digest_25 rfl ?_
        refine lv_ladd hx hb dX5_digest_26 ?_
        refine lv_lstore_n (lv' := [(1, .long (((digC T k) * 31) + ((tTell T (nI k)).toInt64))), (3, .int (nI k)), (0, .ref (ad 0))]) hx hb dX5_digest_27 rfl hl (by decide) rfl (fun ls hl => ?_)
        refine lv_iinc (v := nI (k + 1)) (lv' := [(3, .int (nI (k + 1))), (1, .long (((digC T k) * 31) + ((tTell T (nI k)).toInt64))), (0, .ref (ad 0))]) hx hb dX5_digest_28 hl (k := 1) rfl (nI_1 k) (by decide) rfl (fun ls hl => ?_)
        refine lv_goto (tgt := 6) hx hb dX5_digest_31 (by decide) ?_
        exact ih6 (k + 1) (by omega) (by omega) ls _ _ hw (lv_sub hl [1, 0, 2] rfl)
  exact loop6 (10 + 1) 0 (by omega) (by omega) ls _ _ hw (lv_sub hl [1, 0, 2] rfl)
