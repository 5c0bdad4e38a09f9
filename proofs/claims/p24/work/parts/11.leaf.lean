set_option maxHeartbeats 4000000 in
set_option maxRecDepth 100000 in
theorem c_X2_init (l : Launch) (g : fG) (ad : Nat → Nat) (M : fM) {lb : Nat} {f : Nat → Int32} (hM : M lb = some (.inr (3, hV f))) (x w z : Int32) : fCv l g yX2_init cX2_init 4 1 12 0 0 ad M [.ref (ad lb), .int x, .int w, .int z] (fDv ad (fU M lb (.inr (3, hV (upd (upd (upd (upd f 0 x) 1 w) 2 z) 3 0))))) := by
  refine f_body (own := RX2) (by decide +kernel) rfl (Nat.le_of_ble_eq_true rfl) ?_
  intro p e s m args below meth c ls X hw hin hl
  have hx := X.1
  have hb := X.2.1
  have hl : lv_has ls 4 [(0, .ref (ad lb)), (1, .int x), (2, .int w), (3, .int z)] := hl
  refine lv_aload_n hx hb dX2_init_0 rfl (lv_at hl 0 rfl) ?_
  refine W.objInit hx hb X.2.2.2.1 (X.2.2.2.2.1 _ wq400) (X.2.2.2.2.1 _ wq31) (X.2.2.2.2.1 _ wq32) rfl (by rw [X.2.2.1]; exact hl.1) rfl dX2_init_1 (Nat.le_of_ble_eq_true rfl) (Nat.le_of_ble_eq_true rfl) ?_
  refine W.eq (g2 := F0 m 4 ls []) rfl ?_
  refine lv_aload_n hx hb dX2_init_4 rfl (lv_at hl 0 rfl) ?_
  refine lv_iload_n hx hb dX2_init_5 rfl (lv_at hl 1 rfl) ?_
  refine f_put X hw hM fc3 0 (by decide) wq401 rfl rfl (v := .int x) rfl rfl (Nat.le_of_ble_eq_true rfl) dX2_init_6 (fun H locs hw => ?_)
  have hw : fw g ad (fU M lb (.inr (3, hV (upd f 0 x)))) s H locs := hw
  have hM : (fU M lb (.inr (3, hV (upd f 0 x)))) lb = some (.inr (3, hV (upd f 0 x))) := fU_s
  refine lv_aload_n hx hb dX2_init_9 rfl (lv_at hl 0 rfl) ?_
  refine lv_iload_n hx hb dX2_init_10 rfl (lv_at hl 2 rfl) ?_
  refine f_put X hw hM fc3 1 (by decide) wq404 rfl rfl (v := .int w) rfl rfl (Nat.le_of_ble_eq_true rfl) dX2_init_11 (fun H locs hw => ?_)
  have hw : fw g ad (fU (fU M lb (.inr (3, hV (upd f 0 x)))) lb (.inr (3, hV (upd (upd f 0 x) 1 w)))) s H locs := hw
  rw [fU_U] at hw
  have hM : (fU M lb (.inr (3, hV (upd (upd f 0 x) 1 w)))) lb = some (.inr (3, hV (upd (upd f 0 x) 1 w))) := fU_s
  refine lv_aload_n hx hb dX2_init_14 rfl (lv_at hl 0 rfl) ?_
  refine lv_iload_n hx hb dX2_init_15 rfl (lv_at hl 3 rfl) ?_
  refine f_put X hw hM fc3 2 (by decide) wq405 rfl rfl (v := .int z) rfl rfl (Nat.le_of_ble_eq_true rfl) dX2_init_16 (fun H locs hw => ?_)
  have hw : fw g ad (fU (fU M lb (.inr (3, hV (upd (upd f 0 x) 1 w)))) lb (.inr (3, hV (upd (upd (upd f 0 x) 1 w) 2 z)))) s H locs := hw
  rw [fU_U] at hw
  have hM : (fU M lb (.inr (3, hV (upd (upd (upd f 0 x) 1 w) 2 z)))) lb = some (.inr (3, hV (upd (upd (upd f 0 x) 1 w) 2 z))) := fU_s
  refine lv_aload_n hx hb dX2_init_19 rfl (lv_at hl 0 rfl) ?_
  refine lv_iconst (v := 0) hx hb dX2_init_20 (by decide) ?_
  refine f_put X hw hM fc3 3 (by decide) wq406 rfl rfl (v := .int 0) rfl rfl (Nat.le_of_ble_eq_true rfl) dX2_init_21 (fun H locs hw => ?_)
  have hw : fw g ad (fU (fU M lb (.inr (3, hV (upd (upd (upd f 0 x) 1 w) 2 z)))) lb (.inr (3, hV (upd (upd (upd (upd f 0 x) 1 w) 2 z) 3 0)))) s H locs := hw
  rw [fU_U] at hw
  have hM : (fU M lb (.inr (3, hV (upd (upd (upd (upd f 0 x) 1 w) 2 z) 3 0)))) lb = some (.inr (3, hV (upd (upd (upd (upd f 0 x) 1 w) 2 z) 3 0))) := fU_s
  exact f_vret X hw ⟨rfl, rfl⟩ (Nat.le_refl _) (Nat.le_refl _) dX2_init_24
set_option maxHeartbeats 4000000 in
set_option maxRecDepth 100000 in
theorem c_X2_copyFrom (l : Launch) (g : fG) (ad : Nat → Nat) (M : fM) {lb : Nat} {f : Nat → Int32} (hM : M lb = some (.inr (3, hV f))) {lo : Nat} {o : Nat → Int32} (hO : M lo = some (.inr (3, hV o))) (hne : lo ≠ lb) : fCv l g yX2_copyFrom cX2_copyFrom 2 0 0 0 0 ad M [.ref (ad lb), .ref (ad lo)] (fDv ad (fU M lb (.inr (3, hV o)))) := by
  refine f_body (own := RX2) (by decide +kernel) rfl (Nat.le_of_ble_eq_true rfl) ?_
  intro p e s m args below meth c ls X hw hin hl
  have hx := X.1
  have hb := X.2.1
  have hl : lv_has ls 2 [(0, .ref (ad lb)), (1, .ref (ad lo))] := hl
  refine lv_aload_n hx hb dX2_copyFrom_0 rfl (lv_at hl 0 rfl) ?_
  refine lv_aload_n hx hb dX2_copyFrom_1 rfl (lv_at hl 1 rfl) ?_
  refine f_get X hw hO fc3 0 (by decide) wq401 rfl (v := .int (o 0)) rfl dX2_copyFrom_2 ?_
  refine f_put X hw hM fc3 0 (by decide) wq401 rfl rfl (v := .int (o 0)) rfl rfl (Nat.le_of_ble_eq_true rfl) dX2_copyFrom_5 (fun H locs hw => ?_)
  have hw : fw g ad (fU M lb (.inr (3, hV (upd f 0 (o 0))))) s H locs := hw
  have hO : (fU M lb (.inr (3, hV (upd f 0 (o 0))))) lo = some (.inr (3, hV o)) := (fU_n (by omega)).trans hO
  have hM : (fU M lb (.inr (3, hV (upd f 0 (o 0))))) lb = some (.inr (3, hV (upd f 0 (o 0)))) := fU_s
  refine lv_aload_n hx hb dX2_copyFrom_8 rfl (lv_at hl 0 rfl) ?_
  refine lv_aload_n hx hb dX2_copyFrom_9 rfl (lv_at hl 1 rfl) ?_
  refine f_get X hw hO fc3 1 (by decide) wq404 rfl (v := .int (o 1)) rfl dX2_copyFrom_10 ?_
  refine f_put X hw hM fc3 1 (by decide) wq404 rfl rfl (v := .int (o 1)) rfl rfl (Nat.le_of_ble_eq_true rfl) dX2_copyFrom_13 (fun H locs hw => ?_)
  have hw : fw g ad (fU (fU M lb (.inr (3, hV (upd f 0 (o 0))))) lb (.inr (3, hV (upd (upd f 0 (o 0)) 1 (o 1))))) s H locs := hw
  rw [fU_U] at hw
  have hO : (fU M lb (.inr (3, hV (upd (upd f 0 (o 0)) 1 (o 1))))) lo = some (.inr (3, hV o)) := ((fU_n (by omega)).trans (fU_n (by omega)).symm).trans hO
  have hM : (fU M lb (.inr (3, hV (upd (upd f 0 (o 0)) 1 (o 1))))) lb = some (.inr (3, hV (upd (upd f 0 (o 0)) 1 (o 1)))) := fU_s
  refine lv_aload_n hx hb dX2_copyFrom_16 rfl (lv_at hl 0 rfl) ?_
  refine lv_aload_n hx hb dX2_copyFrom_17 rfl (lv_at hl 1 rfl) ?_
  refine f_get X hw hO fc3 2 (by decide) wq405 rfl (v := .int (o 2)) rfl dX2_copyFrom_18 ?_
  refine f_put X hw hM fc3 2 (by decide) wq405 rfl rfl (v := .int (o 2)) rfl rfl (Nat.le_of_ble_eq_true rfl) dX2_copyFrom_21 (fun H locs hw => ?_)
  have hw : fw g ad (fU (fU M lb (.inr (3, hV (upd (upd f 0 (o 0)) 1 (o 1))))) lb (.inr (3, hV (upd (upd (upd f 0 (o 0)) 1 (o 1)) 2 (o 2))))) s H locs := hw
  rw [fU_U] at hw
  have hO : (fU M lb (.inr (3, hV (upd (upd (upd f 0 (o 0)) 1 (o 1)) 2 (o 2))))) lo = some (.inr (3, hV o)) := ((fU_n (by omega)).trans (fU_n (by omega)).symm).trans hO
  have hM : (fU M lb (.inr (3, hV (upd (upd (upd f 0 (o 0)) 1 (o 1)) 2 (o 2))))) lb = some (.inr (3, hV (upd (upd (upd f 0 (o 0)) 1 (o 1)) 2 (o 2)))) := fU_s
  refine lv_aload_n hx hb dX2_copyFrom_24 rfl (lv_at hl 0 rfl) ?_
  refine lv_aload_n hx hb dX2_copyFrom_25 rfl (lv_at hl 1 rfl) ?_
  refine f_get X hw hO fc3 3 (by decide) wq406 rfl (v := .int (o 3)) rfl dX2_copyFrom_26 ?_
  refine f_put X hw hM fc3 3 (by decide) wq406 rfl rfl (v := .int (o 3)) rfl rfl (Nat.le_of_ble_eq_true rfl) dX2_copyFrom_29 (fun H locs hw => ?_)
  have hw : fw g ad (fU (fU M lb (.inr (3, hV (upd (upd (upd f 0 (o 0)) 1 (o 1)) 2 (o 2))))) lb (.inr (3, hV (upd (upd (upd (upd f 0 (o 0)) 1 (o 1)) 2 (o 2)) 3 (o 3))))) s H locs := hw
  rw [fU_U] at hw
  have hO : (fU M lb (.inr (3, hV (upd (upd (upd (upd f 0 (o 0)) 1 (o 1)) 2 (o 2)) 3 (o 3))))) lo = some (.inr (3, hV o)) := ((fU_n (by omega)).trans (fU_n (by omega)).symm).trans hO
  have hM : (fU M lb (.inr (3, hV (upd (upd (upd (upd f 0 (o 0)) 1 (o 1)) 2 (o 2)) 3 (o 3))))) lb = some (.inr (3, hV (upd (upd (upd (upd f 0 (o 0)) 1 (o 1)) 2 (o 2)) 3 (o 3)))) := fU_s
  refine lv_aload_n hx hb dX2_copyFrom_32 rfl (lv_at hl 0 rfl) ?_
  refine lv_aload_n hx hb dX2_copyFrom_33 rfl (lv_at hl 1 rfl) ?_
  refine f_get X hw hO fc3 4 (by decide) wq409 rfl (v := .int (o 4)) rfl dX2_copyFrom_34 ?_
  refine f_put X hw hM fc3 4 (by decide) wq409 rfl rfl (v := .int (o 4)) rfl rfl (Nat.le_of_ble_eq_true rfl) dX2_copyFrom_37 (fun H locs hw => ?_)
  have hw : fw g ad (fU (fU M lb (.inr (3, hV (upd (upd (upd (upd f 0 (o 0)) 1 (o 1)) 2 (o 2)) 3 (o 3))))) lb (.inr (3, hV (upd (upd (upd (upd (upd f 0 (o 0)) 1 (o 1)) 2 (o 2)) 3 (o 3)) 4 (o 4))))) s H locs := hw
  rw [fU_U] at hw
  have hO : (fU M lb (.inr (3, hV (upd (upd (upd (upd (upd f 0 (o 0)) 1 (o 1)) 2 (o 2)) 3 (o 3)) 4 (o 4))))) lo = some (.inr (3, hV o)) := ((fU_n (by omega)).trans (fU_n (by omega)).symm).trans hO
  have hM : (fU M lb (.inr (3, hV (upd (upd (upd (upd (upd f 0 (o 0)) 1 (o 1)) 2 (o 2)) 3 (o 3)) 4 (o 4))))) lb = some (.inr (3, hV (upd (upd (upd (upd (upd f 0 (o 0)) 1 (o 1)) 2 (o 2)) 3 (o 3)) 4 (o 4)))) := fU_s
  refine lv_aload_n hx hb dX2_copyFrom_40 rfl (lv_at hl 0 rfl) ?_
  refine lv_aload_n hx hb dX2_copyFrom_41 rfl (lv_at hl 1 rfl) ?_
  refine f_get X hw hO fc3 5 (by decide) wq411 rfl (v := .int (o 5)) rfl dX2_copyFrom_42 ?_
  refine f_put X hw hM fc3 5 (by decide) wq411 rfl rfl (v := .int (o 5)) rfl rfl (Nat.le_of_ble_eq_true rfl) dX2_copyFrom_45 (fun H locs hw => ?_)
  have hw : fw g ad (fU (fU M lb (.inr (3, hV (upd (upd (upd (upd (upd f 0 (o 0)) 1 (o 1)) 2 (o 2)) 3 (o 3)) 4 (o 4))))) lb (.inr (3, hV (upd (upd (upd (upd (upd (upd f 0 (o 0)) 1 (o 1)) 2 (o 2)) 3 (o 3)) 4 (o 4)) 5 (o 5))))) s H locs := hw
  rw [fU_U] at hw
  have hO : (fU M lb (.inr (3, hV (upd (upd (upd (upd (upd (upd f 0 (o 0)) 1 (o 1)) 2 (o 2)) 3 (o 3)) 4 (o 4)) 5 (o 5))))) lo = some (.inr (3, hV o)) := ((fU_n (by omega)).trans (fU_n (by omega)).symm).trans hO
  have hM : (fU M lb (.inr (3, hV (upd (upd (upd (upd (upd (upd f 0 (o 0)) 1 (o 1)) 2 (o 2)) 3 (o 3)) 4 (o 4)) 5 (o 5))))) lb = some (.inr (3, hV (upd (upd (upd (upd (upd (upd f 0 (o 0)) 1 (o 1)) 2 (o 2)) 3 (o 3)) 4 (o 4)) 5 (o 5)))) := fU_s
  refine lv_aload_n hx hb dX2_copyFrom_48 rfl (lv_at hl 0 rfl) ?_
  refine lv_aload_n hx hb dX2_copyFrom_49 rfl (lv_at hl 1 rfl) ?_
  refine f_get X hw hO fc3 6 (by decide) wq413 rfl (v := .int (o 6)) rfl dX2_copyFrom_50 ?_
  refine f_put X hw hM fc3 6 (by decide) wq413 rfl rfl (v := .int (o 6)) rfl rfl (Nat.le_of_ble_eq_true rfl) dX2_copyFrom_53 (fun H locs hw => ?_)
  have hw : fw g ad (fU (fU M lb (.inr (3, hV (upd (upd (upd (upd (upd (upd f 0 (o 0)) 1 (o 1)) 2 (o 2)) 3 (o 3)) 4 (o 4)) 5 (o 5))))) lb (.inr (3, hV (upd (upd (upd (upd (upd (upd (upd f 0 (o 0)) 1 (o 1)) 2 (o 2)) 3 (o 3)) 4 (o 4)) 5 (o 5)) 6 (o 6))))) s H locs := hw
  rw [fU_U] at hw
  have hO : (fU M lb (.inr (3, hV (upd (upd (upd (upd (upd (upd (upd f 0 (o 0)) 1 (o 1)) 2 (o 2)) 3 (o 3)) 4 (o 4)) 5 (o 5)) 6 (o 6))))) lo = some (.inr (3, hV o)) := ((fU_n (by omega)).trans (fU_n (by omega)).symm).trans hO
  have hM : (fU M lb (.inr (3, hV (upd (upd (upd (upd (upd (upd (upd f 0 (o 0)) 1 (o 1)) 2 (o 2)) 3 (o 3)) 4 (o 4)) 5 (o 5)) 6 (o 6))))) lb = some (.inr (3, hV (upd (upd (upd (upd (upd (upd (upd f 0 (o 0)) 1 (o 1)) 2 (o 2)) 3 (o 3)) 4 (o 4)) 5 (o 5)) 6 (o 6)))) := fU_s
  exact f_vret X hw ⟨rfl, rfl⟩ (Nat.le_refl _) (Nat.le_refl _) dX2_copyFrom_56
set_option maxHeartbeats 4000000 in
set_option maxRecDepth 100000 in
theorem c_X3_copyFrom (l : Launch) (g : fG) (ad : Nat → Nat) (M : fM) {lb : Nat} {f : Nat → Int32} (hM : M lb = some (.inr (4, pV f))) {lo : Nat} {o : Nat → Int32} (hO : M lo = some (.inr (4, pV o))) (hne : lo ≠ lb) : fCv l g yX3_copyFrom cX3_copyFrom 2 0 0 0 0 ad M [.ref (ad lb), .ref (ad lo)] (fDv ad (fU M lb (.inr (4, pV o)))) := by
  refine f_body (own := RX3) (by decide +kernel) rfl (Nat.le_of_ble_eq_true rfl) ?_
  intro p e s m args below meth c ls X hw hin hl
  have hx := X.1
  have hb := X.2.1
  have hl : lv_has ls 2 [(0, .ref (ad lb)), (1, .ref (ad lo))] := hl
  refine lv_aload_n hx hb dX3_copyFrom_0 rfl (lv_at hl 0 rfl) ?_
  refine lv_aload_n hx hb dX3_copyFrom_1 rfl (lv_at hl 1 rfl) ?_
  refine f_get X hw hO fc4 0 (by decide) wq494 rfl (v := .int (o 0)) rfl dX3_copyFrom_2 ?_
  refine f_put X hw hM fc4 0 (by decide) wq494 rfl rfl (v := .int (o 0)) rfl rfl (Nat.le_of_ble_eq_true rfl) dX3_copyFrom_5 (fun H locs hw => ?_)
  have hw : fw g ad (fU M lb (.inr (4, pV (upd f 0 (o 0))))) s H locs := hw
  have hO : (fU M lb (.inr (4, pV (upd f 0 (o 0))))) lo = some (.inr (4, pV o)) := (fU_n (by omega)).trans hO
  have hM : (fU M lb (.inr (4, pV (upd f 0 (o 0))))) lb = some (.inr (4, pV (upd f 0 (o 0)))) := fU_s
  refine lv_aload_n hx hb dX3_copyFrom_8 rfl (lv_at hl 0 rfl) ?_
  refine lv_aload_n hx hb dX3_copyFrom_9 rfl (lv_at hl 1 rfl) ?_
  refine f_get X hw hO fc4 1 (by decide) wq496 rfl (v := .int (o 1)) rfl dX3_copyFrom_10 ?_
  refine f_put X hw hM fc4 1 (by decide) wq496 rfl rfl (v := .int (o 1)) rfl rfl (Nat.le_of_ble_eq_true rfl) dX3_copyFrom_13 (fun H locs hw => ?_)
  have hw : fw g ad (fU (fU M lb (.inr (4, pV (upd f 0 (o 0))))) lb (.inr (4, pV (upd (upd f 0 (o 0)) 1 (o 1))))) s H locs := hw
  rw [fU_U] at hw
  have hO : (fU M lb (.inr (4, pV (upd (upd f 0 (o 0)) 1 (o 1))))) lo = some (.inr (4, pV o)) := ((fU_n (by omega)).trans (fU_n (by omega)).symm).trans hO
  have hM : (fU M lb (.inr (4, pV (upd (upd f 0 (o 0)) 1 (o 1))))) lb = some (.inr (4, pV (upd (upd f 0 (o 0)) 1 (o 1)))) := fU_s
  exact f_vret X hw ⟨rfl, rfl⟩ (Nat.le_refl _) (Nat.le_refl _) dX3_copyFrom_16
set_option maxHeartbeats 4000000 in
set_option maxRecDepth 100000 in
theorem c_X0_copyFrom (l : Launch) (g : fG) (ad : Nat → Nat) (M : fM) {lb : Nat} {f : Nat → Int32} (hM : M lb = some (.inr (1, eV f))) {lo : Nat} {o : Nat → Int32} (hO : M lo = some (.inr (1, eV o))) (hne : lo ≠ lb) (ha : o 10 = 0 ∨ o 10 = 1) : fCv l g yX0_copyFrom cX0_copyFrom 2 0 0 0 0 ad M [.ref (ad lb), .ref (ad lo)] (fDv ad (fU M lb (.inr (1, eV o)))) := by
  refine f_body (own := RX0) (by decide +kernel) rfl (Nat.le_of_ble_eq_true rfl) ?_
  intro p e s m args below meth c ls X hw hin hl
  have hx := X.1
  have hb := X.2.1
  have hl : lv_has ls 2 [(0, .ref (ad lb)), (1, .ref (ad lo))] := hl
  refine lv_aload_n hx hb dX0_copyFrom_0 rfl (lv_at hl 0 rfl) ?_
  refine lv_aload_n hx hb dX0_copyFrom_1 rfl (lv_at hl 1 rfl) ?_
  refine f_get X hw hO fc1 0 (by decide) wq513 rfl (v := .int (o 0)) rfl dX0_copyFrom_2 ?_
  refine f_put X hw hM fc1 0 (by decide) wq513 rfl rfl (v := .int (o 0)) rfl rfl (Nat.le_of_ble_eq_true rfl) dX0_copyFrom_5 (fun H locs hw => ?_)
  have hw : fw g ad (fU M lb (.inr (1, eV (upd f 0 (o 0))))) s H locs := hw
  have hO : (fU M lb (.inr (1, eV (upd f 0 (o 0))))) lo = some (.inr (1, eV o)) := (fU_n (by omega)).trans hO
  have hM : (fU M lb (.inr (1, eV (upd f 0 (o 0))))) lb = some (.inr (1, eV (upd f 0 (o 0)))) := fU_s
  refine lv_aload_n hx hb dX0_copyFrom_8 rfl (lv_at hl 0 rfl) ?_
  refine lv_aload_n hx hb dX0_copyFrom_9 rfl (lv_at hl 1 rfl) ?_
  refine f_get X hw hO fc1 1 (by decide) wq516 rfl (v := .int (o 1)) rfl dX0_copyFrom_10 ?_
  refine f_put X hw hM fc1 1 (by decide) wq516 rfl rfl (v := .int (o 1)) rfl rfl (Nat.le_of_ble_eq_true rfl) dX0_copyFrom_13 (fun H locs hw => ?_)
  have hw : fw g ad (fU (fU M lb (.inr (1, eV (upd f 0 (o 0))))) lb (.inr (1, eV (upd (upd f 0 (o 0)) 1 (o 1))))) s H locs := hw
  rw [fU_U] at hw
  have hO : (fU M lb (.inr (1, eV (upd (upd f 0 (o 0)) 1 (o 1))))) lo = some (.inr (1, eV o)) := ((fU_n (by omega)).trans (fU_n (by omega)).symm).trans hO
  have hM : (fU M lb (.inr (1, eV (upd (upd f 0 (o 0)) 1 (o 1))))) lb = some (.inr (1, eV (upd (upd f 0 (o 0)) 1 (o 1)))) := fU_s
  refine lv_aload_n hx hb dX0_copyFrom_16 rfl (lv_at hl 0 rfl) ?_
  refine lv_aload_n hx hb dX0_copyFrom_17 rfl (lv_at hl 1 rfl) ?_
  refine f_get X hw hO fc1 2 (by decide) wq518 rfl (v := .int (o 2)) rfl dX0_copyFrom_18 ?_
  refine f_put X hw hM fc1 2 (by decide) wq518 rfl rfl (v := .int (o 2)) rfl rfl (Nat.le_of_ble_eq_true rfl) dX0_copyFrom_21 (fun H locs hw => ?_)
  have hw : fw g ad (fU (fU M lb (.inr (1, eV (upd (upd f 0 (o 0)) 1 (o 1))))) lb (.inr (1, eV (upd (upd (upd f 0 (o 0)) 1 (o 1)) 2 (o 2))))) s H locs := hw
  rw [fU_U] at hw
  have hO : (fU M lb (.inr (1, eV (upd (upd (upd f 0 (o 0)) 1 (o 1)) 2 (o 2))))) lo = some (.inr (1, eV o)) := ((fU_n (by omega)).trans (fU_n (by omega)).symm).trans hO
  have hM : (fU M lb (.inr (1, eV (upd (upd (upd f 0 (o 0)) 1 (o 1)) 2 (o 2))))) lb = some (.inr (1, eV (upd (upd (upd f 0 (o 0)) 1 (o 1)) 2 (o 2)))) := fU_s
  refine lv_aload_n hx hb dX0_copyFrom_24 rfl (lv_at hl 0 rfl) ?_
  refine lv_aload_n hx hb dX0_copyFrom_25 rfl (lv_at hl 1 rfl) ?_
  refine f_get X hw hO fc1 3 (by decide) wq520 rfl (v := .int (o 3)) rfl dX0_copyFrom_26 ?_
  refine f_put X hw hM fc1 3 (by decide) wq520 rfl rfl (v := .int (o 3)) rfl rfl (Nat.le_of_ble_eq_true rfl) dX0_copyFrom_29 (fun H locs hw => ?_)
  have hw : fw g ad (fU (fU M lb (.inr (1, eV (upd (upd (upd f 0 (o 0)) 1 (o 1)) 2 (o 2))))) lb (.inr (1, eV (upd (upd (upd (upd f 0 (o 0)) 1 (o 1)) 2 (o 2)) 3 (o 3))))) s H locs := hw
  rw [fU_U] at hw
  have hO : (fU M lb (.inr (1, eV (upd (upd (upd (upd f 0 (o 0)) 1 (o 1)) 2 (o 2)) 3 (o 3))))) lo = some (.inr (1, eV o)) := ((fU_n (by omega)).trans (fU_n (by omega)).symm).trans hO
  have hM : (fU M lb (.inr (1, eV (upd (upd (upd (upd f 0 (o 0)) 1 (o 1)) 2 (o 2)) 3 (o 3))))) lb = some (.inr (1, eV (upd (upd (upd (upd f 0 (o 0)) 1 (o 1)) 2 (o 2)) 3 (o 3)))) := fU_s
  refine lv_aload_n hx hb dX0_copyFrom_32 rfl (lv_at hl 0 rfl) ?_
  refine lv_aload_n hx hb dX0_copyFrom_33 rfl (lv_at hl 1 rfl) ?_
  refine f_get X hw hO fc1 4 (by decide) wq523 rfl (v := .int (o 4)) rfl dX0_copyFrom_34 ?_
  refine f_put X hw hM fc1 4 (by decide) wq523 rfl rfl (v := .int (o 4)) rfl rfl (Nat.le_of_ble_eq_true rfl) dX0_copyFrom_37 (fun H locs hw => ?_)
  have hw : fw g ad (fU (fU M lb (.inr (1, eV (upd (upd (upd (upd f 0 (o 0)) 1 (o 1)) 2 (o 2)) 3 (o 3))))) lb (.inr (1, eV (upd (upd (upd (upd (upd f 0 (o 0)) 1 (o 1)) 2 (o 2)) 3 (o 3)) 4 (o 4))))) s H locs := hw
  rw [fU_U] at hw
  have hO : (fU M lb (.inr (1, eV (upd (upd (upd (upd (upd f 0 (o 0)) 1 (o 1)) 2 (o 2)) 3 (o 3)) 4 (o 4))))) lo = some (.inr (1, eV o)) := ((fU_n (by omega)).trans (fU_n (by omega)).symm).trans hO
  have hM : (fU M lb (.inr (1, eV (upd (upd (upd (upd (upd f 0 (o 0)) 1 (o 1)) 2 (o 2)) 3 (o 3)) 4 (o 4))))) lb = some (.inr (1, eV (upd (upd (upd (upd (upd f 0 (o 0)) 1 (o 1)) 2 (o 2)) 3 (o 3)) 4 (o 4)))) := fU_s
  refine lv_aload_n hx hb dX0_copyFrom_40 rfl (lv_at hl 0 rfl) ?_
  refine lv_aload_n hx hb dX0_copyFrom_41 rfl (lv_at hl 1 rfl) ?_
  refine f_get X hw hO fc1 5 (by decide) wq525 rfl (v := .int (o 5)) rfl dX0_copyFrom_42 ?_
  refine f_put X hw hM fc1 5 (by decide) wq525 rfl rfl (v := .int (o 5)) rfl rfl (Nat.le_of_ble_eq_true rfl) dX0_copyFrom_45 (fun H locs hw => ?_)
  have hw : fw g ad (fU (fU M lb (.inr (1, eV (upd (upd (upd (upd (upd f 0 (o 0)) 1 (o 1)) 2 (o 2)) 3 (o 3)) 4 (o 4))))) lb (.inr (1, eV (upd (upd (upd (upd (upd (upd f 0 (o 0)) 1 (o 1)) 2 (o 2)) 3 (o 3)) 4 (o 4)) 5 (o 5))))) s H locs := hw
  rw [fU_U] at hw
  have hO : (fU M lb (.inr (1, eV (upd (upd (upd (upd (upd (upd f 0 (o 0)) 1 (o 1)) 2 (o 2)) 3 (o 3)) 4 (o 4)) 5 (o 5))))) lo = some (.inr (1, eV o)) := ((fU_n (by omega)).trans (fU_n (by omega)).symm).trans hO
  have hM : (fU M lb (.inr (1, eV (upd (upd (upd (upd (upd (upd f 0 (o 0)) 1 (o 1)) 2 (o 2)) 3 (o 3)) 4 (o 4)) 5 (o 5))))) lb = some (.inr (1, eV (upd (upd (upd (upd (upd (upd f 0 (o 0)) 1 (o 1)) 2 (o 2)) 3 (o 3)) 4 (o 4)) 5 (o 5)))) := fU_s
  refine lv_aload_n hx hb dX0_copyFrom_48 rfl (lv_at hl 0 rfl) ?_
  refine lv_aload_n hx hb dX0_copyFrom_49 rfl (lv_at hl 1 rfl) ?_
  refine f_get X hw hO fc1 6 (by decide) wq528 rfl (v := .int (o 6)) rfl dX0_copyFrom_50 ?_
  refine f_put X hw hM fc1 6 (by decide) wq528 rfl rfl (v := .int (o 6)) rfl rfl (Nat.le_of_ble_eq_true rfl) dX0_copyFrom_53 (fun H locs hw => ?_)
  have hw : fw g ad (fU (fU M lb (.inr (1, eV (upd (upd (upd (upd (upd (upd f 0 (o 0)) 1 (o 1)) 2 (o 2)) 3 (o 3)) 4 (o 4)) 5 (o 5))))) lb (.inr (1, eV (upd (upd (upd (upd (upd (upd (upd f 0 (o 0)) 1 (o 1)) 2 (o 2)) 3 (o 3)) 4 (o 4)) 5 (o 5)) 6 (o 6))))) s H locs := hw
  rw [fU_U] at hw
  have hO : (fU M lb (.inr (1, eV (upd (upd (upd (upd (upd (upd (upd f 0 (o 0)) 1 (o 1)) 2 (o 2)) 3 (o 3)) 4 (o 4)) 5 (o 5)) 6 (o 6))))) lo = some (.inr (1, eV o)) := ((fU_n (by omega)).trans (fU_n (by omega)).symm).trans hO
  have hM : (fU M lb (.inr (1, eV (upd (upd (upd (upd (upd (upd (upd f 0 (o 0)) 1 (o 1)) 2 (o 2)) 3 (o 3)) 4 (o 4)) 5 (o 5)) 6 (o 6))))) lb = some (.inr (1, eV (upd (upd (upd (upd (upd (upd (upd f 0 (o 0)) 1 (o 1)) 2 (o 2)) 3 (o 3)) 4 (o 4)) 5 (o 5)) 6 (o 6)))) := fU_s
  refine lv_aload_n hx hb dX0_copyFrom_56 rfl (lv_at hl 0 rfl) ?_
  refine lv_aload_n hx hb dX0_copyFrom_57 rfl (lv_at hl 1 rfl) ?_
  refine f_get X hw hO fc1 7 (by decide) wq530 rfl (v := .int (o 7)) rfl dX0_copyFrom_58 ?_
  refine f_put X hw hM fc1 7 (by decide) wq530 rfl rfl (v := .int (o 7)) rfl rfl (Nat.le_of_ble_eq_true rfl) dX0_copyFrom_61 (fun H locs hw => ?_)
  have hw : fw g ad (fU (fU M lb (.inr (1, eV (upd (upd (upd (upd (upd (upd (upd f 0 (o 0)) 1 (o 1)) 2 (o 2)) 3 (o 3)) 4 (o 4)) 5 (o 5)) 6 (o 6))))) lb (.inr (1, eV (upd (upd (upd (upd (upd (upd (upd (upd f 0 (o 0)) 1 (o 1)) 2 (o 2)) 3 (o 3)) 4 (o 4)) 5 (o 5)) 6 (o 6)) 7 (o 7))))) s H locs := hw
  rw [fU_U] at hw
  have hO : (fU M lb (.inr (1, eV (upd (upd (upd (upd (upd (upd (upd (upd f 0 (o 0)) 1 (o 1)) 2 (o 2)) 3 (o 3)) 4 (o 4)) 5 (o 5)) 6 (o 6)) 7 (o 7))))) lo = some (.inr (1, eV o)) := ((fU_n (by omega)).trans (fU_n (by omega)).symm).trans hO
  have hM : (fU M lb (.inr (1, eV (upd (upd (upd (upd (upd (upd (upd (upd f 0 (o 0)) 1 (o 1)) 2 (o 2)) 3 (o 3)) 4 (o 4)) 5 (o 5)) 6 (o 6)) 7 (o 7))))) lb = some (.inr (1, eV (upd (upd (upd (upd (upd (upd (upd (upd f 0 (o 0)) 1 (o 1)) 2 (o 2)) 3 (o 3)) 4 (o 4)) 5 (o 5)) 6 (o 6)) 7 (o 7)))) := fU_s
  refine lv_aload_n hx hb dX0_copyFrom_64 rfl (lv_at hl 0 rfl) ?_
  refine lv_aload_n hx hb dX0_copyFrom_65 rfl (lv_at hl 1 rfl) ?_
  refine f_get X hw hO fc1 8 (by decide) wq533 rfl (v := .int (o 8)) rfl dX0_copyFrom_66 ?_
  refine f_put X hw hM fc1 8 (by decide) wq533 rfl rfl (v := .int (o 8)) rfl rfl (Nat.le_of_ble_eq_true rfl) dX0_copyFrom_69 (fun H locs hw => ?_)
  have hw : fw g ad (fU (fU M lb (.inr (1, eV (upd (upd (upd (upd (upd (upd (upd (upd f 0 (o 0)) 1 (o 1)) 2 (o 2)) 3 (o 3)) 4 (o 4)) 5 (o 5)) 6 (o 6)) 7 (o 7))))) lb (.inr (1, eV (upd (upd (upd (upd (upd (upd (upd (upd (upd f 0 (o 0)) 1 (o 1)) 2 (o 2)) 3 (o 3)) 4 (o 4)) 5 (o 5)) 6 (o 6)) 7 (o 7)) 8 (o 8))))) s H locs := hw
  rw [fU_U] at hw
  have hO : (fU M lb (.inr (1, eV (upd (upd (upd (upd (upd (upd (upd (upd (upd f 0 (o 0)) 1 (o 1)) 2 (o 2)) 3 (o 3)) 4 (o 4)) 5 (o 5)) 6 (o 6)) 7 (o 7)) 8 (o 8))))) lo = some (.inr (1, eV o)) := ((fU_n (by omega)).trans (fU_n (by omega)).symm).trans hO
  have hM : (fU M lb (.inr (1, eV (upd (upd (upd (upd (upd (upd (upd (upd (upd f 0 (o 0)) 1 (o 1)) 2 (o 2)) 3 (o 3)) 4 (o 4)) 5 (o 5)) 6 (o 6)) 7 (o 7)) 8 (o 8))))) lb = some (.inr (1, eV (upd (upd (upd (upd (upd (upd (upd (upd (upd f 0 (o 0)) 1 (o 1)) 2 (o 2)) 3 (o 3)) 4 (o 4)) 5 (o 5)) 6 (o 6)) 7 (o 7)) 8 (o 8)))) := fU_s
  refine lv_aload_n hx hb dX0_copyFrom_72 rfl (lv_at hl 0 rfl) ?_
  refine lv_aload_n hx hb dX0_copyFrom_73 rfl (lv_at hl 1 rfl) ?_
  refine f_get X hw hO fc1 9 (by decide) wq535 rfl (v := .int (o 9)) rfl dX0_copyFrom_74 ?_
  refine f_put X hw hM fc1 9 (by decide) wq535 rfl rfl (v := .int (o 9)) rfl rfl (Nat.le_of_ble_eq_true rfl) dX0_copyFrom_77 (fun H locs hw => ?_)
  have hw : fw g ad (fU (fU M lb (.inr (1, eV (upd (upd (upd (upd (upd (upd (upd (upd (upd f 0 (o 0)) 1 (o 1)) 2 (o 2)) 3 (o 3)) 4 (o 4)) 5 (o 5)) 6 (o 6)) 7 (o 7)) 8 (o 8))))) lb (.inr (1, eV (upd (upd (upd (upd (upd (upd (upd (upd (upd (upd f 0 (o 0)) 1 (o 1)) 2 (o 2)) 3 (o 3)) 4 (o 4)) 5 (o 5)) 6 (o 6)) 7 (o 7)) 8 (o 8)) 9 (o 9))))) s H locs := hw
  rw [fU_U] at hw
  have hO : (fU M lb (.inr (1, eV (upd (upd (upd (upd (upd (upd (upd (upd (upd (upd f 0 (o 0)) 1 (o 1)) 2 (o 2)) 3 (o 3)) 4 (o 4)) 5 (o 5)) 6 (o 6)) 7 (o 7)) 8 (o 8)) 9 (o 9))))) lo = some (.inr (1, eV o)) := ((fU_n (by omega)).trans (fU_n (by omega)).symm).trans hO
  have hM : (fU M lb (.inr (1, eV (upd (upd (upd (upd (upd (upd (upd (upd (upd (upd f 0 (o 0)) 1 (o 1)) 2 (o 2)) 3 (o 3)) 4 (o 4)) 5 (o 5)) 6 (o 6)) 7 (o 7)) 8 (o 8)) 9 (o 9))))) lb = some (.inr (1, eV (upd (upd (upd (upd (upd (upd (upd (upd (upd (upd f 0 (o 0)) 1 (o 1)) 2 (o 2)) 3 (o 3)) 4 (o 4)) 5 (o 5)) 6 (o 6)) 7 (o 7)) 8 (o 8)) 9 (o 9)))) := fU_s
  refine lv_aload_n hx hb dX0_copyFrom_80 rfl (lv_at hl 0 rfl) ?_
  refine lv_aload_n hx hb dX0_copyFrom_81 rfl (lv_at hl 1 rfl) ?_
  refine f_get X hw hO fc1 10 (by decide) wq537 rfl (v := .int (o 10)) rfl dX0_copyFrom_82 ?_
  refine f_put X hw hM fc1 10 (by decide) wq537 rfl rfl (v := .int (o 10)) (by rcases ha with ha | ha <;> rw [ha] <;> rfl) (by rcases ha with ha | ha <;> rw [ha] <;> rfl) (Nat.le_of_ble_eq_true rfl) dX0_copyFrom_85 (fun H locs hw => ?_)
  have hw : fw g ad (fU (fU M lb (.inr (1, eV (upd (upd (upd (upd (upd (upd (upd (upd (upd (upd f 0 (o 0)) 1 (o 1)) 2 (o 2)) 3 (o 3)) 4 (o 4)) 5 (o 5)) 6 (o 6)) 7 (o 7)) 8 (o 8)) 9 (o 9))))) lb (.inr (1, eV (upd (upd (upd (upd (upd (upd (upd (upd (upd (upd (upd f 0 (o 0)) 1 (o 1)) 2 (o 2)) 3 (o 3)) 4 (o 4)) 5 (o 5)) 6 (o 6)) 7 (o 7)) 8 (o 8)) 9 (o 9)) 10 (o 10))))) s H locs := hw
  rw [fU_U] at hw
  have hO : (fU M lb (.inr (1, eV (upd (upd (upd (upd (upd (upd (upd (upd (upd (upd (upd f 0 (o 0)) 1 (o 1)) 2 (o 2)) 3 (o 3)) 4 (o 4)) 5 (o 5)) 6 (o 6)) 7 (o 7)) 8 (o 8)) 9 (o 9)) 10 (o 10))))) lo = some (.inr (1, eV o)) := ((fU_n (by omega)).trans (fU_n (by omega)).symm).trans hO
  have hM : (fU M lb (.inr (1, eV (upd (upd (upd (upd (upd (upd (upd (upd (upd (upd (upd f 0 (o 0)) 1 (o 1)) 2 (o 2)) 3 (o 3)) 4 (o 4)) 5 (o 5)) 6 (o 6)) 7 (o 7)) 8 (o 8)) 9 (o 9)) 10 (o 10))))) lb = some (.inr (1, eV (upd (upd (upd (upd (upd (upd (upd (upd (upd (upd (upd f 0 (o 0)) 1 (o 1)) 2 (o 2)) 3 (o 3)) 4 (o 4)) 5 (o 5)) 6 (o 6)) 7 (o 7)) 8 (o 8)) 9 (o 9)) 10 (o 10)))) := fU_s
  exact f_vret X hw ⟨rfl, rfl⟩ (Nat.le_refl _) (Nat.le_refl _) dX0_copyFrom_88
set_option maxHeartbeats 4000000 in
set_option maxRecDepth 100000 in
theorem c_X2_catchFire (l : Launch) (g : fG) (ad : Nat → Nat) (M : fM) {lb : Nat} {f : Nat → Int32} (hM : M lb = some (.inr (3, hV f))) (x : Int32) : fCv l g yX2_catchFire cX2_catchFire 2 0 0 0 0 ad M [.ref (ad lb), .int x] (fDv ad (fU M lb (.inr (3, hV (upd (upd f 3 1) 4 x))))) := by
  refine f_body (own := RX2) (by decide +kernel) rfl (Nat.le_of_ble_eq_true rfl) ?_
  intro p e s m args below meth c ls X hw hin hl
  have hx := X.1
  have hb := X.2.1
  have hl : lv_has ls 2 [(0, .ref (ad lb)), (1, .int x)] := hl
  refine lv_aload_n hx hb dX2_catchFire_0 rfl (lv_at hl 0 rfl) ?_
  refine lv_iconst (v := 1) hx hb dX2_catchFire_1 (by decide) ?_
  refine f_put X hw hM fc3 3 (by decide) wq406 rfl rfl (v := .int 1) rfl rfl (Nat.le_of_ble_eq_true rfl) dX2_catchFire_2 (fun H locs hw => ?_)
  have hw : fw g ad (fU M lb (.inr (3, hV (upd f 3 1)))) s H locs := hw
  have hM : (fU M lb (.inr (3, hV (upd f 3 1)))) lb = some (.inr (3, hV (upd f 3 1))) := fU_s
  refine lv_aload_n hx hb dX2_catchFire_5 rfl (lv_at hl 0 rfl) ?_
  refine lv_iload_n hx hb dX2_catchFire_6 rfl (lv_at hl 1 rfl) ?_
  refine f_put X hw hM fc3 4 (by decide) wq409 rfl rfl (v := .int x) rfl rfl (Nat.le_of_ble_eq_true rfl) dX2_catchFire_7 (fun H locs hw => ?_)
  have hw : fw g ad (fU (fU M lb (.inr (3, hV (upd f 3 1)))) lb (.inr (3, hV (upd (upd f 3 1) 4 x)))) s H locs := hw
  rw [fU_U] at hw
  have hM : (fU M lb (.inr (3, hV (upd (upd f 3 1) 4 x)))) lb = some (.inr (3, hV (upd (upd f 3 1) 4 x))) := fU_s
  exact f_vret X hw ⟨rfl, rfl⟩ (Nat.le_refl _) (Nat.le_refl _) dX2_catchFire_10
set_option maxHeartbeats 4000000 in
set_option maxRecDepth 100000 in
theorem c_X2_takeWater (l : Launch) (g : fG) (ad : Nat → Nat) (M : fM) {lb : Nat} {f : Nat → Int32} (hM : M lb = some (.inr (3, hV f))) (x : Int32) : fCv l g yX2_takeWater cX2_takeWater 2 0 0 0 0 ad M [.ref (ad lb), .int x] (fDv ad (fU M lb (.inr (3, hV (upd (upd f 5 (f 5 + x)) 6 (f 6 + x)))))) := by
  refine f_body (own := RX2) (by decide +kernel) rfl (Nat.le_of_ble_eq_true rfl) ?_
  intro p e s m args below meth c ls X hw hin hl
  have hx := X.1
  have hb := X.2.1
  have hl : lv_has ls 2 [(0, .ref (ad lb)), (1, .int x)] := hl
  refine lv_aload_n hx hb dX2_takeWater_0 rfl (lv_at hl 0 rfl) ?_
  refine lv_dup hx hb dX2_takeWater_1 rfl ?_
  refine f_get X hw hM fc3 5 (by decide) wq411 rfl (v := .int (f 5)) rfl dX2_takeWater_2 ?_
  refine lv_iload_n hx hb dX2_takeWater_5 rfl (lv_at hl 1 rfl) ?_
  refine lv_iadd hx hb dX2_takeWater_6 ?_
  refine f_put X hw hM fc3 5 (by decide) wq411 rfl rfl (v := .int ((f 5) + x)) rfl rfl (Nat.le_of_ble_eq_true rfl) dX2_takeWater_7 (fun H locs hw => ?_)
  have hw : fw g ad (fU M lb (.inr (3, hV (upd f 5 ((f 5) + x))))) s H locs := hw
  have hM : (fU M lb (.inr (3, hV (upd f 5 ((f 5) + x))))) lb = some (.inr (3, hV (upd f 5 ((f 5) + x)))) := fU_s
  refine lv_aload_n hx hb dX2_takeWater_10 rfl (lv_at hl 0 rfl) ?_
  refine lv_dup hx hb dX2_takeWater_11 rfl ?_
  refine f_get X hw hM fc3 6 (by decide) wq413 rfl (v := .int (f 6)) rfl dX2_takeWater_12 ?_
  refine lv_iload_n hx hb dX2_takeWater_15 rfl (lv_at hl 1 rfl) ?_
  refine lv_iadd hx hb dX2_takeWater_16 ?_
  refine f_put X hw hM fc3 6 (by decide) wq413 rfl rfl (v := .int ((f 6) + x)) rfl rfl (Nat.le_of_ble_eq_true rfl) dX2_takeWater_17 (fun H locs hw => ?_)
  have hw : fw g ad (fU (fU M lb (.inr (3, hV (upd f 5 ((f 5) + x))))) lb (.inr (3, hV (upd (upd f 5 ((f 5) + x)) 6 ((f 6) + x))))) s H locs := hw
  rw [fU_U] at hw
  have hM : (fU M lb (.inr (3, hV (upd (upd f 5 ((f 5) + x)) 6 ((f 6) + x))))) lb = some (.inr (3, hV (upd (upd f 5 ((f 5) + x)) 6 ((f 6) + x)))) := fU_s
  exact f_vret X hw ⟨rfl, rfl⟩ (Nat.le_refl _) (Nat.le_refl _) dX2_takeWater_20
set_option maxHeartbeats 4000000 in
set_option maxRecDepth 100000 in
theorem c_X2_endFire (l : Launch) (g : fG) (ad : Nat → Nat) (M : fM) {lb : Nat} {f : Nat → Int32} (hM : M lb = some (.inr (3, hV f))) (x : Int32) : fCv l g yX2_endFire cX2_endFire 2 0 0 0 0 ad M [.ref (ad lb), .int x] (fDv ad (fU M lb (.inr (3, hV (upd (upd f 3 x) 4 0))))) := by
  refine f_body (own := RX2) (by decide +kernel) rfl (Nat.le_of_ble_eq_true rfl) ?_
  intro p e s m args below meth c ls X hw hin hl
  have hx := X.1
  have hb := X.2.1
  have hl : lv_has ls 2 [(0, .ref (ad lb)), (1, .int x)] := hl
  refine lv_aload_n hx hb dX2_endFire_0 rfl (lv_at hl 0 rfl) ?_
  refine lv_iload_n hx hb dX2_endFire_1 rfl (lv_at hl 1 rfl) ?_
  refine f_put X hw hM fc3 3 (by decide) wq406 rfl rfl (v := .int x) rfl rfl (Nat.le_of_ble_eq_true rfl) dX2_endFire_2 (fun H locs hw => ?_)
  have hw : fw g ad (fU M lb (.inr (3, hV (upd f 3 x)))) s H locs := hw
  have hM : (fU M lb (.inr (3, hV (upd f 3 x)))) lb = some (.inr (3, hV (upd f 3 x))) := fU_s
  refine lv_aload_n hx hb dX2_endFire_5 rfl (lv_at hl 0 rfl) ?_
  refine lv_iconst (v := 0) hx hb dX2_endFire_6 (by decide) ?_
  refine f_put X hw hM fc3 4 (by decide) wq409 rfl rfl (v := .int 0) rfl rfl (Nat.le_of_ble_eq_true rfl) dX2_endFire_7 (fun H locs hw => ?_)
  have hw : fw g ad (fU (fU M lb (.inr (3, hV (upd f 3 x)))) lb (.inr (3, hV (upd (upd f 3 x) 4 0)))) s H locs := hw
  rw [fU_U] at hw
  have hM : (fU M lb (.inr (3, hV (upd (upd f 3 x) 4 0)))) lb = some (.inr (3, hV (upd (upd f 3 x) 4 0))) := fU_s
  exact f_vret X hw ⟨rfl, rfl⟩ (Nat.le_refl _) (Nat.le_refl _) dX2_endFire_10
set_option maxHeartbeats 4000000 in
set_option maxRecDepth 100000 in
theorem c_X2_tell (l : Launch) (g : fG) (ad : Nat → Nat) (M : fM) {lb : Nat} {f : Nat → Int32} (hM : M lb = some (.inr (3, hV f))) (p0 : Int32) : fCi l g yX2_tell cX2_tell 2 ((some .int)) 0 0 0 0 ad M [.ref (ad lb), .int p0] (fDi ad M (hTell f p0)) := by
  refine f_body (own := RX2) (by decide +kernel) rfl (Nat.le_of_ble_eq_true rfl) ?_
  intro p e s m args below meth c ls X hw hin hl
  have hx := X.1
  have hb := X.2.1
  have hl : lv_has ls 2 [(0, .ref (ad lb)), (1, .int p0)] := hl
  refine lv_iload_n hx hb dX2_tell_0 rfl (lv_at hl 1 rfl) ?_
  by_cases k_1 : p0 = 0
  · refine lv_tableIn (off := 39) (tgt := 40) hx hb dX2_tell_1 (by rw [k_1]; decide) (by rw [k_1]; decide) (by rw [k_1]; rfl) (by decide) ?_
    refine lv_aload_n hx hb dX2_tell_40 rfl (lv_at hl 0 rfl) ?_
    refine f_get X hw hM fc3 0 (by decide) wq401 rfl (v := .int (f 0)) rfl dX2_tell_41 ?_
    exact f_iret X hw ⟨rfl, rfl, by rw [k_1]; rfl⟩ (Nat.le_refl _) (Nat.le_refl _) dX2_tell_44
  by_cases k_2 : p0 = 1
  · refine lv_tableIn (off := 44) (tgt := 45) hx hb dX2_tell_1 (by rw [k_2]; decide) (by rw [k_2]; decide) (by rw [k_2]; rfl) (by decide) ?_
    refine lv_aload_n hx hb dX2_tell_45 rfl (lv_at hl 0 rfl) ?_
    refine f_get X hw hM fc3 1 (by decide) wq404 rfl (v := .int (f 1)) rfl dX2_tell_46 ?_
    exact f_iret X hw ⟨rfl, rfl, by rw [k_2]; rfl⟩ (Nat.le_refl _) (Nat.le_refl _) dX2_tell_49
  by_cases k_3 : p0 = 2
  · refine lv_tableIn (off := 49) (tgt := 50) hx hb dX2_tell_1 (by rw [k_3]; decide) (by rw [k_3]; decide) (by rw [k_3]; rfl) (by decide) ?_
    refine lv_aload_n hx hb dX2_tell_50 rfl (lv_at hl 0 rfl) ?_
    refine f_get X hw hM fc3 2 (by decide) wq405 rfl (v := .int (f 2)) rfl dX2_tell_51 ?_
    exact f_iret X hw ⟨rfl, rfl, by rw [k_3]; rfl⟩ (Nat.le_refl _) (Nat.le_refl _) dX2_tell_54
  by_cases k_4 : p0 = 3
  · refine lv_tableIn (off := 54) (tgt := 55) hx hb dX2_tell_1 (by rw [k_4]; decide) (by rw [k_4]; decide) (by rw [k_4]; rfl) (by decide) ?_
    refine lv_aload_n hx hb dX2_tell_55 rfl (lv_at hl 0 rfl) ?_
    refine f_get X hw hM fc3 3 (by decide) wq406 rfl (v := .int (f 3)) rfl dX2_tell_56 ?_
    exact f_iret X hw ⟨rfl, rfl, by rw [k_4]; rfl⟩ (Nat.le_refl _) (Nat.le_refl _) dX2_tell_59
  by_cases k_5 : p0 = 4
  · refine lv_tableIn (off := 59) (tgt := 60) hx hb dX2_tell_1 (by rw [k_5]; decide) (by rw [k_5]; decide) (by rw [k_5]; rfl) (by decide) ?_
    refine lv_aload_n hx hb dX2_tell_60 rfl (lv_at hl 0 rfl) ?_
    refine f_get X hw hM fc3 4 (by decide) wq409 rfl (v := .int (f 4)) rfl dX2_tell_61 ?_
    exact f_iret X hw ⟨rfl, rfl, by rw [k_5]; rfl⟩ (Nat.le_refl _) (Nat.le_refl _) dX2_tell_64
  by_cases k_6 : p0 = 5
  · refine lv_tableIn (off := 64) (tgt := 65) hx hb dX2_tell_1 (by rw [k_6]; decide) (by rw [k_6]; decide) (by rw [k_6]; rfl) (by decide) ?_
    refine lv_aload_n hx hb dX2_tell_65 rfl (lv_at hl 0 rfl) ?_
    refine f_get X hw hM fc3 5 (by decide) wq411 rfl (v := .int (f 5)) rfl dX2_tell_66 ?_
    exact f_iret X hw ⟨rfl, rfl, by rw [k_6]; rfl⟩ (Nat.le_refl _) (Nat.le_refl _) dX2_tell_69
  refine lv_tableOut (tgt := 70) hx hb dX2_tell_1 (f_tout (lo := 0) (hi := 5) (by intro k a b; rcases (show k = 0 ∨ k = 1 ∨ k = 2 ∨ k = 3 ∨ k = 4 ∨ k = 5 by omega) with rfl | rfl | rfl | rfl | rfl | rfl <;> assumption)) (by decide) ?_
  refine lv_aload_n hx hb dX2_tell_70 rfl (lv_at hl 0 rfl) ?_
  refine f_get X hw hM fc3 6 (by decide) wq413 rfl (v := .int (f 6)) rfl dX2_tell_71 ?_
  exact f_iret X hw ⟨rfl, rfl, by simp only [hTell, k_1, k_2, k_3, k_4, k_5, k_6, if_false]⟩ (Nat.le_refl _) (Nat.le_refl _) dX2_tell_74
set_option maxHeartbeats 4000000 in
set_option maxRecDepth 100000 in
theorem c_X2_burn (l : Launch) (g : fG) (ad : Nat → Nat) (M : fM) {lb : Nat} {f : Nat → Int32} (hM : M lb = some (.inr (3, hV f))) : fCv l g yX2_burnAMinute cX2_burnAMinute 1 1 21 0 0 ad M [.ref (ad lb)] (fDv ad (fU M lb (.inr (3, hV (hBurn f))))) := by
  refine f_body (own := RX2) (by decide +kernel) rfl (Nat.le_of_ble_eq_true rfl) ?_
  intro p e s m args below meth c ls X hw hin hl
  have hx := X.1
  have hb := X.2.1
  have hl : lv_has ls 1 [(0, .ref (ad lb))] := hl
  refine lv_aload_n hx hb dX2_burnAMinute_0 rfl (lv_at hl 0 rfl) ?_
  refine f_get X hw hM fc3 3 (by decide) wq406 rfl (v := .int (f 3)) rfl dX2_burnAMinute_1 ?_
  refine lv_iconst (v := 1) hx hb dX2_burnAMinute_4 (by decide) ?_
  refine lv_icmp_eq (tgt := 9) hx hb dX2_burnAMinute_5 (by decide) (fun c_1 => ?_) (fun c_1 => ?_)
  · refine lv_aload_n hx hb dX2_burnAMinute_9 rfl (lv_at hl 0 rfl) ?_
    refine lv_bipush (v := 99) hx hb dX2_burnAMinute_10 (by decide) ?_
    refine lv_aload_n hx hb dX2_burnAMinute_12 rfl (lv_at hl 0 rfl) ?_
    refine f_get X hw hM fc3 4 (by decide) wq409 rfl (v := .int (f 4)) rfl dX2_burnAMinute_13 ?_
    refine lv_aload_n hx hb dX2_burnAMinute_16 rfl (lv_at hl 0 rfl) ?_
    refine f_get X hw hM fc3 1 (by decide) wq404 rfl (v := .int (f 1)) rfl dX2_burnAMinute_17 ?_
    refine lv_iadd hx hb dX2_burnAMinute_20 ?_
    refine lv_aload_n hx hb dX2_burnAMinute_21 rfl (lv_at hl 0 rfl) ?_
    refine f_get X hw hM fc3 5 (by decide) wq411 rfl (v := .int (f 5)) rfl dX2_burnAMinute_22 ?_
    refine lv_iconst (v := 4) hx hb dX2_burnAMinute_25 (by decide) ?_
    refine lv_idiv hx hb dX2_burnAMinute_26 (by decide) ?_
    refine lv_isub hx hb dX2_burnAMinute_27 ?_
    refine va_mmin hx hb (X.2.2.1.trans hl.1.symm) X.2.2.2.1 (X.2.2.2.2.1 _ wq353) (X.2.2.2.2.1 _ wq287) (X.2.2.2.2.1 _ wq18) (X.2.2.2.2.1 _ wq288) (Nat.le_of_ble_eq_true rfl) (Nat.le_of_ble_eq_true rfl) (Nat.zero_le _) (Nat.zero_le _) dX2_burnAMinute_28 ?_
    refine f_top (y := iMin 99 (((f 4) + (f 1)) - ((f 5) / 4))) rfl ?_
    refine f_put X hw hM fc3 4 (by decide) wq409 rfl rfl (v := .int (iMin 99 (((f 4) + (f 1)) - ((f 5) / 4)))) rfl rfl (Nat.le_of_ble_eq_true rfl) dX2_burnAMinute_31 (fun H locs hw => ?_)
    have hw : fw g ad (fU M lb (.inr (3, hV (upd f 4 (iMin 99 (((f 4) + (f 1)) - ((f 5) / 4))))))) s H locs := hw
    have hM : (fU M lb (.inr (3, hV (upd f 4 (iMin 99 (((f 4) + (f 1)) - ((f 5) / 4))))))) lb = some (.inr (3, hV (upd f 4 (iMin 99 (((f 4) + (f 1)) - ((f 5) / 4)))))) := fU_s
    refine lv_aload_n hx hb dX2_burnAMinute_34 rfl (lv_at hl 0 rfl) ?_
    refine f_get X hw hM fc3 4 (by decide) wq409 rfl (v := .int (iMin 99 (((f 4) + (f 1)) - ((f 5) / 4)))) rfl dX2_burnAMinute_35 ?_
    refine lv_if_gt (tgt := 47) hx hb dX2_burnAMinute_38 (by decide) (fun c_2 => ?_) (fun c_2 => ?_)
    · refine lv_aload_n hx hb dX2_burnAMinute_47 rfl (lv_at hl 0 rfl) ?_
      refine lv_iconst (v := 0) hx hb dX2_burnAMinute_48 (by decide) ?_
      refine lv_aload_n hx hb dX2_burnAMinute_49 rfl (lv_at hl 0 rfl) ?_
      refine f_get X hw hM fc3 2 (by decide) wq405 rfl (v := .int (f 2)) rfl dX2_burnAMinute_50 ?_
      refine lv_iconst (v := 1) hx hb dX2_burnAMinute_53 (by decide) ?_
      refine lv_isub hx hb dX2_burnAMinute_54 ?_
      refine lv_aload_n hx hb dX2_burnAMinute_55 rfl (lv_at hl 0 rfl) ?_
      refine f_get X hw hM fc3 4 (by decide) wq409 rfl (v := .int (iMin 99 (((f 4) + (f 1)) - ((f 5) / 4)))) rfl dX2_burnAMinute_56 ?_
      refine lv_bipush (v := 25) hx hb dX2_burnAMinute_59 (by decide) ?_
      refine lv_idiv hx hb dX2_burnAMinute_61 (by decide) ?_
      refine lv_isub hx hb dX2_burnAMinute_62 ?_
      refine va_mmax hx hb (X.2.2.1.trans hl.1.symm) X.2.2.2.1 (X.2.2.2.2.1 _ wq359) (X.2.2.2.2.1 _ wq290) (X.2.2.2.2.1 _ wq18) (X.2.2.2.2.1 _ wq291) (Nat.le_of_ble_eq_true rfl) (Nat.le_of_ble_eq_true rfl) (Nat.zero_le _) (Nat.zero_le _) dX2_burnAMinute_63 ?_
      refine f_top (y := iMax 0 (((f 2) - 1) - ((iMin 99 (((f 4) + (f 1)) - ((f 5) / 4))) / 25))) rfl ?_
      refine f_put X hw hM fc3 2 (by decide) wq405 rfl rfl (v := .int (iMax 0 (((f 2) - 1) - ((iMin 99 (((f 4) + (f 1)) - ((f 5) / 4))) / 25)))) rfl rfl (Nat.le_of_ble_eq_true rfl) dX2_burnAMinute_66 (fun H locs hw => ?_)
      have hw : fw g ad (fU (fU M lb (.inr (3, hV (upd f 4 (iMin 99 (((f 4) + (f 1)) - ((f 5) / 4))))))) lb (.inr (3, hV (upd (upd f 4 (iMin 99 (((f 4) + (f 1)) - ((f 5) / 4)))) 2 (iMax 0 (((f 2) - 1) - ((iMin 99 (((f 4) + (f 1)) - ((f 5) / 4))) / 25))))))) s H locs := hw
      rw [fU_U] at hw
      have hM : (fU M lb (.inr (3, hV (upd (upd f 4 (iMin 99 (((f 4) + (f 1)) - ((f 5) / 4)))) 2 (iMax 0 (((f 2) - 1) - ((iMin 99 (((f 4) + (f 1)) - ((f 5) / 4))) / 25))))))) lb = some (.inr (3, hV (upd (upd f 4 (iMin 99 (((f 4) + (f 1)) - ((f 5) / 4)))) 2 (iMax 0 (((f 2) - 1) - ((iMin 99 (((f 4) + (f 1)) - ((f 5) / 4))) / 25)))))) := fU_s
      refine lv_aload_n hx hb dX2_burnAMinute_69 rfl (lv_at hl 0 rfl) ?_
      refine f_get X hw hM fc3 2 (by decide) wq405 rfl (v := .int (iMax 0 (((f 2) - 1) - ((iMin 99 (((f 4) + (f 1)) - ((f 5) / 4))) / 25)))) rfl dX2_burnAMinute_70 ?_
      refine lv_if_ne (tgt := 81) hx hb dX2_burnAMinute_73 (by decide) (fun c_3 => ?_) (fun c_3 => ?_)
      · exact f_vret X hw ⟨rfl, by simp only [hBurn, c_1, c_2, c_3, if_true, if_false]⟩ (Nat.le_refl _) (Nat.le_refl _) dX2_burnAMinute_81
      · refine lv_aload_n hx hb dX2_burnAMinute_76 rfl (lv_at hl 0 rfl) ?_
        refine lv_iconst (v := 3) hx hb dX2_burnAMinute_77 (by decide) ?_
        refine fk_dv (fcV X hw (c_X2_endFire l g ad (fU M lb (.inr (3, hV (upd (upd f 4 (iMin 99 (((f 4) + (f 1)) - ((f 5) / 4)))) 2 (iMax 0 (((f 2) - 1) - ((iMin 99 (((f 4) + (f 1)) - ((f 5) / 4))) / 25))))))) hM 3) hM rfl wq354 kVX2_endFire ⟨(Nat.le_of_ble_eq_true rfl), (Nat.le_of_ble_eq_true rfl)⟩ rfl hl.1 rfl (Nat.le_of_ble_eq_true rfl) dX2_burnAMinute_78 ⟨Nat.le_refl _, Nat.le_refl _⟩) hw (fun H locs hw => ?_)
        rw [fU_U] at hw
        exact f_vret X hw ⟨rfl, by simp only [hBurn, c_1, c_2, c_3, if_true, if_false]⟩ (Nat.le_refl _) (Nat.le_refl _) dX2_burnAMinute_81
    · refine lv_aload_n hx hb dX2_burnAMinute_41 rfl (lv_at hl 0 rfl) ?_
      refine lv_iconst (v := 2) hx hb dX2_burnAMinute_42 (by decide) ?_
      refine fk_dv (fcV X hw (c_X2_endFire l g ad (fU M lb (.inr (3, hV (upd f 4 (iMin 99 (((f 4) + (f 1)) - ((f 5) / 4))))))) hM 2) hM rfl wq354 kVX2_endFire ⟨(Nat.le_of_ble_eq_true rfl), (Nat.le_of_ble_eq_true rfl)⟩ rfl hl.1 rfl (Nat.le_of_ble_eq_true rfl) dX2_burnAMinute_43 ⟨Nat.le_refl _, Nat.le_refl _⟩) hw (fun H locs hw => ?_)
      rw [fU_U] at hw
      exact f_vret X hw ⟨rfl, by simp only [hBurn, c_1, c_2, if_true, if_false]⟩ (Nat.le_refl _) (Nat.le_refl _) dX2_burnAMinute_46
  · exact f_vret X hw ⟨rfl, by simp only [hBurn, c_1, if_true, if_false]; exact (fU_same hM).symm⟩ (Nat.le_refl _) (Nat.le_refl _) dX2_burnAMinute_8
set_option maxHeartbeats 4000000 in
set_option maxRecDepth 100000 in
theorem c_X3_init (l : Launch) (g : fG) (ad : Nat → Nat) (M : fM) {lb : Nat} {f : Nat → Int32} (hM : M lb = some (.inr (4, pV f))) (x w : Int32) : fCv l g yX3_init cX3_init 3 1 12 0 0 ad M [.ref (ad lb), .int x, .int w] (fDv ad (fU M lb (.inr (4, pV (upd (upd f 0 x) 1 w))))) := by
  refine f_body (own := RX3) (by decide +kernel) rfl (Nat.le_of_ble_eq_true rfl) ?_
  intro p e s m args below meth c ls X hw hin hl
  have hx := X.1
  have hb := X.2.1
  have hl : lv_has ls 3 [(0, .ref (ad lb)), (1, .int x), (2, .int w)] := hl
  refine lv_aload_n hx hb dX3_init_0 rfl (lv_at hl 0 rfl) ?_
  refine W.objInit hx hb X.2.2.2.1 (X.2.2.2.2.1 _ wq493) (X.2.2.2.2.1 _ wq31) (X.2.2.2.2.1 _ wq32) rfl (by rw [X.2.2.1]; exact hl.1) rfl dX3_init_1 (Nat.le_of_ble_eq_true rfl) (Nat.le_of_ble_eq_true rfl) ?_
  refine W.eq (g2 := F0 m 4 ls []) rfl ?_
  refine lv_aload_n hx hb dX3_init_4 rfl (lv_at hl 0 rfl) ?_
  refine lv_iload_n hx hb dX3_init_5 rfl (lv_at hl 1 rfl) ?_
  refine f_put X hw hM fc4 0 (by decide) wq494 rfl rfl (v := .int x) rfl rfl (Nat.le_of_ble_eq_true rfl) dX3_init_6 (fun H locs hw => ?_)
  have hw : fw g ad (fU M lb (.inr (4, pV (upd f 0 x)))) s H locs := hw
  have hM : (fU M lb (.inr (4, pV (upd f 0 x)))) lb = some (.inr (4, pV (upd f 0 x))) := fU_s
  refine lv_aload_n hx hb dX3_init_9 rfl (lv_at hl 0 rfl) ?_
  refine lv_iload_n hx hb dX3_init_10 rfl (lv_at hl 2 rfl) ?_
  refine f_put X hw hM fc4 1 (by decide) wq496 rfl rfl (v := .int w) rfl rfl (Nat.le_of_ble_eq_true rfl) dX3_init_11 (fun H locs hw => ?_)
  have hw : fw g ad (fU (fU M lb (.inr (4, pV (upd f 0 x)))) lb (.inr (4, pV (upd (upd f 0 x) 1 w)))) s H locs := hw
  rw [fU_U] at hw
  have hM : (fU M lb (.inr (4, pV (upd (upd f 0 x) 1 w)))) lb = some (.inr (4, pV (upd (upd f 0 x) 1 w))) := fU_s
  exact f_vret X hw ⟨rfl, rfl⟩ (Nat.le_refl _) (Nat.le_refl _) dX3_init_14
set_option maxHeartbeats 4000000 in
set_option maxRecDepth 100000 in
theorem c_X3_giveUpTo (l : Launch) (g : fG) (ad : Nat → Nat) (M : fM) {lb : Nat} {f : Nat → Int32} (hM : M lb = some (.inr (4, pV f))) (w : Int32) : fCi l g yX3_giveUpTo cX3_giveUpTo 3 ((some .int)) 1 14 0 0 ad M [.ref (ad lb), .int w] (fDi ad (fU M lb (.inr (4, pV (upd f 1 (f 1 - pGive f w))))) (pGive f w)) := by
  refine f_body (own := RX3) (by decide +kernel) rfl (Nat.le_of_ble_eq_true rfl) ?_
  intro p e s m args below meth c ls X hw hin hl
  have hx := X.1
  have hb := X.2.1
  have hl : lv_has ls 3 [(0, .ref (ad lb)), (1, .int w)] := hl
  refine lv_iconst (v := 0) hx hb dX3_giveUpTo_0 (by decide) ?_
  refine lv_iload_n hx hb dX3_giveUpTo_1 rfl (lv_at hl 1 rfl) ?_
  refine lv_aload_n hx hb dX3_giveUpTo_2 rfl (lv_at hl 0 rfl) ?_
  refine f_get X hw hM fc4 1 (by decide) wq496 rfl (v := .int (f 1)) rfl dX3_giveUpTo_3 ?_
  refine va_mmin hx hb (X.2.2.1.trans hl.1.symm) X.2.2.2.1 (X.2.2.2.2.1 _ wq321) (X.2.2.2.2.1 _ wq287) (X.2.2.2.2.1 _ wq18) (X.2.2.2.2.1 _ wq288) (Nat.le_of_ble_eq_true rfl) (Nat.le_of_ble_eq_true rfl) (Nat.zero_le _) (Nat.zero_le _) dX3_giveUpTo_6 ?_
  refine f_top (y := iMin w (f 1)) rfl ?_
  refine va_mmax hx hb (X.2.2.1.trans hl.1.symm) X.2.2.2.1 (X.2.2.2.2.1 _ wq322) (X.2.2.2.2.1 _ wq290) (X.2.2.2.2.1 _ wq18) (X.2.2.2.2.1 _ wq291) (Nat.le_of_ble_eq_true rfl) (Nat.le_of_ble_eq_true rfl) (Nat.zero_le _) (Nat.zero_le _) dX3_giveUpTo_9 ?_
  refine f_top (y := iMax 0 (iMin w (f 1))) rfl ?_
  refine lv_istore_n (lv' := [(2, .int (iMax 0 (iMin w (f 1)))), (0, .ref (ad lb)), (1, .int w)]) hx hb dX3_giveUpTo_12 rfl hl (by decide) rfl (fun ls hl => ?_)
  refine lv_aload_n hx hb dX3_giveUpTo_13 rfl (lv_at hl 1 rfl) ?_
  refine lv_dup hx hb dX3_giveUpTo_14 rfl ?_
  refine f_get X hw hM fc4 1 (by decide) wq496 rfl (v := .int (f 1)) rfl dX3_giveUpTo_15 ?_
  refine lv_iload_n hx hb dX3_giveUpTo_18 rfl (lv_at hl 0 rfl) ?_
  refine lv_isub hx hb dX3_giveUpTo_19 ?_
  refine f_put X hw hM fc4 1 (by decide) wq496 rfl rfl (v := .int ((f 1) - (iMax 0 (iMin w (f 1))))) rfl rfl (Nat.le_of_ble_eq_true rfl) dX3_giveUpTo_20 (fun H locs hw => ?_)
  have hw : fw g ad (fU M lb (.inr (4, pV (upd f 1 ((f 1) - (iMax 0 (iMin w (f 1)))))))) s H locs := hw
  have hM : (fU M lb (.inr (4, pV (upd f 1 ((f 1) - (iMax 0 (iMin w (f 1)))))))) lb = some (.inr (4, pV (upd f 1 ((f 1) - (iMax 0 (iMin w (f 1))))))) := fU_s
  refine lv_iload_n hx hb dX3_giveUpTo_23 rfl (lv_at hl 0 rfl) ?_
  exact f_iret X hw ⟨rfl, rfl, rfl⟩ (Nat.le_refl _) (Nat.le_refl _) dX3_giveUpTo_24
set_option maxHeartbeats 4000000 in
set_option maxRecDepth 100000 in
theorem c_X0_init (l : Launch) (g : fG) (ad : Nat → Nat) (M : fM) {lb : Nat} {f : Nat → Int32} (hM : M lb = some (.inr (1, eV f))) (x w z : Int32) : fCv l g yX0_init cX0_init 4 1 12 0 0 ad M [.ref (ad lb), .int x, .int w, .int z] (fDv ad (fU M lb (.inr (1, eV (upd (upd (upd (upd (upd (upd f 0 x) 1 w) 2 z) 3 60) 6 (-1)) 7 (-1)))))) := by
  refine f_body (own := RX0) (by decide +kernel) rfl (Nat.le_of_ble_eq_true rfl) ?_
  intro p e s m args below meth c ls X hw hin hl
  have hx := X.1
  have hb := X.2.1
  have hl : lv_has ls 4 [(0, .ref (ad lb)), (1, .int x), (2, .int w), (3, .int z)] := hl
  refine lv_aload_n hx hb dX0_init_0 rfl (lv_at hl 0 rfl) ?_
  refine W.objInit hx hb X.2.2.2.1 (X.2.2.2.2.1 _ wq512) (X.2.2.2.2.1 _ wq31) (X.2.2.2.2.1 _ wq32) rfl (by rw [X.2.2.1]; exact hl.1) rfl dX0_init_1 (Nat.le_of_ble_eq_true rfl) (Nat.le_of_ble_eq_true rfl) ?_
  refine W.eq (g2 := F0 m 4 ls []) rfl ?_
  refine lv_aload_n hx hb dX0_init_4 rfl (lv_at hl 0 rfl) ?_
  refine lv_iload_n hx hb dX0_init_5 rfl (lv_at hl 1 rfl) ?_
  refine f_put X hw hM fc1 0 (by decide) wq513 rfl rfl (v := .int x) rfl rfl (Nat.le_of_ble_eq_true rfl) dX0_init_6 (fun H locs hw => ?_)
  have hw : fw g ad (fU M lb (.inr (1, eV (upd f 0 x)))) s H locs := hw
  have hM : (fU M lb (.inr (1, eV (upd f 0 x)))) lb = some (.inr (1, eV (upd f 0 x))) := fU_s
  refine lv_aload_n hx hb dX0_init_9 rfl (lv_at hl 0 rfl) ?_
  refine lv_iload_n hx hb dX0_init_10 rfl (lv_at hl 2 rfl) ?_
  refine f_put X hw hM fc1 1 (by decide) wq516 rfl rfl (v := .int w) rfl rfl (Nat.le_of_ble_eq_true rfl) dX0_init_11 (fun H locs hw => ?_)
  have hw : fw g ad (fU (fU M lb (.inr (1, eV (upd f 0 x)))) lb (.inr (1, eV (upd (upd f 0 x) 1 w)))) s H locs := hw
  rw [fU_U] at hw
  have hM : (fU M lb (.inr (1, eV (upd (upd f 0 x) 1 w)))) lb = some (.inr (1, eV (upd (upd f 0 x) 1 w))) := fU_s
  refine lv_aload_n hx hb dX0_init_14 rfl (lv_at hl 0 rfl) ?_
  refine lv_iload_n hx hb dX0_init_15 rfl (lv_at hl 3 rfl) ?_
  refine f_put X hw hM fc1 2 (by decide) wq518 rfl rfl (v := .int z) rfl rfl (Nat.le_of_ble_eq_true rfl) dX0_init_16 (fun H locs hw => ?_)
  have hw : fw g ad (fU (fU M lb (.inr (1, eV (upd (upd f 0 x) 1 w)))) lb (.inr (1, eV (upd (upd (upd f 0 x) 1 w) 2 z)))) s H locs := hw
  rw [fU_U] at hw
  have hM : (fU M lb (.inr (1, eV (upd (upd (upd f 0 x) 1 w) 2 z)))) lb = some (.inr (1, eV (upd (upd (upd f 0 x) 1 w) 2 z))) := fU_s
  refine lv_aload_n hx hb dX0_init_19 rfl (lv_at hl 0 rfl) ?_
  refine lv_bipush (v := 60) hx hb dX0_init_20 (by decide) ?_
  refine f_put X hw hM fc1 3 (by decide) wq520 rfl rfl (v := .int 60) rfl rfl (Nat.le_of_ble_eq_true rfl) dX0_init_22 (fun H locs hw => ?_)
  have hw : fw g ad (fU (fU M lb (.inr (1, eV (upd (upd (upd f 0 x) 1 w) 2 z)))) lb (.inr (1, eV (upd (upd (upd (upd f 0 x) 1 w) 2 z) 3 60)))) s H locs := hw
  rw [fU_U] at hw
  have hM : (fU M lb (.inr (1, eV (upd (upd (upd (upd f 0 x) 1 w) 2 z) 3 60)))) lb = some (.inr (1, eV (upd (upd (upd (upd f 0 x) 1 w) 2 z) 3 60))) := fU_s
  refine lv_aload_n hx hb dX0_init_25 rfl (lv_at hl 0 rfl) ?_
  refine lv_iconst (v := (-1)) hx hb dX0_init_26 (by decide) ?_
  refine f_put X hw hM fc1 6 (by decide) wq528 rfl rfl (v := .int (-1)) rfl rfl (Nat.le_of_ble_eq_true rfl) dX0_init_27 (fun H locs hw => ?_)
  have hw : fw g ad (fU (fU M lb (.inr (1, eV (upd (upd (upd (upd f 0 x) 1 w) 2 z) 3 60)))) lb (.inr (1, eV (upd (upd (upd (upd (upd f 0 x) 1 w) 2 z) 3 60) 6 (-1))))) s H locs := hw
  rw [fU_U] at hw
  have hM : (fU M lb (.inr (1, eV (upd (upd (upd (upd (upd f 0 x) 1 w) 2 z) 3 60) 6 (-1))))) lb = some (.inr (1, eV (upd (upd (upd (upd (upd f 0 x) 1 w) 2 z) 3 60) 6 (-1)))) := fU_s
  refine lv_aload_n hx hb dX0_init_30 rfl (lv_at hl 0 rfl) ?_
  refine lv_iconst (v := (-1)) hx hb dX0_init_31 (by decide) ?_
  refine f_put X hw hM fc1 7 (by decide) wq530 rfl rfl (v := .int (-1)) rfl rfl (Nat.le_of_ble_eq_true rfl) dX0_init_32 (fun H locs hw => ?_)
  have hw : fw g ad (fU (fU M lb (.inr (1, eV (upd (upd (upd (upd (upd f 0 x) 1 w) 2 z) 3 60) 6 (-1))))) lb (.inr (1, eV (upd (upd (upd (upd (upd (upd f 0 x) 1 w) 2 z) 3 60) 6 (-1)) 7 (-1))))) s H locs := hw
  rw [fU_U] at hw
  have hM : (fU M lb (.inr (1, eV (upd (upd (upd (upd (upd (upd f 0 x) 1 w) 2 z) 3 60) 6 (-1)) 7 (-1))))) lb = some (.inr (1, eV (upd (upd (upd (upd (upd (upd f 0 x) 1 w) 2 z) 3 60) 6 (-1)) 7 (-1)))) := fU_s
  exact f_vret X hw ⟨rfl, rfl⟩ (Nat.le_refl _) (Nat.le_refl _) dX0_init_35
set_option maxHeartbeats 4000000 in
set_option maxRecDepth 100000 in
theorem c_X0_stands (l : Launch) (g : fG) (ad : Nat → Nat) (M : fM) {lb : Nat} {f : Nat → Int32} (hM : M lb = some (.inr (1, eV f))) : fCi l g yX0_stands cX0_stands 1 ((some .boolean)) 0 0 0 0 ad M [.ref (ad lb)] (fDi ad M (bI (eStands f))) := by
  refine f_body (own := RX0) (by decide +kernel) rfl (Nat.le_of_ble_eq_true rfl) ?_
  intro p e s m args below meth c ls X hw hin hl
  have hx := X.1
  have hb := X.2.1
  have hl : lv_has ls 1 [(0, .ref (ad lb))] := hl
  refine lv_aload_n hx hb dX0_stands_0 rfl (lv_at hl 0 rfl) ?_
  refine f_get X hw hM fc1 5 (by decide) wq525 rfl (v := .int (f 5)) rfl dX0_stands_1 ?_
  refine lv_if_ne (tgt := 11) hx hb dX0_stands_4 (by decide) (fun c_1 => ?_) (fun c_1 => ?_)
  · refine lv_iconst (v := 0) hx hb dX0_stands_11 (by decide) ?_
    exact f_zret X hw rfl ⟨rfl, rfl, by simp [eStands, bI, c_1]⟩ (Nat.le_refl _) (Nat.le_refl _) dX0_stands_12
  · refine lv_iconst (v := 1) hx hb dX0_stands_7 (by decide) ?_
    refine lv_goto (tgt := 12) hx hb dX0_stands_8 (by decide) ?_
    exact f_zret X hw rfl ⟨rfl, rfl, by simp [eStands, bI, c_1]⟩ (Nat.le_refl _) (Nat.le_refl _) dX0_stands_12
set_option maxHeartbeats 4000000 in
set_option maxRecDepth 100000 in
theorem c_X0_canPump (l : Launch) (g : fG) (ad : Nat → Nat) (M : fM) {lb : Nat} {f : Nat → Int32} (hM : M lb = some (.inr (1, eV f))) : fCi l g yX0_canPump cX0_canPump 1 ((some .int)) 1 20 0 0 ad M [.ref (ad lb)] (fDi ad M (ePump f)) := by
  refine f_body (own := RX0) (by decide +kernel) rfl (Nat.le_of_ble_eq_true rfl) ?_
  intro p e s m args below meth c ls X hw hin hl
  have hx := X.1
  have hb := X.2.1
  have hl : lv_has ls 1 [(0, .ref (ad lb))] := hl
  refine lv_aload_n hx hb dX0_canPump_0 rfl (lv_at hl 0 rfl) ?_
  refine fk_di (fcV X hw (c_X0_stands l g ad M hM) hM rfl wq243 kVX0_stands ⟨(Nat.le_of_ble_eq_true rfl), (Nat.le_of_ble_eq_true rfl)⟩ rfl hl.1 rfl (Nat.le_of_ble_eq_true rfl) dX0_canPump_1 ⟨Nat.le_refl _, Nat.le_refl _⟩) hw (fun H locs hw => ?_)
  refine lv_if_eq (tgt := 31) hx hb dX0_canPump_4 (by decide) (fun c_1 => ?_) (fun c_1 => ?_)
  · have c_1 := bI_f.mp c_1
    refine lv_iconst (v := 0) hx hb dX0_canPump_31 (by decide) ?_
    exact f_iret X hw ⟨rfl, rfl, by simp [ePump, c_1]⟩ (Nat.le_refl _) (Nat.le_refl _) dX0_canPump_32
  · have c_1 := bI_nf.mp c_1
    refine lv_aload_n hx hb dX0_canPump_7 rfl (lv_at hl 0 rfl) ?_
    refine f_get X hw hM fc1 4 (by decide) wq523 rfl (v := .int (f 4)) rfl dX0_canPump_8 ?_
    refine lv_bipush (v := 20) hx hb dX0_canPump_11 (by decide) ?_
    refine lv_icmp_lt (tgt := 31) hx hb dX0_canPump_13 (by decide) (fun c_2 => ?_) (fun c_2 => ?_)
    · refine lv_iconst (v := 0) hx hb dX0_canPump_31 (by decide) ?_
      exact f_iret X hw ⟨rfl, rfl, by simp [ePump, c_1, c_2, Int32.not_le.mpr c_2]⟩ (Nat.le_refl _) (Nat.le_refl _) dX0_canPump_32
    · refine lv_aload_n hx hb dX0_canPump_16 rfl (lv_at hl 0 rfl) ?_
      refine f_get X hw hM fc1 2 (by decide) wq518 rfl (v := .int (f 2)) rfl dX0_canPump_17 ?_
      refine lv_aload_n hx hb dX0_canPump_20 rfl (lv_at hl 0 rfl) ?_
      refine f_get X hw hM fc1 4 (by decide) wq523 rfl (v := .int (f 4)) rfl dX0_canPump_21 ?_
      refine lv_imul hx hb dX0_canPump_24 ?_
      refine lv_bipush (v := 20) hx hb dX0_canPump_25 (by decide) ?_
      refine lv_idiv hx hb dX0_canPump_27 (by decide) ?_
      refine lv_goto (tgt := 32) hx hb dX0_canPump_28 (by decide) ?_
      exact f_iret X hw ⟨rfl, rfl, by simp [ePump, c_1, c_2, Int32.not_lt.mp c_2]⟩ (Nat.le_refl _) (Nat.le_refl _) dX0_canPump_32
set_option maxHeartbeats 4000000 in
set_option maxRecDepth 100000 in
theorem c_X0_setOut (l : Launch) (g : fG) (ad : Nat → Nat) (M : fM) {lb : Nat} {f : Nat → Int32} (hM : M lb = some (.inr (1, eV f))) (x w : Int32) : fCv l g yX0_setOut cX0_setOut 3 0 0 0 0 ad M [.ref (ad lb), .int x, .int w] (fDv ad (fU M lb (.inr (1, eV (eSetOut f x w))))) := by
  refine f_body (own := RX0) (by decide +kernel) rfl (Nat.le_of_ble_eq_true rfl) ?_
  intro p e s m args below meth c ls X hw hin hl
  have hx := X.1
  have hb := X.2.1
  have hl : lv_has ls 3 [(0, .ref (ad lb)), (1, .int x), (2, .int w)] := hl
  refine lv_aload_n hx hb dX0_setOut_0 rfl (lv_at hl 0 rfl) ?_
  refine lv_iload_n hx hb dX0_setOut_1 rfl (lv_at hl 1 rfl) ?_
  refine f_put X hw hM fc1 6 (by decide) wq528 rfl rfl (v := .int x) rfl rfl (Nat.le_of_ble_eq_true rfl) dX0_setOut_2 (fun H locs hw => ?_)
  have hw : fw g ad (fU M lb (.inr (1, eV (upd f 6 x)))) s H locs := hw
  have hM : (fU M lb (.inr (1, eV (upd f 6 x)))) lb = some (.inr (1, eV (upd f 6 x))) := fU_s
  refine lv_aload_n hx hb dX0_setOut_5 rfl (lv_at hl 0 rfl) ?_
  refine lv_iload_n hx hb dX0_setOut_6 rfl (lv_at hl 2 rfl) ?_
  refine lv_iconst (v := 5) hx hb dX0_setOut_7 (by decide) ?_
  refine lv_aload_n hx hb dX0_setOut_8 rfl (lv_at hl 0 rfl) ?_
  refine f_get X hw hM fc1 1 (by decide) wq516 rfl (v := .int (f 1)) rfl dX0_setOut_9 ?_
  refine lv_isub hx hb dX0_setOut_12 ?_
  refine lv_imul hx hb dX0_setOut_13 ?_
  refine f_put X hw hM fc1 5 (by decide) wq525 rfl rfl (v := .int (w * (5 - (f 1)))) rfl rfl (Nat.le_of_ble_eq_true rfl) dX0_setOut_14 (fun H locs hw => ?_)
  have hw : fw g ad (fU (fU M lb (.inr (1, eV (upd f 6 x)))) lb (.inr (1, eV (upd (upd f 6 x) 5 (w * (5 - (f 1))))))) s H locs := hw
  rw [fU_U] at hw
  have hM : (fU M lb (.inr (1, eV (upd (upd f 6 x) 5 (w * (5 - (f 1))))))) lb = some (.inr (1, eV (upd (upd f 6 x) 5 (w * (5 - (f 1)))))) := fU_s
  exact f_vret X hw ⟨rfl, rfl⟩ (Nat.le_refl _) (Nat.le_refl _) dX0_setOut_17
set_option maxHeartbeats 4000000 in
set_option maxRecDepth 100000 in
theorem c_X0_fire (l : Launch) (g : fG) (ad : Nat → Nat) (M : fM) {lb : Nat} {f : Nat → Int32} (hM : M lb = some (.inr (1, eV f))) : fCv l g yX0_fire cX0_fire 1 1 14 0 0 ad M [.ref (ad lb)] (fDv ad (fU M lb (.inr (1, eV (eFire f))))) := by
  refine f_body (own := RX0) (by decide +kernel) rfl (Nat.le_of_ble_eq_true rfl) ?_
  intro p e s m args below meth c ls X hw hin hl
  have hx := X.1
  have hb := X.2.1
  have hl : lv_has ls 1 [(0, .ref (ad lb))] := hl
  refine lv_aload_n hx hb dX0_fire_0 rfl (lv_at hl 0 rfl) ?_
  refine f_get X hw hM fc1 3 (by decide) wq520 rfl (v := .int (f 3)) rfl dX0_fire_1 ?_
  refine lv_if_le (tgt := 35) hx hb dX0_fire_4 (by decide) (fun c_1 => ?_) (fun c_1 => ?_)
  · refine lv_aload_n hx hb dX0_fire_35 rfl (lv_at hl 0 rfl) ?_
    refine lv_iconst (v := 0) hx hb dX0_fire_36 (by decide) ?_
    refine lv_aload_n hx hb dX0_fire_37 rfl (lv_at hl 0 rfl) ?_
    refine f_get X hw hM fc1 4 (by decide) wq523 rfl (v := .int (f 4)) rfl dX0_fire_38 ?_
    refine lv_iconst (v := 3) hx hb dX0_fire_41 (by decide) ?_
    refine lv_isub hx hb dX0_fire_42 ?_
    refine va_mmax hx hb (X.2.2.1.trans hl.1.symm) X.2.2.2.1 (X.2.2.2.2.1 _ wq289) (X.2.2.2.2.1 _ wq290) (X.2.2.2.2.1 _ wq18) (X.2.2.2.2.1 _ wq291) (Nat.le_of_ble_eq_true rfl) (Nat.le_of_ble_eq_true rfl) (Nat.zero_le _) (Nat.zero_le _) dX0_fire_43 ?_
    refine f_top (y := iMax 0 ((f 4) - 3)) rfl ?_
    refine f_put X hw hM fc1 4 (by decide) wq523 rfl rfl (v := .int (iMax 0 ((f 4) - 3))) rfl rfl (Nat.le_of_ble_eq_true rfl) dX0_fire_46 (fun H locs hw => ?_)
    have hw : fw g ad (fU M lb (.inr (1, eV (upd f 4 (iMax 0 ((f 4) - 3)))))) s H locs := hw
    have hM : (fU M lb (.inr (1, eV (upd f 4 (iMax 0 ((f 4) - 3)))))) lb = some (.inr (1, eV (upd f 4 (iMax 0 ((f 4) - 3))))) := fU_s
    exact f_vret X hw ⟨rfl, by simp only [eFire, c_1, if_true, if_false]⟩ (Nat.le_refl _) (Nat.le_refl _) dX0_fire_49
  · refine lv_aload_n hx hb dX0_fire_7 rfl (lv_at hl 0 rfl) ?_
    refine lv_dup hx hb dX0_fire_8 rfl ?_
    refine f_get X hw hM fc1 3 (by decide) wq520 rfl (v := .int (f 3)) rfl dX0_fire_9 ?_
    refine lv_iconst (v := 1) hx hb dX0_fire_12 (by decide) ?_
    refine lv_isub hx hb dX0_fire_13 ?_
    refine f_put X hw hM fc1 3 (by decide) wq520 rfl rfl (v := .int ((f 3) - 1)) rfl rfl (Nat.le_of_ble_eq_true rfl) dX0_fire_14 (fun H locs hw => ?_)
    have hw : fw g ad (fU M lb (.inr (1, eV (upd f 3 ((f 3) - 1))))) s H locs := hw
    have hM : (fU M lb (.inr (1, eV (upd f 3 ((f 3) - 1))))) lb = some (.inr (1, eV (upd f 3 ((f 3) - 1)))) := fU_s
    refine lv_aload_n hx hb dX0_fire_17 rfl (lv_at hl 0 rfl) ?_
    refine lv_bipush (v := 100) hx hb dX0_fire_18 (by decide) ?_
    refine lv_aload_n hx hb dX0_fire_20 rfl (lv_at hl 0 rfl) ?_
    refine f_get X hw hM fc1 4 (by decide) wq523 rfl (v := .int (f 4)) rfl dX0_fire_21 ?_
    refine lv_iconst (v := 4) hx hb dX0_fire_24 (by decide) ?_
    refine lv_iadd hx hb dX0_fire_25 ?_
    refine va_mmin hx hb (X.2.2.1.trans hl.1.symm) X.2.2.2.1 (X.2.2.2.2.1 _ wq286) (X.2.2.2.2.1 _ wq287) (X.2.2.2.2.1 _ wq18) (X.2.2.2.2.1 _ wq288) (Nat.le_of_ble_eq_true rfl) (Nat.le_of_ble_eq_true rfl) (Nat.zero_le _) (Nat.zero_le _) dX0_fire_26 ?_
    refine f_top (y := iMin 100 ((f 4) + 4)) rfl ?_
    refine f_put X hw hM fc1 4 (by decide) wq523 rfl rfl (v := .int (iMin 100 ((f 4) + 4))) rfl rfl (Nat.le_of_ble_eq_true rfl) dX0_fire_29 (fun H locs hw => ?_)
    have hw : fw g ad (fU (fU M lb (.inr (1, eV (upd f 3 ((f 3) - 1))))) lb (.inr (1, eV (upd (upd f 3 ((f 3) - 1)) 4 (iMin 100 ((f 4) + 4)))))) s H locs := hw
    rw [fU_U] at hw
    have hM : (fU M lb (.inr (1, eV (upd (upd f 3 ((f 3) - 1)) 4 (iMin 100 ((f 4) + 4)))))) lb = some (.inr (1, eV (upd (upd f 3 ((f 3) - 1)) 4 (iMin 100 ((f 4) + 4))))) := fU_s
    refine lv_goto (tgt := 49) hx hb dX0_fire_32 (by decide) ?_
    exact f_vret X hw ⟨rfl, by simp only [eFire, c_1, if_true, if_false]⟩ (Nat.le_refl _) (Nat.le_refl _) dX0_fire_49
set_option maxHeartbeats 4000000 in
set_option maxRecDepth 100000 in
theorem c_X0_driveAMinute (l : Launch) (g : fG) (ad : Nat → Nat) (M : fM) {lb : Nat} {f : Nat → Int32} (hM : M lb = some (.inr (1, eV f))) : fCv l g yX0_driveAMinute cX0_driveAMinute 1 1 20 0 0 ad M [.ref (ad lb)] (fDv ad (fU M lb (.inr (1, eV (eDrive f))))) := by
  refine f_body (own := RX0) (by decide +kernel) rfl (Nat.le_of_ble_eq_true rfl) ?_
  intro p e s m args below meth c ls X hw hin hl
  have hx := X.1
  have hb := X.2.1
  have hl : lv_has ls 1 [(0, .ref (ad lb))] := hl
  refine lv_aload_n hx hb dX0_driveAMinute_0 rfl (lv_at hl 0 rfl) ?_
  refine fk_di (fcV X hw (c_X0_stands l g ad M hM) hM rfl wq243 kVX0_stands ⟨(Nat.le_of_ble_eq_true rfl), (Nat.le_of_ble_eq_true rfl)⟩ rfl hl.1 rfl (Nat.le_of_ble_eq_true rfl) dX0_driveAMinute_1 ⟨Nat.le_refl _, Nat.le_refl _⟩) hw (fun H locs hw => ?_)
  refine lv_if_eq (tgt := 8) hx hb dX0_driveAMinute_4 (by decide) (fun c_1 => ?_) (fun c_1 => ?_)
  · have c_1 := bI_f.mp c_1
    refine lv_aload_n hx hb dX0_driveAMinute_8 rfl (lv_at hl 0 rfl) ?_
    refine lv_dup hx hb dX0_driveAMinute_9 rfl ?_
    refine f_get X hw hM fc1 5 (by decide) wq525 rfl (v := .int (f 5)) rfl dX0_driveAMinute_10 ?_
    refine lv_iconst (v := 1) hx hb dX0_driveAMinute_13 (by decide) ?_
    refine lv_isub hx hb dX0_driveAMinute_14 ?_
    refine f_put X hw hM fc1 5 (by decide) wq525 rfl rfl (v := .int ((f 5) - 1)) rfl rfl (Nat.le_of_ble_eq_true rfl) dX0_driveAMinute_15 (fun H locs hw => ?_)
    have hw : fw g ad (fU M lb (.inr (1, eV (upd f 5 ((f 5) - 1))))) s H locs := hw
    have hM : (fU M lb (.inr (1, eV (upd f 5 ((f 5) - 1))))) lb = some (.inr (1, eV (upd f 5 ((f 5) - 1)))) := fU_s
    refine lv_aload_n hx hb dX0_driveAMinute_18 rfl (lv_at hl 0 rfl) ?_
    refine f_get X hw hM fc1 5 (by decide) wq525 rfl (v := .int ((f 5) - 1)) rfl dX0_driveAMinute_19 ?_
    refine lv_if_ne (tgt := 38) hx hb dX0_driveAMinute_22 (by decide) (fun c_2 => ?_) (fun c_2 => ?_)
    · exact f_vret X hw ⟨rfl, by simp only [eDrive, c_1, c_2, Bool.false_eq_true, if_true, if_false]⟩ (Nat.le_refl _) (Nat.le_refl _) dX0_driveAMinute_38
    · refine lv_aload_n hx hb dX0_driveAMinute_25 rfl (lv_at hl 0 rfl) ?_
      refine lv_aload_n hx hb dX0_driveAMinute_26 rfl (lv_at hl 0 rfl) ?_
      refine f_get X hw hM fc1 6 (by decide) wq528 rfl (v := .int (f 6)) rfl dX0_driveAMinute_27 ?_
      refine f_put X hw hM fc1 0 (by decide) wq513 rfl rfl (v := .int (f 6)) rfl rfl (Nat.le_of_ble_eq_true rfl) dX0_driveAMinute_30 (fun H locs hw => ?_)
      have hw : fw g ad (fU (fU M lb (.inr (1, eV (upd f 5 ((f 5) - 1))))) lb (.inr (1, eV (upd (upd f 5 ((f 5) - 1)) 0 (f 6))))) s H locs := hw
      rw [fU_U] at hw
      have hM : (fU M lb (.inr (1, eV (upd (upd f 5 ((f 5) - 1)) 0 (f 6))))) lb = some (.inr (1, eV (upd (upd f 5 ((f 5) - 1)) 0 (f 6)))) := fU_s
      refine lv_aload_n hx hb dX0_driveAMinute_33 rfl (lv_at hl 0 rfl) ?_
      refine lv_iconst (v := (-1)) hx hb dX0_driveAMinute_34 (by decide) ?_
      refine f_put X hw hM fc1 6 (by decide) wq528 rfl rfl (v := .int (-1)) rfl rfl (Nat.le_of_ble_eq_true rfl) dX0_driveAMinute_35 (fun H locs hw => ?_)
      have hw : fw g ad (fU (fU M lb (.inr (1, eV (upd (upd f 5 ((f 5) - 1)) 0 (f 6))))) lb (.inr (1, eV (upd (upd (upd f 5 ((f 5) - 1)) 0 (f 6)) 6 (-1))))) s H locs := hw
      rw [fU_U] at hw
      have hM : (fU M lb (.inr (1, eV (upd (upd (upd f 5 ((f 5) - 1)) 0 (f 6)) 6 (-1))))) lb = some (.inr (1, eV (upd (upd (upd f 5 ((f 5) - 1)) 0 (f 6)) 6 (-1)))) := fU_s
      exact f_vret X hw ⟨rfl, by simp only [eDrive, c_1, c_2, Bool.false_eq_true, if_true, if_false]⟩ (Nat.le_refl _) (Nat.le_refl _) dX0_driveAMinute_38
  · have c_1 := bI_nf.mp c_1
    exact f_vret X hw ⟨rfl, by simp only [eDrive, c_1, if_true, if_false]; exact (fU_same hM).symm⟩ (Nat.le_refl _) (Nat.le_refl _) dX0_driveAMinute_7
set_option maxHeartbeats 4000000 in
set_option maxRecDepth 100000 in
theorem c_X0_spendSteam (l : Launch) (g : fG) (ad : Nat → Nat) (M : fM) {lb : Nat} {f : Nat → Int32} (hM : M lb = some (.inr (1, eV f))) : fCv l g yX0_spendSteam cX0_spendSteam 1 1 14 0 0 ad M [.ref (ad lb)] (fDv ad (fU M lb (.inr (1, eV (eSpend f))))) := by
  refine f_body (own := RX0) (by decide +kernel) rfl (Nat.le_of_ble_eq_true rfl) ?_
  intro p e s m args below meth c ls X hw hin hl
  have hx := X.1
  have hb := X.2.1
  have hl : lv_has ls 1 [(0, .ref (ad lb))] := hl
  refine lv_aload_n hx hb dX0_spendSteam_0 rfl (lv_at hl 0 rfl) ?_
  refine f_get X hw hM fc1 9 (by decide) wq535 rfl (v := .int (f 9)) rfl dX0_spendSteam_1 ?_
  refine lv_if_le (tgt := 21) hx hb dX0_spendSteam_4 (by decide) (fun c_1 => ?_) (fun c_1 => ?_)
  · exact f_vret X hw ⟨rfl, by simp only [eSpend, c_1, if_true, if_false]; exact (fU_same hM).symm⟩ (Nat.le_refl _) (Nat.le_refl _) dX0_spendSteam_21
  · refine lv_aload_n hx hb dX0_spendSteam_7 rfl (lv_at hl 0 rfl) ?_
    refine lv_iconst (v := 0) hx hb dX0_spendSteam_8 (by decide) ?_
    refine lv_aload_n hx hb dX0_spendSteam_9 rfl (lv_at hl 0 rfl) ?_
    refine f_get X hw hM fc1 4 (by decide) wq523 rfl (v := .int (f 4)) rfl dX0_spendSteam_10 ?_
    refine lv_iconst (v := 2) hx hb dX0_spendSteam_13 (by decide) ?_
    refine lv_isub hx hb dX0_spendSteam_14 ?_
    refine va_mmax hx hb (X.2.2.1.trans hl.1.symm) X.2.2.2.1 (X.2.2.2.2.1 _ wq289) (X.2.2.2.2.1 _ wq290) (X.2.2.2.2.1 _ wq18) (X.2.2.2.2.1 _ wq291) (Nat.le_of_ble_eq_true rfl) (Nat.le_of_ble_eq_true rfl) (Nat.zero_le _) (Nat.zero_le _) dX0_spendSteam_15 ?_
    refine f_top (y := iMax 0 ((f 4) - 2)) rfl ?_
    refine f_put X hw hM fc1 4 (by decide) wq523 rfl rfl (v := .int (iMax 0 ((f 4) - 2))) rfl rfl (Nat.le_of_ble_eq_true rfl) dX0_spendSteam_18 (fun H locs hw => ?_)
    have hw : fw g ad (fU M lb (.inr (1, eV (upd f 4 (iMax 0 ((f 4) - 2)))))) s H locs := hw
    have hM : (fU M lb (.inr (1, eV (upd f 4 (iMax 0 ((f 4) - 2)))))) lb = some (.inr (1, eV (upd f 4 (iMax 0 ((f 4) - 2))))) := fU_s
    exact f_vret X hw ⟨rfl, by simp only [eSpend, c_1, if_true, if_false]⟩ (Nat.le_refl _) (Nat.le_refl _) dX0_spendSteam_21
