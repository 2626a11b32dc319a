/-! rows filled and copied; trees -/
def al_fillL (i : Nat) (v : Int32) : Nat → Nat → al_St → al_St
  | 0, _, σ => σ
  | n + 1, k, σ => al_fillL i v n (k + 1) (al_sR σ i (upd (σ.1 i) (nI k).toNatClampNeg v))
theorem al_fillL_eq (i : Nat) (v : Int32) (σ : al_St) : ∀ (n k : Nat), k + n < 2 ^ 31 → al_fillL i v n k (al_sR σ i (al_fill k v (σ.1 i))) = al_sR σ i (al_fill (k + n) v (σ.1 i))
  | 0, _, _ => rfl
  | n + 1, k, h => by
    have e : (al_sR σ i (al_fill k v (σ.1 i))).1 i = al_fill k v (σ.1 i) := by simp [al_sR]
    rw [al_fillL, e, al_sR_sR, al_fill_up (by omega), al_fillL_eq i v σ n (k + 1) (by omega)]
    congr 2
    omega
theorem al_fill0 {i : Nat} {v : Int32} {σ : al_St} : al_sR σ i (al_fill 0 v (σ.1 i)) = σ := by
  have e : al_fill 0 v (σ.1 i) = σ.1 i := by funext j; simp [al_fill]
  rw [e, al_sR_self]
theorem al_fill90 (i : Nat) (v : Int32) (σ : al_St) : al_fillL i v 90 0 σ = al_sR σ i (al_fill 90 v (σ.1 i)) := by
  have h := al_fillL_eq i v σ 90 0 (by omega)
  rw [al_fill0] at h
  exact h
def al_cpyL (i j : Nat) : Nat → Nat → al_St → al_St
  | 0, _, σ => σ
  | n + 1, k, σ => al_cpyL i j n (k + 1) (al_sR σ i (upd (σ.1 i) (nI k).toNatClampNeg (al_rg (σ.1 j) (nI k))))
theorem al_cpyL_eq (i j : Nat) (σ : al_St) : ∀ (n k : Nat), k + n ≤ 90 → al_cpyL i j n k (al_sR σ i (al_cpy k (σ.1 j) (σ.1 i))) = al_sR σ i (al_cpy (k + n) (σ.1 j) (σ.1 i))
  | 0, _, _ => rfl
  | n + 1, k, h => by
    have e : (al_sR σ i (al_cpy k (σ.1 j) (σ.1 i))).1 i = al_cpy k (σ.1 j) (σ.1 i) := by simp [al_sR]
    have e2 : al_rg ((al_sR σ i (al_cpy k (σ.1 j) (σ.1 i))).1 j) (nI k) = al_rg (σ.1 j) (nI k) := by
      rw [al_rg_lt (by omega), al_rg_lt (by omega)]
      by_cases h1 : j = i
      · subst h1
        simp [al_sR, al_cpy]
      · simp [al_sR, h1]
    rw [al_cpyL, e, e2, al_sR_sR, al_cpy_up (by omega), al_cpyL_eq i j σ n (k + 1) (by omega)]
    congr 2
    omega
theorem al_cpy90 (i j : Nat) (σ : al_St) : al_cpyL i j 90 0 σ = al_sR σ i (al_cpy 90 (σ.1 j) (σ.1 i)) := by
  have h := al_cpyL_eq i j σ 90 0 (by omega)
  have e : al_cpy 0 (σ.1 j) (σ.1 i) = σ.1 i := by funext a; simp [al_cpy]
  rw [e, al_sR_self] at h
  exact h
def al_fcpyL (i j : Nat) : Nat → Nat → al_St → al_St
  | 0, _, σ => σ
  | n + 1, k, σ => al_fcpyL i j n (k + 1) (al_sF σ i (vf_upd (σ.2.1 i) (nI k).toNatClampNeg (al_fg (σ.2.1 j) (nI k))))
theorem al_fcpyL_eq (i j : Nat) (σ : al_St) : ∀ (n k : Nat), k + n ≤ 90 → al_fcpyL i j n k (al_sF σ i (al_fcpy k (σ.2.1 j) (σ.2.1 i))) = al_sF σ i (al_fcpy (k + n) (σ.2.1 j) (σ.2.1 i))
  | 0, _, _ => rfl
  | n + 1, k, h => by
    have e : (al_sF σ i (al_fcpy k (σ.2.1 j) (σ.2.1 i))).2.1 i = al_fcpy k (σ.2.1 j) (σ.2.1 i) := by simp [al_sF]
    have e2 : al_fg ((al_sF σ i (al_fcpy k (σ.2.1 j) (σ.2.1 i))).2.1 j) (nI k) = al_fg (σ.2.1 j) (nI k) := by
      rw [al_fg_lt (by omega), al_fg_lt (by omega)]
      by_cases h1 : j = i
      · subst h1
        simp [al_sF, al_fcpy]
      · simp [al_sF, h1]
    rw [al_fcpyL, e, e2, al_sF_sF, al_fcpy_up (by omega), al_fcpyL_eq i j σ n (k + 1) (by omega)]
    congr 2
    omega
theorem al_fcpy90 (i j : Nat) (σ : al_St) : al_fcpyL i j 90 0 σ = al_sF σ i (al_fcpy 90 (σ.2.1 j) (σ.2.1 i)) := by
  have h := al_fcpyL_eq i j σ 90 0 (by omega)
  have e : al_fcpy 0 (σ.2.1 j) (σ.2.1 i) = σ.2.1 i := by funext a; simp [al_fcpy]
  rw [e, al_sF_self] at h
  exact h
theorem al_Hcpy {D : va_G} {cy : al_CY} {ad : Nat → Nat} {σ : al_St} {H : Heap} {i j : Nat} (h : al_H D cy ad (al_sR σ i (al_cpy 90 (σ.1 j) (σ.1 i))) H) (hi : i < 25) : al_H D cy ad (al_sR σ i (σ.1 j)) H := by
  refine h.congr (fun a b ha hb => ?_) ?_ (fun _ _ _ => rfl) rfl
  · by_cases h1 : a = i <;> simp [al_sR, al_cpy, h1, hb]
  · have h25 : ¬ 25 = i := by omega
    simp [al_sR, h25]
theorem al_Hfcpy {D : va_G} {cy : al_CY} {ad : Nat → Nat} {σ : al_St} {H : Heap} {i j : Nat} (h : al_H D cy ad (al_sF σ i (al_fcpy 90 (σ.2.1 j) (σ.2.1 i))) H) : al_H D cy ad (al_sF σ i (σ.2.1 j)) H := by
  refine h.congr (fun _ _ _ _ => rfl) rfl (fun a b hb => ?_) rfl
  by_cases h1 : a = i <;> simp [al_sF, al_fcpy, h1, hb]
/-- a tree's own updates -/
def al_isN (σ : al_St) (t : Nat) (x : Int32) : Int32 := if x < 0 then 0 else if σ.2.2.1 t ≤ x then 0 else if al_rg (σ.1 (2 * t)) x = -2 then 0 else 1
def al_stretch (σ : al_St) (t : Nat) (x b : Int32) (w : UInt32) : al_St := al_fset (al_set σ (2 * t + 1) x b) t x w
def al_append (σ : al_St) (t : Nat) (u b : Int32) (w : UInt32) : al_St := al_stretch (al_set (al_sV σ t (σ.2.2.1 t + 1)) (2 * t) (σ.2.2.1 t) u) t (σ.2.2.1 t) b w
def al_copyT (σ : al_St) (t u : Nat) : al_St := al_sV (al_sF (al_sR (al_sR σ (2 * t) (σ.1 (2 * u))) (2 * t + 1) ((al_sR σ (2 * t) (σ.1 (2 * u))).1 (2 * u + 1))) t (σ.2.1 u)) t (σ.2.2.1 u)
def al_room (σ : al_St) (t : Nat) (x : Int32) : Int32 := if 90 < σ.2.2.1 t + x then 0 else 1
set_option maxHeartbeats 4000000 in
set_option maxRecDepth 100000 in
theorem al_lp_X2_fill {p : Program} {e : Env} {s : State} {m : MethodId} {args : Array Value} {below : List Frame} {meth : Method} {c : Code} {Q : State → Prop} (l : Launch) (D : va_G) (cy : al_CY) (ad : Nat → Nat) (i : Nat) (hi : i < 25) (v : Int32) (S : CallFix p m c cX2_fill 3 s args al_G RX2) (hK : va_K D vwCl (al_tys cy) s) {H0 : Heap} : ∀ (n : Nat) (σ : al_St) (k : Nat) (H : Heap) (locs : List Loc) (ls : Array Slot), k + n = 90 → al_H D cy ad σ H → va_S (al_A ad) H0 H locs → lv_has ls 3 [(0, .ref (ad (14 + 2 * i))), (1, .int v), (2, .int (nI k))] → (∀ (σ' : al_St) (H : Heap) (locs : List Loc) (ls : Array Slot), al_fillL i v n k σ = σ' → al_H D cy ad σ' H → va_S (al_A ad) H0 H locs → lv_has ls 3 [(0, .ref (ad (14 + 2 * i)))] → W p l e (al_rm 0 0) s m args below meth c H locs 0 0 Q (F0 m 24 ls [])) → W p l e (al_rm 0 0) s m args below meth c H locs 0 0 Q (F0 m 2 ls []) := by
  intro n
  induction n with
  | zero =>
    intro σ k H locs ls hk hW hS hl K
    refine lv_iload_n S.1 S.2.1 dX2_fill_2 rfl (lv_at hl 2 rfl) ?_
    refine lv_aload_n S.1 S.2.1 dX2_fill_3 rfl (lv_at hl 0 rfl) ?_
    refine al_g_RX2_9 S hK hW (i := i) (by omega) dX2_fill_4 ?_
    refine al_ialen S hK hW (i := i) (by omega) dX2_fill_7 ?_
    refine lv_icmp_ge (tgt := 24) S.1 S.2.1 dX2_fill_8 (by decide) (fun c1 => ?_) (fun c1 => ?_)
    · exact K σ  _ _ _ (by simp only [al_fillL, if_pos (c1)]) hW hS (lv_sub hl [0] rfl)
    · exact absurd (al_90' (by omega)) c1
  | succ n ih =>
    intro σ k H locs ls hk hW hS hl K
    refine lv_iload_n S.1 S.2.1 dX2_fill_2 rfl (lv_at hl 2 rfl) ?_
    refine lv_aload_n S.1 S.2.1 dX2_fill_3 rfl (lv_at hl 0 rfl) ?_
    refine al_g_RX2_9 S hK hW (i := i) (by omega) dX2_fill_4 ?_
    refine al_ialen S hK hW (i := i) (by omega) dX2_fill_7 ?_
    refine lv_icmp_ge (tgt := 24) S.1 S.2.1 dX2_fill_8 (by decide) (fun c1 => ?_) (fun c1 => ?_)
    · exact absurd c1 (al_90 (by omega))
    · refine lv_aload_n S.1 S.2.1 dX2_fill_11 rfl (lv_at hl 0 rfl) ?_
      refine al_g_RX2_9 S hK hW (i := i) (by omega) dX2_fill_12 ?_
      refine lv_iload_n S.1 S.2.1 dX2_fill_15 rfl (lv_at hl 2 rfl) ?_
      refine lv_iload_n S.1 S.2.1 dX2_fill_16 rfl (lv_at hl 1 rfl) ?_
      refine al_iast S hK hW hS (i := i) (by omega) (al_nn (by omega)) c1 dX2_fill_17 (fun H locs hW hS => ?_)
      refine lv_iinc (k := 2) (v := nI (k + 1)) (lv' := [(2, .int (nI (k + 1))), (0, .ref (ad (14 + 2 * i))), (1, .int v)]) S.1 S.2.1 dX2_fill_18 hl rfl (al_inc k) (by decide) rfl (fun ls hl => ?_)
      refine lv_goto (tgt := 2) S.1 S.2.1 dX2_fill_21 (by decide) ?_
      exact ih (al_sR σ i (upd (σ.1 i) (nI k).toNatClampNeg v)) (k + 1) _ _ _ (by omega) hW hS (lv_sub hl [1, 2, 0] rfl) (fun σ'  H locs ls e9 hW hS hl => K σ'  H locs ls (by simp only [al_fillL, if_neg (c1)]; exact e9) hW hS hl)
theorem al_mv_X2_fill : al_mv yX2_fill cX2_fill 3 none 1 := ⟨al_c_X2_fill, al_ini_RX2, ⟨by decide +kernel, by decide +kernel, by decide +kernel⟩, by decide +kernel⟩
theorem al_mi_X2_fill : al_mi yX2_fill cX2_fill 3 none 1 := ⟨al_mv_X2_fill, al_in_X2_fill, al_se_X2_fill⟩
set_option maxHeartbeats 4000000 in
set_option maxRecDepth 100000 in
theorem al_X2_fill (l : Launch) (D : va_G) (cy : al_CY) (ad : Nat → Nat) (σ : al_St) (i : Nat) (hi : i < 25) (v : Int32) : al_MS l yX2_fill cX2_fill 3 none 0 0 D cy ad σ [.ref (ad (14 + 2 * i)), .int v] none (al_sR σ i (al_fill 90 v (σ.1 i))) := by
  refine al_met al_mv_X2_fill (Nat.le_of_ble_eq_true rfl) ?_
  intro p e s m args below meth c ls S hr hlocks hK hW hS hl
  have hl : lv_has ls 3 [(0, .ref (ad (14 + 2 * i))), (1, .int v)] := hl
  refine lv_iconst (v := 0) S.1 S.2.1 dX2_fill_0 (by decide) ?_
  refine lv_istore_n (lv' := [(2, .int 0), (0, .ref (ad (14 + 2 * i))), (1, .int v)]) S.1 S.2.1 dX2_fill_1 rfl hl (by decide) rfl (fun ls hl => ?_)
  refine al_lp_X2_fill l D cy ad i hi v S hK 90 σ 0 _ _ _ (by omega) hW hS (lv_sub hl [1, 2, 0] rfl) (fun σ1 H locs ls e2 hW hS hl => ?_)
  exact W.vret S.1 S.2.1 hr (fun t9 ht9 _ => ⟨rfl, by rw [ht9]; exact (al_He hW (by rw [← e2, al_fill90])), hS.F ht9⟩) hS.2.2 dX2_fill_24
set_option maxHeartbeats 4000000 in
set_option maxRecDepth 100000 in
theorem al_lp_X2_copyFrom {p : Program} {e : Env} {s : State} {m : MethodId} {args : Array Value} {below : List Frame} {meth : Method} {c : Code} {Q : State → Prop} (l : Launch) (D : va_G) (cy : al_CY) (ad : Nat → Nat) (i : Nat) (hi : i < 25) (j : Nat) (hj : j < 25) (S : CallFix p m c cX2_copyFrom 3 s args al_G RX2) (hK : va_K D vwCl (al_tys cy) s) {H0 : Heap} : ∀ (n : Nat) (σ : al_St) (k : Nat) (H : Heap) (locs : List Loc) (ls : Array Slot), k + n = 90 → al_H D cy ad σ H → va_S (al_A ad) H0 H locs → lv_has ls 3 [(0, .ref (ad (14 + 2 * i))), (1, .ref (ad (14 + 2 * j))), (2, .int (nI k))] → (∀ (σ' : al_St) (H : Heap) (locs : List Loc) (ls : Array Slot), al_cpyL i j n k σ = σ' → al_H D cy ad σ' H → va_S (al_A ad) H0 H locs → lv_has ls 3 [(0, .ref (ad (14 + 2 * i)))] → W p l e (al_rm 1 21) s m args below meth c H locs 0 0 Q (F0 m 28 ls [])) → W p l e (al_rm 1 21) s m args below meth c H locs 0 0 Q (F0 m 2 ls []) := by
  intro n
  induction n with
  | zero =>
    intro σ k H locs ls hk hW hS hl K
    refine lv_iload_n S.1 S.2.1 dX2_copyFrom_2 rfl (lv_at hl 2 rfl) ?_
    refine lv_aload_n S.1 S.2.1 dX2_copyFrom_3 rfl (lv_at hl 0 rfl) ?_
    refine al_g_RX2_9 S hK hW (i := i) (by omega) dX2_copyFrom_4 ?_
    refine al_ialen S hK hW (i := i) (by omega) dX2_copyFrom_7 ?_
    refine lv_icmp_ge (tgt := 28) S.1 S.2.1 dX2_copyFrom_8 (by decide) (fun c1 => ?_) (fun c1 => ?_)
    · exact K σ  _ _ _ (by simp only [al_cpyL, if_pos (c1)]) hW hS (lv_sub hl [0] rfl)
    · exact absurd (al_90' (by omega)) c1
  | succ n ih =>
    intro σ k H locs ls hk hW hS hl K
    refine lv_iload_n S.1 S.2.1 dX2_copyFrom_2 rfl (lv_at hl 2 rfl) ?_
    refine lv_aload_n S.1 S.2.1 dX2_copyFrom_3 rfl (lv_at hl 0 rfl) ?_
    refine al_g_RX2_9 S hK hW (i := i) (by omega) dX2_copyFrom_4 ?_
    refine al_ialen S hK hW (i := i) (by omega) dX2_copyFrom_7 ?_
    refine lv_icmp_ge (tgt := 28) S.1 S.2.1 dX2_copyFrom_8 (by decide) (fun c1 => ?_) (fun c1 => ?_)
    · exact absurd c1 (al_90 (by omega))
    · refine lv_aload_n S.1 S.2.1 dX2_copyFrom_11 rfl (lv_at hl 0 rfl) ?_
      refine al_g_RX2_9 S hK hW (i := i) (by omega) dX2_copyFrom_12 ?_
      refine lv_iload_n S.1 S.2.1 dX2_copyFrom_15 rfl (lv_at hl 2 rfl) ?_
      refine lv_aload_n S.1 S.2.1 dX2_copyFrom_16 rfl (lv_at hl 1 rfl) ?_
      refine lv_iload_n S.1 S.2.1 dX2_copyFrom_17 rfl (lv_at hl 2 rfl) ?_
      refine al_cP (rest := [.int (nI k), .ref (ad (15 + 2 * i))]) S hK hW (al_X2_get l D cy ad σ j (by omega) (nI k)) al_mi_X2_get al_ml_RX2_15 rfl (al_rc_R D cy ad _ (i := j) (by omega)) rfl hl.1 rfl (Nat.le_of_ble_eq_true rfl) dX2_copyFrom_18 ⟨Nat.le_of_ble_eq_true rfl, Nat.le_of_ble_eq_true rfl⟩ ⟨Nat.zero_le _, Nat.zero_le _⟩ ?_
      refine W.eq (g2 := F0 m 21 ls [.int (al_rg (σ.1 j) (nI k)), .int (nI k), .ref (ad (15 + 2 * i))]) rfl ?_
      refine al_iast S hK hW hS (i := i) (by omega) (al_nn (by omega)) c1 dX2_copyFrom_21 (fun H locs hW hS => ?_)
      refine lv_iinc (k := 2) (v := nI (k + 1)) (lv' := [(2, .int (nI (k + 1))), (0, .ref (ad (14 + 2 * i))), (1, .ref (ad (14 + 2 * j)))]) S.1 S.2.1 dX2_copyFrom_22 hl rfl (al_inc k) (by decide) rfl (fun ls hl => ?_)
      refine lv_goto (tgt := 2) S.1 S.2.1 dX2_copyFrom_25 (by decide) ?_
      exact ih (al_sR σ i (upd (σ.1 i) (nI k).toNatClampNeg (al_rg (σ.1 j) (nI k)))) (k + 1) _ _ _ (by omega) hW hS (lv_sub hl [1, 2, 0] rfl) (fun σ'  H locs ls e9 hW hS hl => K σ'  H locs ls (by simp only [al_cpyL, if_neg (c1)]; exact e9) hW hS hl)
theorem al_mv_X2_copyFrom : al_mv yX2_copyFrom cX2_copyFrom 3 none 1 := ⟨al_c_X2_copyFrom, al_ini_RX2, ⟨by decide +kernel, by decide +kernel, by decide +kernel⟩, by decide +kernel⟩
theorem al_mi_X2_copyFrom : al_mi yX2_copyFrom cX2_copyFrom 3 none 1 := ⟨al_mv_X2_copyFrom, al_in_X2_copyFrom, al_se_X2_copyFrom⟩
set_option maxHeartbeats 4000000 in
set_option maxRecDepth 100000 in
theorem al_X2_copyFrom (l : Launch) (D : va_G) (cy : al_CY) (ad : Nat → Nat) (σ : al_St) (i : Nat) (hi : i < 25) (j : Nat) (hj : j < 25) : al_MS l yX2_copyFrom cX2_copyFrom 3 none 1 21 D cy ad σ [.ref (ad (14 + 2 * i)), .ref (ad (14 + 2 * j))] none (al_sR σ i (σ.1 j)) := by
  refine al_met al_mv_X2_copyFrom (Nat.le_of_ble_eq_true rfl) ?_
  intro p e s m args below meth c ls S hr hlocks hK hW hS hl
  have hl : lv_has ls 3 [(0, .ref (ad (14 + 2 * i))), (1, .ref (ad (14 + 2 * j)))] := hl
  refine lv_iconst (v := 0) S.1 S.2.1 dX2_copyFrom_0 (by decide) ?_
  refine lv_istore_n (lv' := [(2, .int 0), (0, .ref (ad (14 + 2 * i))), (1, .ref (ad (14 + 2 * j)))]) S.1 S.2.1 dX2_copyFrom_1 rfl hl (by decide) rfl (fun ls hl => ?_)
  refine al_lp_X2_copyFrom l D cy ad i hi j hj S hK 90 σ 0 _ _ _ (by omega) hW hS (lv_sub hl [1, 2, 0] rfl) (fun σ1 H locs ls e2 hW hS hl => ?_)
  exact W.vret S.1 S.2.1 hr (fun t9 ht9 _ => ⟨rfl, by rw [ht9]; exact (al_Hcpy (al_He hW (by rw [← e2, al_cpy90])) hi), hS.F ht9⟩) hS.2.2 dX2_copyFrom_28
set_option maxHeartbeats 4000000 in
set_option maxRecDepth 100000 in
theorem al_lp_X0_copyFrom {p : Program} {e : Env} {s : State} {m : MethodId} {args : Array Value} {below : List Frame} {meth : Method} {c : Code} {Q : State → Prop} (l : Launch) (D : va_G) (cy : al_CY) (ad : Nat → Nat) (i : Nat) (hi : i < 8) (j : Nat) (hj : j < 8) (S : CallFix p m c cX0_copyFrom 3 s args al_G RX0) (hK : va_K D vwCl (al_tys cy) s) {H0 : Heap} : ∀ (n : Nat) (σ : al_St) (k : Nat) (H : Heap) (locs : List Loc) (ls : Array Slot), k + n = 90 → al_H D cy ad σ H → va_S (al_A ad) H0 H locs → lv_has ls 3 [(0, .ref (ad (64 + 2 * i))), (1, .ref (ad (64 + 2 * j))), (2, .int (nI k))] → (∀ (σ' : al_St) (H : Heap) (locs : List Loc) (ls : Array Slot), al_fcpyL i j n k σ = σ' → al_H D cy ad σ' H → va_S (al_A ad) H0 H locs → lv_has ls 3 [(0, .ref (ad (64 + 2 * i)))] → W p l e (al_rm 1 21) s m args below meth c H locs 0 0 Q (F0 m 28 ls [])) → W p l e (al_rm 1 21) s m args below meth c H locs 0 0 Q (F0 m 2 ls []) := by
  intro n
  induction n with
  | zero =>
    intro σ k H locs ls hk hW hS hl K
    refine lv_iload_n S.1 S.2.1 dX0_copyFrom_2 rfl (lv_at hl 2 rfl) ?_
    refine lv_aload_n S.1 S.2.1 dX0_copyFrom_3 rfl (lv_at hl 0 rfl) ?_
    refine al_g_RX0_9 S hK hW (i := i) (by omega) dX0_copyFrom_4 ?_
    refine al_falen S hK hW (i := i) (by omega) dX0_copyFrom_7 ?_
    refine lv_icmp_ge (tgt := 28) S.1 S.2.1 dX0_copyFrom_8 (by decide) (fun c1 => ?_) (fun c1 => ?_)
    · exact K σ  _ _ _ (by simp only [al_fcpyL, if_pos (c1)]) hW hS (lv_sub hl [0] rfl)
    · exact absurd (al_90' (by omega)) c1
  | succ n ih =>
    intro σ k H locs ls hk hW hS hl K
    refine lv_iload_n S.1 S.2.1 dX0_copyFrom_2 rfl (lv_at hl 2 rfl) ?_
    refine lv_aload_n S.1 S.2.1 dX0_copyFrom_3 rfl (lv_at hl 0 rfl) ?_
    refine al_g_RX0_9 S hK hW (i := i) (by omega) dX0_copyFrom_4 ?_
    refine al_falen S hK hW (i := i) (by omega) dX0_copyFrom_7 ?_
    refine lv_icmp_ge (tgt := 28) S.1 S.2.1 dX0_copyFrom_8 (by decide) (fun c1 => ?_) (fun c1 => ?_)
    · exact absurd c1 (al_90 (by omega))
    · refine lv_aload_n S.1 S.2.1 dX0_copyFrom_11 rfl (lv_at hl 0 rfl) ?_
      refine al_g_RX0_9 S hK hW (i := i) (by omega) dX0_copyFrom_12 ?_
      refine lv_iload_n S.1 S.2.1 dX0_copyFrom_15 rfl (lv_at hl 2 rfl) ?_
      refine lv_aload_n S.1 S.2.1 dX0_copyFrom_16 rfl (lv_at hl 1 rfl) ?_
      refine lv_iload_n S.1 S.2.1 dX0_copyFrom_17 rfl (lv_at hl 2 rfl) ?_
      refine al_cP (rest := [.int (nI k), .ref (ad (65 + 2 * i))]) S hK hW (al_X0_get l D cy ad σ j (by omega) (nI k)) al_mi_X0_get al_ml_RX0_15 rfl (al_rc_F D cy ad _ (i := j) (by omega)) rfl hl.1 rfl (Nat.le_of_ble_eq_true rfl) dX0_copyFrom_18 ⟨Nat.le_of_ble_eq_true rfl, Nat.le_of_ble_eq_true rfl⟩ ⟨Nat.zero_le _, Nat.zero_le _⟩ ?_
      refine W.eq (g2 := F0 m 21 ls [.float (al_fg (σ.2.1 j) (nI k)), .int (nI k), .ref (ad (65 + 2 * i))]) rfl ?_
      refine al_fast S hK hW hS (i := i) (by omega) (al_nn (by omega)) c1 dX0_copyFrom_21 (fun H locs hW hS => ?_)
      refine lv_iinc (k := 2) (v := nI (k + 1)) (lv' := [(2, .int (nI (k + 1))), (0, .ref (ad (64 + 2 * i))), (1, .ref (ad (64 + 2 * j)))]) S.1 S.2.1 dX0_copyFrom_22 hl rfl (al_inc k) (by decide) rfl (fun ls hl => ?_)
      refine lv_goto (tgt := 2) S.1 S.2.1 dX0_copyFrom_25 (by decide) ?_
      exact ih (al_sF σ i (vf_upd (σ.2.1 i) (nI k).toNatClampNeg (al_fg (σ.2.1 j) (nI k)))) (k + 1) _ _ _ (by omega) hW hS (lv_sub hl [1, 2, 0] rfl) (fun σ'  H locs ls e9 hW hS hl => K σ'  H locs ls (by simp only [al_fcpyL, if_neg (c1)]; exact e9) hW hS hl)
theorem al_mv_X0_copyFrom : al_mv yX0_copyFrom cX0_copyFrom 3 none 1 := ⟨al_c_X0_copyFrom, al_ini_RX0, ⟨by decide +kernel, by decide +kernel, by decide +kernel⟩, by decide +kernel⟩
theorem al_mi_X0_copyFrom : al_mi yX0_copyFrom cX0_copyFrom 3 none 1 := ⟨al_mv_X0_copyFrom, al_in_X0_copyFrom, al_se_X0_copyFrom⟩
set_option maxHeartbeats 4000000 in
set_option maxRecDepth 100000 in
theorem al_X0_copyFrom (l : Launch) (D : va_G) (cy : al_CY) (ad : Nat → Nat) (σ : al_St) (i : Nat) (hi : i < 8) (j : Nat) (hj : j < 8) : al_MS l yX0_copyFrom cX0_copyFrom 3 none 1 21 D cy ad σ [.ref (ad (64 + 2 * i)), .ref (ad (64 + 2 * j))] none (al_sF σ i (σ.2.1 j)) := by
  refine al_met al_mv_X0_copyFrom (Nat.le_of_ble_eq_true rfl) ?_
  intro p e s m args below meth c ls S hr hlocks hK hW hS hl
  have hl : lv_has ls 3 [(0, .ref (ad (64 + 2 * i))), (1, .ref (ad (64 + 2 * j)))] := hl
  refine lv_iconst (v := 0) S.1 S.2.1 dX0_copyFrom_0 (by decide) ?_
  refine lv_istore_n (lv' := [(2, .int 0), (0, .ref (ad (64 + 2 * i))), (1, .ref (ad (64 + 2 * j)))]) S.1 S.2.1 dX0_copyFrom_1 rfl hl (by decide) rfl (fun ls hl => ?_)
  refine al_lp_X0_copyFrom l D cy ad i hi j hj S hK 90 σ 0 _ _ _ (by omega) hW hS (lv_sub hl [1, 2, 0] rfl) (fun σ1 H locs ls e2 hW hS hl => ?_)
  exact W.vret S.1 S.2.1 hr (fun t9 ht9 _ => ⟨rfl, by rw [ht9]; exact (al_Hfcpy (al_He hW (by rw [← e2, al_fcpy90]))), hS.F ht9⟩) hS.2.2 dX0_copyFrom_28
theorem al_mv_X6_ever : al_mv yX6_ever cX6_ever 1 (some .int) 0 := ⟨al_c_X6_ever, al_ini_RX6, ⟨by decide +kernel, by decide +kernel, by decide +kernel⟩, by decide +kernel⟩
theorem al_mi_X6_ever : al_mi yX6_ever cX6_ever 1 (some .int) 0 := ⟨al_mv_X6_ever, al_in_X6_ever, al_se_X6_ever⟩
set_option maxHeartbeats 4000000 in
set_option maxRecDepth 100000 in
theorem al_X6_ever (l : Launch) (D : va_G) (cy : al_CY) (ad : Nat → Nat) (σ : al_St) (t : Nat) (ht : t < 6) : al_MP l yX6_ever cX6_ever 1 (some .int) 0 0 D cy ad σ [.ref (ad (8 + t))] (some (.int (σ.2.2.1 t))) := by
  refine al_met al_mv_X6_ever (Nat.le_of_ble_eq_true rfl) ?_
  intro p e s m args below meth c ls S hr hlocks hK hW hS hl
  have hl : lv_has ls 1 [(0, .ref (ad (8 + t)))] := hl
  refine lv_aload_n S.1 S.2.1 dX6_ever_0 rfl (lv_at hl 0 rfl) ?_
  refine al_g_RX6_32 S hK hW (t := t) (by omega) dX6_ever_1 ?_
  exact W.iret S.1 S.2.1 hr (fun t9 ht9 _ => ⟨(congrArg (fun z => Outcome.returned (some (Value.int z))) rfl), ht9⟩) (fun q hq => absurd hq List.not_mem_nil) dX6_ever_4
theorem al_mv_X6_isNode : al_mv yX6_isNode cX6_isNode 2 (some .boolean) 1 := ⟨al_c_X6_isNode, al_ini_RX6, ⟨by decide +kernel, by decide +kernel, by decide +kernel⟩, by decide +kernel⟩
theorem al_mi_X6_isNode : al_mi yX6_isNode cX6_isNode 2 (some .boolean) 1 := ⟨al_mv_X6_isNode, al_in_X6_isNode, al_se_X6_isNode⟩
set_option maxHeartbeats 4000000 in
set_option maxRecDepth 100000 in
theorem al_X6_isNode (l : Launch) (D : va_G) (cy : al_CY) (ad : Nat → Nat) (σ : al_St) (t : Nat) (ht : t < 6) (x : Int32) : al_MP l yX6_isNode cX6_isNode 2 (some .boolean) 1 21 D cy ad σ [.ref (ad (8 + t)), .int x] (some (.int (al_isN σ t x))) := by
  refine al_met al_mv_X6_isNode (Nat.le_of_ble_eq_true rfl) ?_
  intro p e s m args below meth c ls S hr hlocks hK hW hS hl
  have hl : lv_has ls 2 [(0, .ref (ad (8 + t))), (1, .int x)] := hl
  refine lv_iload_n S.1 S.2.1 dX6_isNode_0 rfl (lv_at hl 1 rfl) ?_
  refine lv_if_lt (tgt := 29) S.1 S.2.1 dX6_isNode_1 (by decide) (fun c1 => ?_) (fun c1 => ?_)
  · refine lv_iconst (v := 0) S.1 S.2.1 dX6_isNode_29 (by decide) ?_
    exact W.zret S.1 S.2.1 hr rfl (fun t9 ht9 _ => ⟨(congrArg (fun z => Outcome.returned (some (Value.int z))) (by simp only [al_isN, if_pos (c1)])), ht9⟩) (fun q hq => absurd hq List.not_mem_nil) dX6_isNode_30
  · refine lv_iload_n S.1 S.2.1 dX6_isNode_4 rfl (lv_at hl 1 rfl) ?_
    refine lv_aload_n S.1 S.2.1 dX6_isNode_5 rfl (lv_at hl 0 rfl) ?_
    refine al_g_RX6_32 S hK hW (t := t) (by omega) dX6_isNode_6 ?_
    refine lv_icmp_ge (tgt := 29) S.1 S.2.1 dX6_isNode_9 (by decide) (fun c2 => ?_) (fun c2 => ?_)
    · refine lv_iconst (v := 0) S.1 S.2.1 dX6_isNode_29 (by decide) ?_
      exact W.zret S.1 S.2.1 hr rfl (fun t9 ht9 _ => ⟨(congrArg (fun z => Outcome.returned (some (Value.int z))) (by simp only [al_isN, if_neg (c1), if_pos (c2)])), ht9⟩) (fun q hq => absurd hq List.not_mem_nil) dX6_isNode_30
    · refine lv_aload_n S.1 S.2.1 dX6_isNode_12 rfl (lv_at hl 0 rfl) ?_
      refine al_g_RX6_12 S hK hW (t := t) (by omega) dX6_isNode_13 ?_
      refine lv_iload_n S.1 S.2.1 dX6_isNode_16 rfl (lv_at hl 1 rfl) ?_
      refine al_cP (rest := []) S hK hW (al_X2_get l D cy ad σ (2 * t) (by omega) x) al_mi_X2_get al_ml_RX6_36 rfl (al_rc_R D cy ad _ (i := 2 * t) (by omega)) rfl hl.1 rfl (Nat.le_of_ble_eq_true rfl) dX6_isNode_17 ⟨Nat.le_of_ble_eq_true rfl, Nat.le_of_ble_eq_true rfl⟩ ⟨Nat.zero_le _, Nat.zero_le _⟩ ?_
      refine W.eq (g2 := F0 m 20 ls [.int (al_rg (σ.1 (2 * t)) x)]) rfl ?_
      refine lv_bipush (v := -2) S.1 S.2.1 dX6_isNode_20 (by decide) ?_
      refine lv_icmp_eq (tgt := 29) S.1 S.2.1 dX6_isNode_22 (by decide) (fun c3 => ?_) (fun c3 => ?_)
      · refine lv_iconst (v := 0) S.1 S.2.1 dX6_isNode_29 (by decide) ?_
        exact W.zret S.1 S.2.1 hr rfl (fun t9 ht9 _ => ⟨(congrArg (fun z => Outcome.returned (some (Value.int z))) (by simp only [al_isN, if_neg (c1), if_neg (c2), if_pos (c3)])), ht9⟩) (fun q hq => absurd hq List.not_mem_nil) dX6_isNode_30
      · refine lv_iconst (v := 1) S.1 S.2.1 dX6_isNode_25 (by decide) ?_
        refine lv_goto (tgt := 30) S.1 S.2.1 dX6_isNode_26 (by decide) ?_
        exact W.zret S.1 S.2.1 hr rfl (fun t9 ht9 _ => ⟨(congrArg (fun z => Outcome.returned (some (Value.int z))) (by simp only [al_isN, if_neg (c1), if_neg (c2), if_neg (c3)])), ht9⟩) (fun q hq => absurd hq List.not_mem_nil) dX6_isNode_30
theorem al_mv_X6_hasRoomFor : al_mv yX6_hasRoomFor cX6_hasRoomFor 2 (some .boolean) 1 := ⟨al_c_X6_hasRoomFor, al_ini_RX6, ⟨by decide +kernel, by decide +kernel, by decide +kernel⟩, by decide +kernel⟩
theorem al_mi_X6_hasRoomFor : al_mi yX6_hasRoomFor cX6_hasRoomFor 2 (some .boolean) 1 := ⟨al_mv_X6_hasRoomFor, al_in_X6_hasRoomFor, al_se_X6_hasRoomFor⟩
set_option maxHeartbeats 4000000 in
set_option maxRecDepth 100000 in
theorem al_X6_hasRoomFor (l : Launch) (D : va_G) (cy : al_CY) (ad : Nat → Nat) (σ : al_St) (t : Nat) (ht : t < 6) (x : Int32) : al_MP l yX6_hasRoomFor cX6_hasRoomFor 2 (some .boolean) 0 0 D cy ad σ [.ref (ad (8 + t)), .int x] (some (.int (al_room σ t x))) := by
  refine al_met al_mv_X6_hasRoomFor (Nat.le_of_ble_eq_true rfl) ?_
  intro p e s m args below meth c ls S hr hlocks hK hW hS hl
  have hl : lv_has ls 2 [(0, .ref (ad (8 + t))), (1, .int x)] := hl
  refine lv_aload_n S.1 S.2.1 dX6_hasRoomFor_0 rfl (lv_at hl 0 rfl) ?_
  refine al_g_RX6_32 S hK hW (t := t) (by omega) dX6_hasRoomFor_1 ?_
  refine lv_iload_n S.1 S.2.1 dX6_hasRoomFor_4 rfl (lv_at hl 1 rfl) ?_
  refine lv_iadd S.1 S.2.1 dX6_hasRoomFor_5 ?_
  refine lv_bipush (v := 90) S.1 S.2.1 dX6_hasRoomFor_6 (by decide) ?_
  refine lv_icmp_gt (tgt := 15) S.1 S.2.1 dX6_hasRoomFor_8 (by decide) (fun c1 => ?_) (fun c1 => ?_)
  · refine lv_iconst (v := 0) S.1 S.2.1 dX6_hasRoomFor_15 (by decide) ?_
    exact W.zret S.1 S.2.1 hr rfl (fun t9 ht9 _ => ⟨(congrArg (fun z => Outcome.returned (some (Value.int z))) (by simp only [al_room, if_pos (c1)])), ht9⟩) (fun q hq => absurd hq List.not_mem_nil) dX6_hasRoomFor_16
  · refine lv_iconst (v := 1) S.1 S.2.1 dX6_hasRoomFor_11 (by decide) ?_
    refine lv_goto (tgt := 16) S.1 S.2.1 dX6_hasRoomFor_12 (by decide) ?_
    exact W.zret S.1 S.2.1 hr rfl (fun t9 ht9 _ => ⟨(congrArg (fun z => Outcome.returned (some (Value.int z))) (by simp only [al_room, if_neg (c1)])), ht9⟩) (fun q hq => absurd hq List.not_mem_nil) dX6_hasRoomFor_16
theorem al_mv_X6_parentOf : al_mv yX6_parentOf cX6_parentOf 2 (some .int) 1 := ⟨al_c_X6_parentOf, al_ini_RX6, ⟨by decide +kernel, by decide +kernel, by decide +kernel⟩, by decide +kernel⟩
theorem al_mi_X6_parentOf : al_mi yX6_parentOf cX6_parentOf 2 (some .int) 1 := ⟨al_mv_X6_parentOf, al_in_X6_parentOf, al_se_X6_parentOf⟩
set_option maxHeartbeats 4000000 in
set_option maxRecDepth 100000 in
theorem al_X6_parentOf (l : Launch) (D : va_G) (cy : al_CY) (ad : Nat → Nat) (σ : al_St) (t : Nat) (ht : t < 6) (x : Int32) : al_MP l yX6_parentOf cX6_parentOf 2 (some .int) 1 21 D cy ad σ [.ref (ad (8 + t)), .int x] (some (.int (al_rg (σ.1 (2 * t)) x))) := by
  refine al_met al_mv_X6_parentOf (Nat.le_of_ble_eq_true rfl) ?_
  intro p e s m args below meth c ls S hr hlocks hK hW hS hl
  have hl : lv_has ls 2 [(0, .ref (ad (8 + t))), (1, .int x)] := hl
  refine lv_aload_n S.1 S.2.1 dX6_parentOf_0 rfl (lv_at hl 0 rfl) ?_
  refine al_g_RX6_12 S hK hW (t := t) (by omega) dX6_parentOf_1 ?_
  refine lv_iload_n S.1 S.2.1 dX6_parentOf_4 rfl (lv_at hl 1 rfl) ?_
  refine al_cP (rest := []) S hK hW (al_X2_get l D cy ad σ (2 * t) (by omega) x) al_mi_X2_get al_ml_RX6_36 rfl (al_rc_R D cy ad _ (i := 2 * t) (by omega)) rfl hl.1 rfl (Nat.le_of_ble_eq_true rfl) dX6_parentOf_5 ⟨Nat.le_of_ble_eq_true rfl, Nat.le_of_ble_eq_true rfl⟩ ⟨Nat.zero_le _, Nat.zero_le _⟩ ?_
  refine W.eq (g2 := F0 m 8 ls [.int (al_rg (σ.1 (2 * t)) x)]) rfl ?_
  exact W.iret S.1 S.2.1 hr (fun t9 ht9 _ => ⟨(congrArg (fun z => Outcome.returned (some (Value.int z))) rfl), ht9⟩) (fun q hq => absurd hq List.not_mem_nil) dX6_parentOf_8
theorem al_mv_X6_bitsOf : al_mv yX6_bitsOf cX6_bitsOf 2 (some .int) 1 := ⟨al_c_X6_bitsOf, al_ini_RX6, ⟨by decide +kernel, by decide +kernel, by decide +kernel⟩, by decide +kernel⟩
theorem al_mi_X6_bitsOf : al_mi yX6_bitsOf cX6_bitsOf 2 (some .int) 1 := ⟨al_mv_X6_bitsOf, al_in_X6_bitsOf, al_se_X6_bitsOf⟩
set_option maxHeartbeats 4000000 in
set_option maxRecDepth 100000 in
theorem al_X6_bitsOf (l : Launch) (D : va_G) (cy : al_CY) (ad : Nat → Nat) (σ : al_St) (t : Nat) (ht : t < 6) (x : Int32) : al_MP l yX6_bitsOf cX6_bitsOf 2 (some .int) 1 21 D cy ad σ [.ref (ad (8 + t)), .int x] (some (.int (al_rg (σ.1 (2 * t + 1)) x))) := by
  refine al_met al_mv_X6_bitsOf (Nat.le_of_ble_eq_true rfl) ?_
  intro p e s m args below meth c ls S hr hlocks hK hW hS hl
  have hl : lv_has ls 2 [(0, .ref (ad (8 + t))), (1, .int x)] := hl
  refine lv_aload_n S.1 S.2.1 dX6_bitsOf_0 rfl (lv_at hl 0 rfl) ?_
  refine al_g_RX6_18 S hK hW (t := t) (by omega) dX6_bitsOf_1 ?_
  refine lv_iload_n S.1 S.2.1 dX6_bitsOf_4 rfl (lv_at hl 1 rfl) ?_
  refine al_cP (rest := []) S hK hW (al_X2_get l D cy ad σ (2 * t + 1) (by omega) x) al_mi_X2_get al_ml_RX6_36 rfl (al_rc_R D cy ad _ (i := 2 * t + 1) (by omega)) rfl hl.1 rfl (Nat.le_of_ble_eq_true rfl) dX6_bitsOf_5 ⟨Nat.le_of_ble_eq_true rfl, Nat.le_of_ble_eq_true rfl⟩ ⟨Nat.zero_le _, Nat.zero_le _⟩ ?_
  refine W.eq (g2 := F0 m 8 ls [.int (al_rg (σ.1 (2 * t + 1)) x)]) rfl ?_
  exact W.iret S.1 S.2.1 hr (fun t9 ht9 _ => ⟨(congrArg (fun z => Outcome.returned (some (Value.int z))) rfl), ht9⟩) (fun q hq => absurd hq List.not_mem_nil) dX6_bitsOf_8
theorem al_mv_X6_lengthOf : al_mv yX6_lengthOf cX6_lengthOf 2 (some .float) 1 := ⟨al_c_X6_lengthOf, al_ini_RX6, ⟨by decide +kernel, by decide +kernel, by decide +kernel⟩, by decide +kernel⟩
theorem al_mi_X6_lengthOf : al_mi yX6_lengthOf cX6_lengthOf 2 (some .float) 1 := ⟨al_mv_X6_lengthOf, al_in_X6_lengthOf, al_se_X6_lengthOf⟩
set_option maxHeartbeats 4000000 in
set_option maxRecDepth 100000 in
theorem al_X6_lengthOf (l : Launch) (D : va_G) (cy : al_CY) (ad : Nat → Nat) (σ : al_St) (t : Nat) (ht : t < 6) (x : Int32) : al_MP l yX6_lengthOf cX6_lengthOf 2 (some .float) 1 21 D cy ad σ [.ref (ad (8 + t)), .int x] (some (.float (al_fg (σ.2.1 t) x))) := by
  refine al_met al_mv_X6_lengthOf (Nat.le_of_ble_eq_true rfl) ?_
  intro p e s m args below meth c ls S hr hlocks hK hW hS hl
  have hl : lv_has ls 2 [(0, .ref (ad (8 + t))), (1, .int x)] := hl
  refine lv_aload_n S.1 S.2.1 dX6_lengthOf_0 rfl (lv_at hl 0 rfl) ?_
  refine al_g_RX6_24 S hK hW (t := t) (by omega) dX6_lengthOf_1 ?_
  refine lv_iload_n S.1 S.2.1 dX6_lengthOf_4 rfl (lv_at hl 1 rfl) ?_
  refine al_cP (rest := []) S hK hW (al_X0_get l D cy ad σ t (by omega) x) al_mi_X0_get al_ml_RX6_40 rfl (al_rc_F D cy ad _ (i := t) (by omega)) rfl hl.1 rfl (Nat.le_of_ble_eq_true rfl) dX6_lengthOf_5 ⟨Nat.le_of_ble_eq_true rfl, Nat.le_of_ble_eq_true rfl⟩ ⟨Nat.zero_le _, Nat.zero_le _⟩ ?_
  refine W.eq (g2 := F0 m 8 ls [.float (al_fg (σ.2.1 t) x)]) rfl ?_
  exact W.fret S.1 S.2.1 hr (fun t9 ht9 _ => ⟨(congrArg (fun z => Outcome.returned (some (Value.float z))) rfl), ht9⟩) (fun q hq => absurd hq List.not_mem_nil) dX6_lengthOf_8
theorem al_mv_X6_stretch : al_mv yX6_stretch cX6_stretch 4 none 3 := ⟨al_c_X6_stretch, al_ini_RX6, ⟨by decide +kernel, by decide +kernel, by decide +kernel⟩, by decide +kernel⟩
theorem al_mi_X6_stretch : al_mi yX6_stretch cX6_stretch 4 none 3 := ⟨al_mv_X6_stretch, al_in_X6_stretch, al_se_X6_stretch⟩
set_option maxHeartbeats 4000000 in
set_option maxRecDepth 100000 in
theorem al_X6_stretch (l : Launch) (D : va_G) (cy : al_CY) (ad : Nat → Nat) (σ : al_St) (t : Nat) (ht : t < 6) (x : Int32) (b : Int32) (w : UInt32) : al_MS l yX6_stretch cX6_stretch 4 none 1 22 D cy ad σ [.ref (ad (8 + t)), .int x, .int b, .float w] none (al_stretch σ t x b w) := by
  refine al_met al_mv_X6_stretch (Nat.le_of_ble_eq_true rfl) ?_
  intro p e s m args below meth c ls S hr hlocks hK hW hS hl
  have hl : lv_has ls 4 [(0, .ref (ad (8 + t))), (1, .int x), (2, .int b), (3, .float w)] := hl
  refine lv_aload_n S.1 S.2.1 dX6_stretch_0 rfl (lv_at hl 0 rfl) ?_
  refine al_g_RX6_18 S hK hW (t := t) (by omega) dX6_stretch_1 ?_
  refine lv_iload_n S.1 S.2.1 dX6_stretch_4 rfl (lv_at hl 1 rfl) ?_
  refine lv_iload_n S.1 S.2.1 dX6_stretch_5 rfl (lv_at hl 2 rfl) ?_
  refine al_cS (rest := []) S hK hW hS (al_X2_set l D cy ad σ (2 * t + 1) (by omega) x b) al_mi_X2_set al_ml_RX6_28 rfl (al_rc_R D cy ad _ (i := 2 * t + 1) (by omega)) rfl hl.1 rfl (Nat.le_of_ble_eq_true rfl) dX6_stretch_6 ⟨Nat.le_of_ble_eq_true rfl, Nat.le_of_ble_eq_true rfl⟩ ⟨Nat.zero_le _, Nat.zero_le _⟩ (fun H locs hW hS => ?_)
  refine W.eq (g2 := F0 m 9 ls []) rfl ?_
  refine lv_aload_n S.1 S.2.1 dX6_stretch_9 rfl (lv_at hl 0 rfl) ?_
  refine al_g_RX6_24 S hK hW (t := t) (by omega) dX6_stretch_10 ?_
  refine lv_iload_n S.1 S.2.1 dX6_stretch_13 rfl (lv_at hl 1 rfl) ?_
  refine lv_fload_n S.1 S.2.1 dX6_stretch_14 rfl (lv_at hl 3 rfl) ?_
  refine al_cS (rest := []) S hK hW hS (al_X0_set l D cy ad (al_set σ (2 * t + 1) x b) t (by omega) x w) al_mi_X0_set al_ml_RX6_47 rfl (al_rc_F D cy ad _ (i := t) (by omega)) rfl hl.1 rfl (Nat.le_of_ble_eq_true rfl) dX6_stretch_15 ⟨Nat.le_of_ble_eq_true rfl, Nat.le_of_ble_eq_true rfl⟩ ⟨Nat.zero_le _, Nat.zero_le _⟩ (fun H locs hW hS => ?_)
  refine W.eq (g2 := F0 m 18 ls []) rfl ?_
  exact W.vret S.1 S.2.1 hr (fun t9 ht9 _ => ⟨rfl, by rw [ht9]; exact (al_He hW (by simp only [al_stretch])), hS.F ht9⟩) hS.2.2 dX6_stretch_18
theorem al_mv_X6_append : al_mv yX6_append cX6_append 5 (some .int) 3 := ⟨al_c_X6_append, al_ini_RX6, ⟨by decide +kernel, by decide +kernel, by decide +kernel⟩, by decide +kernel⟩
theorem al_mi_X6_append : al_mi yX6_append cX6_append 5 (some .int) 3 := ⟨al_mv_X6_append, al_in_X6_append, al_se_X6_append⟩
set_option maxHeartbeats 4000000 in
set_option maxRecDepth 100000 in
theorem al_X6_append (l : Launch) (D : va_G) (cy : al_CY) (ad : Nat → Nat) (σ : al_St) (t : Nat) (ht : t < 6) (u : Int32) (b : Int32) (w : UInt32) : al_MS l yX6_append cX6_append 5 (some .int) 2 45 D cy ad σ [.ref (ad (8 + t)), .int u, .int b, .float w] (some (.int (σ.2.2.1 t))) (al_append σ t u b w) := by
  refine al_met al_mv_X6_append (Nat.le_of_ble_eq_true rfl) ?_
  intro p e s m args below meth c ls S hr hlocks hK hW hS hl
  have hl : lv_has ls 5 [(0, .ref (ad (8 + t))), (1, .int u), (2, .int b), (3, .float w)] := hl
  refine lv_aload_n S.1 S.2.1 dX6_append_0 rfl (lv_at hl 0 rfl) ?_
  refine al_g_RX6_32 S hK hW (t := t) (by omega) dX6_append_1 ?_
  refine lv_istore (lv' := [(4, .int (σ.2.2.1 t)), (0, .ref (ad (8 + t))), (1, .int u), (2, .int b), (3, .float w)]) S.1 S.2.1 dX6_append_4 hl (by decide) rfl (fun ls hl => ?_)
  refine lv_aload_n S.1 S.2.1 dX6_append_6 rfl (lv_at hl 1 rfl) ?_
  refine lv_dup S.1 S.2.1 dX6_append_7 rfl ?_
  refine al_g_RX6_32 S hK hW (t := t) (by omega) dX6_append_8 ?_
  refine lv_iconst (v := 1) S.1 S.2.1 dX6_append_11 (by decide) ?_
  refine lv_iadd S.1 S.2.1 dX6_append_12 ?_
  refine al_p_RX6_32 S hK hW hS (t := t) (by omega) dX6_append_13 (fun H locs hW hS => ?_)
  refine lv_aload_n S.1 S.2.1 dX6_append_16 rfl (lv_at hl 1 rfl) ?_
  refine al_g_RX6_12 S hK hW (t := t) (by omega) dX6_append_17 ?_
  refine lv_iload S.1 S.2.1 dX6_append_20 (lv_at hl 0 rfl) ?_
  refine lv_iload_n S.1 S.2.1 dX6_append_22 rfl (lv_at hl 2 rfl) ?_
  refine al_cS (rest := []) S hK hW hS (al_X2_set l D cy ad (al_sV σ t ((σ.2.2.1 t) + 1)) (2 * t) (by omega) (σ.2.2.1 t) u) al_mi_X2_set al_ml_RX6_28 rfl (al_rc_R D cy ad _ (i := 2 * t) (by omega)) rfl hl.1 rfl (Nat.le_of_ble_eq_true rfl) dX6_append_23 ⟨Nat.le_of_ble_eq_true rfl, Nat.le_of_ble_eq_true rfl⟩ ⟨Nat.zero_le _, Nat.zero_le _⟩ (fun H locs hW hS => ?_)
  refine W.eq (g2 := F0 m 26 ls []) rfl ?_
  refine lv_aload_n S.1 S.2.1 dX6_append_26 rfl (lv_at hl 1 rfl) ?_
  refine lv_iload S.1 S.2.1 dX6_append_27 (lv_at hl 0 rfl) ?_
  refine lv_iload_n S.1 S.2.1 dX6_append_29 rfl (lv_at hl 3 rfl) ?_
  refine lv_fload_n S.1 S.2.1 dX6_append_30 rfl (lv_at hl 4 rfl) ?_
  refine al_cS (rest := []) S hK hW hS (al_X6_stretch l D cy ad (al_set (al_sV σ t ((σ.2.2.1 t) + 1)) (2 * t) (σ.2.2.1 t) u) t (by omega) (σ.2.2.1 t) b w) al_mi_X6_stretch al_ml_RX6_43 rfl (al_rc_T D cy ad _ (t := t) (by omega)) rfl hl.1 rfl (Nat.le_of_ble_eq_true rfl) dX6_append_31 ⟨Nat.le_of_ble_eq_true rfl, Nat.le_of_ble_eq_true rfl⟩ ⟨Nat.zero_le _, Nat.zero_le _⟩ (fun H locs hW hS => ?_)
  refine W.eq (g2 := F0 m 34 ls []) rfl ?_
  refine lv_iload S.1 S.2.1 dX6_append_34 (lv_at hl 0 rfl) ?_
  exact W.iret S.1 S.2.1 hr (fun t9 ht9 _ => ⟨(congrArg (fun z => Outcome.returned (some (Value.int z))) rfl), by rw [ht9]; exact (al_He hW (by simp only [al_append])), hS.F ht9⟩) hS.2.2 dX6_append_36
theorem al_mv_X6_remove : al_mv yX6_remove cX6_remove 2 none 1 := ⟨al_c_X6_remove, al_ini_RX6, ⟨by decide +kernel, by decide +kernel, by decide +kernel⟩, by decide +kernel⟩
theorem al_mi_X6_remove : al_mi yX6_remove cX6_remove 2 none 1 := ⟨al_mv_X6_remove, al_in_X6_remove, al_se_X6_remove⟩
set_option maxHeartbeats 4000000 in
set_option maxRecDepth 100000 in
theorem al_X6_remove (l : Launch) (D : va_G) (cy : al_CY) (ad : Nat → Nat) (σ : al_St) (t : Nat) (ht : t < 6) (x : Int32) : al_MS l yX6_remove cX6_remove 2 none 1 22 D cy ad σ [.ref (ad (8 + t)), .int x] none (al_set σ (2 * t) x (-2)) := by
  refine al_met al_mv_X6_remove (Nat.le_of_ble_eq_true rfl) ?_
  intro p e s m args below meth c ls S hr hlocks hK hW hS hl
  have hl : lv_has ls 2 [(0, .ref (ad (8 + t))), (1, .int x)] := hl
  refine lv_aload_n S.1 S.2.1 dX6_remove_0 rfl (lv_at hl 0 rfl) ?_
  refine al_g_RX6_12 S hK hW (t := t) (by omega) dX6_remove_1 ?_
  refine lv_iload_n S.1 S.2.1 dX6_remove_4 rfl (lv_at hl 1 rfl) ?_
  refine lv_bipush (v := -2) S.1 S.2.1 dX6_remove_5 (by decide) ?_
  refine al_cS (rest := []) S hK hW hS (al_X2_set l D cy ad σ (2 * t) (by omega) x (-2)) al_mi_X2_set al_ml_RX6_28 rfl (al_rc_R D cy ad _ (i := 2 * t) (by omega)) rfl hl.1 rfl (Nat.le_of_ble_eq_true rfl) dX6_remove_7 ⟨Nat.le_of_ble_eq_true rfl, Nat.le_of_ble_eq_true rfl⟩ ⟨Nat.zero_le _, Nat.zero_le _⟩ (fun H locs hW hS => ?_)
  refine W.eq (g2 := F0 m 10 ls []) rfl ?_
  exact W.vret S.1 S.2.1 hr (fun t9 ht9 _ => ⟨rfl, by rw [ht9]; exact hW, hS.F ht9⟩) hS.2.2 dX6_remove_10
theorem al_mv_X6_hang : al_mv yX6_hang cX6_hang 3 none 2 := ⟨al_c_X6_hang, al_ini_RX6, ⟨by decide +kernel, by decide +kernel, by decide +kernel⟩, by decide +kernel⟩
theorem al_mi_X6_hang : al_mi yX6_hang cX6_hang 3 none 2 := ⟨al_mv_X6_hang, al_in_X6_hang, al_se_X6_hang⟩
set_option maxHeartbeats 4000000 in
set_option maxRecDepth 100000 in
theorem al_X6_hang (l : Launch) (D : va_G) (cy : al_CY) (ad : Nat → Nat) (σ : al_St) (t : Nat) (ht : t < 6) (x : Int32) (u : Int32) : al_MS l yX6_hang cX6_hang 3 none 1 22 D cy ad σ [.ref (ad (8 + t)), .int x, .int u] none (al_set σ (2 * t) x u) := by
  refine al_met al_mv_X6_hang (Nat.le_of_ble_eq_true rfl) ?_
  intro p e s m args below meth c ls S hr hlocks hK hW hS hl
  have hl : lv_has ls 3 [(0, .ref (ad (8 + t))), (1, .int x), (2, .int u)] := hl
  refine lv_aload_n S.1 S.2.1 dX6_hang_0 rfl (lv_at hl 0 rfl) ?_
  refine al_g_RX6_12 S hK hW (t := t) (by omega) dX6_hang_1 ?_
  refine lv_iload_n S.1 S.2.1 dX6_hang_4 rfl (lv_at hl 1 rfl) ?_
  refine lv_iload_n S.1 S.2.1 dX6_hang_5 rfl (lv_at hl 2 rfl) ?_
  refine al_cS (rest := []) S hK hW hS (al_X2_set l D cy ad σ (2 * t) (by omega) x u) al_mi_X2_set al_ml_RX6_28 rfl (al_rc_R D cy ad _ (i := 2 * t) (by omega)) rfl hl.1 rfl (Nat.le_of_ble_eq_true rfl) dX6_hang_6 ⟨Nat.le_of_ble_eq_true rfl, Nat.le_of_ble_eq_true rfl⟩ ⟨Nat.zero_le _, Nat.zero_le _⟩ (fun H locs hW hS => ?_)
  refine W.eq (g2 := F0 m 9 ls []) rfl ?_
  exact W.vret S.1 S.2.1 hr (fun t9 ht9 _ => ⟨rfl, by rw [ht9]; exact hW, hS.F ht9⟩) hS.2.2 dX6_hang_9
theorem al_mv_X6_copyFrom : al_mv yX6_copyFrom cX6_copyFrom 2 none 1 := ⟨al_c_X6_copyFrom, al_ini_RX6, ⟨by decide +kernel, by decide +kernel, by decide +kernel⟩, by decide +kernel⟩
theorem al_mi_X6_copyFrom : al_mi yX6_copyFrom cX6_copyFrom 2 none 1 := ⟨al_mv_X6_copyFrom, al_in_X6_copyFrom, al_se_X6_copyFrom⟩
set_option maxHeartbeats 4000000 in
set_option maxRecDepth 100000 in
theorem al_X6_copyFrom (l : Launch) (D : va_G) (cy : al_CY) (ad : Nat → Nat) (σ : al_St) (t : Nat) (ht : t < 6) (u : Nat) (hu : u < 6) : al_MS l yX6_copyFrom cX6_copyFrom 2 none 2 43 D cy ad σ [.ref (ad (8 + t)), .ref (ad (8 + u))] none (al_copyT σ t u) := by
  refine al_met al_mv_X6_copyFrom (Nat.le_of_ble_eq_true rfl) ?_
  intro p e s m args below meth c ls S hr hlocks hK hW hS hl
  have hl : lv_has ls 2 [(0, .ref (ad (8 + t))), (1, .ref (ad (8 + u)))] := hl
  refine lv_aload_n S.1 S.2.1 dX6_copyFrom_0 rfl (lv_at hl 0 rfl) ?_
  refine al_g_RX6_12 S hK hW (t := t) (by omega) dX6_copyFrom_1 ?_
  refine lv_aload_n S.1 S.2.1 dX6_copyFrom_4 rfl (lv_at hl 1 rfl) ?_
  refine al_g_RX6_12 S hK hW (t := u) (by omega) dX6_copyFrom_5 ?_
  refine al_cS (rest := []) S hK hW hS (al_X2_copyFrom l D cy ad σ (2 * t) (by omega) (2 * u) (by omega)) al_mi_X2_copyFrom al_ml_RX6_50 rfl (al_rc_R D cy ad _ (i := 2 * t) (by omega)) rfl hl.1 rfl (Nat.le_of_ble_eq_true rfl) dX6_copyFrom_8 ⟨Nat.le_of_ble_eq_true rfl, Nat.le_of_ble_eq_true rfl⟩ ⟨Nat.zero_le _, Nat.zero_le _⟩ (fun H locs hW hS => ?_)
  refine W.eq (g2 := F0 m 11 ls []) rfl ?_
  refine lv_aload_n S.1 S.2.1 dX6_copyFrom_11 rfl (lv_at hl 0 rfl) ?_
  refine al_g_RX6_18 S hK hW (t := t) (by omega) dX6_copyFrom_12 ?_
  refine lv_aload_n S.1 S.2.1 dX6_copyFrom_15 rfl (lv_at hl 1 rfl) ?_
  refine al_g_RX6_18 S hK hW (t := u) (by omega) dX6_copyFrom_16 ?_
  refine al_cS (rest := []) S hK hW hS (al_X2_copyFrom l D cy ad (al_sR σ (2 * t) (σ.1 (2 * u))) (2 * t + 1) (by omega) (2 * u + 1) (by omega)) al_mi_X2_copyFrom al_ml_RX6_50 rfl (al_rc_R D cy ad _ (i := 2 * t + 1) (by omega)) rfl hl.1 rfl (Nat.le_of_ble_eq_true rfl) dX6_copyFrom_19 ⟨Nat.le_of_ble_eq_true rfl, Nat.le_of_ble_eq_true rfl⟩ ⟨Nat.zero_le _, Nat.zero_le _⟩ (fun H locs hW hS => ?_)
  refine W.eq (g2 := F0 m 22 ls []) rfl ?_
  refine lv_aload_n S.1 S.2.1 dX6_copyFrom_22 rfl (lv_at hl 0 rfl) ?_
  refine al_g_RX6_24 S hK hW (t := t) (by omega) dX6_copyFrom_23 ?_
  refine lv_aload_n S.1 S.2.1 dX6_copyFrom_26 rfl (lv_at hl 1 rfl) ?_
  refine al_g_RX6_24 S hK hW (t := u) (by omega) dX6_copyFrom_27 ?_
  refine al_cS (rest := []) S hK hW hS (al_X0_copyFrom l D cy ad (al_sR (al_sR σ (2 * t) (σ.1 (2 * u))) (2 * t + 1) ((al_sR σ (2 * t) (σ.1 (2 * u))).1 (2 * u + 1))) t (by omega) u (by omega)) al_mi_X0_copyFrom al_ml_RX6_54 rfl (al_rc_F D cy ad _ (i := t) (by omega)) rfl hl.1 rfl (Nat.le_of_ble_eq_true rfl) dX6_copyFrom_30 ⟨Nat.le_of_ble_eq_true rfl, Nat.le_of_ble_eq_true rfl⟩ ⟨Nat.zero_le _, Nat.zero_le _⟩ (fun H locs hW hS => ?_)
  refine W.eq (g2 := F0 m 33 ls []) rfl ?_
  refine lv_aload_n S.1 S.2.1 dX6_copyFrom_33 rfl (lv_at hl 0 rfl) ?_
  refine lv_aload_n S.1 S.2.1 dX6_copyFrom_34 rfl (lv_at hl 1 rfl) ?_
  refine al_g_RX6_32 S hK hW (t := u) (by omega) dX6_copyFrom_35 ?_
  refine al_p_RX6_32 S hK hW hS (t := t) (by omega) dX6_copyFrom_38 (fun H locs hW hS => ?_)
  exact W.vret S.1 S.2.1 hr (fun t9 ht9 _ => ⟨rfl, by rw [ht9]; exact (al_He hW rfl), hS.F ht9⟩) hS.2.2 dX6_copyFrom_41
