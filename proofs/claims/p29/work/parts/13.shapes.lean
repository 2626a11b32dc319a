/-! shapes -/
theorem al_15 {n : Nat} (h : n < 15) : ¬ (15 : Int32) ≤ nI n := nI_ge (a := n) (b := 15) h (by omega)
theorem al_15' {n : Nat} (h : n = 15) : (15 : Int32) ≤ nI n := by rw [h]; decide
def al_joinL (σ : al_St) : Nat → Int32 → Int32 → Int32
  | 0, _, a => a
  | n + 1, c, a => if c = -1 then a else al_joinL σ n (al_rg (σ.1 13) c) ((a <<< ((2 * al_rg (σ.1 18) c) &&& 31)) ||| al_rg (σ.1 23) c)
def al_join (σ : al_St) (x : Int32) : Int32 := al_joinL σ 15 (al_rg (σ.1 12) x) 1 <<< ((1 : Int32) &&& 31)
def al_wr1 (σ : al_St) (x : Int32) : al_St := if 15 < al_rg (σ.1 18) x then σ else al_set σ 23 x (al_join σ x)
def al_wrL : Nat → al_St → al_St
  | 0, σ => σ
  | n + 1, σ => al_wrL n (al_wr1 σ (al_rg (σ.1 14) (nI (n + 1) - 1)))
def al_write (σ : al_St) : al_St := al_wrL (σ.2.2.1 9).toNatClampNeg (al_fillR σ 23 0)
def al_likeL (σ : al_St) (x : Int32) : Nat → Nat → Int32 → Int32
  | 0, _, a => a
  | n + 1, k, a => if al_rg (σ.1 23) (nI k) = al_rg (σ.1 23) x then al_likeL σ x n (k + 1) (a + 1) else al_likeL σ x n (k + 1) a
def al_enP (σ : al_St) (v : Int32) : Nat → Nat → Nat
  | 0, k => k
  | n + 1, k => if v ≤ al_rg (σ.1 24) (nI k) then k else al_enP σ v n (k + 1)
def al_enS (k : Nat) : Nat → al_St → al_St
  | 0, σ => σ
  | n + 1, σ => al_enS k n (al_set σ 24 (nI (k + (n + 1))) (al_rg (σ.1 24) (nI (k + (n + 1)) - 1)))
def al_en2 (σ : al_St) (v : Int32) (k : Nat) : al_St := al_sV (al_set (al_enS k ((σ.2.2.1 12).toNatClampNeg - k) σ) 24 (nI k) v) 12 ((al_set (al_enS k ((σ.2.2.1 12).toNatClampNeg - k) σ) 24 (nI k) v).2.2.1 12 + 1)
def al_en1 (σ : al_St) (v : Int32) (k : Nat) : al_St := if σ.2.2.1 12 ≤ nI k then al_en2 σ v k else if al_rg (σ.1 24) (nI k) = v then σ else al_en2 σ v k
def al_enter (σ : al_St) (v : Int32) : al_St := al_en1 σ v (al_enP σ v (σ.2.2.1 12).toNatClampNeg 0)
theorem al_enP_le (σ : al_St) (v : Int32) : ∀ (n k : Nat), al_enP σ v n k ≤ n + k
  | 0, k => by simp [al_enP]
  | n + 1, k => by
    rw [al_enP]
    split
    · omega
    · have := al_enP_le σ v n (k + 1)
      omega
theorem al_enS_V (k : Nat) : ∀ (n : Nat) (σ : al_St), (al_enS k n σ).2 = σ.2
  | 0, _ => rfl
  | n + 1, σ => by rw [al_enS, al_enS_V k n]; rfl
/-- the number of kinds is a small number -/
def al_kOK (N : Nat) (σ : al_St) : Prop := ∃ K : Nat, K ≤ N ∧ σ.2.2.1 12 = nI K
theorem al_kOK_eq {N : Nat} {σ : al_St} (hN : N < 2 ^ 31) (h : al_kOK N σ) : σ.2.2.1 12 = nI (σ.2.2.1 12).toNatClampNeg ∧ (σ.2.2.1 12).toNatClampNeg ≤ N := by
  obtain ⟨P, h1, h2⟩ := h
  rw [h2, nI_clamp (by omega)]
  exact ⟨rfl, h1⟩
theorem al_en2_K {σ : al_St} {v : Int32} {k N : Nat} (h : al_kOK N σ) : al_kOK (N + 1) (al_en2 σ v k) := by
  obtain ⟨K, h1, h2⟩ := h
  refine ⟨K + 1, by omega, ?_⟩
  show (al_enS k ((σ.2.2.1 12).toNatClampNeg - k) σ).2.2.1 12 + 1 = nI (K + 1)
  rw [al_enS_V, h2, nI_1]
theorem al_enter_K {σ : al_St} {v : Int32} {N : Nat} (h : al_kOK N σ) : al_kOK (N + 1) (al_enter σ v) := by
  rw [al_enter, al_en1]
  split
  · exact al_en2_K h
  · split
    · obtain ⟨K, h1, h2⟩ := h
      exact ⟨K, by omega, h2⟩
    · exact al_en2_K h
theorem al_kOK_up {N : Nat} {σ : al_St} (h : al_kOK N σ) : al_kOK (N + 1) σ := by
  obtain ⟨K, h1, h2⟩ := h
  exact ⟨K, by omega, h2⟩
def al_sortL : Nat → Nat → al_St → al_St
  | 0, _, σ => σ
  | n + 1, k, σ => if al_rg (σ.1 23) (nI k) = 0 then al_sortL n (k + 1) σ else al_sortL n (k + 1) (al_enter σ (al_rg (σ.1 23) (nI k)))
def al_sort (σ : al_St) : al_St := al_sortL 90 0 (al_sV σ 12 0)
theorem al_seqI {x : Int32} {k n : Nat} (h : x = nI x.toNatClampNeg) (hk : k ≤ x.toNatClampNeg) (hn : n = x.toNatClampNeg - k) : x = nI (k + n) := by
  rw [show k + n = x.toNatClampNeg by omega]
  exact h
theorem al_mv_X3_shapeOf : al_mv yX3_shapeOf cX3_shapeOf 2 (some .int) 1 := ⟨al_c_X3_shapeOf, al_ini_RX3, ⟨by decide +kernel, by decide +kernel, by decide +kernel⟩, by decide +kernel⟩
theorem al_mi_X3_shapeOf : al_mi yX3_shapeOf cX3_shapeOf 2 (some .int) 1 := ⟨al_mv_X3_shapeOf, al_in_X3_shapeOf, al_se_X3_shapeOf⟩
set_option maxHeartbeats 4000000 in
set_option maxRecDepth 100000 in
theorem al_X3_shapeOf (l : Launch) (D : va_G) (cy : al_CY) (ad : Nat → Nat) (σ : al_St) (x : Int32) : al_MP l yX3_shapeOf cX3_shapeOf 2 (some .int) 1 21 D cy ad σ [.ref (ad (7)), .int x] (some (.int (al_rg (σ.1 23) x))) := by
  refine al_met al_mv_X3_shapeOf (Nat.le_of_ble_eq_true rfl) ?_
  intro p e s m args below meth c ls S hr hlocks hK hW hS hl
  have hl : lv_has ls 2 [(0, .ref (ad (7))), (1, .int x)] := hl
  refine lv_aload_n S.1 S.2.1 dX3_shapeOf_0 rfl (lv_at hl 0 rfl) ?_
  refine al_g_RX3_22 S hK hW dX3_shapeOf_1 ?_
  refine lv_iload_n S.1 S.2.1 dX3_shapeOf_4 rfl (lv_at hl 1 rfl) ?_
  refine al_cP (rest := []) S hK hW (al_X2_get l D cy ad σ 23 (by omega) x) al_mi_X2_get al_ml_RX3_60 rfl (al_rc_R D cy ad _ (i := 23) (by omega)) rfl hl.1 rfl (Nat.le_of_ble_eq_true rfl) dX3_shapeOf_5 ⟨Nat.le_of_ble_eq_true rfl, Nat.le_of_ble_eq_true rfl⟩ ⟨Nat.zero_le _, Nat.zero_le _⟩ ?_
  refine W.eq (g2 := F0 m 8 ls [.int (al_rg (σ.1 23) x)]) rfl ?_
  exact W.iret S.1 S.2.1 hr (fun t9 ht9 _ => ⟨(congrArg (fun z => Outcome.returned (some (Value.int z))) rfl), ht9⟩) (fun q hq => absurd hq List.not_mem_nil) dX3_shapeOf_8
theorem al_mv_X3_kinds : al_mv yX3_kinds cX3_kinds 1 (some .int) 0 := ⟨al_c_X3_kinds, al_ini_RX3, ⟨by decide +kernel, by decide +kernel, by decide +kernel⟩, by decide +kernel⟩
theorem al_mi_X3_kinds : al_mi yX3_kinds cX3_kinds 1 (some .int) 0 := ⟨al_mv_X3_kinds, al_in_X3_kinds, al_se_X3_kinds⟩
set_option maxHeartbeats 4000000 in
set_option maxRecDepth 100000 in
theorem al_X3_kinds (l : Launch) (D : va_G) (cy : al_CY) (ad : Nat → Nat) (σ : al_St) : al_MP l yX3_kinds cX3_kinds 1 (some .int) 0 0 D cy ad σ [.ref (ad (7))] (some (.int (σ.2.2.1 12))) := by
  refine al_met al_mv_X3_kinds (Nat.le_of_ble_eq_true rfl) ?_
  intro p e s m args below meth c ls S hr hlocks hK hW hS hl
  have hl : lv_has ls 1 [(0, .ref (ad (7)))] := hl
  refine lv_aload_n S.1 S.2.1 dX3_kinds_0 rfl (lv_at hl 0 rfl) ?_
  refine al_g_RX3_29 S hK hW dX3_kinds_1 ?_
  exact W.iret S.1 S.2.1 hr (fun t9 ht9 _ => ⟨(congrArg (fun z => Outcome.returned (some (Value.int z))) rfl), ht9⟩) (fun q hq => absurd hq List.not_mem_nil) dX3_kinds_4
set_option maxHeartbeats 4000000 in
set_option maxRecDepth 100000 in
theorem al_lp_X3_join {p : Program} {e : Env} {s : State} {m : MethodId} {args : Array Value} {below : List Frame} {meth : Method} {c : Code} {Q : State → Prop} (l : Launch) (D : va_G) (cy : al_CY) (ad : Nat → Nat) (S : CallFix p m c cX3_join 5 s args al_G RX3) (hK : va_K D vwCl (al_tys cy) s) {H : Heap} {locs : List Loc} {σ : al_St} (hW : al_H D cy ad σ H) : ∀ (n : Nat) (k : Nat) (ch : Int32) (a : Int32) (ls : Array Slot), (k + n = 15) → lv_has ls 5 [(0, .ref (ad (7))), (2, .int a), (3, .int ch), (4, .int (nI k))] → (∀ (a' : Int32) (ls : Array Slot), al_joinL σ n ch a = a' → lv_has ls 5 [(0, .ref (ad (7))), (2, .int a')] → W p l e (al_rm 2 42) s m args below meth c H locs 0 0 Q (F0 m 63 ls [])) → W p l e (al_rm 2 42) s m args below meth c H locs 0 0 Q (F0 m 14 ls []) := by
  intro n
  induction n with
  | zero =>
    intro k ch a ls hk hl K
    refine lv_iload S.1 S.2.1 dX3_join_14 (lv_at hl 3 rfl) ?_
    refine lv_bipush (v := 15) S.1 S.2.1 dX3_join_16 (by decide) ?_
    refine lv_icmp_ge (tgt := 63) S.1 S.2.1 dX3_join_18 (by decide) (fun c1 => ?_) (fun c1 => ?_)
    · exact K a _ (by simp only [al_joinL, if_pos (c1)]) (lv_sub hl [0, 1] rfl)
    · exact absurd (al_15' (by omega)) c1
  | succ n ih =>
    intro k ch a ls hk hl K
    refine lv_iload S.1 S.2.1 dX3_join_14 (lv_at hl 3 rfl) ?_
    refine lv_bipush (v := 15) S.1 S.2.1 dX3_join_16 (by decide) ?_
    refine lv_icmp_ge (tgt := 63) S.1 S.2.1 dX3_join_18 (by decide) (fun c1 => ?_) (fun c1 => ?_)
    · exact absurd c1 (al_15 (by omega))
    · refine lv_iload_n S.1 S.2.1 dX3_join_21 rfl (lv_at hl 2 rfl) ?_
      refine lv_iconst (v := -1) S.1 S.2.1 dX3_join_22 (by decide) ?_
      refine lv_icmp_eq (tgt := 63) S.1 S.2.1 dX3_join_23 (by decide) (fun c2 => ?_) (fun c2 => ?_)
      · exact K a _ (by simp only [al_joinL, if_neg (c1), if_pos (c2)]) (lv_sub hl [0, 1] rfl)
      · refine lv_iload_n S.1 S.2.1 dX3_join_26 rfl (lv_at hl 1 rfl) ?_
        refine lv_iconst (v := 2) S.1 S.2.1 dX3_join_27 (by decide) ?_
        refine lv_aload_n S.1 S.2.1 dX3_join_28 rfl (lv_at hl 0 rfl) ?_
        refine al_g_RX3_15 S hK hW dX3_join_29 ?_
        refine lv_iload_n S.1 S.2.1 dX3_join_32 rfl (lv_at hl 2 rfl) ?_
        refine al_cP (rest := [.int 2, .int a]) S hK hW (al_X4_sizeOf l D cy ad σ ch) al_mi_X4_sizeOf al_ml_RX3_47 rfl (al_rc_4 D cy ad _) rfl hl.1 rfl (Nat.le_of_ble_eq_true rfl) dX3_join_33 ⟨Nat.le_of_ble_eq_true rfl, Nat.le_of_ble_eq_true rfl⟩ ⟨Nat.zero_le _, Nat.zero_le _⟩ ?_
        refine W.eq (g2 := F0 m 36 ls [.int (al_rg (σ.1 18) ch), .int 2, .int a]) rfl ?_
        refine lv_imul S.1 S.2.1 dX3_join_36 ?_
        refine lv_ishl S.1 S.2.1 dX3_join_37 ?_
        refine lv_aload_n S.1 S.2.1 dX3_join_38 rfl (lv_at hl 0 rfl) ?_
        refine al_g_RX3_22 S hK hW dX3_join_39 ?_
        refine lv_iload_n S.1 S.2.1 dX3_join_42 rfl (lv_at hl 2 rfl) ?_
        refine al_cP (rest := [.int (a <<< ((2 * (al_rg (σ.1 18) ch)) &&& 31))]) S hK hW (al_X2_get l D cy ad σ 23 (by omega) ch) al_mi_X2_get al_ml_RX3_60 rfl (al_rc_R D cy ad _ (i := 23) (by omega)) rfl hl.1 rfl (Nat.le_of_ble_eq_true rfl) dX3_join_43 ⟨Nat.le_of_ble_eq_true rfl, Nat.le_of_ble_eq_true rfl⟩ ⟨Nat.zero_le _, Nat.zero_le _⟩ ?_
        refine W.eq (g2 := F0 m 46 ls [.int (al_rg (σ.1 23) ch), .int (a <<< ((2 * (al_rg (σ.1 18) ch)) &&& 31))]) rfl ?_
        refine lv_ior S.1 S.2.1 dX3_join_46 ?_
        refine lv_istore_n (lv' := [(2, .int ((a <<< ((2 * (al_rg (σ.1 18) ch)) &&& 31)) ||| (al_rg (σ.1 23) ch))), (0, .ref (ad (7))), (3, .int ch), (4, .int (nI k))]) S.1 S.2.1 dX3_join_47 rfl hl (by decide) rfl (fun ls hl => ?_)
        refine lv_aload_n S.1 S.2.1 dX3_join_48 rfl (lv_at hl 1 rfl) ?_
        refine al_g_RX3_15 S hK hW dX3_join_49 ?_
        refine lv_iload_n S.1 S.2.1 dX3_join_52 rfl (lv_at hl 2 rfl) ?_
        refine al_cP (rest := []) S hK hW (al_X4_nextChildOf l D cy ad σ ch) al_mi_X4_nextChildOf al_ml_RX3_63 rfl (al_rc_4 D cy ad _) rfl hl.1 rfl (Nat.le_of_ble_eq_true rfl) dX3_join_53 ⟨Nat.le_of_ble_eq_true rfl, Nat.le_of_ble_eq_true rfl⟩ ⟨Nat.zero_le _, Nat.zero_le _⟩ ?_
        refine W.eq (g2 := F0 m 56 ls [.int (al_rg (σ.1 13) ch)]) rfl ?_
        refine lv_istore_n (lv' := [(3, .int (al_rg (σ.1 13) ch)), (2, .int ((a <<< ((2 * (al_rg (σ.1 18) ch)) &&& 31)) ||| (al_rg (σ.1 23) ch))), (0, .ref (ad (7))), (4, .int (nI k))]) S.1 S.2.1 dX3_join_56 rfl hl (by decide) rfl (fun ls hl => ?_)
        refine lv_iinc (k := 3) (v := nI (k + 1)) (lv' := [(4, .int (nI (k + 1))), (3, .int (al_rg (σ.1 13) ch)), (2, .int ((a <<< ((2 * (al_rg (σ.1 18) ch)) &&& 31)) ||| (al_rg (σ.1 23) ch))), (0, .ref (ad (7)))]) S.1 S.2.1 dX3_join_57 hl rfl (al_inc k) (by decide) rfl (fun ls hl => ?_)
        refine lv_goto (tgt := 14) S.1 S.2.1 dX3_join_60 (by decide) ?_
        exact ih (k + 1) (al_rg (σ.1 13) ch) ((a <<< ((2 * (al_rg (σ.1 18) ch)) &&& 31)) ||| (al_rg (σ.1 23) ch)) _ (by omega) (lv_sub hl [3, 2, 1, 0] rfl) (fun a' ls e9 hl => K a' ls (by simp only [al_joinL, if_neg (c1), if_neg (c2)]; exact e9) hl)
theorem al_mv_X3_join : al_mv yX3_join cX3_join 5 (some .int) 1 := ⟨al_c_X3_join, al_ini_RX3, ⟨by decide +kernel, by decide +kernel, by decide +kernel⟩, by decide +kernel⟩
theorem al_mi_X3_join : al_mi yX3_join cX3_join 5 (some .int) 1 := ⟨al_mv_X3_join, al_in_X3_join, al_se_X3_join⟩
set_option maxHeartbeats 4000000 in
set_option maxRecDepth 100000 in
theorem al_X3_join (l : Launch) (D : va_G) (cy : al_CY) (ad : Nat → Nat) (σ : al_St) (x : Int32) : al_MP l yX3_join cX3_join 5 (some .int) 2 42 D cy ad σ [.ref (ad (7)), .int x] (some (.int (al_join σ x))) := by
  refine al_met al_mv_X3_join (Nat.le_of_ble_eq_true rfl) ?_
  intro p e s m args below meth c ls S hr hlocks hK hW hS hl
  have hl : lv_has ls 5 [(0, .ref (ad (7))), (1, .int x)] := hl
  refine lv_iconst (v := 1) S.1 S.2.1 dX3_join_0 (by decide) ?_
  refine lv_istore_n (lv' := [(2, .int 1), (0, .ref (ad (7))), (1, .int x)]) S.1 S.2.1 dX3_join_1 rfl hl (by decide) rfl (fun ls hl => ?_)
  refine lv_aload_n S.1 S.2.1 dX3_join_2 rfl (lv_at hl 1 rfl) ?_
  refine al_g_RX3_15 S hK hW dX3_join_3 ?_
  refine lv_iload_n S.1 S.2.1 dX3_join_6 rfl (lv_at hl 2 rfl) ?_
  refine al_cP (rest := []) S hK hW (al_X4_firstChildOf l D cy ad σ x) al_mi_X4_firstChildOf al_ml_RX3_57 rfl (al_rc_4 D cy ad _) rfl hl.1 rfl (Nat.le_of_ble_eq_true rfl) dX3_join_7 ⟨Nat.le_of_ble_eq_true rfl, Nat.le_of_ble_eq_true rfl⟩ ⟨Nat.zero_le _, Nat.zero_le _⟩ ?_
  refine W.eq (g2 := F0 m 10 ls [.int (al_rg (σ.1 12) x)]) rfl ?_
  refine lv_istore_n (lv' := [(3, .int (al_rg (σ.1 12) x)), (2, .int 1), (0, .ref (ad (7))), (1, .int x)]) S.1 S.2.1 dX3_join_10 rfl hl (by decide) rfl (fun ls hl => ?_)
  refine lv_iconst (v := 0) S.1 S.2.1 dX3_join_11 (by decide) ?_
  refine lv_istore (lv' := [(4, .int 0), (3, .int (al_rg (σ.1 12) x)), (2, .int 1), (0, .ref (ad (7))), (1, .int x)]) S.1 S.2.1 dX3_join_12 hl (by decide) rfl (fun ls hl => ?_)
  refine al_lp_X3_join l D cy ad  S hK hW 15 0 (al_rg (σ.1 12) x) 1 _ (by omega) (lv_sub hl [3, 2, 1, 0] rfl) (fun a1 ls e2 hl => ?_)
  refine lv_iload_n S.1 S.2.1 dX3_join_63 rfl (lv_at hl 1 rfl) ?_
  refine lv_iconst (v := 1) S.1 S.2.1 dX3_join_64 (by decide) ?_
  refine lv_ishl S.1 S.2.1 dX3_join_65 ?_
  exact W.iret S.1 S.2.1 hr (fun t9 ht9 _ => ⟨(congrArg (fun z => Outcome.returned (some (Value.int z))) (by simp only [al_join, e2])), ht9⟩) (fun q hq => absurd hq List.not_mem_nil) dX3_join_66
set_option maxHeartbeats 4000000 in
set_option maxRecDepth 100000 in
theorem al_lp_X3_write {p : Program} {e : Env} {s : State} {m : MethodId} {args : Array Value} {below : List Frame} {meth : Method} {c : Code} {Q : State → Prop} (l : Launch) (D : va_G) (cy : al_CY) (ad : Nat → Nat) (S : CallFix p m c cX3_write 3 s args al_G RX3) (hK : va_K D vwCl (al_tys cy) s) {H0 : Heap} : ∀ (n : Nat) (σ : al_St)  (H : Heap) (locs : List Loc) (ls : Array Slot), (n ≤ 9000) → al_H D cy ad σ H → va_S (al_A ad) H0 H locs → lv_has ls 3 [(0, .ref (ad (7))), (1, .int (nI n - 1))] → (∀ (σ' : al_St) (H : Heap) (locs : List Loc) (ls : Array Slot), al_wrL n σ = σ' → al_H D cy ad σ' H → va_S (al_A ad) H0 H locs → lv_has ls 3 [(0, .ref (ad (7)))] → W p l e (al_rm 3 66) s m args below meth c H locs 0 0 Q (F0 m 63 ls [])) → W p l e (al_rm 3 66) s m args below meth c H locs 0 0 Q (F0 m 18 ls []) := by
  intro n
  induction n with
  | zero =>
    intro σ  H locs ls hn hW hS hl K
    refine lv_iload_n S.1 S.2.1 dX3_write_18 rfl (lv_at hl 1 rfl) ?_
    refine lv_if_lt (tgt := 63) S.1 S.2.1 dX3_write_19 (by decide) (fun c1 => ?_) (fun c1 => ?_)
    · exact K σ  _ _ _ (by simp only [al_wrL, al_wr1, if_pos (c1)]) hW hS (lv_sub hl [0] rfl)
    · exact absurd (by decide) c1
  | succ n ih =>
    intro σ  H locs ls hn hW hS hl K
    refine lv_iload_n S.1 S.2.1 dX3_write_18 rfl (lv_at hl 1 rfl) ?_
    refine lv_if_lt (tgt := 63) S.1 S.2.1 dX3_write_19 (by decide) (fun c1 => ?_) (fun c1 => ?_)
    · exact absurd c1 (by rw [nI_pred]; exact nI_pos (by omega))
    · refine lv_aload_n S.1 S.2.1 dX3_write_22 rfl (lv_at hl 0 rfl) ?_
      refine al_g_RX3_15 S hK hW dX3_write_23 ?_
      refine lv_iload_n S.1 S.2.1 dX3_write_26 rfl (lv_at hl 1 rfl) ?_
      refine al_cP (rest := []) S hK hW (al_X4_downwardAt l D cy ad σ (nI (n + 1) - 1)) al_mi_X4_downwardAt al_ml_RX3_43 rfl (al_rc_4 D cy ad _) rfl hl.1 rfl (Nat.le_of_ble_eq_true rfl) dX3_write_27 ⟨Nat.le_of_ble_eq_true rfl, Nat.le_of_ble_eq_true rfl⟩ ⟨Nat.zero_le _, Nat.zero_le _⟩ ?_
      refine W.eq (g2 := F0 m 30 ls [.int (al_rg (σ.1 14) (nI (n + 1) - 1))]) rfl ?_
      refine lv_istore_n (lv' := [(2, .int (al_rg (σ.1 14) (nI (n + 1) - 1))), (0, .ref (ad (7))), (1, .int (nI (n + 1) - 1))]) S.1 S.2.1 dX3_write_30 rfl hl (by decide) rfl (fun ls hl => ?_)
      refine lv_aload_n S.1 S.2.1 dX3_write_31 rfl (lv_at hl 1 rfl) ?_
      refine al_g_RX3_15 S hK hW dX3_write_32 ?_
      refine lv_iload_n S.1 S.2.1 dX3_write_35 rfl (lv_at hl 0 rfl) ?_
      refine al_cP (rest := []) S hK hW (al_X4_sizeOf l D cy ad σ (al_rg (σ.1 14) (nI (n + 1) - 1))) al_mi_X4_sizeOf al_ml_RX3_47 rfl (al_rc_4 D cy ad _) rfl hl.1 rfl (Nat.le_of_ble_eq_true rfl) dX3_write_36 ⟨Nat.le_of_ble_eq_true rfl, Nat.le_of_ble_eq_true rfl⟩ ⟨Nat.zero_le _, Nat.zero_le _⟩ ?_
      refine W.eq (g2 := F0 m 39 ls [.int (al_rg (σ.1 18) (al_rg (σ.1 14) (nI (n + 1) - 1)))]) rfl ?_
      refine lv_bipush (v := 15) S.1 S.2.1 dX3_write_39 (by decide) ?_
      refine lv_icmp_gt (tgt := 57) S.1 S.2.1 dX3_write_41 (by decide) (fun c2 => ?_) (fun c2 => ?_)
      · refine lv_iinc (k := 2) (v := nI n - 1) (lv' := [(1, .int (nI n - 1)), (2, .int (al_rg (σ.1 14) (nI (n + 1) - 1))), (0, .ref (ad (7)))]) S.1 S.2.1 dX3_write_57 hl rfl (al_decm n) (by decide) rfl (fun ls hl => ?_)
        refine lv_goto (tgt := 18) S.1 S.2.1 dX3_write_60 (by decide) ?_
        exact ih σ  _ _ _ (by omega) hW hS (lv_sub hl [2, 0] rfl) (fun σ'  H locs ls e9 hW hS hl => K σ'  H locs ls (by simp only [al_wrL, al_wr1, if_neg (c1), if_pos (c2)]; exact e9) hW hS hl)
      · refine lv_aload_n S.1 S.2.1 dX3_write_44 rfl (lv_at hl 1 rfl) ?_
        refine al_g_RX3_22 S hK hW dX3_write_45 ?_
        refine lv_iload_n S.1 S.2.1 dX3_write_48 rfl (lv_at hl 0 rfl) ?_
        refine lv_aload_n S.1 S.2.1 dX3_write_49 rfl (lv_at hl 1 rfl) ?_
        refine lv_iload_n S.1 S.2.1 dX3_write_50 rfl (lv_at hl 0 rfl) ?_
        refine al_cP (rest := [.int (al_rg (σ.1 14) (nI (n + 1) - 1)), .ref (ad (14 + 2 * 23))]) S hK hW (al_X3_join l D cy ad σ (al_rg (σ.1 14) (nI (n + 1) - 1))) al_mi_X3_join al_ml_RX3_50 rfl (al_rc_3 D cy ad _) rfl hl.1 rfl (Nat.le_of_ble_eq_true rfl) dX3_write_51 ⟨Nat.le_of_ble_eq_true rfl, Nat.le_of_ble_eq_true rfl⟩ ⟨Nat.zero_le _, Nat.zero_le _⟩ ?_
        refine W.eq (g2 := F0 m 54 ls [.int (al_join σ (al_rg (σ.1 14) (nI (n + 1) - 1))), .int (al_rg (σ.1 14) (nI (n + 1) - 1)), .ref (ad (14 + 2 * 23))]) rfl ?_
        refine al_cS (rest := []) S hK hW hS (al_X2_set l D cy ad σ 23 (by omega) (al_rg (σ.1 14) (nI (n + 1) - 1)) (al_join σ (al_rg (σ.1 14) (nI (n + 1) - 1)))) al_mi_X2_set al_ml_RX3_53 rfl (al_rc_R D cy ad _ (i := 23) (by omega)) rfl hl.1 rfl (Nat.le_of_ble_eq_true rfl) dX3_write_54 ⟨Nat.le_of_ble_eq_true rfl, Nat.le_of_ble_eq_true rfl⟩ ⟨Nat.zero_le _, Nat.zero_le _⟩ (fun H locs hW hS => ?_)
        refine W.eq (g2 := F0 m 57 ls []) rfl ?_
        refine lv_iinc (k := 2) (v := nI n - 1) (lv' := [(1, .int (nI n - 1)), (2, .int (al_rg (σ.1 14) (nI (n + 1) - 1))), (0, .ref (ad (7)))]) S.1 S.2.1 dX3_write_57 hl rfl (al_decm n) (by decide) rfl (fun ls hl => ?_)
        refine lv_goto (tgt := 18) S.1 S.2.1 dX3_write_60 (by decide) ?_
        exact ih (al_set σ 23 (al_rg (σ.1 14) (nI (n + 1) - 1)) (al_join σ (al_rg (σ.1 14) (nI (n + 1) - 1))))  _ _ _ (by omega) hW hS (lv_sub hl [2, 0] rfl) (fun σ'  H locs ls e9 hW hS hl => K σ'  H locs ls (by simp only [al_wrL, al_wr1, if_neg (c1), if_neg (c2)]; exact e9) hW hS hl)
theorem al_mv_X3_write : al_mv yX3_write cX3_write 3 none 0 := ⟨al_c_X3_write, al_ini_RX3, ⟨by decide +kernel, by decide +kernel, by decide +kernel⟩, by decide +kernel⟩
theorem al_mi_X3_write : al_mi yX3_write cX3_write 3 none 0 := ⟨al_mv_X3_write, al_in_X3_write, al_se_X3_write⟩
set_option maxHeartbeats 4000000 in
set_option maxRecDepth 100000 in
theorem al_X3_write (l : Launch) (D : va_G) (cy : al_CY) (ad : Nat → Nat) (σ : al_St) (hP : σ.2.2.1 9 = nI (σ.2.2.1 9).toNatClampNeg) (h9 : (σ.2.2.1 9).toNatClampNeg ≤ 9000) : al_MS l yX3_write cX3_write 3 none 3 66 D cy ad σ [.ref (ad (7))] none (al_write σ) := by
  refine al_met al_mv_X3_write (Nat.le_of_ble_eq_true rfl) ?_
  intro p e s m args below meth c ls S hr hlocks hK hW hS hl
  have hl : lv_has ls 3 [(0, .ref (ad (7)))] := hl
  refine lv_aload_n S.1 S.2.1 dX3_write_0 rfl (lv_at hl 0 rfl) ?_
  refine al_g_RX3_22 S hK hW dX3_write_1 ?_
  refine lv_iconst (v := 0) S.1 S.2.1 dX3_write_4 (by decide) ?_
  refine al_cS (rest := []) S hK hW hS (al_X2_fill l D cy ad σ 23 (by omega) 0) al_mi_X2_fill al_ml_RX3_33 rfl (al_rc_R D cy ad _ (i := 23) (by omega)) rfl hl.1 rfl (Nat.le_of_ble_eq_true rfl) dX3_write_5 ⟨Nat.le_of_ble_eq_true rfl, Nat.le_of_ble_eq_true rfl⟩ ⟨Nat.zero_le _, Nat.zero_le _⟩ (fun H locs hW hS => ?_)
  refine W.eq (g2 := F0 m 8 ls []) rfl ?_
  refine lv_aload_n S.1 S.2.1 dX3_write_8 rfl (lv_at hl 0 rfl) ?_
  refine al_g_RX3_15 S hK hW dX3_write_9 ?_
  refine al_cP (rest := []) S hK hW (al_X4_present l D cy ad (al_sR σ 23 (al_fill 90 0 (σ.1 23))) ) al_mi_X4_present al_ml_RX3_37 rfl (al_rc_4 D cy ad _) rfl hl.1 rfl (Nat.le_of_ble_eq_true rfl) dX3_write_12 ⟨Nat.le_of_ble_eq_true rfl, Nat.le_of_ble_eq_true rfl⟩ ⟨Nat.zero_le _, Nat.zero_le _⟩ ?_
  refine W.eq (g2 := F0 m 15 ls [.int ((al_sR σ 23 (al_fill 90 0 (σ.1 23))).2.2.1 9)]) rfl ?_
  refine lv_iconst (v := 1) S.1 S.2.1 dX3_write_15 (by decide) ?_
  refine lv_isub S.1 S.2.1 dX3_write_16 ?_
  refine lv_istore_n (lv' := [(1, .int (((al_sR σ 23 (al_fill 90 0 (σ.1 23))).2.2.1 9) - 1)), (0, .ref (ad (7)))]) S.1 S.2.1 dX3_write_17 rfl hl (by decide) rfl (fun ls hl => ?_)
  have hl := hl
  rw [show (al_sR σ 23 (al_fill 90 0 (σ.1 23))).2.2.1 9 = nI (σ.2.2.1 9).toNatClampNeg from hP] at hl
  refine al_lp_X3_write l D cy ad  S hK ((σ.2.2.1 9).toNatClampNeg) (al_sR σ 23 (al_fill 90 0 (σ.1 23)))  _ _ _ h9 hW hS (lv_sub hl [1, 0] rfl) (fun σ1 H locs ls e2 hW hS hl => ?_)
  exact W.vret S.1 S.2.1 hr (fun t9 ht9 _ => ⟨rfl, by rw [ht9]; exact (al_He hW (by simp only [al_write, al_fillR, e2])), hS.F ht9⟩) hS.2.2 dX3_write_63
set_option maxHeartbeats 4000000 in
set_option maxRecDepth 100000 in
theorem al_lp_X3_like {p : Program} {e : Env} {s : State} {m : MethodId} {args : Array Value} {below : List Frame} {meth : Method} {c : Code} {Q : State → Prop} (l : Launch) (D : va_G) (cy : al_CY) (ad : Nat → Nat) (x : Int32) (S : CallFix p m c cX3_countLike 4 s args al_G RX3) (hK : va_K D vwCl (al_tys cy) s) {H : Heap} {locs : List Loc} {σ : al_St} (hW : al_H D cy ad σ H) : ∀ (n : Nat) (k : Nat) (a : Int32) (ls : Array Slot), (k + n = 90) → lv_has ls 4 [(0, .ref (ad (7))), (1, .int x), (2, .int a), (3, .int (nI k))] → (∀ (a' : Int32) (ls : Array Slot), al_likeL σ x n k a = a' → lv_has ls 4 [(2, .int a')] → W p l e (al_rm 1 21) s m args below meth c H locs 0 0 Q (F0 m 38 ls [])) → W p l e (al_rm 1 21) s m args below meth c H locs 0 0 Q (F0 m 4 ls []) := by
  intro n
  induction n with
  | zero =>
    intro k a ls hk hl K
    refine lv_iload_n S.1 S.2.1 dX3_countLike_4 rfl (lv_at hl 3 rfl) ?_
    refine lv_bipush (v := 90) S.1 S.2.1 dX3_countLike_5 (by decide) ?_
    refine lv_icmp_ge (tgt := 38) S.1 S.2.1 dX3_countLike_7 (by decide) (fun c1 => ?_) (fun c1 => ?_)
    · exact K a _ (by simp only [al_likeL, if_pos (c1)]) (lv_sub hl [2] rfl)
    · exact absurd (al_90' (by omega)) c1
  | succ n ih =>
    intro k a ls hk hl K
    refine lv_iload_n S.1 S.2.1 dX3_countLike_4 rfl (lv_at hl 3 rfl) ?_
    refine lv_bipush (v := 90) S.1 S.2.1 dX3_countLike_5 (by decide) ?_
    refine lv_icmp_ge (tgt := 38) S.1 S.2.1 dX3_countLike_7 (by decide) (fun c1 => ?_) (fun c1 => ?_)
    · exact absurd c1 (al_90 (by omega))
    · refine lv_aload_n S.1 S.2.1 dX3_countLike_10 rfl (lv_at hl 0 rfl) ?_
      refine al_g_RX3_22 S hK hW dX3_countLike_11 ?_
      refine lv_iload_n S.1 S.2.1 dX3_countLike_14 rfl (lv_at hl 3 rfl) ?_
      refine al_cP (rest := []) S hK hW (al_X2_get l D cy ad σ 23 (by omega) (nI k)) al_mi_X2_get al_ml_RX3_60 rfl (al_rc_R D cy ad _ (i := 23) (by omega)) rfl hl.1 rfl (Nat.le_of_ble_eq_true rfl) dX3_countLike_15 ⟨Nat.le_of_ble_eq_true rfl, Nat.le_of_ble_eq_true rfl⟩ ⟨Nat.zero_le _, Nat.zero_le _⟩ ?_
      refine W.eq (g2 := F0 m 18 ls [.int (al_rg (σ.1 23) (nI k))]) rfl ?_
      refine lv_aload_n S.1 S.2.1 dX3_countLike_18 rfl (lv_at hl 0 rfl) ?_
      refine al_g_RX3_22 S hK hW dX3_countLike_19 ?_
      refine lv_iload_n S.1 S.2.1 dX3_countLike_22 rfl (lv_at hl 1 rfl) ?_
      refine al_cP (rest := [.int (al_rg (σ.1 23) (nI k))]) S hK hW (al_X2_get l D cy ad σ 23 (by omega) x) al_mi_X2_get al_ml_RX3_60 rfl (al_rc_R D cy ad _ (i := 23) (by omega)) rfl hl.1 rfl (Nat.le_of_ble_eq_true rfl) dX3_countLike_23 ⟨Nat.le_of_ble_eq_true rfl, Nat.le_of_ble_eq_true rfl⟩ ⟨Nat.zero_le _, Nat.zero_le _⟩ ?_
      refine W.eq (g2 := F0 m 26 ls [.int (al_rg (σ.1 23) x), .int (al_rg (σ.1 23) (nI k))]) rfl ?_
      refine lv_icmp_ne (tgt := 32) S.1 S.2.1 dX3_countLike_26 (by decide) (fun c2 => ?_) (fun c2 => ?_)
      · refine lv_iinc (k := 3) (v := nI (k + 1)) (lv' := [(3, .int (nI (k + 1))), (0, .ref (ad (7))), (1, .int x), (2, .int a)]) S.1 S.2.1 dX3_countLike_32 hl rfl (al_inc k) (by decide) rfl (fun ls hl => ?_)
        refine lv_goto (tgt := 4) S.1 S.2.1 dX3_countLike_35 (by decide) ?_
        exact ih (k + 1) a _ (by omega) (lv_sub hl [1, 2, 3, 0] rfl) (fun a' ls e9 hl => K a' ls (by simp only [al_likeL, if_neg (c1), if_neg (c2)]; exact e9) hl)
      · refine lv_iinc (k := 2) (v := a + 1) (lv' := [(2, .int (a + 1)), (0, .ref (ad (7))), (1, .int x), (3, .int (nI k))]) S.1 S.2.1 dX3_countLike_29 hl rfl rfl (by decide) rfl (fun ls hl => ?_)
        refine lv_iinc (k := 3) (v := nI (k + 1)) (lv' := [(3, .int (nI (k + 1))), (2, .int (a + 1)), (0, .ref (ad (7))), (1, .int x)]) S.1 S.2.1 dX3_countLike_32 hl rfl (al_inc k) (by decide) rfl (fun ls hl => ?_)
        refine lv_goto (tgt := 4) S.1 S.2.1 dX3_countLike_35 (by decide) ?_
        exact ih (k + 1) (a + 1) _ (by omega) (lv_sub hl [2, 3, 1, 0] rfl) (fun a' ls e9 hl => K a' ls (by simp only [al_likeL, if_neg (c1), if_pos (c2)]; exact e9) hl)
theorem al_mv_X3_countLike : al_mv yX3_countLike cX3_countLike 4 (some .int) 1 := ⟨al_c_X3_countLike, al_ini_RX3, ⟨by decide +kernel, by decide +kernel, by decide +kernel⟩, by decide +kernel⟩
theorem al_mi_X3_countLike : al_mi yX3_countLike cX3_countLike 4 (some .int) 1 := ⟨al_mv_X3_countLike, al_in_X3_countLike, al_se_X3_countLike⟩
set_option maxHeartbeats 4000000 in
set_option maxRecDepth 100000 in
theorem al_X3_countLike (l : Launch) (D : va_G) (cy : al_CY) (ad : Nat → Nat) (σ : al_St) (x : Int32) : al_MP l yX3_countLike cX3_countLike 4 (some .int) 1 21 D cy ad σ [.ref (ad (7)), .int x] (some (.int (al_likeL σ x 90 0 0))) := by
  refine al_met al_mv_X3_countLike (Nat.le_of_ble_eq_true rfl) ?_
  intro p e s m args below meth c ls S hr hlocks hK hW hS hl
  have hl : lv_has ls 4 [(0, .ref (ad (7))), (1, .int x)] := hl
  refine lv_iconst (v := 0) S.1 S.2.1 dX3_countLike_0 (by decide) ?_
  refine lv_istore_n (lv' := [(2, .int 0), (0, .ref (ad (7))), (1, .int x)]) S.1 S.2.1 dX3_countLike_1 rfl hl (by decide) rfl (fun ls hl => ?_)
  refine lv_iconst (v := 0) S.1 S.2.1 dX3_countLike_2 (by decide) ?_
  refine lv_istore_n (lv' := [(3, .int 0), (2, .int 0), (0, .ref (ad (7))), (1, .int x)]) S.1 S.2.1 dX3_countLike_3 rfl hl (by decide) rfl (fun ls hl => ?_)
  refine al_lp_X3_like l D cy ad x S hK hW 90 0 0 _ (by omega) (lv_sub hl [2, 3, 1, 0] rfl) (fun a1 ls e2 hl => ?_)
  refine lv_iload_n S.1 S.2.1 dX3_countLike_38 rfl (lv_at hl 0 rfl) ?_
  exact W.iret S.1 S.2.1 hr (fun t9 ht9 _ => ⟨(congrArg (fun z => Outcome.returned (some (Value.int z))) (by simp only [e2])), ht9⟩) (fun q hq => absurd hq List.not_mem_nil) dX3_countLike_39
set_option maxHeartbeats 4000000 in
set_option maxRecDepth 100000 in
theorem al_lp_X3_enP {p : Program} {e : Env} {s : State} {m : MethodId} {args : Array Value} {below : List Frame} {meth : Method} {c : Code} {Q : State → Prop} (l : Launch) (D : va_G) (cy : al_CY) (ad : Nat → Nat) (v : Int32) (S : CallFix p m c cX3_enter 4 s args al_G RX3) (hK : va_K D vwCl (al_tys cy) s) {H : Heap} {locs : List Loc} {σ : al_St} (hW : al_H D cy ad σ H) : ∀ (n : Nat) (k : Nat) (ls : Array Slot), (n + k = (σ.2.2.1 12).toNatClampNeg) → lv_has ls 4 [(0, .ref (ad (7))), (1, .int v), (2, .int (nI k))] → (∀ (k' : Nat) (ls : Array Slot), al_enP σ v n k = k' → lv_has ls 4 [(0, .ref (ad (7))), (1, .int v), (2, .int (nI k'))] → W p l e (al_rm 1 22) s m args below meth c H locs 0 0 Q (F0 m 28 ls [])) → W p l e (al_rm 1 22) s m args below meth c H locs 0 0 Q (F0 m 2 ls []) := by
  intro n
  induction n with
  | zero =>
    intro k ls hk hl K
    refine lv_iload_n S.1 S.2.1 dX3_enter_2 rfl (lv_at hl 2 rfl) ?_
    refine lv_aload_n S.1 S.2.1 dX3_enter_3 rfl (lv_at hl 0 rfl) ?_
    refine al_g_RX3_29 S hK hW dX3_enter_4 ?_
    refine lv_icmp_ge (tgt := 28) S.1 S.2.1 dX3_enter_7 (by decide) (fun c1 => ?_) (fun c1 => ?_)
    · exact K k _ (by simp only [al_enP, if_pos (c1)]) (lv_sub hl [0, 1, 2] rfl)
    · exact absurd ((al_le_nI (Nat.lt_of_le_of_lt (show k ≤ (σ.2.2.1 12).toNatClampNeg by omega) (al_tn_lt _))).mpr (by omega)) c1
  | succ n ih =>
    intro k ls hk hl K
    refine lv_iload_n S.1 S.2.1 dX3_enter_2 rfl (lv_at hl 2 rfl) ?_
    refine lv_aload_n S.1 S.2.1 dX3_enter_3 rfl (lv_at hl 0 rfl) ?_
    refine al_g_RX3_29 S hK hW dX3_enter_4 ?_
    refine lv_icmp_ge (tgt := 28) S.1 S.2.1 dX3_enter_7 (by decide) (fun c1 => ?_) (fun c1 => ?_)
    · exact absurd c1 (fun hc => absurd ((al_le_nI (Nat.lt_of_le_of_lt (show k ≤ (σ.2.2.1 12).toNatClampNeg by omega) (al_tn_lt _))).mp hc) (by omega))
    · refine lv_aload_n S.1 S.2.1 dX3_enter_10 rfl (lv_at hl 0 rfl) ?_
      refine al_g_RX3_26 S hK hW dX3_enter_11 ?_
      refine lv_iload_n S.1 S.2.1 dX3_enter_14 rfl (lv_at hl 2 rfl) ?_
      refine al_cP (rest := []) S hK hW (al_X2_get l D cy ad σ 24 (by omega) (nI k)) al_mi_X2_get al_ml_RX3_60 rfl (al_rc_R D cy ad _ (i := 24) (by omega)) rfl hl.1 rfl (Nat.le_of_ble_eq_true rfl) dX3_enter_15 ⟨Nat.le_of_ble_eq_true rfl, Nat.le_of_ble_eq_true rfl⟩ ⟨Nat.zero_le _, Nat.zero_le _⟩ ?_
      refine W.eq (g2 := F0 m 18 ls [.int (al_rg (σ.1 24) (nI k))]) rfl ?_
      refine lv_iload_n S.1 S.2.1 dX3_enter_18 rfl (lv_at hl 1 rfl) ?_
      refine lv_icmp_ge (tgt := 28) S.1 S.2.1 dX3_enter_19 (by decide) (fun c2 => ?_) (fun c2 => ?_)
      · exact K k _ (by simp only [al_enP, if_neg (c1), if_pos (c2)]) (lv_sub hl [0, 1, 2] rfl)
      · refine lv_iinc (k := 2) (v := nI (k + 1)) (lv' := [(2, .int (nI (k + 1))), (0, .ref (ad (7))), (1, .int v)]) S.1 S.2.1 dX3_enter_22 hl rfl (al_inc k) (by decide) rfl (fun ls hl => ?_)
        refine lv_goto (tgt := 2) S.1 S.2.1 dX3_enter_25 (by decide) ?_
        exact ih (k + 1) _ (by omega) (lv_sub hl [1, 2, 0] rfl) (fun k' ls e9 hl => K k' ls (by simp only [al_enP, if_neg (c1), if_neg (c2)]; exact e9) hl)
set_option maxHeartbeats 4000000 in
set_option maxRecDepth 100000 in
theorem al_lp_X3_enS {p : Program} {e : Env} {s : State} {m : MethodId} {args : Array Value} {below : List Frame} {meth : Method} {c : Code} {Q : State → Prop} (l : Launch) (D : va_G) (cy : al_CY) (ad : Nat → Nat) (k : Nat) (v : Int32) (S : CallFix p m c cX3_enter 4 s args al_G RX3) (hK : va_K D vwCl (al_tys cy) s) {H0 : Heap} : ∀ (n : Nat) (σ : al_St)  (H : Heap) (locs : List Loc) (ls : Array Slot), (k + n < 2 ^ 31) → al_H D cy ad σ H → va_S (al_A ad) H0 H locs → lv_has ls 4 [(0, .ref (ad (7))), (1, .int v), (2, .int (nI k)), (3, .int (nI (k + n)))] → (∀ (σ' : al_St) (H : Heap) (locs : List Loc) (ls : Array Slot), al_enS k n σ = σ' → al_H D cy ad σ' H → va_S (al_A ad) H0 H locs → lv_has ls 4 [(0, .ref (ad (7))), (1, .int v), (2, .int (nI k))] → W p l e (al_rm 1 22) s m args below meth c H locs 0 0 Q (F0 m 83 ls [])) → W p l e (al_rm 1 22) s m args below meth c H locs 0 0 Q (F0 m 54 ls []) := by
  intro n
  induction n with
  | zero =>
    intro σ  H locs ls hn hW hS hl K
    refine lv_iload_n S.1 S.2.1 dX3_enter_54 rfl (lv_at hl 3 rfl) ?_
    refine lv_iload_n S.1 S.2.1 dX3_enter_55 rfl (lv_at hl 2 rfl) ?_
    refine lv_icmp_le (tgt := 83) S.1 S.2.1 dX3_enter_56 (by decide) (fun c1 => ?_) (fun c1 => ?_)
    · exact K σ  _ _ _ (by simp only [al_enS, if_pos (c1)]) hW hS (lv_sub hl [0, 1, 2] rfl)
    · exact absurd (nI_le (by omega) (by omega)) c1
  | succ n ih =>
    intro σ  H locs ls hn hW hS hl K
    refine lv_iload_n S.1 S.2.1 dX3_enter_54 rfl (lv_at hl 3 rfl) ?_
    refine lv_iload_n S.1 S.2.1 dX3_enter_55 rfl (lv_at hl 2 rfl) ?_
    refine lv_icmp_le (tgt := 83) S.1 S.2.1 dX3_enter_56 (by decide) (fun c1 => ?_) (fun c1 => ?_)
    · exact absurd c1 (nI_ge (by omega) (by omega))
    · refine lv_aload_n S.1 S.2.1 dX3_enter_59 rfl (lv_at hl 0 rfl) ?_
      refine al_g_RX3_26 S hK hW dX3_enter_60 ?_
      refine lv_iload_n S.1 S.2.1 dX3_enter_63 rfl (lv_at hl 3 rfl) ?_
      refine lv_aload_n S.1 S.2.1 dX3_enter_64 rfl (lv_at hl 0 rfl) ?_
      refine al_g_RX3_26 S hK hW dX3_enter_65 ?_
      refine lv_iload_n S.1 S.2.1 dX3_enter_68 rfl (lv_at hl 3 rfl) ?_
      refine lv_iconst (v := 1) S.1 S.2.1 dX3_enter_69 (by decide) ?_
      refine lv_isub S.1 S.2.1 dX3_enter_70 ?_
      refine al_cP (rest := [.int (nI (k + (n + 1))), .ref (ad (14 + 2 * 24))]) S hK hW (al_X2_get l D cy ad σ 24 (by omega) ((nI (k + (n + 1))) - 1)) al_mi_X2_get al_ml_RX3_60 rfl (al_rc_R D cy ad _ (i := 24) (by omega)) rfl hl.1 rfl (Nat.le_of_ble_eq_true rfl) dX3_enter_71 ⟨Nat.le_of_ble_eq_true rfl, Nat.le_of_ble_eq_true rfl⟩ ⟨Nat.zero_le _, Nat.zero_le _⟩ ?_
      refine W.eq (g2 := F0 m 74 ls [.int (al_rg (σ.1 24) ((nI (k + (n + 1))) - 1)), .int (nI (k + (n + 1))), .ref (ad (14 + 2 * 24))]) rfl ?_
      refine al_cS (rest := []) S hK hW hS (al_X2_set l D cy ad σ 24 (by omega) (nI (k + (n + 1))) (al_rg (σ.1 24) ((nI (k + (n + 1))) - 1))) al_mi_X2_set al_ml_RX3_53 rfl (al_rc_R D cy ad _ (i := 24) (by omega)) rfl hl.1 rfl (Nat.le_of_ble_eq_true rfl) dX3_enter_74 ⟨Nat.le_of_ble_eq_true rfl, Nat.le_of_ble_eq_true rfl⟩ ⟨Nat.zero_le _, Nat.zero_le _⟩ (fun H locs hW hS => ?_)
      refine W.eq (g2 := F0 m 77 ls []) rfl ?_
      refine lv_iinc (k := 3) (v := nI (k + n)) (lv' := [(3, .int (nI (k + n))), (0, .ref (ad (7))), (1, .int v), (2, .int (nI k))]) S.1 S.2.1 dX3_enter_77 hl rfl (pk_m1 (k + n)) (by decide) rfl (fun ls hl => ?_)
      refine lv_goto (tgt := 54) S.1 S.2.1 dX3_enter_80 (by decide) ?_
      exact ih (al_set σ 24 (nI (k + (n + 1))) (al_rg (σ.1 24) ((nI (k + (n + 1))) - 1)))  _ _ _ (by omega) hW hS (lv_sub hl [1, 2, 3, 0] rfl) (fun σ'  H locs ls e9 hW hS hl => K σ'  H locs ls (by simp only [al_enS, if_neg (c1)]; exact e9) hW hS hl)
theorem al_mv_X3_enter : al_mv yX3_enter cX3_enter 4 none 1 := ⟨al_c_X3_enter, al_ini_RX3, ⟨by decide +kernel, by decide +kernel, by decide +kernel⟩, by decide +kernel⟩
theorem al_mi_X3_enter : al_mi yX3_enter cX3_enter 4 none 1 := ⟨al_mv_X3_enter, al_in_X3_enter, al_se_X3_enter⟩
set_option maxHeartbeats 4000000 in
set_option maxRecDepth 100000 in
theorem al_X3_enter (l : Launch) (D : va_G) (cy : al_CY) (ad : Nat → Nat) (σ : al_St) (v : Int32) (hK9 : al_kOK 90 σ) : al_MS l yX3_enter cX3_enter 4 none 1 22 D cy ad σ [.ref (ad (7)), .int v] none (al_enter σ v) := by
  have hk0 := al_kOK_eq (by omega) hK9
  refine al_met al_mv_X3_enter (Nat.le_of_ble_eq_true rfl) ?_
  intro p e s m args below meth c ls S hr hlocks hK hW hS hl
  have hl : lv_has ls 4 [(0, .ref (ad (7))), (1, .int v)] := hl
  refine lv_iconst (v := 0) S.1 S.2.1 dX3_enter_0 (by decide) ?_
  refine lv_istore_n (lv' := [(2, .int 0), (0, .ref (ad (7))), (1, .int v)]) S.1 S.2.1 dX3_enter_1 rfl hl (by decide) rfl (fun ls hl => ?_)
  refine al_lp_X3_enP l D cy ad v S hK hW ((σ.2.2.1 12).toNatClampNeg) 0 _ (Nat.add_zero _) (lv_sub hl [1, 2, 0] rfl) (fun k1 ls e2 hl => ?_)
  refine lv_iload_n S.1 S.2.1 dX3_enter_28 rfl (lv_at hl 2 rfl) ?_
  refine lv_aload_n S.1 S.2.1 dX3_enter_29 rfl (lv_at hl 0 rfl) ?_
  refine al_g_RX3_29 S hK hW dX3_enter_30 ?_
  refine lv_icmp_ge (tgt := 49) S.1 S.2.1 dX3_enter_33 (by decide) (fun c3 => ?_) (fun c3 => ?_)
  · refine lv_aload_n S.1 S.2.1 dX3_enter_49 rfl (lv_at hl 0 rfl) ?_
    refine al_g_RX3_29 S hK hW dX3_enter_50 ?_
    refine lv_istore_n (lv' := [(3, .int (σ.2.2.1 12)), (0, .ref (ad (7))), (1, .int v), (2, .int (nI k1))]) S.1 S.2.1 dX3_enter_53 rfl hl (by decide) rfl (fun ls hl => ?_)
    have hq : k1 ≤ (σ.2.2.1 12).toNatClampNeg := by rw [← e2]; exact al_enP_le σ v _ 0
    rw [al_seqI hk0.1 hq rfl] at hl
    refine al_lp_X3_enS l D cy ad k1 v S hK ((σ.2.2.1 12).toNatClampNeg - k1) σ  _ _ _ (by omega) hW hS (lv_sub hl [1, 2, 3, 0] rfl) (fun σ4 H locs ls e5 hW hS hl => ?_)
    refine lv_aload_n S.1 S.2.1 dX3_enter_83 rfl (lv_at hl 0 rfl) ?_
    refine al_g_RX3_26 S hK hW dX3_enter_84 ?_
    refine lv_iload_n S.1 S.2.1 dX3_enter_87 rfl (lv_at hl 2 rfl) ?_
    refine lv_iload_n S.1 S.2.1 dX3_enter_88 rfl (lv_at hl 1 rfl) ?_
    refine al_cS (rest := []) S hK hW hS (al_X2_set l D cy ad σ4 24 (by omega) (nI k1) v) al_mi_X2_set al_ml_RX3_53 rfl (al_rc_R D cy ad _ (i := 24) (by omega)) rfl hl.1 rfl (Nat.le_of_ble_eq_true rfl) dX3_enter_89 ⟨Nat.le_of_ble_eq_true rfl, Nat.le_of_ble_eq_true rfl⟩ ⟨Nat.zero_le _, Nat.zero_le _⟩ (fun H locs hW hS => ?_)
    refine W.eq (g2 := F0 m 92 ls []) rfl ?_
    refine lv_aload_n S.1 S.2.1 dX3_enter_92 rfl (lv_at hl 0 rfl) ?_
    refine lv_dup S.1 S.2.1 dX3_enter_93 rfl ?_
    refine al_g_RX3_29 S hK hW dX3_enter_94 ?_
    refine lv_iconst (v := 1) S.1 S.2.1 dX3_enter_97 (by decide) ?_
    refine lv_iadd S.1 S.2.1 dX3_enter_98 ?_
    refine al_p_RX3_29 S hK hW hS dX3_enter_99 (fun H locs hW hS => ?_)
    exact W.vret S.1 S.2.1 hr (fun t9 ht9 _ => ⟨rfl, by rw [ht9]; exact (al_He hW (by simp only [al_enter, al_en1, al_en2, if_pos (c3), e2, e5])), hS.F ht9⟩) hS.2.2 dX3_enter_102
  · refine lv_aload_n S.1 S.2.1 dX3_enter_36 rfl (lv_at hl 0 rfl) ?_
    refine al_g_RX3_26 S hK hW dX3_enter_37 ?_
    refine lv_iload_n S.1 S.2.1 dX3_enter_40 rfl (lv_at hl 2 rfl) ?_
    refine al_cP (rest := []) S hK hW (al_X2_get l D cy ad σ 24 (by omega) (nI k1)) al_mi_X2_get al_ml_RX3_60 rfl (al_rc_R D cy ad _ (i := 24) (by omega)) rfl hl.1 rfl (Nat.le_of_ble_eq_true rfl) dX3_enter_41 ⟨Nat.le_of_ble_eq_true rfl, Nat.le_of_ble_eq_true rfl⟩ ⟨Nat.zero_le _, Nat.zero_le _⟩ ?_
    refine W.eq (g2 := F0 m 44 ls [.int (al_rg (σ.1 24) (nI k1))]) rfl ?_
    refine lv_iload_n S.1 S.2.1 dX3_enter_44 rfl (lv_at hl 1 rfl) ?_
    refine lv_icmp_ne (tgt := 49) S.1 S.2.1 dX3_enter_45 (by decide) (fun c6 => ?_) (fun c6 => ?_)
    · refine lv_aload_n S.1 S.2.1 dX3_enter_49 rfl (lv_at hl 0 rfl) ?_
      refine al_g_RX3_29 S hK hW dX3_enter_50 ?_
      refine lv_istore_n (lv' := [(3, .int (σ.2.2.1 12)), (0, .ref (ad (7))), (1, .int v), (2, .int (nI k1))]) S.1 S.2.1 dX3_enter_53 rfl hl (by decide) rfl (fun ls hl => ?_)
      have hq : k1 ≤ (σ.2.2.1 12).toNatClampNeg := by rw [← e2]; exact al_enP_le σ v _ 0
      rw [al_seqI hk0.1 hq rfl] at hl
      refine al_lp_X3_enS l D cy ad k1 v S hK ((σ.2.2.1 12).toNatClampNeg - k1) σ  _ _ _ (by omega) hW hS (lv_sub hl [1, 2, 3, 0] rfl) (fun σ7 H locs ls e8 hW hS hl => ?_)
      refine lv_aload_n S.1 S.2.1 dX3_enter_83 rfl (lv_at hl 0 rfl) ?_
      refine al_g_RX3_26 S hK hW dX3_enter_84 ?_
      refine lv_iload_n S.1 S.2.1 dX3_enter_87 rfl (lv_at hl 2 rfl) ?_
      refine lv_iload_n S.1 S.2.1 dX3_enter_88 rfl (lv_at hl 1 rfl) ?_
      refine al_cS (rest := []) S hK hW hS (al_X2_set l D cy ad σ7 24 (by omega) (nI k1) v) al_mi_X2_set al_ml_RX3_53 rfl (al_rc_R D cy ad _ (i := 24) (by omega)) rfl hl.1 rfl (Nat.le_of_ble_eq_true rfl) dX3_enter_89 ⟨Nat.le_of_ble_eq_true rfl, Nat.le_of_ble_eq_true rfl⟩ ⟨Nat.zero_le _, Nat.zero_le _⟩ (fun H locs hW hS => ?_)
      refine W.eq (g2 := F0 m 92 ls []) rfl ?_
      refine lv_aload_n S.1 S.2.1 dX3_enter_92 rfl (lv_at hl 0 rfl) ?_
      refine lv_dup S.1 S.2.1 dX3_enter_93 rfl ?_
      refine al_g_RX3_29 S hK hW dX3_enter_94 ?_
      refine lv_iconst (v := 1) S.1 S.2.1 dX3_enter_97 (by decide) ?_
      refine lv_iadd S.1 S.2.1 dX3_enter_98 ?_
      refine al_p_RX3_29 S hK hW hS dX3_enter_99 (fun H locs hW hS => ?_)
      exact W.vret S.1 S.2.1 hr (fun t9 ht9 _ => ⟨rfl, by rw [ht9]; exact (al_He hW (by simp only [al_enter, al_en1, al_en2, if_neg (c3), if_neg (c6), e2, e8])), hS.F ht9⟩) hS.2.2 dX3_enter_102
    · exact W.vret S.1 S.2.1 hr (fun t9 ht9 _ => ⟨rfl, by rw [ht9]; exact (al_He hW (by simp only [al_enter, al_en1, al_en2, if_neg (c3), if_pos (c6), e2])), hS.F ht9⟩) hS.2.2 dX3_enter_48
set_option maxHeartbeats 4000000 in
set_option maxRecDepth 100000 in
theorem al_lp_X3_sort {p : Program} {e : Env} {s : State} {m : MethodId} {args : Array Value} {below : List Frame} {meth : Method} {c : Code} {Q : State → Prop} (l : Launch) (D : va_G) (cy : al_CY) (ad : Nat → Nat) (S : CallFix p m c cX3_sort 2 s args al_G RX3) (hK : va_K D vwCl (al_tys cy) s) {H0 : Heap} : ∀ (n : Nat) (σ : al_St) (k : Nat) (H : Heap) (locs : List Loc) (ls : Array Slot), (k + n = 90) → (al_kOK k σ) → al_H D cy ad σ H → va_S (al_A ad) H0 H locs → lv_has ls 2 [(0, .ref (ad (7))), (1, .int (nI k))] → (∀ (σ' : al_St) (H : Heap) (locs : List Loc) (ls : Array Slot), al_sortL n k σ = σ' → al_H D cy ad σ' H → va_S (al_A ad) H0 H locs → lv_has ls 2 [(0, .ref (ad (7)))] → W p l e (al_rm 2 45) s m args below meth c H locs 0 0 Q (F0 m 42 ls [])) → W p l e (al_rm 2 45) s m args below meth c H locs 0 0 Q (F0 m 7 ls []) := by
  intro n
  induction n with
  | zero =>
    intro σ k H locs ls hk hq hW hS hl K
    refine lv_iload_n S.1 S.2.1 dX3_sort_7 rfl (lv_at hl 1 rfl) ?_
    refine lv_bipush (v := 90) S.1 S.2.1 dX3_sort_8 (by decide) ?_
    refine lv_icmp_ge (tgt := 42) S.1 S.2.1 dX3_sort_10 (by decide) (fun c1 => ?_) (fun c1 => ?_)
    · exact K σ  _ _ _ (by simp only [al_sortL, if_pos (c1)]) hW hS (lv_sub hl [0] rfl)
    · exact absurd (al_90' (by omega)) c1
  | succ n ih =>
    intro σ k H locs ls hk hq hW hS hl K
    refine lv_iload_n S.1 S.2.1 dX3_sort_7 rfl (lv_at hl 1 rfl) ?_
    refine lv_bipush (v := 90) S.1 S.2.1 dX3_sort_8 (by decide) ?_
    refine lv_icmp_ge (tgt := 42) S.1 S.2.1 dX3_sort_10 (by decide) (fun c1 => ?_) (fun c1 => ?_)
    · exact absurd c1 (al_90 (by omega))
    · refine lv_aload_n S.1 S.2.1 dX3_sort_13 rfl (lv_at hl 0 rfl) ?_
      refine al_g_RX3_22 S hK hW dX3_sort_14 ?_
      refine lv_iload_n S.1 S.2.1 dX3_sort_17 rfl (lv_at hl 1 rfl) ?_
      refine al_cP (rest := []) S hK hW (al_X2_get l D cy ad σ 23 (by omega) (nI k)) al_mi_X2_get al_ml_RX3_60 rfl (al_rc_R D cy ad _ (i := 23) (by omega)) rfl hl.1 rfl (Nat.le_of_ble_eq_true rfl) dX3_sort_18 ⟨Nat.le_of_ble_eq_true rfl, Nat.le_of_ble_eq_true rfl⟩ ⟨Nat.zero_le _, Nat.zero_le _⟩ ?_
      refine W.eq (g2 := F0 m 21 ls [.int (al_rg (σ.1 23) (nI k))]) rfl ?_
      refine lv_if_eq (tgt := 36) S.1 S.2.1 dX3_sort_21 (by decide) (fun c2 => ?_) (fun c2 => ?_)
      · refine lv_iinc (k := 1) (v := nI (k + 1)) (lv' := [(1, .int (nI (k + 1))), (0, .ref (ad (7)))]) S.1 S.2.1 dX3_sort_36 hl rfl (al_inc k) (by decide) rfl (fun ls hl => ?_)
        refine lv_goto (tgt := 7) S.1 S.2.1 dX3_sort_39 (by decide) ?_
        exact ih σ (k + 1) _ _ _ (by omega) (al_kOK_up hq) hW hS (lv_sub hl [1, 0] rfl) (fun σ'  H locs ls e9 hW hS hl => K σ'  H locs ls (by simp only [al_sortL, if_neg (c1), if_pos (c2)]; exact e9) hW hS hl)
      · refine lv_aload_n S.1 S.2.1 dX3_sort_24 rfl (lv_at hl 0 rfl) ?_
        refine lv_aload_n S.1 S.2.1 dX3_sort_25 rfl (lv_at hl 0 rfl) ?_
        refine al_g_RX3_22 S hK hW dX3_sort_26 ?_
        refine lv_iload_n S.1 S.2.1 dX3_sort_29 rfl (lv_at hl 1 rfl) ?_
        refine al_cP (rest := [.ref (ad (7))]) S hK hW (al_X2_get l D cy ad σ 23 (by omega) (nI k)) al_mi_X2_get al_ml_RX3_60 rfl (al_rc_R D cy ad _ (i := 23) (by omega)) rfl hl.1 rfl (Nat.le_of_ble_eq_true rfl) dX3_sort_30 ⟨Nat.le_of_ble_eq_true rfl, Nat.le_of_ble_eq_true rfl⟩ ⟨Nat.zero_le _, Nat.zero_le _⟩ ?_
        refine W.eq (g2 := F0 m 33 ls [.int (al_rg (σ.1 23) (nI k)), .ref (ad (7))]) rfl ?_
        refine al_cS (rest := []) S hK hW hS (al_X3_enter l D cy ad σ (al_rg (σ.1 23) (nI k)) (by obtain ⟨K, q1, q2⟩ := hq; exact ⟨K, by omega, q2⟩)) al_mi_X3_enter al_ml_RX3_66 rfl (al_rc_3 D cy ad _) rfl hl.1 rfl (Nat.le_of_ble_eq_true rfl) dX3_sort_33 ⟨Nat.le_of_ble_eq_true rfl, Nat.le_of_ble_eq_true rfl⟩ ⟨Nat.zero_le _, Nat.zero_le _⟩ (fun H locs hW hS => ?_)
        refine W.eq (g2 := F0 m 36 ls []) rfl ?_
        refine lv_iinc (k := 1) (v := nI (k + 1)) (lv' := [(1, .int (nI (k + 1))), (0, .ref (ad (7)))]) S.1 S.2.1 dX3_sort_36 hl rfl (al_inc k) (by decide) rfl (fun ls hl => ?_)
        refine lv_goto (tgt := 7) S.1 S.2.1 dX3_sort_39 (by decide) ?_
        exact ih (al_enter σ (al_rg (σ.1 23) (nI k))) (k + 1) _ _ _ (by omega) (al_enter_K hq) hW hS (lv_sub hl [1, 0] rfl) (fun σ'  H locs ls e9 hW hS hl => K σ'  H locs ls (by simp only [al_sortL, if_neg (c1), if_neg (c2)]; exact e9) hW hS hl)
theorem al_mv_X3_sort : al_mv yX3_sort cX3_sort 2 none 0 := ⟨al_c_X3_sort, al_ini_RX3, ⟨by decide +kernel, by decide +kernel, by decide +kernel⟩, by decide +kernel⟩
theorem al_mi_X3_sort : al_mi yX3_sort cX3_sort 2 none 0 := ⟨al_mv_X3_sort, al_in_X3_sort, al_se_X3_sort⟩
set_option maxHeartbeats 4000000 in
set_option maxRecDepth 100000 in
theorem al_X3_sort (l : Launch) (D : va_G) (cy : al_CY) (ad : Nat → Nat) (σ : al_St) : al_MS l yX3_sort cX3_sort 2 none 2 45 D cy ad σ [.ref (ad (7))] none (al_sort σ) := by
  refine al_met al_mv_X3_sort (Nat.le_of_ble_eq_true rfl) ?_
  intro p e s m args below meth c ls S hr hlocks hK hW hS hl
  have hl : lv_has ls 2 [(0, .ref (ad (7)))] := hl
  refine lv_aload_n S.1 S.2.1 dX3_sort_0 rfl (lv_at hl 0 rfl) ?_
  refine lv_iconst (v := 0) S.1 S.2.1 dX3_sort_1 (by decide) ?_
  refine al_p_RX3_29 S hK hW hS dX3_sort_2 (fun H locs hW hS => ?_)
  refine lv_iconst (v := 0) S.1 S.2.1 dX3_sort_5 (by decide) ?_
  refine lv_istore_n (lv' := [(1, .int 0), (0, .ref (ad (7)))]) S.1 S.2.1 dX3_sort_6 rfl hl (by decide) rfl (fun ls hl => ?_)
  refine al_lp_X3_sort l D cy ad  S hK 90 (al_sV σ 12 0) 0 _ _ _ (by omega) ⟨0, Nat.le_refl _, rfl⟩ hW hS (lv_sub hl [1, 0] rfl) (fun σ1 H locs ls e2 hW hS hl => ?_)
  exact W.vret S.1 S.2.1 hr (fun t9 ht9 _ => ⟨rfl, by rw [ht9]; exact (al_He hW (by simp only [al_sort, e2])), hS.F ht9⟩) hS.2.2 dX3_sort_42
