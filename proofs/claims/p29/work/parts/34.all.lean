/-! all -/
theorem al_c1 {τ : al_St} {E : Nat} {d : Nat → Nat} {q : List Nat} (hg : al_GG τ E d q) : (al_count τ 1).1 = nI E := by
  rw [al_count, if_neg (by decide), if_pos rfl]
  exact hg.2.1
set_option maxHeartbeats 4000000 in
set_option maxRecDepth 100000 in
theorem al_sg_allA {p : Program} {e : Env} {s : State} {m : MethodId} {args : Array Value} {below : List Frame} {meth : Method} {c : Code} {Q : State → Prop} (l : Launch) (D : va_G) (cy : al_CY) (ad : Nat → Nat) {τ : al_St} {E : Nat} {d : Nat → Nat} {q : List Nat} (hg : al_GG τ E d q) (S : CallFix p m c cL_all 5 s args al_G RL) (hK : va_K D vwCl (al_tys cy) s) {H0 : Heap} (K : ∀ (σ : al_St) (H : Heap) (locs : List Loc) (ls : Array Slot), al_Rl τ σ → al_H D cy ad σ H → va_S (al_A ad) H0 H locs → lv_has ls 5 [(0, .ref (ad (0))), (1, .long (al_allA τ 8))] → W p l e (al_rm 5 111) s m args below meth c H locs 0 0 Q (F0 m 31 ls [])) : ∀ (n k : Nat), k + n = 8 → ∀ (σ : al_St) (H : Heap) (locs : List Loc) (ls : Array Slot), al_Rl τ σ → al_H D cy ad σ H → va_S (al_A ad) H0 H locs → lv_has ls 5 [(0, .ref (ad (0))), (1, .long (al_allA τ k)), (3, .int (nI k))] → W p l e (al_rm 5 111) s m args below meth c H locs 0 0 Q (F0 m 6 ls []) := by
  intro n
  induction n with
  | zero =>
    intro k hk σ H locs ls hR hW hS hl
    obtain rfl : k = 8 := by omega
    refine lv_iload_n S.1 S.2.1 dL_all_6 rfl (lv_at hl 2 rfl) ?_
    refine lv_bipush (v := 8) S.1 S.2.1 dL_all_7 (by decide) ?_
    refine lv_icmp_ge (tgt := 31) S.1 S.2.1 dL_all_9 (by decide) (fun c1 => ?_) (fun c1 => ?_)
    · exact K _ _ _ _ hR hW hS (lv_sub hl [0, 1] rfl)
    · exact absurd (nI_le (a := 8) (by omega) (by omega)) c1
  | succ n ih =>
    intro k hk σ H locs ls hR hW hS hl
    refine lv_iload_n S.1 S.2.1 dL_all_6 rfl (lv_at hl 2 rfl) ?_
    refine lv_bipush (v := 8) S.1 S.2.1 dL_all_7 (by decide) ?_
    refine lv_icmp_ge (tgt := 31) S.1 S.2.1 dL_all_9 (by decide) (fun c1 => ?_) (fun c1 => ?_)
    · exact absurd c1 (nI_ge (b := 8) (by omega) (by omega))
    · refine lv_ldc2 S.1 S.2.1 S.2.2.2.1 (S.2.2.2.2 _ al_k_RL_10) dL_all_12 ?_
      refine lv_lload_n S.1 S.2.1 dL_all_15 rfl (lv_at hl 1 rfl) ?_
      refine lv_lmul S.1 S.2.1 dL_all_16 ?_
      refine lv_aload_n S.1 S.2.1 dL_all_17 rfl (lv_at hl 0 rfl) ?_
      refine lv_iload_n S.1 S.2.1 dL_all_18 rfl (lv_at hl 2 rfl) ?_
      refine al_cS (rest := [.long (31 * (al_allA τ k))]) S hK hW hS (al_X8_count l D cy ad σ (nI k) (al_pOK_R hg hR)) al_mi_X8_count al_ml_RL_12 rfl (al_rc_8 D cy ad _) rfl hl.1 rfl (Nat.le_of_ble_eq_true rfl) dL_all_19 ⟨Nat.le_of_ble_eq_true rfl, Nat.le_of_ble_eq_true rfl⟩ ⟨Nat.zero_le _, Nat.zero_le _⟩ (fun H locs hW hS => ?_)
      refine W.eq (g2 := F0 m 22 ls [.int ((al_count τ (nI k)).1), .long (31 * (al_allA τ k))]) (congrArg (fun z => F0 m 22 ls (Value.int z :: [.long (31 * (al_allA τ k))])) (al_countV hg hR (nI k))) ?_
      obtain ⟨σ, hR, hW⟩ : ∃ σ9, al_Rl τ σ9 ∧ al_H D cy ad σ9 H := ⟨_, al_count_Rl hg hR _, hW⟩
      refine lv_i2l S.1 S.2.1 dL_all_22 rfl ?_
      refine lv_ladd S.1 S.2.1 dL_all_23 ?_
      refine lv_lstore_n (lv' := [(1, .long ((31 * (al_allA τ k)) + (((al_count τ (nI k)).1).toInt64))), (0, .ref (ad (0))), (3, .int (nI k))]) S.1 S.2.1 dL_all_24 rfl hl (by decide) rfl (fun ls hl => ?_)
      refine lv_iinc (k := 2) (v := nI (k + 1)) (lv' := [(3, .int (nI (k + 1))), (1, .long ((31 * (al_allA τ k)) + (((al_count τ (nI k)).1).toInt64))), (0, .ref (ad (0)))]) S.1 S.2.1 dL_all_25 hl rfl (al_inc k) (by decide) rfl (fun ls hl => ?_)
      refine lv_goto (tgt := 6) S.1 S.2.1 dL_all_28 (by decide) ?_
      exact ih (k + 1) (by omega) _ _ _ _ hR hW hS (lv_sub hl [2, 1, 0] rfl)
set_option maxHeartbeats 4000000 in
set_option maxRecDepth 100000 in
theorem al_sg_allC {p : Program} {e : Env} {s : State} {m : MethodId} {args : Array Value} {below : List Frame} {meth : Method} {c : Code} {Q : State → Prop} (l : Launch) (D : va_G) (cy : al_CY) (ad : Nat → Nat) {τ : al_St} {E : Nat} {d : Nat → Nat} {q : List Nat} (hg : al_GG τ E d q) (v : Nat) (a : Int64) (S : CallFix p m c cL_all 5 s args al_G RL) (hK : va_K D vwCl (al_tys cy) s) {H0 : Heap} (K : ∀ (σ : al_St) (H : Heap) (locs : List Loc) (ls : Array Slot), al_Rl τ σ → al_H D cy ad σ H → va_S (al_A ad) H0 H locs → lv_has ls 5 [(0, .ref (ad (0))), (1, .long (al_allC τ v a 10)), (3, .int (nI v))] → W p l e (al_rm 5 111) s m args below meth c H locs 0 0 Q (F0 m 73 ls [])) : ∀ (n k : Nat), k + n = 10 → ∀ (σ : al_St) (H : Heap) (locs : List Loc) (ls : Array Slot), al_Rl τ σ → al_H D cy ad σ H → va_S (al_A ad) H0 H locs → lv_has ls 5 [(0, .ref (ad (0))), (1, .long (al_allC τ v a k)), (3, .int (nI v)), (4, .int (nI k))] → W p l e (al_rm 5 111) s m args below meth c H locs 0 0 Q (F0 m 45 ls []) := by
  intro n
  induction n with
  | zero =>
    intro k hk σ H locs ls hR hW hS hl
    obtain rfl : k = 10 := by omega
    refine lv_iload S.1 S.2.1 dL_all_45 (lv_at hl 3 rfl) ?_
    refine lv_bipush (v := 10) S.1 S.2.1 dL_all_47 (by decide) ?_
    refine lv_icmp_ge (tgt := 73) S.1 S.2.1 dL_all_49 (by decide) (fun c1 => ?_) (fun c1 => ?_)
    · exact K _ _ _ _ hR hW hS (lv_sub hl [0, 1, 2] rfl)
    · exact absurd (nI_le (a := 10) (by omega) (by omega)) c1
  | succ n ih =>
    intro k hk σ H locs ls hR hW hS hl
    refine lv_iload S.1 S.2.1 dL_all_45 (lv_at hl 3 rfl) ?_
    refine lv_bipush (v := 10) S.1 S.2.1 dL_all_47 (by decide) ?_
    refine lv_icmp_ge (tgt := 73) S.1 S.2.1 dL_all_49 (by decide) (fun c1 => ?_) (fun c1 => ?_)
    · exact absurd c1 (nI_ge (b := 10) (by omega) (by omega))
    · refine lv_ldc2 S.1 S.2.1 S.2.2.2.1 (S.2.2.2.2 _ al_k_RL_10) dL_all_52 ?_
      refine lv_lload_n S.1 S.2.1 dL_all_55 rfl (lv_at hl 1 rfl) ?_
      refine lv_lmul S.1 S.2.1 dL_all_56 ?_
      refine lv_aload_n S.1 S.2.1 dL_all_57 rfl (lv_at hl 0 rfl) ?_
      refine lv_iload_n S.1 S.2.1 dL_all_58 rfl (lv_at hl 2 rfl) ?_
      refine lv_iload S.1 S.2.1 dL_all_59 (lv_at hl 3 rfl) ?_
      refine al_cP (rest := [.long (31 * (al_allC τ v a k))]) S hK hW (al_X8_node l D cy ad σ (nI v) (nI k)) al_mi_X8_node al_ml_RL_18 rfl (al_rc_8 D cy ad _) rfl hl.1 rfl (Nat.le_of_ble_eq_true rfl) dL_all_61 ⟨Nat.le_of_ble_eq_true rfl, Nat.le_of_ble_eq_true rfl⟩ ⟨Nat.zero_le _, Nat.zero_le _⟩ ?_
      refine W.eq (g2 := F0 m 64 ls [.int (al_node τ (nI v) (nI k)), .long (31 * (al_allC τ v a k))]) (congrArg (fun z => F0 m 64 ls (Value.int z :: [.long (31 * (al_allC τ v a k))])) (hR.node (nI v) (nI k))) ?_
      refine lv_i2l S.1 S.2.1 dL_all_64 rfl ?_
      refine lv_ladd S.1 S.2.1 dL_all_65 ?_
      refine lv_lstore_n (lv' := [(1, .long ((31 * (al_allC τ v a k)) + ((al_node τ (nI v) (nI k)).toInt64))), (0, .ref (ad (0))), (3, .int (nI v)), (4, .int (nI k))]) S.1 S.2.1 dL_all_66 rfl hl (by decide) rfl (fun ls hl => ?_)
      refine lv_iinc (k := 3) (v := nI (k + 1)) (lv' := [(4, .int (nI (k + 1))), (1, .long ((31 * (al_allC τ v a k)) + ((al_node τ (nI v) (nI k)).toInt64))), (0, .ref (ad (0))), (3, .int (nI v))]) S.1 S.2.1 dL_all_67 hl rfl (al_inc k) (by decide) rfl (fun ls hl => ?_)
      refine lv_goto (tgt := 45) S.1 S.2.1 dL_all_70 (by decide) ?_
      exact ih (k + 1) (by omega) _ _ _ _ hR hW hS (lv_sub hl [2, 1, 3, 0] rfl)
set_option maxHeartbeats 4000000 in
set_option maxRecDepth 100000 in
theorem al_sg_allB {p : Program} {e : Env} {s : State} {m : MethodId} {args : Array Value} {below : List Frame} {meth : Method} {c : Code} {Q : State → Prop} (l : Launch) (D : va_G) (cy : al_CY) (ad : Nat → Nat) {τ : al_St} {E : Nat} {d : Nat → Nat} {q : List Nat} (hg : al_GG τ E d q) (S : CallFix p m c cL_all 5 s args al_G RL) (hK : va_K D vwCl (al_tys cy) s) {H0 : Heap} (K : ∀ (σ : al_St) (H : Heap) (locs : List Loc) (ls : Array Slot), al_Rl τ σ → al_H D cy ad σ H → va_S (al_A ad) H0 H locs → lv_has ls 5 [(0, .ref (ad (0))), (1, .long (al_allB τ E))] → W p l e (al_rm 5 111) s m args below meth c H locs 0 0 Q (F0 m 103 ls [])) : ∀ (n v : Nat), v + n = E → ∀ (σ : al_St) (H : Heap) (locs : List Loc) (ls : Array Slot), al_Rl τ σ → al_H D cy ad σ H → va_S (al_A ad) H0 H locs → lv_has ls 5 [(0, .ref (ad (0))), (1, .long (al_allB τ v)), (3, .int (nI v))] → W p l e (al_rm 5 111) s m args below meth c H locs 0 0 Q (F0 m 33 ls []) := by
  intro n
  induction n with
  | zero =>
    intro v hk σ H locs ls hR hW hS hl
    have hE9 := hg.1.2.1
    refine lv_iload_n S.1 S.2.1 dL_all_33 rfl (lv_at hl 2 rfl) ?_
    refine lv_aload_n S.1 S.2.1 dL_all_34 rfl (lv_at hl 0 rfl) ?_
    refine lv_iconst (v := 1) S.1 S.2.1 dL_all_35 (by decide) ?_
    refine al_cS (rest := [.int (nI v)]) S hK hW hS (al_X8_count l D cy ad σ 1 (al_pOK_R hg hR)) al_mi_X8_count al_ml_RL_12 rfl (al_rc_8 D cy ad _) rfl hl.1 rfl (Nat.le_of_ble_eq_true rfl) dL_all_36 ⟨Nat.le_of_ble_eq_true rfl, Nat.le_of_ble_eq_true rfl⟩ ⟨Nat.zero_le _, Nat.zero_le _⟩ (fun H locs hW hS => ?_)
    refine W.eq (g2 := F0 m 39 ls [.int (nI E), .int (nI v)]) (congrArg (fun z => F0 m 39 ls (Value.int z :: [.int (nI v)])) ((al_countV hg hR 1).trans (al_c1 hg))) ?_
    obtain ⟨σ, hR, hW⟩ : ∃ σ9, al_Rl τ σ9 ∧ al_H D cy ad σ9 H := ⟨_, al_count_Rl hg hR _, hW⟩
    refine lv_icmp_ge (tgt := 103) S.1 S.2.1 dL_all_39 (by decide) (fun c1 => ?_) (fun c1 => ?_)
    · exact K _ _ _ _ hR hW hS (by rw [show E = v by omega]; exact (lv_sub hl [0, 1] rfl))
    · exact absurd (nI_le (by omega) (by omega)) c1
  | succ n ih =>
    intro v hk σ H locs ls hR hW hS hl
    have hE9 := hg.1.2.1
    refine lv_iload_n S.1 S.2.1 dL_all_33 rfl (lv_at hl 2 rfl) ?_
    refine lv_aload_n S.1 S.2.1 dL_all_34 rfl (lv_at hl 0 rfl) ?_
    refine lv_iconst (v := 1) S.1 S.2.1 dL_all_35 (by decide) ?_
    refine al_cS (rest := [.int (nI v)]) S hK hW hS (al_X8_count l D cy ad σ 1 (al_pOK_R hg hR)) al_mi_X8_count al_ml_RL_12 rfl (al_rc_8 D cy ad _) rfl hl.1 rfl (Nat.le_of_ble_eq_true rfl) dL_all_36 ⟨Nat.le_of_ble_eq_true rfl, Nat.le_of_ble_eq_true rfl⟩ ⟨Nat.zero_le _, Nat.zero_le _⟩ (fun H locs hW hS => ?_)
    refine W.eq (g2 := F0 m 39 ls [.int (nI E), .int (nI v)]) (congrArg (fun z => F0 m 39 ls (Value.int z :: [.int (nI v)])) ((al_countV hg hR 1).trans (al_c1 hg))) ?_
    obtain ⟨σ, hR, hW⟩ : ∃ σ9, al_Rl τ σ9 ∧ al_H D cy ad σ9 H := ⟨_, al_count_Rl hg hR _, hW⟩
    refine lv_icmp_ge (tgt := 103) S.1 S.2.1 dL_all_39 (by decide) (fun c1 => ?_) (fun c1 => ?_)
    · exact absurd c1 (nI_ge (by omega) (by omega))
    · refine lv_iconst (v := 0) S.1 S.2.1 dL_all_42 (by decide) ?_
      refine lv_istore (lv' := [(4, .int 0), (0, .ref (ad (0))), (1, .long (al_allB τ v)), (3, .int (nI v))]) S.1 S.2.1 dL_all_43 hl (by decide) rfl (fun ls hl => ?_)
      refine al_sg_allC l D cy ad hg v (al_allB τ v) S hK ?_ 10 0 (by omega) σ _ _ _ hR hW hS (lv_sub hl [1, 2, 3, 0] rfl)
      intro σ H locs ls hR hW hS hl
      refine lv_ldc2 S.1 S.2.1 S.2.2.2.1 (S.2.2.2.2 _ al_k_RL_10) dL_all_73 ?_
      refine lv_lload_n S.1 S.2.1 dL_all_76 rfl (lv_at hl 1 rfl) ?_
      refine lv_lmul S.1 S.2.1 dL_all_77 ?_
      refine lv_aload_n S.1 S.2.1 dL_all_78 rfl (lv_at hl 0 rfl) ?_
      refine lv_iload_n S.1 S.2.1 dL_all_79 rfl (lv_at hl 2 rfl) ?_
      refine al_cS (rest := [.long (31 * (al_allC τ v (al_allB τ v) 10))]) S hK hW hS (al_X8_shape l D cy ad σ (nI v) (al_pOK_R hg hR)) al_mi_X8_shape al_ml_RL_22 rfl (al_rc_8 D cy ad _) rfl hl.1 rfl (Nat.le_of_ble_eq_true rfl) dL_all_80 ⟨Nat.le_of_ble_eq_true rfl, Nat.le_of_ble_eq_true rfl⟩ ⟨Nat.zero_le _, Nat.zero_le _⟩ (fun H locs hW hS => ?_)
      refine W.eq (g2 := F0 m 83 ls [.int ((al_shape τ (nI v)).1), .long (31 * (al_allC τ v (al_allB τ v) 10))]) (congrArg (fun z => F0 m 83 ls (Value.int z :: [.long (31 * (al_allC τ v (al_allB τ v) 10))])) (al_shapeV hg hR (nI v))) ?_
      obtain ⟨σ, hR, hW⟩ : ∃ σ9, al_Rl τ σ9 ∧ al_H D cy ad σ9 H := ⟨_, al_shape_Rl hg hR _, hW⟩
      refine lv_i2l S.1 S.2.1 dL_all_83 rfl ?_
      refine lv_ladd S.1 S.2.1 dL_all_84 ?_
      refine lv_ldc2 S.1 S.2.1 S.2.2.2.1 (S.2.2.2.2 _ al_k_RL_25) dL_all_85 ?_
      refine lv_aload_n S.1 S.2.1 dL_all_88 rfl (lv_at hl 0 rfl) ?_
      refine lv_iload_n S.1 S.2.1 dL_all_89 rfl (lv_at hl 2 rfl) ?_
      refine al_cS (rest := [.long 7, .long ((31 * (al_allC τ v (al_allB τ v) 10)) + (((al_shape τ (nI v)).1).toInt64))]) S hK hW hS (al_X8_farthest l D cy ad σ (nI v) hR.2.2.2.2) al_mi_X8_farthest al_ml_RL_27 rfl (al_rc_8 D cy ad _) rfl hl.1 rfl (Nat.le_of_ble_eq_true rfl) dL_all_90 ⟨Nat.le_of_ble_eq_true rfl, Nat.le_of_ble_eq_true rfl⟩ ⟨Nat.zero_le _, Nat.zero_le _⟩ (fun H locs hW hS => ?_)
      refine W.eq (g2 := F0 m 93 ls [.int ((al_far τ (nI v)).1), .long 7, .long ((31 * (al_allC τ v (al_allB τ v) 10)) + (((al_shape τ (nI v)).1).toInt64))]) (congrArg (fun z => F0 m 93 ls (Value.int z :: [.long 7, .long ((31 * (al_allC τ v (al_allB τ v) 10)) + (((al_shape τ (nI v)).1).toInt64))])) (al_farV hg hR (nI v))) ?_
      obtain ⟨σ, hR, hW⟩ : ∃ σ9, al_Rl τ σ9 ∧ al_H D cy ad σ9 H := ⟨_, al_farR hg hR _, hW⟩
      refine lv_i2l S.1 S.2.1 dL_all_93 rfl ?_
      refine lv_lmul S.1 S.2.1 dL_all_94 ?_
      refine lv_ladd S.1 S.2.1 dL_all_95 ?_
      refine lv_lstore_n (lv' := [(1, .long (((31 * (al_allC τ v (al_allB τ v) 10)) + (((al_shape τ (nI v)).1).toInt64)) + (7 * (((al_far τ (nI v)).1).toInt64)))), (0, .ref (ad (0))), (3, .int (nI v))]) S.1 S.2.1 dL_all_96 rfl hl (by decide) rfl (fun ls hl => ?_)
      refine lv_iinc (k := 2) (v := nI (v + 1)) (lv' := [(3, .int (nI (v + 1))), (1, .long (((31 * (al_allC τ v (al_allB τ v) 10)) + (((al_shape τ (nI v)).1).toInt64)) + (7 * (((al_far τ (nI v)).1).toInt64)))), (0, .ref (ad (0)))]) S.1 S.2.1 dL_all_97 hl rfl (al_inc v) (by decide) rfl (fun ls hl => ?_)
      refine lv_goto (tgt := 33) S.1 S.2.1 dL_all_100 (by decide) ?_
      exact ih (v + 1) (by omega) _ _ _ _ hR hW hS (lv_sub hl [2, 1, 0] rfl)
theorem al_mv_L_all : al_mv yL_all cL_all 5 (some .long) 1 := ⟨al_c_L_all, al_ini_RL, ⟨by decide +kernel, by decide +kernel, by decide +kernel⟩, by decide +kernel⟩
theorem al_ms_L_all : al_mst yL_all cL_all 5 (some .long) 1 := ⟨al_mv_L_all, al_st_L_all⟩
set_option maxHeartbeats 4000000 in
set_option maxRecDepth 100000 in
theorem al_L_all (l : Launch) (D : va_G) (cy : al_CY) (ad : Nat → Nat) {τ σ : al_St} {E : Nat} {d : Nat → Nat} {q : List Nat} (hg : al_GG τ E d q) (hR : al_Rl τ σ) : al_MR l yL_all cL_all 5 (some .long) 5 111 D cy ad τ σ [.ref (ad (0))] (some (.long (al_all τ))) := by
  refine al_met al_mv_L_all (Nat.le_of_ble_eq_true rfl) ?_
  intro p e s m args below meth c ls S hr hlocks hK hW hS hl
  have hl : lv_has ls 5 [(0, .ref (ad (0)))] := hl
  refine lv_ldc2 S.1 S.2.1 S.2.2.2.1 (S.2.2.2.2 _ al_k_RL_8) dL_all_0 ?_
  refine lv_lstore_n (lv' := [(1, .long 71), (0, .ref (ad (0)))]) S.1 S.2.1 dL_all_3 rfl hl (by decide) rfl (fun ls hl => ?_)
  refine lv_iconst (v := 0) S.1 S.2.1 dL_all_4 (by decide) ?_
  refine lv_istore_n (lv' := [(3, .int 0), (1, .long 71), (0, .ref (ad (0)))]) S.1 S.2.1 dL_all_5 rfl hl (by decide) rfl (fun ls hl => ?_)
  refine al_sg_allA l D cy ad hg S hK ?_ 8 0 (by omega) σ _ _ _ hR hW hS (lv_sub hl [2, 1, 0] rfl)
  intro σ H locs ls hR hW hS hl
  refine lv_iconst (v := 0) S.1 S.2.1 dL_all_31 (by decide) ?_
  refine lv_istore_n (lv' := [(3, .int 0), (0, .ref (ad (0))), (1, .long (al_allA τ 8))]) S.1 S.2.1 dL_all_32 rfl hl (by decide) rfl (fun ls hl => ?_)
  refine al_sg_allB l D cy ad hg S hK ?_ E 0 (by omega) σ _ _ _ hR hW hS (lv_sub hl [1, 2, 0] rfl)
  intro σ H locs ls hR hW hS hl
  refine lv_lload_n S.1 S.2.1 dL_all_103 rfl (lv_at hl 1 rfl) ?_
  exact W.lret S.1 S.2.1 hr (fun t9 ht9 _ => ⟨(congrArg (fun z => Outcome.returned (some (Value.long z))) (by rw [al_all, hg.2.1, nI_clamp (by have := hg.1.2.1; omega)])), ⟨σ, hR, by rw [ht9]; exact hW⟩, hS.F ht9⟩) hS.2.2 dL_all_104
