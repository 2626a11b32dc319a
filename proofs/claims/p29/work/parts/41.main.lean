/-! the law itself, walked -/
theorem al_lg_same (x : Int64) : lg_cmp x x = 0 := by simp [lg_cmp]
set_option maxHeartbeats 4000000 in
set_option maxRecDepth 100000 in
theorem al_lw_T {p : Program} {e : Env} {s : State} {m : MethodId} {args : Array Value} {below : List Frame} {meth : Method} {c : Code} {Q : State → Prop} (l : Launch) (D : va_G) (cy : al_CY) (ad : Nat → Nat) {A : Nat → Prop} {H0 : Heap} {b : Nat} (hAA : ∀ q, al_A ad q → A q) (S : CallFix p m c cL_law 9 s args al_G RL) (hK : va_K D vwCl (al_tys cy) s) (K : ∀ (σ : al_St) (H : Heap) (locs : List Loc) (ls : Array Slot), al_gw σ → σ.2.2.1 6 = nI 12 → al_H D cy ad σ H → va_S A H0 H locs → lv_has ls 9 [(0, .ref b), (1, .ref (ad (0)))] → W p l e room_1 s m args below meth c H locs 600000 7302250 Q (F0 m 92 ls [])) (z : Int32) : ∀ (n k : Nat) (σ : al_St) (o : Int32) (H : Heap) (locs : List Loc) (ls : Array Slot), k + n = 12 → al_gw σ → σ.2.2.1 6 = nI k → al_H D cy ad σ H → va_S A H0 H locs → lv_has ls 9 [(0, .ref b), (1, .ref (ad (0))), (2, .int z), (3, .int o), (4, .int (nI k))] → W p l e room_1 s m args below meth c H locs 600000 7302250 Q (F0 m 19 ls []) := by
  intro n
  induction n with
  | zero =>
    intro k σ o H locs ls hk hg h6 hW hS hl
    obtain rfl : k = 12 := by omega
    refine lv_iload S.1 S.2.1 dL_law_19 (lv_at hl 4 rfl) ?_
    refine lv_bipush (v := 12) S.1 S.2.1 dL_law_21 (by decide) ?_
    refine lv_icmp_ge (tgt := 92) S.1 S.2.1 dL_law_23 (by decide) (fun c1 => ?_) (fun c1 => ?_)
    · exact K _ _ _ _ hg h6 hW hS (lv_sub hl [0, 1] rfl)
    · exact absurd (nI_le (a := 12) (by omega) (by omega)) c1
  | succ n ih =>
    intro k σ o H locs ls hk hg h6 hW hS hl
    refine lv_iload S.1 S.2.1 dL_law_19 (lv_at hl 4 rfl) ?_
    refine lv_bipush (v := 12) S.1 S.2.1 dL_law_21 (by decide) ?_
    refine lv_icmp_ge (tgt := 92) S.1 S.2.1 dL_law_23 (by decide) (fun c1 => ?_) (fun c1 => ?_)
    · exact absurd c1 (nI_ge (b := 12) (by omega) (by omega))
    · refine lv_iload_n S.1 S.2.1 dL_law_26 rfl (lv_at hl 3 rfl) ?_
      refine lv_if_eq (tgt := 49) S.1 S.2.1 dL_law_27 (by decide) (fun c2 => ?_) (fun c2 => ?_)
      · refine lv_iconst (v := 1) S.1 S.2.1 dL_law_49 (by decide) ?_
        refine lv_goto (tgt := 54) S.1 S.2.1 dL_law_50 (by decide) ?_
        refine lv_istore (lv' := [(5, .int 1), (0, .ref b), (1, .ref (ad (0))), (2, .int z), (3, .int o), (4, .int (nI k))]) S.1 S.2.1 dL_law_54 hl (by decide) rfl (fun ls hl => ?_)
        refine lv_aload_n S.1 S.2.1 dL_law_56 rfl (lv_at hl 2 rfl) ?_
        refine lv_iload S.1 S.2.1 dL_law_57 (lv_at hl 0 rfl) ?_
        refine lv_if_eq (tgt := 67) S.1 S.2.1 dL_law_59 (by decide) (fun c3 => ?_) (fun c3 => ?_)
        · exact absurd c3 (by decide)
        · refine lv_bipush (v := 40) S.1 S.2.1 dL_law_62 (by decide) ?_
          refine lv_goto (tgt := 69) S.1 S.2.1 dL_law_64 (by decide) ?_
          refine al_cG hAA (rest := []) S hK hW hS (al_X8_type l D cy ad σ 40 (by decide +kernel)) al_mi_X8_type al_ml_RL_92 rfl (al_rc_8 D cy ad _) rfl hl.1 rfl (Nat.le_of_ble_eq_true rfl) dL_law_69 ⟨Nat.le_of_ble_eq_true rfl, Nat.le_of_ble_eq_true rfl⟩ ⟨Nat.le_of_ble_eq_true rfl, Nat.le_of_ble_eq_true rfl⟩ (fun H locs hW hS => ?_)
          refine W.eq (g2 := F0 m 72 ls [.int ((al_type σ 40).1)]) rfl ?_
          obtain ⟨hg1, h61⟩ := al_type_I hg (by omega) h6 40
          refine lv_pop S.1 S.2.1 dL_law_72 rfl ?_
          refine lv_iload_n S.1 S.2.1 dL_law_73 rfl (lv_at hl 4 rfl) ?_
          refine lv_iload S.1 S.2.1 dL_law_74 (lv_at hl 0 rfl) ?_
          refine lv_if_eq (tgt := 83) S.1 S.2.1 dL_law_76 (by decide) (fun c4 => ?_) (fun c4 => ?_)
          · exact absurd c4 c3
          · refine lv_iconst (v := 1) S.1 S.2.1 dL_law_79 (by decide) ?_
            refine lv_goto (tgt := 84) S.1 S.2.1 dL_law_80 (by decide) ?_
            refine lv_iadd S.1 S.2.1 dL_law_84 ?_
            refine lv_istore_n (lv' := [(3, .int (o + 1)), (5, .int 1), (0, .ref b), (1, .ref (ad (0))), (2, .int z), (4, .int (nI k))]) S.1 S.2.1 dL_law_85 rfl hl (by decide) rfl (fun ls hl => ?_)
            refine lv_iinc (k := 5) (v := nI (k + 1)) (lv' := [(4, .int (nI (k + 1))), (3, .int (o + 1)), (5, .int 1), (0, .ref b), (1, .ref (ad (0))), (2, .int z)]) S.1 S.2.1 dL_law_86 hl rfl (al_inc k) (by decide) rfl (fun ls hl => ?_)
            refine lv_goto (tgt := 19) S.1 S.2.1 dL_law_89 (by decide) ?_
            exact ih (k + 1) _ _ _ _ _ (by omega) hg1 h61 hW hS (lv_sub hl [3, 4, 5, 1, 0] rfl)
      · refine lv_iload_n S.1 S.2.1 dL_law_30 rfl (lv_at hl 3 rfl) ?_
        refine lv_bipush (v := 12) S.1 S.2.1 dL_law_31 (by decide) ?_
        refine lv_iload S.1 S.2.1 dL_law_33 (lv_at hl 4 rfl) ?_
        refine lv_isub S.1 S.2.1 dL_law_35 ?_
        refine lv_icmp_ge (tgt := 53) S.1 S.2.1 dL_law_36 (by decide) (fun c5 => ?_) (fun c5 => ?_)
        · refine lv_iconst (v := 0) S.1 S.2.1 dL_law_53 (by decide) ?_
          refine lv_istore (lv' := [(5, .int 0), (0, .ref b), (1, .ref (ad (0))), (2, .int z), (3, .int o), (4, .int (nI k))]) S.1 S.2.1 dL_law_54 hl (by decide) rfl (fun ls hl => ?_)
          refine lv_aload_n S.1 S.2.1 dL_law_56 rfl (lv_at hl 2 rfl) ?_
          refine lv_iload S.1 S.2.1 dL_law_57 (lv_at hl 0 rfl) ?_
          refine lv_if_eq (tgt := 67) S.1 S.2.1 dL_law_59 (by decide) (fun c6 => ?_) (fun c6 => ?_)
          · refine lv_bipush (v := 41) S.1 S.2.1 dL_law_67 (by decide) ?_
            refine al_cG hAA (rest := []) S hK hW hS (al_X8_type l D cy ad σ 41 (by decide +kernel)) al_mi_X8_type al_ml_RL_92 rfl (al_rc_8 D cy ad _) rfl hl.1 rfl (Nat.le_of_ble_eq_true rfl) dL_law_69 ⟨Nat.le_of_ble_eq_true rfl, Nat.le_of_ble_eq_true rfl⟩ ⟨Nat.le_of_ble_eq_true rfl, Nat.le_of_ble_eq_true rfl⟩ (fun H locs hW hS => ?_)
            refine W.eq (g2 := F0 m 72 ls [.int ((al_type σ 41).1)]) rfl ?_
            obtain ⟨hg1, h61⟩ := al_type_I hg (by omega) h6 41
            refine lv_pop S.1 S.2.1 dL_law_72 rfl ?_
            refine lv_iload_n S.1 S.2.1 dL_law_73 rfl (lv_at hl 4 rfl) ?_
            refine lv_iload S.1 S.2.1 dL_law_74 (lv_at hl 0 rfl) ?_
            refine lv_if_eq (tgt := 83) S.1 S.2.1 dL_law_76 (by decide) (fun c7 => ?_) (fun c7 => ?_)
            · refine lv_iconst (v := -1) S.1 S.2.1 dL_law_83 (by decide) ?_
              refine lv_iadd S.1 S.2.1 dL_law_84 ?_
              refine lv_istore_n (lv' := [(3, .int (o + (-1))), (5, .int 0), (0, .ref b), (1, .ref (ad (0))), (2, .int z), (4, .int (nI k))]) S.1 S.2.1 dL_law_85 rfl hl (by decide) rfl (fun ls hl => ?_)
              refine lv_iinc (k := 5) (v := nI (k + 1)) (lv' := [(4, .int (nI (k + 1))), (3, .int (o + (-1))), (5, .int 0), (0, .ref b), (1, .ref (ad (0))), (2, .int z)]) S.1 S.2.1 dL_law_86 hl rfl (al_inc k) (by decide) rfl (fun ls hl => ?_)
              refine lv_goto (tgt := 19) S.1 S.2.1 dL_law_89 (by decide) ?_
              exact ih (k + 1) _ _ _ _ _ (by omega) hg1 h61 hW hS (lv_sub hl [3, 4, 5, 1, 0] rfl)
            · exact absurd c6 c7
          · exact absurd (by decide) c6
        · refine lv_iload_n S.1 S.2.1 dL_law_39 rfl (lv_at hl 2 rfl) ?_
          refine lv_iload S.1 S.2.1 dL_law_40 (lv_at hl 4 rfl) ?_
          refine lv_ishr S.1 S.2.1 dL_law_42 ?_
          refine lv_iconst (v := 1) S.1 S.2.1 dL_law_43 (by decide) ?_
          refine lv_iand S.1 S.2.1 dL_law_44 ?_
          refine lv_iconst (v := 1) S.1 S.2.1 dL_law_45 (by decide) ?_
          refine lv_icmp_ne (tgt := 53) S.1 S.2.1 dL_law_46 (by decide) (fun c8 => ?_) (fun c8 => ?_)
          · refine lv_iconst (v := 0) S.1 S.2.1 dL_law_53 (by decide) ?_
            refine lv_istore (lv' := [(5, .int 0), (0, .ref b), (1, .ref (ad (0))), (2, .int z), (3, .int o), (4, .int (nI k))]) S.1 S.2.1 dL_law_54 hl (by decide) rfl (fun ls hl => ?_)
            refine lv_aload_n S.1 S.2.1 dL_law_56 rfl (lv_at hl 2 rfl) ?_
            refine lv_iload S.1 S.2.1 dL_law_57 (lv_at hl 0 rfl) ?_
            refine lv_if_eq (tgt := 67) S.1 S.2.1 dL_law_59 (by decide) (fun c9 => ?_) (fun c9 => ?_)
            · refine lv_bipush (v := 41) S.1 S.2.1 dL_law_67 (by decide) ?_
              refine al_cG hAA (rest := []) S hK hW hS (al_X8_type l D cy ad σ 41 (by decide +kernel)) al_mi_X8_type al_ml_RL_92 rfl (al_rc_8 D cy ad _) rfl hl.1 rfl (Nat.le_of_ble_eq_true rfl) dL_law_69 ⟨Nat.le_of_ble_eq_true rfl, Nat.le_of_ble_eq_true rfl⟩ ⟨Nat.le_of_ble_eq_true rfl, Nat.le_of_ble_eq_true rfl⟩ (fun H locs hW hS => ?_)
              refine W.eq (g2 := F0 m 72 ls [.int ((al_type σ 41).1)]) rfl ?_
              obtain ⟨hg1, h61⟩ := al_type_I hg (by omega) h6 41
              refine lv_pop S.1 S.2.1 dL_law_72 rfl ?_
              refine lv_iload_n S.1 S.2.1 dL_law_73 rfl (lv_at hl 4 rfl) ?_
              refine lv_iload S.1 S.2.1 dL_law_74 (lv_at hl 0 rfl) ?_
              refine lv_if_eq (tgt := 83) S.1 S.2.1 dL_law_76 (by decide) (fun c10 => ?_) (fun c10 => ?_)
              · refine lv_iconst (v := -1) S.1 S.2.1 dL_law_83 (by decide) ?_
                refine lv_iadd S.1 S.2.1 dL_law_84 ?_
                refine lv_istore_n (lv' := [(3, .int (o + (-1))), (5, .int 0), (0, .ref b), (1, .ref (ad (0))), (2, .int z), (4, .int (nI k))]) S.1 S.2.1 dL_law_85 rfl hl (by decide) rfl (fun ls hl => ?_)
                refine lv_iinc (k := 5) (v := nI (k + 1)) (lv' := [(4, .int (nI (k + 1))), (3, .int (o + (-1))), (5, .int 0), (0, .ref b), (1, .ref (ad (0))), (2, .int z)]) S.1 S.2.1 dL_law_86 hl rfl (al_inc k) (by decide) rfl (fun ls hl => ?_)
                refine lv_goto (tgt := 19) S.1 S.2.1 dL_law_89 (by decide) ?_
                exact ih (k + 1) _ _ _ _ _ (by omega) hg1 h61 hW hS (lv_sub hl [3, 4, 5, 1, 0] rfl)
              · exact absurd c9 c10
            · exact absurd (by decide) c9
          · refine lv_iconst (v := 1) S.1 S.2.1 dL_law_49 (by decide) ?_
            refine lv_goto (tgt := 54) S.1 S.2.1 dL_law_50 (by decide) ?_
            refine lv_istore (lv' := [(5, .int 1), (0, .ref b), (1, .ref (ad (0))), (2, .int z), (3, .int o), (4, .int (nI k))]) S.1 S.2.1 dL_law_54 hl (by decide) rfl (fun ls hl => ?_)
            refine lv_aload_n S.1 S.2.1 dL_law_56 rfl (lv_at hl 2 rfl) ?_
            refine lv_iload S.1 S.2.1 dL_law_57 (lv_at hl 0 rfl) ?_
            refine lv_if_eq (tgt := 67) S.1 S.2.1 dL_law_59 (by decide) (fun c11 => ?_) (fun c11 => ?_)
            · exact absurd c11 (by decide)
            · refine lv_bipush (v := 40) S.1 S.2.1 dL_law_62 (by decide) ?_
              refine lv_goto (tgt := 69) S.1 S.2.1 dL_law_64 (by decide) ?_
              refine al_cG hAA (rest := []) S hK hW hS (al_X8_type l D cy ad σ 40 (by decide +kernel)) al_mi_X8_type al_ml_RL_92 rfl (al_rc_8 D cy ad _) rfl hl.1 rfl (Nat.le_of_ble_eq_true rfl) dL_law_69 ⟨Nat.le_of_ble_eq_true rfl, Nat.le_of_ble_eq_true rfl⟩ ⟨Nat.le_of_ble_eq_true rfl, Nat.le_of_ble_eq_true rfl⟩ (fun H locs hW hS => ?_)
              refine W.eq (g2 := F0 m 72 ls [.int ((al_type σ 40).1)]) rfl ?_
              obtain ⟨hg1, h61⟩ := al_type_I hg (by omega) h6 40
              refine lv_pop S.1 S.2.1 dL_law_72 rfl ?_
              refine lv_iload_n S.1 S.2.1 dL_law_73 rfl (lv_at hl 4 rfl) ?_
              refine lv_iload S.1 S.2.1 dL_law_74 (lv_at hl 0 rfl) ?_
              refine lv_if_eq (tgt := 83) S.1 S.2.1 dL_law_76 (by decide) (fun c12 => ?_) (fun c12 => ?_)
              · exact absurd c12 c11
              · refine lv_iconst (v := 1) S.1 S.2.1 dL_law_79 (by decide) ?_
                refine lv_goto (tgt := 84) S.1 S.2.1 dL_law_80 (by decide) ?_
                refine lv_iadd S.1 S.2.1 dL_law_84 ?_
                refine lv_istore_n (lv' := [(3, .int (o + 1)), (5, .int 1), (0, .ref b), (1, .ref (ad (0))), (2, .int z), (4, .int (nI k))]) S.1 S.2.1 dL_law_85 rfl hl (by decide) rfl (fun ls hl => ?_)
                refine lv_iinc (k := 5) (v := nI (k + 1)) (lv' := [(4, .int (nI (k + 1))), (3, .int (o + 1)), (5, .int 1), (0, .ref b), (1, .ref (ad (0))), (2, .int z)]) S.1 S.2.1 dL_law_86 hl rfl (al_inc k) (by decide) rfl (fun ls hl => ?_)
                refine lv_goto (tgt := 19) S.1 S.2.1 dL_law_89 (by decide) ?_
                exact ih (k + 1) _ _ _ _ _ (by omega) hg1 h61 hW hS (lv_sub hl [3, 4, 5, 1, 0] rfl)
theorem al_okr_gx {σ : al_St} {r : Int32 × al_St} (h : al_gx σ) (hr : al_okr σ r) : al_gx r.2 := by
  rcases hr with ⟨-, e⟩ | ⟨-, h1, h2⟩
  · rw [e]; exact h
  · obtain ⟨-, N, hN, h6⟩ := h
    exact ⟨h1, N, hN, by rw [h2.2.2.1]; exact h6⟩
theorem al_Rl_gx {τ σ : al_St} (hR : al_Rl τ σ) (h : al_gx τ) : al_gx σ := by
  obtain ⟨h1, N, hN, h6⟩ := h
  exact ⟨hR.gw h1, N, hN, by rw [hR.2.2.1 6 (by decide)]; exact h6⟩
theorem al_L_all' (l : Launch) (D : va_G) (cy : al_CY) (ad : Nat → Nat) {σ : al_St} (h : al_gw σ) : al_MR l yL_all cL_all 5 (some .long) 5 111 D cy ad σ σ [.ref (ad 0)] (some (.long (al_all σ))) := by
  obtain ⟨hp, E, d, q, hg⟩ := h
  exact al_L_all l D cy ad hg (al_Rl.rf hp.2.2.2)
theorem al_lt_nge {x : Int32} (h : ¬ 0 ≤ x) : x < 0 := by
  rw [Int32.le_iff_toInt_le] at h
  rw [Int32.lt_iff_toInt_lt]
  have e : (0 : Int32).toInt = 0 := rfl
  omega
theorem al_nlt_ge {x : Int32} (h : 0 ≤ x) : ¬ x < 0 := by
  rw [Int32.le_iff_toInt_le] at h
  rw [Int32.lt_iff_toInt_lt]
  omega
theorem al_nge_lt {x : Int32} (h : ¬ x < 0) : ¬ ¬ 0 ≤ x := by
  intro h1
  rw [Int32.le_iff_toInt_le] at h1
  rw [Int32.lt_iff_toInt_lt] at h
  exact h1 (by omega)
set_option maxHeartbeats 4000000 in
set_option maxRecDepth 100000 in
theorem al_lw_A {p : Program} {e : Env} {s : State} {m : MethodId} {args : Array Value} {below : List Frame} {meth : Method} {c : Code} {Q : State → Prop} (l : Launch) (D : va_G) (cy : al_CY) (ad : Nat → Nat) {A : Nat → Prop} {H0 : Heap} {b : Nat} (hAA : ∀ q, al_A ad q → A q) (S : CallFix p m c cL_law 9 s args al_G RL) (hK : va_K D vwCl (al_tys cy) s) {L : Nat} {xs : Nat → Int32} (hL : L ≤ 260) (hX : va_X b L xs s H0) (hbl : b < H0.size) (hbA : ¬ A b) {t : Nat} (ht : t < 24) (K : ∀ (σ : al_St) (y : Int32) (H : Heap) (locs : List Loc) (ls : Array Slot), al_gx σ → al_H D cy ad σ H → va_S A H0 H locs → lv_has ls 9 [(0, .ref b), (1, .ref (ad (0))), (4, .int (nI t)), (5, .int y)] → W p l e room_1 s m args below meth c H locs 600000 7302250 Q (F0 m 177 ls [])) : ∀ (σ : al_St) (H : Heap) (locs : List Loc) (ls : Array Slot), al_gx σ → al_H D cy ad σ H → va_S A H0 H locs → lv_has ls 9 [(0, .ref b), (1, .ref (ad (0))), (4, .int (nI t))] → W p l e room_1 s m args below meth c H locs 600000 7302250 Q (F0 m 102 ls []) := by
  intro σ H locs ls hx hW hS hl
  obtain ⟨⟨hp, E, d, q, hg⟩, N, hN, h6⟩ := hx
  have hgw : al_gw σ := ⟨hp, E, d, q, hg⟩
  have hrf : al_Rl σ σ := al_Rl.rf hp.2.2.2
  refine lv_aload_n S.1 S.2.1 dL_law_102 rfl (lv_at hl 0 rfl) ?_
  refine lv_iconst (v := 1) S.1 S.2.1 dL_law_103 (by decide) ?_
  refine lv_iload S.1 S.2.1 dL_law_104 (lv_at hl 2 rfl) ?_
  refine lv_iadd S.1 S.2.1 dL_law_106 ?_
  refine W.eq (g2 := F0 m 107 ls [.int (nI (1 + t)), .ref b]) (congrArg (fun z => F0 m 107 ls (Value.int z :: [.ref b])) (nI_add 1 t)) ?_
  refine al_runP (va_runS (As := [.ref b, .int (nI (1 + t))]) (rest := []) S (al_L_cell l (b := b) (L := L) (k := 1 + t) (xs := xs) hL (by omega)) ⟨al_cb S.2.2.2.2 al_ms_L_cell.1 al_ml_RL_88 ⟨Nat.le_of_ble_eq_true rfl, Nat.le_of_ble_eq_true rfl⟩, S.2.2.2.2 _ al_ms_L_cell.2⟩ ⟨fun a U g mk q => ⟨q.1, q.2.1, va_X.moved (u := U) (U := U.calling g mk a) (Vm.Alike.refl U.vm) q.2.2⟩, fun U hU hV => ⟨rfl, by rw [hU]; exact Nat.lt_of_lt_of_le hbl hS.1, by rw [hU]; exact va_X.moved hV.alike (hX.kept (hS.2.1 b hbl hbA))⟩⟩ rfl rfl hl.1 rfl (lv_room (Nat.le_of_ble_eq_true rfl)) dL_law_107 ⟨Nat.le_of_ble_eq_true rfl, Nat.le_of_ble_eq_true rfl⟩) ?_
  refine W.eq (g2 := F0 m 110 ls [.int (al_cell L xs (1 + t))]) rfl ?_
  generalize al_cell L xs (1 + t) = y
  refine lv_istore (lv' := [(5, .int y), (0, .ref b), (1, .ref (ad (0))), (4, .int (nI t))]) S.1 S.2.1 dL_law_110 hl (by decide) rfl (fun ls hl => ?_)
  refine lv_aload_n S.1 S.2.1 dL_law_112 rfl (lv_at hl 2 rfl) ?_
  refine al_cR hAA (rest := []) S hK hW hS (al_L_all' l D cy ad hgw) al_ms_L_all al_ml_RL_96 rfl hl.1 rfl (Nat.le_of_ble_eq_true rfl) dL_law_113 ⟨Nat.le_of_ble_eq_true rfl, Nat.le_of_ble_eq_true rfl⟩ ⟨Nat.le_of_ble_eq_true rfl, Nat.le_of_ble_eq_true rfl⟩ (fun σ9 H locs hR9 hW hS => ?_)
  refine W.eq (g2 := F0 m 116 ls [.long (al_all σ)]) rfl ?_
  have hx1 : al_gx σ9 := al_Rl_gx hR9 ⟨hgw, N, hN, h6⟩
  have ht0 : al_td σ9 0 = al_td σ 0 := hR9.td (by omega)
  obtain ⟨σ1, hs1⟩ : ∃ σ1, σ1 = σ9 := ⟨_, rfl⟩
  rw [← hs1] at hx1 ht0 hW
  refine lv_lstore (lv' := [(6, .long (al_all σ)), (5, .int y), (0, .ref b), (1, .ref (ad (0))), (4, .int (nI t))]) S.1 S.2.1 dL_law_116 hl (by decide) rfl (fun ls hl => ?_)
  refine lv_aload_n S.1 S.2.1 dL_law_118 rfl (lv_at hl 3 rfl) ?_
  refine lv_iload S.1 S.2.1 dL_law_119 (lv_at hl 1 rfl) ?_
  refine al_cA hAA (rest := []) S hK hW hS (al_L_acts l D cy ad hx1 y) al_ms_L_acts al_ml_RL_100 rfl hl.1 rfl (Nat.le_of_ble_eq_true rfl) dL_law_121 ⟨Nat.le_of_ble_eq_true rfl, Nat.le_of_ble_eq_true rfl⟩ ⟨Nat.le_of_ble_eq_true rfl, Nat.le_of_ble_eq_true rfl⟩ (fun r H locs hr1 hW hS => ?_)
  refine W.eq (g2 := F0 m 124 ls [.int r.1]) rfl ?_
  have hgx2 : al_gx r.2 := al_okr_gx hx1 hr1
  refine lv_istore (lv' := [(8, .int r.1), (6, .long (al_all σ)), (5, .int y), (0, .ref b), (1, .ref (ad (0))), (4, .int (nI t))]) S.1 S.2.1 dL_law_124 hl (by decide) rfl (fun ls hl => ?_)
  refine lv_iload S.1 S.2.1 dL_law_126 (lv_at hl 0 rfl) ?_
  refine lv_if_ge (tgt := 143) S.1 S.2.1 dL_law_128 (by decide) (fun c1 => ?_) (fun c1 => ?_)
  · refine lv_iload S.1 S.2.1 dL_law_143 (lv_at hl 0 rfl) ?_
    refine lv_if_lt (tgt := 177) S.1 S.2.1 dL_law_145 (by decide) (fun c2 => ?_) (fun c2 => ?_)
    · exact absurd c2 (al_nlt_ge c1)
    · refine lv_iload S.1 S.2.1 dL_law_148 (lv_at hl 2 rfl) ?_
      refine lv_bipush (v := 28) S.1 S.2.1 dL_law_150 (by decide) ?_
      refine lv_ishr S.1 S.2.1 dL_law_152 ?_
      refine lv_iconst (v := 3) S.1 S.2.1 dL_law_153 (by decide) ?_
      refine lv_iand S.1 S.2.1 dL_law_154 ?_
      refine lv_if_ne (tgt := 177) S.1 S.2.1 dL_law_155 (by decide) (fun c3 => ?_) (fun c3 => ?_)
      · exact K _ _ _ _ _ hgx2 hW hS (lv_sub hl [3, 4, 5, 2] rfl)
      · refine lv_aload_n S.1 S.2.1 dL_law_158 rfl (lv_at hl 4 rfl) ?_
        have hun : al_und σ1 r.2 := by rcases hr1 with ⟨h9, -⟩ | ⟨-, -, h9⟩; exact absurd h9 (al_nlt_ge c1); exact h9
        obtain ⟨U, hU, h7, htd⟩ := hun.1
        obtain ⟨u1, u2, u3, u4, u5, u6, u7⟩ := al_undo_I hgx2.1 hU h7
        have hMu := al_X8_undo l D cy ad r.2 (fun _ => u1) (fun _ => u2) (fun _ => u3)
        refine al_cG (f := 5) (lo := 109) hAA (rest := []) S hK hW hS (hMu) al_mi_X8_undo al_ml_RL_104 rfl (al_rc_8 D cy ad _) rfl hl.1 rfl (Nat.le_of_ble_eq_true rfl) dL_law_159 ⟨Nat.le_of_ble_eq_true rfl, Nat.le_of_ble_eq_true rfl⟩ ⟨Nat.le_of_ble_eq_true rfl, Nat.le_of_ble_eq_true rfl⟩ (fun H locs hW hS => ?_)
        refine W.eq (g2 := F0 m 162 ls [.int ((al_undo r.2).1)]) rfl ?_
        refine lv_if_lt (tgt := 175) S.1 S.2.1 dL_law_162 (by decide) (fun c4 => ?_) (fun c4 => ?_)
        · exact absurd c4 u4
        · refine lv_aload_n S.1 S.2.1 dL_law_165 rfl (lv_at hl 4 rfl) ?_
          have hal : al_all (al_undo r.2).2 = al_all σ := al_all_td hgw u5 (u6.trans (htd.trans ht0))
          have hgx3 : al_gx (al_undo r.2).2 := ⟨u5, by obtain ⟨-, N9, hN9, h9⟩ := hgx2; exact ⟨N9, hN9, u7.2.1.trans h9⟩⟩
          refine al_cR hAA (rest := []) S hK hW hS (al_L_all' l D cy ad u5) al_ms_L_all al_ml_RL_96 rfl hl.1 rfl (Nat.le_of_ble_eq_true rfl) dL_law_166 ⟨Nat.le_of_ble_eq_true rfl, Nat.le_of_ble_eq_true rfl⟩ ⟨Nat.le_of_ble_eq_true rfl, Nat.le_of_ble_eq_true rfl⟩ (fun σ9 H locs hR9 hW hS => ?_)
          refine W.eq (g2 := F0 m 169 ls [.long (al_all σ)]) (congrArg (fun z => F0 m 169 ls (Value.long z :: [])) hal) ?_
          have hgx4 : al_gx σ9 := al_Rl_gx hR9 hgx3
          refine lv_lload S.1 S.2.1 dL_law_169 (lv_at hl 1 rfl) ?_
          refine W.lcmp S.1 S.2.1 dL_law_171 ?_
          refine lv_if_eq (tgt := 177) S.1 S.2.1 dL_law_172 (by decide) (fun c5 => ?_) (fun c5 => ?_)
          · exact K _ _ _ _ _ hgx4 hW hS (lv_sub hl [3, 4, 5, 2] rfl)
          · exact absurd (al_lg_same _) c5
  · refine lv_aload_n S.1 S.2.1 dL_law_131 rfl (lv_at hl 4 rfl) ?_
    have hrn : r.2 = σ1 := by rcases hr1 with ⟨-, e9⟩ | ⟨h9, -⟩; exact e9; exact absurd c1 (by first | exact al_nge_lt h9 | exact h9)
    have hal : al_all r.2 = al_all σ := al_all_td hgw hgx2.1 (by rw [hrn]; exact ht0)
    refine al_cR hAA (rest := []) S hK hW hS (al_L_all' l D cy ad hgx2.1) al_ms_L_all al_ml_RL_96 rfl hl.1 rfl (Nat.le_of_ble_eq_true rfl) dL_law_132 ⟨Nat.le_of_ble_eq_true rfl, Nat.le_of_ble_eq_true rfl⟩ ⟨Nat.le_of_ble_eq_true rfl, Nat.le_of_ble_eq_true rfl⟩ (fun σ9 H locs hR9 hW hS => ?_)
    refine W.eq (g2 := F0 m 135 ls [.long (al_all σ)]) (congrArg (fun z => F0 m 135 ls (Value.long z :: [])) hal) ?_
    have hgx3 : al_gx σ9 := al_Rl_gx hR9 hgx2
    refine lv_lload S.1 S.2.1 dL_law_135 (lv_at hl 1 rfl) ?_
    refine W.lcmp S.1 S.2.1 dL_law_137 ?_
    refine lv_if_eq (tgt := 143) S.1 S.2.1 dL_law_138 (by decide) (fun c6 => ?_) (fun c6 => ?_)
    · refine lv_iload S.1 S.2.1 dL_law_143 (lv_at hl 0 rfl) ?_
      refine lv_if_lt (tgt := 177) S.1 S.2.1 dL_law_145 (by decide) (fun c7 => ?_) (fun c7 => ?_)
      · exact K _ _ _ _ _ hgx3 hW hS (lv_sub hl [3, 4, 5, 2] rfl)
      · exact absurd (al_lt_nge c1) c7
    · exact absurd (al_lg_same _) c6
