/-! the law's loop and its end -/
theorem al_X8_count0 (l : Launch) (D : va_G) (cy : al_CY) (ad : Nat → Nat) {σ : al_St} (h : al_gw σ) : al_MS l yX8_count cX8_count 2 (some .int) 4 88 D cy ad σ [.ref (ad (0)), .int 0] (some (.int (σ.2.2.1 9))) σ := by
  have h1 := al_X8_count l D cy ad σ 0 (al_gx_p h)
  have e : al_count σ 0 = (σ.2.2.1 9, σ) := by rw [al_count, if_pos rfl]
  rw [e] at h1
  exact h1
theorem al_X8_count10 (l : Launch) (D : va_G) (cy : al_CY) (ad : Nat → Nat) {σ : al_St} (h : al_gw σ) : al_MS l yX8_count cX8_count 2 (some .int) 4 88 D cy ad σ [.ref (ad (0)), .int 10] (some (.int (-2))) σ := by
  have h1 := al_X8_count l D cy ad σ 10 (al_gx_p h)
  have e : al_count σ 10 = (-2, σ) := by
    rw [al_count, if_neg (by decide), if_neg (by decide), if_neg (by decide), if_neg (by decide), if_neg (by decide), if_neg (by decide), if_neg (by decide), if_neg (by decide), if_neg (by decide), if_neg (by decide)]
  rw [e] at h1
  exact h1
theorem al_X8_apart2 (l : Launch) (D : va_G) (cy : al_CY) (ad : Nat → Nat) {σ : al_St} (h : al_gw σ) : al_MS l yX8_apart cX8_apart 2 (some .int) 4 92 D cy ad σ [.ref (ad (0)), .int 2] (some (.int (-2))) σ := by
  have h1 := al_X8_apart l D cy ad σ 2 h.1.2.2.2
  have e : al_apart σ 2 = (-2, σ) := by rw [al_apart, if_neg (by decide), if_neg (by decide)]
  rw [e] at h1
  exact h1
theorem al_X8_far90 (l : Launch) (D : va_G) (cy : al_CY) (ad : Nat → Nat) {σ : al_St} (h : al_gw σ) (h9 : al_isN σ 0 90 = 0) : al_MS l yX8_farthest cX8_farthest 2 (some .int) 4 90 D cy ad σ [.ref (ad (0)), .int 90] (some (.int (-1))) σ := by
  have h1 := al_X8_farthest l D cy ad σ 90 h.1.2.2.2
  have e : al_far σ 90 = (-1, σ) := by rw [al_far, if_pos h9]
  rw [e] at h1
  exact h1
theorem al_X8_shapeM (l : Launch) (D : va_G) (cy : al_CY) (ad : Nat → Nat) {σ : al_St} (h : al_gw σ) : al_MS l yX8_shape cX8_shape 2 (some .int) 4 88 D cy ad σ [.ref (ad (0)), .int (-1)] (some (.int (-1))) σ := by
  have h1 := al_X8_shape l D cy ad σ (-1) (al_gx_p h)
  have e : al_shape σ (-1) = (-1, σ) := by
    rw [al_shape, if_pos]
    rw [al_isN, if_pos (by decide)]
  rw [e] at h1
  exact h1
theorem al_okr_kp {σ : al_St} {r : Int32 × al_St} (h : al_gx σ) (hr : al_okr σ r) : al_gx r.2 ∧ al_td r.2 5 = al_td σ 5 ∧ r.2.2.2.1 8 = σ.2.2.1 8 := by
  refine ⟨al_okr_gx h hr, ?_⟩
  rcases hr with ⟨-, e⟩ | ⟨-, -, h2⟩
  · rw [e]; exact ⟨rfl, rfl⟩
  · exact ⟨h2.2.1, h2.2.2.2.1⟩
theorem al_gw_9 {σ : al_St} (h : al_gw σ) : ¬ σ.2.2.1 9 < 0 := by
  obtain ⟨-, E, d, q, hg⟩ := h
  rw [hg.2.2.2.2.1.1]
  exact nI_pos (by have := hg.2.2.2.2.1.2.1; omega)
theorem al_und_gx {σ σ' : al_St} (h : al_gx σ) (h1 : al_gw σ') (h2 : al_und σ σ') : al_gx σ' := by
  obtain ⟨-, N, hN, h6⟩ := h
  exact ⟨h1, N, hN, by rw [h2.2.2.1]; exact h6⟩
set_option maxHeartbeats 4000000 in
set_option maxRecDepth 100000 in
theorem al_lw_M {p : Program} {e : Env} {s : State} {m : MethodId} {args : Array Value} {below : List Frame} {meth : Method} {c : Code} {Q : State → Prop} (l : Launch) (D : va_G) (cy : al_CY) (ad : Nat → Nat) {A : Nat → Prop} {H0 : Heap} {b : Nat} (hAA : ∀ q, al_A ad q → A q) (S : CallFix p m c cL_law 9 s args al_G RL) (hK : va_K D vwCl (al_tys cy) s) {L : Nat} {xs : Nat → Int32} (hL : L ≤ 260) (hX : va_X b L xs s H0) (hbl : b < H0.size) (hbA : ¬ A b) (K : ∀ (σ : al_St) (H : Heap) (locs : List Loc) (ls : Array Slot), al_gx σ → al_H D cy ad σ H → va_S A H0 H locs → lv_has ls 9 [(0, .ref b), (1, .ref (ad (0)))] → W p l e room_1 s m args below meth c H locs 600000 7302250 Q (F0 m 241 ls [])) : ∀ (n t : Nat) (σ : al_St) (H : Heap) (locs : List Loc) (ls : Array Slot), t + n = 24 → al_gx σ → al_H D cy ad σ H → va_S A H0 H locs → lv_has ls 9 [(0, .ref b), (1, .ref (ad (0))), (4, .int (nI t))] → W p l e room_1 s m args below meth c H locs 600000 7302250 Q (F0 m 95 ls []) := by
  intro n
  induction n with
  | zero =>
    intro t σ H locs ls hk hx hW hS hl
    refine lv_iload S.1 S.2.1 dL_law_95 (lv_at hl 2 rfl) ?_
    refine lv_bipush (v := 24) S.1 S.2.1 dL_law_97 (by decide) ?_
    refine lv_icmp_ge (tgt := 241) S.1 S.2.1 dL_law_99 (by decide) (fun c1 => ?_) (fun c1 => ?_)
    · exact K _ _ _ _ hx hW hS (lv_sub hl [0, 1] rfl)
    · exact absurd (nI_le (a := 24) (by omega) (by omega)) c1
  | succ n ih =>
    intro t σ H locs ls hk hx hW hS hl
    refine lv_iload S.1 S.2.1 dL_law_95 (lv_at hl 2 rfl) ?_
    refine lv_bipush (v := 24) S.1 S.2.1 dL_law_97 (by decide) ?_
    refine lv_icmp_ge (tgt := 241) S.1 S.2.1 dL_law_99 (by decide) (fun c1 => ?_) (fun c1 => ?_)
    · exact absurd c1 (nI_ge (b := 24) (by omega) (by omega))
    · refine al_lw_A l D cy ad hAA S hK hL hX hbl hbA (t := t) (by omega) ?_ σ H locs ls hx hW hS (lv_sub hl [0, 1, 2] rfl)
      intro σ y H locs ls hx hW hS hl
      obtain ⟨⟨hp, E, d, q, hg⟩, -⟩ := id hx
      have hrf : al_Rl σ σ := al_Rl.rf hp.2.2.2
      have hE1 := hg.1.1
      have hE9 := hg.1.2.1
      refine lv_iload S.1 S.2.1 dL_law_177 (lv_at hl 2 rfl) ?_
      refine lv_iconst (v := 4) S.1 S.2.1 dL_law_179 (by decide) ?_
      refine lv_irem S.1 S.2.1 dL_law_180 (by decide) ?_
      refine lv_iconst (v := 1) S.1 S.2.1 dL_law_181 (by decide) ?_
      refine lv_icmp_ne (tgt := 192) S.1 S.2.1 dL_law_182 (by decide) (fun c2 => ?_) (fun c2 => ?_)
      · refine lv_iload S.1 S.2.1 dL_law_192 (lv_at hl 2 rfl) ?_
        refine lv_iconst (v := 3) S.1 S.2.1 dL_law_194 (by decide) ?_
        refine lv_irem S.1 S.2.1 dL_law_195 (by decide) ?_
        refine lv_iconst (v := 2) S.1 S.2.1 dL_law_196 (by decide) ?_
        refine lv_icmp_ne (tgt := 235) S.1 S.2.1 dL_law_197 (by decide) (fun c3 => ?_) (fun c3 => ?_)
        · refine lv_iinc (k := 2) (v := nI (t + 1)) (lv' := [(4, .int (nI (t + 1))), (0, .ref b), (1, .ref (ad (0))), (5, .int y)]) S.1 S.2.1 dL_law_235 hl rfl (al_inc t) (by decide) rfl (fun ls hl => ?_)
          refine lv_goto (tgt := 95) S.1 S.2.1 dL_law_238 (by decide) ?_
          exact ih (t + 1) _ _ _ _ (by omega) hx hW hS (lv_sub hl [1, 2, 0] rfl)
        · refine lv_aload_n S.1 S.2.1 dL_law_200 rfl (lv_at hl 1 rfl) ?_
          refine lv_iload S.1 S.2.1 dL_law_201 (lv_at hl 3 rfl) ?_
          refine lv_bipush (v := 7) S.1 S.2.1 dL_law_203 (by decide) ?_
          refine lv_ishr S.1 S.2.1 dL_law_205 ?_
          refine lv_aload_n S.1 S.2.1 dL_law_206 rfl (lv_at hl 1 rfl) ?_
          refine lv_iconst (v := 1) S.1 S.2.1 dL_law_207 (by decide) ?_
          refine al_cG (f := 4) (lo := 88) hAA (rest := [.int (y >>> ((7 : Int32) &&& 31)), .ref (ad (0))]) S hK hW hS (al_X8_count1 l D cy ad σ hg.2.1 (al_pOK_R hg hrf)) al_mi_X8_count al_ml_RL_12 rfl (al_rc_8 D cy ad _) rfl hl.1 rfl (Nat.le_of_ble_eq_true rfl) dL_law_208 ⟨Nat.le_of_ble_eq_true rfl, Nat.le_of_ble_eq_true rfl⟩ ⟨Nat.le_of_ble_eq_true rfl, Nat.le_of_ble_eq_true rfl⟩ (fun H locs hW hS => ?_)
          refine W.eq (g2 := F0 m 211 ls [.int (nI E), .int (y >>> ((7 : Int32) &&& 31)), .ref (ad (0))]) rfl ?_
          obtain ⟨j1, hj1, ej1⟩ := al_low_I (y >>> ((7 : Int32) &&& 31)) (n := E) (by omega) (by omega)
          refine al_cPs (rest := [.ref (ad (0))]) S hK hW (al_L_low l D cy ad σ (y >>> ((7 : Int32) &&& 31)) (nI E) (nI_ne0 (by omega) (by omega))) al_ms_L_low al_ml_RL_68 rfl hl.1 rfl (Nat.le_of_ble_eq_true rfl) dL_law_211 ⟨Nat.le_of_ble_eq_true rfl, Nat.le_of_ble_eq_true rfl⟩ ⟨Nat.le_of_ble_eq_true rfl, Nat.le_of_ble_eq_true rfl⟩ ?_
          refine W.eq (g2 := F0 m 214 ls [.int (nI j1), .ref (ad (0))]) (congrArg (fun z => F0 m 214 ls (Value.int z :: [.ref (ad (0))])) ej1) ?_
          refine lv_iload S.1 S.2.1 dL_law_214 (lv_at hl 3 rfl) ?_
          refine lv_bipush (v := 12) S.1 S.2.1 dL_law_216 (by decide) ?_
          refine lv_ishr S.1 S.2.1 dL_law_218 ?_
          refine lv_aload_n S.1 S.2.1 dL_law_219 rfl (lv_at hl 1 rfl) ?_
          refine lv_iconst (v := 1) S.1 S.2.1 dL_law_220 (by decide) ?_
          refine al_cG (f := 4) (lo := 88) hAA (rest := [.int (y >>> ((12 : Int32) &&& 31)), .int (nI j1), .ref (ad (0))]) S hK hW hS (al_X8_count1 l D cy ad σ hg.2.1 (al_pOK_R hg hrf)) al_mi_X8_count al_ml_RL_12 rfl (al_rc_8 D cy ad _) rfl hl.1 rfl (Nat.le_of_ble_eq_true rfl) dL_law_221 ⟨Nat.le_of_ble_eq_true rfl, Nat.le_of_ble_eq_true rfl⟩ ⟨Nat.le_of_ble_eq_true rfl, Nat.le_of_ble_eq_true rfl⟩ (fun H locs hW hS => ?_)
          refine W.eq (g2 := F0 m 224 ls [.int (nI E), .int (y >>> ((12 : Int32) &&& 31)), .int (nI j1), .ref (ad (0))]) rfl ?_
          obtain ⟨j2, hj2, ej2⟩ := al_low_I (y >>> ((12 : Int32) &&& 31)) (n := E) (by omega) (by omega)
          refine al_cPs (rest := [.int (nI j1), .ref (ad (0))]) S hK hW (al_L_low l D cy ad σ (y >>> ((12 : Int32) &&& 31)) (nI E) (nI_ne0 (by omega) (by omega))) al_ms_L_low al_ml_RL_68 rfl hl.1 rfl (Nat.le_of_ble_eq_true rfl) dL_law_224 ⟨Nat.le_of_ble_eq_true rfl, Nat.le_of_ble_eq_true rfl⟩ ⟨Nat.le_of_ble_eq_true rfl, Nat.le_of_ble_eq_true rfl⟩ ?_
          refine W.eq (g2 := F0 m 227 ls [.int (nI j2), .int (nI j1), .ref (ad (0))]) (congrArg (fun z => F0 m 227 ls (Value.int z :: [.int (nI j1), .ref (ad (0))])) ej2) ?_
          refine al_cR hAA (rest := []) S hK hW hS (al_L_isLooked l D cy ad hg hrf (A := j1) (B := j2) (by omega) (by omega)) al_ms_L_isLooked al_ml_RL_112 rfl hl.1 rfl (Nat.le_of_ble_eq_true rfl) dL_law_227 ⟨Nat.le_of_ble_eq_true rfl, Nat.le_of_ble_eq_true rfl⟩ ⟨Nat.le_of_ble_eq_true rfl, Nat.le_of_ble_eq_true rfl⟩ (fun σ9 H locs hR9 hW hS => ?_)
          refine W.eq (g2 := F0 m 230 ls [.int 1]) rfl ?_
          obtain ⟨σ, hx, hg, hrf, hW⟩ : ∃ σ, al_gx σ ∧ al_GG σ E d q ∧ al_Rl σ σ ∧ al_H D cy ad σ H := ⟨σ9, al_Rl_gx hR9 hx, hR9.GG hg, al_Rl.rf hR9.2.2.2.2, hW⟩
          refine lv_if_ne (tgt := 235) S.1 S.2.1 dL_law_230 (by decide) (fun c4 => ?_) (fun c4 => ?_)
          · refine lv_iinc (k := 2) (v := nI (t + 1)) (lv' := [(4, .int (nI (t + 1))), (0, .ref b), (1, .ref (ad (0))), (5, .int y)]) S.1 S.2.1 dL_law_235 hl rfl (al_inc t) (by decide) rfl (fun ls hl => ?_)
            refine lv_goto (tgt := 95) S.1 S.2.1 dL_law_238 (by decide) ?_
            exact ih (t + 1) _ _ _ _ (by omega) hx hW hS (lv_sub hl [1, 2, 0] rfl)
          · exact absurd c4 (by decide)
      · refine lv_aload_n S.1 S.2.1 dL_law_185 rfl (lv_at hl 1 rfl) ?_
        refine al_cR hAA (rest := []) S hK hW hS (al_L_isSound l D cy ad hg hrf) al_ms_L_isSound al_ml_RL_108 rfl hl.1 rfl (Nat.le_of_ble_eq_true rfl) dL_law_186 ⟨Nat.le_of_ble_eq_true rfl, Nat.le_of_ble_eq_true rfl⟩ ⟨Nat.le_of_ble_eq_true rfl, Nat.le_of_ble_eq_true rfl⟩ (fun σ9 H locs hR9 hW hS => ?_)
        refine W.eq (g2 := F0 m 189 ls [.int 1]) rfl ?_
        obtain ⟨σ, hx, hg, hrf, hW⟩ : ∃ σ, al_gx σ ∧ al_GG σ E d q ∧ al_Rl σ σ ∧ al_H D cy ad σ H := ⟨σ9, al_Rl_gx hR9 hx, hR9.GG hg, al_Rl.rf hR9.2.2.2.2, hW⟩
        refine lv_if_eq (tgt := 233) S.1 S.2.1 dL_law_189 (by decide) (fun c5 => ?_) (fun c5 => ?_)
        · exact absurd c5 (by decide)
        · refine lv_iload S.1 S.2.1 dL_law_192 (lv_at hl 2 rfl) ?_
          refine lv_iconst (v := 3) S.1 S.2.1 dL_law_194 (by decide) ?_
          refine lv_irem S.1 S.2.1 dL_law_195 (by decide) ?_
          refine lv_iconst (v := 2) S.1 S.2.1 dL_law_196 (by decide) ?_
          refine lv_icmp_ne (tgt := 235) S.1 S.2.1 dL_law_197 (by decide) (fun c6 => ?_) (fun c6 => ?_)
          · refine lv_iinc (k := 2) (v := nI (t + 1)) (lv' := [(4, .int (nI (t + 1))), (0, .ref b), (1, .ref (ad (0))), (5, .int y)]) S.1 S.2.1 dL_law_235 hl rfl (al_inc t) (by decide) rfl (fun ls hl => ?_)
            refine lv_goto (tgt := 95) S.1 S.2.1 dL_law_238 (by decide) ?_
            exact ih (t + 1) _ _ _ _ (by omega) hx hW hS (lv_sub hl [1, 2, 0] rfl)
          · refine lv_aload_n S.1 S.2.1 dL_law_200 rfl (lv_at hl 1 rfl) ?_
            refine lv_iload S.1 S.2.1 dL_law_201 (lv_at hl 3 rfl) ?_
            refine lv_bipush (v := 7) S.1 S.2.1 dL_law_203 (by decide) ?_
            refine lv_ishr S.1 S.2.1 dL_law_205 ?_
            refine lv_aload_n S.1 S.2.1 dL_law_206 rfl (lv_at hl 1 rfl) ?_
            refine lv_iconst (v := 1) S.1 S.2.1 dL_law_207 (by decide) ?_
            refine al_cG (f := 4) (lo := 88) hAA (rest := [.int (y >>> ((7 : Int32) &&& 31)), .ref (ad (0))]) S hK hW hS (al_X8_count1 l D cy ad σ hg.2.1 (al_pOK_R hg hrf)) al_mi_X8_count al_ml_RL_12 rfl (al_rc_8 D cy ad _) rfl hl.1 rfl (Nat.le_of_ble_eq_true rfl) dL_law_208 ⟨Nat.le_of_ble_eq_true rfl, Nat.le_of_ble_eq_true rfl⟩ ⟨Nat.le_of_ble_eq_true rfl, Nat.le_of_ble_eq_true rfl⟩ (fun H locs hW hS => ?_)
            refine W.eq (g2 := F0 m 211 ls [.int (nI E), .int (y >>> ((7 : Int32) &&& 31)), .ref (ad (0))]) rfl ?_
            obtain ⟨j1, hj1, ej1⟩ := al_low_I (y >>> ((7 : Int32) &&& 31)) (n := E) (by omega) (by omega)
            refine al_cPs (rest := [.ref (ad (0))]) S hK hW (al_L_low l D cy ad σ (y >>> ((7 : Int32) &&& 31)) (nI E) (nI_ne0 (by omega) (by omega))) al_ms_L_low al_ml_RL_68 rfl hl.1 rfl (Nat.le_of_ble_eq_true rfl) dL_law_211 ⟨Nat.le_of_ble_eq_true rfl, Nat.le_of_ble_eq_true rfl⟩ ⟨Nat.le_of_ble_eq_true rfl, Nat.le_of_ble_eq_true rfl⟩ ?_
            refine W.eq (g2 := F0 m 214 ls [.int (nI j1), .ref (ad (0))]) (congrArg (fun z => F0 m 214 ls (Value.int z :: [.ref (ad (0))])) ej1) ?_
            refine lv_iload S.1 S.2.1 dL_law_214 (lv_at hl 3 rfl) ?_
            refine lv_bipush (v := 12) S.1 S.2.1 dL_law_216 (by decide) ?_
            refine lv_ishr S.1 S.2.1 dL_law_218 ?_
            refine lv_aload_n S.1 S.2.1 dL_law_219 rfl (lv_at hl 1 rfl) ?_
            refine lv_iconst (v := 1) S.1 S.2.1 dL_law_220 (by decide) ?_
            refine al_cG (f := 4) (lo := 88) hAA (rest := [.int (y >>> ((12 : Int32) &&& 31)), .int (nI j1), .ref (ad (0))]) S hK hW hS (al_X8_count1 l D cy ad σ hg.2.1 (al_pOK_R hg hrf)) al_mi_X8_count al_ml_RL_12 rfl (al_rc_8 D cy ad _) rfl hl.1 rfl (Nat.le_of_ble_eq_true rfl) dL_law_221 ⟨Nat.le_of_ble_eq_true rfl, Nat.le_of_ble_eq_true rfl⟩ ⟨Nat.le_of_ble_eq_true rfl, Nat.le_of_ble_eq_true rfl⟩ (fun H locs hW hS => ?_)
            refine W.eq (g2 := F0 m 224 ls [.int (nI E), .int (y >>> ((12 : Int32) &&& 31)), .int (nI j1), .ref (ad (0))]) rfl ?_
            obtain ⟨j2, hj2, ej2⟩ := al_low_I (y >>> ((12 : Int32) &&& 31)) (n := E) (by omega) (by omega)
            refine al_cPs (rest := [.int (nI j1), .ref (ad (0))]) S hK hW (al_L_low l D cy ad σ (y >>> ((12 : Int32) &&& 31)) (nI E) (nI_ne0 (by omega) (by omega))) al_ms_L_low al_ml_RL_68 rfl hl.1 rfl (Nat.le_of_ble_eq_true rfl) dL_law_224 ⟨Nat.le_of_ble_eq_true rfl, Nat.le_of_ble_eq_true rfl⟩ ⟨Nat.le_of_ble_eq_true rfl, Nat.le_of_ble_eq_true rfl⟩ ?_
            refine W.eq (g2 := F0 m 227 ls [.int (nI j2), .int (nI j1), .ref (ad (0))]) (congrArg (fun z => F0 m 227 ls (Value.int z :: [.int (nI j1), .ref (ad (0))])) ej2) ?_
            refine al_cR hAA (rest := []) S hK hW hS (al_L_isLooked l D cy ad hg hrf (A := j1) (B := j2) (by omega) (by omega)) al_ms_L_isLooked al_ml_RL_112 rfl hl.1 rfl (Nat.le_of_ble_eq_true rfl) dL_law_227 ⟨Nat.le_of_ble_eq_true rfl, Nat.le_of_ble_eq_true rfl⟩ ⟨Nat.le_of_ble_eq_true rfl, Nat.le_of_ble_eq_true rfl⟩ (fun σ9 H locs hR9 hW hS => ?_)
            refine W.eq (g2 := F0 m 230 ls [.int 1]) rfl ?_
            obtain ⟨σ, hx, hg, hrf, hW⟩ : ∃ σ, al_gx σ ∧ al_GG σ E d q ∧ al_Rl σ σ ∧ al_H D cy ad σ H := ⟨σ9, al_Rl_gx hR9 hx, hR9.GG hg, al_Rl.rf hR9.2.2.2.2, hW⟩
            refine lv_if_ne (tgt := 235) S.1 S.2.1 dL_law_230 (by decide) (fun c7 => ?_) (fun c7 => ?_)
            · refine lv_iinc (k := 2) (v := nI (t + 1)) (lv' := [(4, .int (nI (t + 1))), (0, .ref b), (1, .ref (ad (0))), (5, .int y)]) S.1 S.2.1 dL_law_235 hl rfl (al_inc t) (by decide) rfl (fun ls hl => ?_)
              refine lv_goto (tgt := 95) S.1 S.2.1 dL_law_238 (by decide) ?_
              exact ih (t + 1) _ _ _ _ (by omega) hx hW hS (lv_sub hl [1, 2, 0] rfl)
            · exact absurd c7 c5
set_option maxHeartbeats 4000000 in
set_option maxRecDepth 100000 in
theorem al_lw_E {p : Program} {e : Env} {s : State} {m : MethodId} {args : Array Value} {below : List Frame} {meth : Method} {c : Code} {Q : State → Prop} (l : Launch) (D : va_G) (cy : al_CY) (ad : Nat → Nat) {A : Nat → Prop} {H0 : Heap} {b : Nat} (hAA : ∀ q, al_A ad q → A q) (S : CallFix p m c cL_law 9 s args al_G RL) (hK : va_K D vwCl (al_tys cy) s) (K : ∀ (H : Heap) (locs : List Loc) (ls : Array Slot), va_S A H0 H locs → W p l e room_1 s m args below meth c H locs 600000 7302250 Q (F0 m 413 ls [.int 1])) : ∀ (σ : al_St) (H : Heap) (locs : List Loc) (ls : Array Slot), al_gx σ → al_H D cy ad σ H → va_S A H0 H locs → lv_has ls 9 [(0, .ref b), (1, .ref (ad (0)))] → W p l e room_1 s m args below meth c H locs 600000 7302250 Q (F0 m 241 ls []) := by
  intro σ0 H locs ls hx0 hW hS hl
  refine lv_aload_n S.1 S.2.1 dL_law_241 rfl (lv_at hl 1 rfl) ?_
  refine al_cR hAA (rest := []) S hK hW hS (al_L_all' l D cy ad hx0.1) al_ms_L_all al_ml_RL_96 rfl hl.1 rfl (Nat.le_of_ble_eq_true rfl) dL_law_242 ⟨Nat.le_of_ble_eq_true rfl, Nat.le_of_ble_eq_true rfl⟩ ⟨Nat.le_of_ble_eq_true rfl, Nat.le_of_ble_eq_true rfl⟩ (fun σ9 H locs hR9 hW hS => ?_)
  refine W.eq (g2 := F0 m 245 ls [.long (al_all σ0)]) rfl ?_
  obtain ⟨σ, hx, ht0, hW⟩ : ∃ σ, al_gx σ ∧ al_td σ 0 = al_td σ0 0 ∧ al_H D cy ad σ H := ⟨σ9, al_Rl_gx hR9 hx0, hR9.td (by omega), hW⟩
  refine lv_lstore (lv' := [(4, .long (al_all σ0)), (0, .ref b), (1, .ref (ad (0)))]) S.1 S.2.1 dL_law_245 hl (by decide) rfl (fun ls hl => ?_)
  refine lv_aload_n S.1 S.2.1 dL_law_247 rfl (lv_at hl 2 rfl) ?_
  obtain ⟨k1, k2, k3, k4, k5, k6, k7⟩ := al_keep_I hx.1
  have hx2 : al_gx (al_keepS σ 0) := ⟨k1, by obtain ⟨-, N, hN, h6⟩ := hx; exact ⟨N, hN, k6.trans h6⟩⟩
  refine al_cG (f := 4) (lo := 85) hAA (rest := []) S hK hW hS (al_X8_keep l D cy ad σ) al_mi_X8_keep al_ml_RL_116 rfl (al_rc_8 D cy ad _) rfl hl.1 rfl (Nat.le_of_ble_eq_true rfl) dL_law_248 ⟨Nat.le_of_ble_eq_true rfl, Nat.le_of_ble_eq_true rfl⟩ ⟨Nat.le_of_ble_eq_true rfl, Nat.le_of_ble_eq_true rfl⟩ (fun H locs hW hS => ?_)
  refine W.eq (g2 := F0 m 251 ls [.int ((al_keepS σ 0).2.2.1 9)]) rfl ?_
  obtain ⟨σ1, hs1⟩ : ∃ σ1, σ1 = al_keepS σ 0 := ⟨_, rfl⟩
  rw [← hs1] at hx2 k3 k5 hW ⊢
  obtain ⟨σ, hx, h5, h8, hv, hW⟩ : ∃ σ9, al_gx σ9 ∧ al_td σ9 5 = al_td σ0 0 ∧ σ9.2.2.1 8 = 1 ∧ σ9.2.2.1 9 = σ1.2.2.1 9 ∧ al_H D cy ad σ9 H := ⟨σ1, hx2, k3.trans ht0, k5, rfl, hW⟩
  refine lv_aload_n S.1 S.2.1 dL_law_251 rfl (lv_at hl 2 rfl) ?_
  refine lv_iconst (v := 0) S.1 S.2.1 dL_law_252 (by decide) ?_
  refine al_cG (f := 4) (lo := 88) hAA (rest := [.int (σ1.2.2.1 9)]) S hK hW hS (al_X8_count0 l D cy ad hx.1) al_mi_X8_count al_ml_RL_12 rfl (al_rc_8 D cy ad _) rfl hl.1 rfl (Nat.le_of_ble_eq_true rfl) dL_law_253 ⟨Nat.le_of_ble_eq_true rfl, Nat.le_of_ble_eq_true rfl⟩ ⟨Nat.le_of_ble_eq_true rfl, Nat.le_of_ble_eq_true rfl⟩ (fun H locs hW hS => ?_)
  refine W.eq (g2 := F0 m 256 ls [.int (σ1.2.2.1 9), .int (σ1.2.2.1 9)]) (congrArg (fun z => F0 m 256 ls (Value.int z :: [.int (σ1.2.2.1 9)])) hv) ?_
  refine lv_icmp_eq (tgt := 261) S.1 S.2.1 dL_law_256 (by decide) (fun c1 => ?_) (fun c1 => ?_)
  · refine lv_aload_n S.1 S.2.1 dL_law_261 rfl (lv_at hl 2 rfl) ?_
    refine lv_iconst (v := 0) S.1 S.2.1 dL_law_262 (by decide) ?_
    obtain ⟨N, hN, h6⟩ := hx.2
    have hI := al_grow_I hx.1 hN h6 0
    obtain ⟨q1, q2, q3⟩ := al_okr_kp hx hI.2
    refine al_cG (f := 5) (lo := 109) hAA (rest := []) S hK hW hS (al_X8_grow l D cy ad σ 0 (al_gx_7 hx.1) hI.1) al_mi_X8_grow al_ml_RL_84 rfl (al_rc_8 D cy ad _) rfl hl.1 rfl (Nat.le_of_ble_eq_true rfl) dL_law_263 ⟨Nat.le_of_ble_eq_true rfl, Nat.le_of_ble_eq_true rfl⟩ ⟨Nat.le_of_ble_eq_true rfl, Nat.le_of_ble_eq_true rfl⟩ (fun H locs hW hS => ?_)
    refine W.eq (g2 := F0 m 266 ls [.int ((al_grow σ 0).1)]) rfl ?_
    obtain ⟨σ, hx, h5, h8, hW⟩ : ∃ σ, al_gx σ ∧ al_td σ 5 = al_td σ0 0 ∧ σ.2.2.1 8 = 1 ∧ al_H D cy ad σ H := ⟨_, q1, q2.trans h5, q3.trans h8, hW⟩
    refine lv_pop S.1 S.2.1 dL_law_266 rfl ?_
    refine lv_aload_n S.1 S.2.1 dL_law_267 rfl (lv_at hl 2 rfl) ?_
    refine lv_iconst (v := 0) S.1 S.2.1 dL_law_268 (by decide) ?_
    refine lv_iconst (v := 0) S.1 S.2.1 dL_law_269 (by decide) ?_
    have hI := al_addLeaf_I hx.1 0 0
    obtain ⟨q1, q2, q3⟩ := al_okr_kp hx hI.2
    refine al_cG (f := 5) (lo := 109) hAA (rest := []) S hK hW hS (al_X8_addLeaf l D cy ad σ 0 0 (al_gx_7 hx.1) hI.1) al_mi_X8_addLeaf al_ml_RL_72 rfl (al_rc_8 D cy ad _) rfl hl.1 rfl (Nat.le_of_ble_eq_true rfl) dL_law_270 ⟨Nat.le_of_ble_eq_true rfl, Nat.le_of_ble_eq_true rfl⟩ ⟨Nat.le_of_ble_eq_true rfl, Nat.le_of_ble_eq_true rfl⟩ (fun H locs hW hS => ?_)
    refine W.eq (g2 := F0 m 273 ls [.int ((al_addLeaf σ 0 0).1)]) rfl ?_
    obtain ⟨σ, hx, h5, h8, hW⟩ : ∃ σ, al_gx σ ∧ al_td σ 5 = al_td σ0 0 ∧ σ.2.2.1 8 = 1 ∧ al_H D cy ad σ H := ⟨_, q1, q2.trans h5, q3.trans h8, hW⟩
    refine lv_pop S.1 S.2.1 dL_law_273 rfl ?_
    refine lv_aload_n S.1 S.2.1 dL_law_274 rfl (lv_at hl 2 rfl) ?_
    refine lv_iconst (v := 1) S.1 S.2.1 dL_law_275 (by decide) ?_
    refine lv_iconst (v := 2) S.1 S.2.1 dL_law_276 (by decide) ?_
    have hI := al_graft_I hx.1 1 2
    obtain ⟨q1, q2, q3⟩ := al_okr_kp hx hI.2
    refine al_cG (f := 5) (lo := 109) hAA (rest := []) S hK hW hS (al_X8_graft l D cy ad σ 1 2 (al_gx_7 hx.1) hI.1) al_mi_X8_graft al_ml_RL_78 rfl (al_rc_8 D cy ad _) rfl hl.1 rfl (Nat.le_of_ble_eq_true rfl) dL_law_277 ⟨Nat.le_of_ble_eq_true rfl, Nat.le_of_ble_eq_true rfl⟩ ⟨Nat.le_of_ble_eq_true rfl, Nat.le_of_ble_eq_true rfl⟩ (fun H locs hW hS => ?_)
    refine W.eq (g2 := F0 m 280 ls [.int ((al_graft σ 1 2).1)]) rfl ?_
    obtain ⟨σ, hx, h5, h8, hW⟩ : ∃ σ, al_gx σ ∧ al_td σ 5 = al_td σ0 0 ∧ σ.2.2.1 8 = 1 ∧ al_H D cy ad σ H := ⟨_, q1, q2.trans h5, q3.trans h8, hW⟩
    refine lv_pop S.1 S.2.1 dL_law_280 rfl ?_
    refine lv_aload_n S.1 S.2.1 dL_law_281 rfl (lv_at hl 2 rfl) ?_
    obtain ⟨a1, a2, a3, a4, a5⟩ := al_restore_I hx.1 h8
    have hxr := al_und_gx hx a3 a4
    have hMr := al_X8_restore l D cy ad σ (al_gx_7 hx.1) (by rw [h8]; rfl) (fun _ => a1)
    refine al_cG (f := 5) (lo := 109) hAA (rest := []) S hK hW hS (hMr) al_mi_X8_restore al_ml_RL_119 rfl (al_rc_8 D cy ad _) rfl hl.1 rfl (Nat.le_of_ble_eq_true rfl) dL_law_282 ⟨Nat.le_of_ble_eq_true rfl, Nat.le_of_ble_eq_true rfl⟩ ⟨Nat.le_of_ble_eq_true rfl, Nat.le_of_ble_eq_true rfl⟩ (fun H locs hW hS => ?_)
    refine W.eq (g2 := F0 m 285 ls [.int ((al_restore σ).2.2.2.1 9)]) (congrArg (fun z => F0 m 285 ls (Value.int z :: [])) a2) ?_
    obtain ⟨σ2, hs2⟩ : ∃ σ2, σ2 = (al_restore σ).2 := ⟨_, rfl⟩
    rw [← hs2] at hxr a3 a4 a5 hW ⊢
    have hun := a4.1
    have hz5 : al_td σ2 5 = al_td σ0 0 := a4.2.1.trans h5
    have hz0 : al_td σ2 0 = al_td σ0 0 := a5.trans h5
    have hz8 : σ2.2.2.1 8 = 1 := a4.2.2.2.1.trans h8
    refine lv_aload_n S.1 S.2.1 dL_law_285 rfl (lv_at hl 2 rfl) ?_
    refine lv_iconst (v := 0) S.1 S.2.1 dL_law_286 (by decide) ?_
    refine al_cG (f := 4) (lo := 88) hAA (rest := [.int (σ2.2.2.1 9)]) S hK hW hS (al_X8_count0 l D cy ad hxr.1) al_mi_X8_count al_ml_RL_12 rfl (al_rc_8 D cy ad _) rfl hl.1 rfl (Nat.le_of_ble_eq_true rfl) dL_law_287 ⟨Nat.le_of_ble_eq_true rfl, Nat.le_of_ble_eq_true rfl⟩ ⟨Nat.le_of_ble_eq_true rfl, Nat.le_of_ble_eq_true rfl⟩ (fun H locs hW hS => ?_)
    refine W.eq (g2 := F0 m 290 ls [.int (σ2.2.2.1 9), .int (σ2.2.2.1 9)]) rfl ?_
    refine lv_icmp_ne (tgt := 412) S.1 S.2.1 dL_law_290 (by decide) (fun c2 => ?_) (fun c2 => ?_)
    · exact absurd rfl c2
    · refine lv_aload_n S.1 S.2.1 dL_law_293 rfl (lv_at hl 2 rfl) ?_
      have hal : al_all σ2 = al_all σ0 := al_all_td hx0.1 a3 hz0
      refine al_cR hAA (rest := []) S hK hW hS (al_L_all' l D cy ad a3) al_ms_L_all al_ml_RL_96 rfl hl.1 rfl (Nat.le_of_ble_eq_true rfl) dL_law_294 ⟨Nat.le_of_ble_eq_true rfl, Nat.le_of_ble_eq_true rfl⟩ ⟨Nat.le_of_ble_eq_true rfl, Nat.le_of_ble_eq_true rfl⟩ (fun σ9 H locs hR9 hW hS => ?_)
      refine W.eq (g2 := F0 m 297 ls [.long (al_all σ0)]) (congrArg (fun z => F0 m 297 ls (Value.long z :: [])) hal) ?_
      obtain ⟨U, hU, h7, -⟩ := hun
      have h79 : σ9.2.2.1 7 = nI (U + 1) := (hR9.2.2.1 7 (by decide)).trans h7
      obtain ⟨σ, hx, h5, h8, h7, hW⟩ : ∃ σ, al_gx σ ∧ al_td σ 5 = al_td σ0 0 ∧ σ.2.2.1 8 = 1 ∧ σ.2.2.1 7 = nI (U + 1) ∧ al_H D cy ad σ H := ⟨σ9, al_Rl_gx hR9 hxr, (hR9.td (by omega)).trans hz5, (hR9.2.2.1 8 (by decide)).trans hz8, h79, hW⟩
      refine lv_lload S.1 S.2.1 dL_law_297 (lv_at hl 0 rfl) ?_
      refine W.lcmp S.1 S.2.1 dL_law_299 ?_
      refine lv_if_ne (tgt := 412) S.1 S.2.1 dL_law_300 (by decide) (fun c3 => ?_) (fun c3 => ?_)
      · exact absurd (al_lg_same _) c3
      · refine lv_aload_n S.1 S.2.1 dL_law_303 rfl (lv_at hl 2 rfl) ?_
        obtain ⟨u1, u2, u3, u4, u5, u6, u7⟩ := al_undo_I hx.1 hU h7
        have hxu : al_gx (al_undo σ).2 := ⟨u5, by obtain ⟨-, N, hN, h6⟩ := hx; exact ⟨N, hN, u7.2.1.trans h6⟩⟩
        have hMu := al_X8_undo l D cy ad σ (fun _ => u1) (fun _ => u2) (fun _ => u3)
        obtain ⟨σ3, hs3⟩ : ∃ σ3, σ3 = σ := ⟨_, rfl⟩
        rw [← hs3] at hMu hW hxu u4 u7 h5 h8
        refine al_cG (f := 5) (lo := 109) hAA (rest := []) S hK hW hS (hMu) al_mi_X8_undo al_ml_RL_104 rfl (al_rc_8 D cy ad _) rfl hl.1 rfl (Nat.le_of_ble_eq_true rfl) dL_law_304 ⟨Nat.le_of_ble_eq_true rfl, Nat.le_of_ble_eq_true rfl⟩ ⟨Nat.le_of_ble_eq_true rfl, Nat.le_of_ble_eq_true rfl⟩ (fun H locs hW hS => ?_)
        refine W.eq (g2 := F0 m 307 ls [.int ((al_undo σ3).1)]) rfl ?_
        obtain ⟨σ, hx, h5, h8, hW⟩ : ∃ σ, al_gx σ ∧ al_td σ 5 = al_td σ0 0 ∧ σ.2.2.1 8 = 1 ∧ al_H D cy ad σ H := ⟨_, hxu, u7.1.trans h5, u7.2.2.1.trans h8, hW⟩
        refine lv_if_lt (tgt := 412) S.1 S.2.1 dL_law_307 (by decide) (fun c4 => ?_) (fun c4 => ?_)
        · exact absurd c4 u4
        · refine lv_aload_n S.1 S.2.1 dL_law_310 rfl (lv_at hl 2 rfl) ?_
          obtain ⟨a1, a2, a3, a4, a5⟩ := al_restore_I hx.1 h8
          have hxr := al_und_gx hx a3 a4
          have hMr := al_X8_restore l D cy ad σ (al_gx_7 hx.1) (by rw [h8]; rfl) (fun _ => a1)
          refine al_cG (f := 5) (lo := 109) hAA (rest := []) S hK hW hS (hMr) al_mi_X8_restore al_ml_RL_119 rfl (al_rc_8 D cy ad _) rfl hl.1 rfl (Nat.le_of_ble_eq_true rfl) dL_law_311 ⟨Nat.le_of_ble_eq_true rfl, Nat.le_of_ble_eq_true rfl⟩ ⟨Nat.le_of_ble_eq_true rfl, Nat.le_of_ble_eq_true rfl⟩ (fun H locs hW hS => ?_)
          refine W.eq (g2 := F0 m 314 ls [.int ((al_restore σ).2.2.2.1 9)]) (congrArg (fun z => F0 m 314 ls (Value.int z :: [])) a2) ?_
          obtain ⟨σ2, hs2⟩ : ∃ σ2, σ2 = (al_restore σ).2 := ⟨_, rfl⟩
          rw [← hs2] at hxr a3 a4 a5 hW ⊢
          have hun := a4.1
          have hz5 : al_td σ2 5 = al_td σ0 0 := a4.2.1.trans h5
          have hz0 : al_td σ2 0 = al_td σ0 0 := a5.trans h5
          have hz8 : σ2.2.2.1 8 = 1 := a4.2.2.2.1.trans h8
          refine lv_if_lt (tgt := 412) S.1 S.2.1 dL_law_314 (by decide) (fun c5 => ?_) (fun c5 => ?_)
          · exact absurd c5 (al_gw_9 a3)
          · refine lv_aload_n S.1 S.2.1 dL_law_317 rfl (lv_at hl 2 rfl) ?_
            have hal : al_all σ2 = al_all σ0 := al_all_td hx0.1 a3 hz0
            refine al_cR hAA (rest := []) S hK hW hS (al_L_all' l D cy ad a3) al_ms_L_all al_ml_RL_96 rfl hl.1 rfl (Nat.le_of_ble_eq_true rfl) dL_law_318 ⟨Nat.le_of_ble_eq_true rfl, Nat.le_of_ble_eq_true rfl⟩ ⟨Nat.le_of_ble_eq_true rfl, Nat.le_of_ble_eq_true rfl⟩ (fun σ9 H locs hR9 hW hS => ?_)
            refine W.eq (g2 := F0 m 321 ls [.long (al_all σ0)]) (congrArg (fun z => F0 m 321 ls (Value.long z :: [])) hal) ?_
            obtain ⟨U, hU, h7, -⟩ := hun
            have h79 : σ9.2.2.1 7 = nI (U + 1) := (hR9.2.2.1 7 (by decide)).trans h7
            obtain ⟨σ, hx, h5, h8, h7, hW⟩ : ∃ σ, al_gx σ ∧ al_td σ 5 = al_td σ0 0 ∧ σ.2.2.1 8 = 1 ∧ σ.2.2.1 7 = nI (U + 1) ∧ al_H D cy ad σ H := ⟨σ9, al_Rl_gx hR9 hxr, (hR9.td (by omega)).trans hz5, (hR9.2.2.1 8 (by decide)).trans hz8, h79, hW⟩
            refine lv_lload S.1 S.2.1 dL_law_321 (lv_at hl 0 rfl) ?_
            refine W.lcmp S.1 S.2.1 dL_law_323 ?_
            refine lv_if_ne (tgt := 412) S.1 S.2.1 dL_law_324 (by decide) (fun c6 => ?_) (fun c6 => ?_)
            · exact absurd (al_lg_same _) c6
            · refine lv_aload_n S.1 S.2.1 dL_law_327 rfl (lv_at hl 2 rfl) ?_
              refine lv_bipush (v := 10) S.1 S.2.1 dL_law_328 (by decide) ?_
              obtain ⟨hp, E, d, q, hg⟩ := id hx.1
              have h90 : al_isN σ 0 90 = 0 := al_GG_out hg (v := 90) (by omega) (fun h9 => by have := al_nd_lt hg.1 h9; omega)
              have h00 : ¬ al_isN σ 0 0 = 0 := al_GG_in hg (al_root_nd hg.1)
              refine al_cG (f := 4) (lo := 88) hAA (rest := []) S hK hW hS (al_X8_count10 l D cy ad hx.1) al_mi_X8_count al_ml_RL_12 rfl (al_rc_8 D cy ad _) rfl hl.1 rfl (Nat.le_of_ble_eq_true rfl) dL_law_330 ⟨Nat.le_of_ble_eq_true rfl, Nat.le_of_ble_eq_true rfl⟩ ⟨Nat.le_of_ble_eq_true rfl, Nat.le_of_ble_eq_true rfl⟩ (fun H locs hW hS => ?_)
              refine W.eq (g2 := F0 m 333 ls [.int (-2)]) rfl ?_
              refine lv_bipush (v := -2) S.1 S.2.1 dL_law_333 (by decide) ?_
              refine lv_icmp_ne (tgt := 412) S.1 S.2.1 dL_law_335 (by decide) (fun c7 => ?_) (fun c7 => ?_)
              · exact absurd (by decide) c7
              · refine lv_aload_n S.1 S.2.1 dL_law_338 rfl (lv_at hl 2 rfl) ?_
                refine lv_iconst (v := 2) S.1 S.2.1 dL_law_339 (by decide) ?_
                refine al_cG (f := 4) (lo := 92) hAA (rest := []) S hK hW hS (al_X8_apart2 l D cy ad hx.1) al_mi_X8_apart al_ml_RL_55 rfl (al_rc_8 D cy ad _) rfl hl.1 rfl (Nat.le_of_ble_eq_true rfl) dL_law_340 ⟨Nat.le_of_ble_eq_true rfl, Nat.le_of_ble_eq_true rfl⟩ ⟨Nat.le_of_ble_eq_true rfl, Nat.le_of_ble_eq_true rfl⟩ (fun H locs hW hS => ?_)
                refine W.eq (g2 := F0 m 343 ls [.int (-2)]) rfl ?_
                refine lv_bipush (v := -2) S.1 S.2.1 dL_law_343 (by decide) ?_
                refine lv_icmp_ne (tgt := 412) S.1 S.2.1 dL_law_345 (by decide) (fun c8 => ?_) (fun c8 => ?_)
                · exact absurd c7 c8
                · refine lv_aload_n S.1 S.2.1 dL_law_348 rfl (lv_at hl 2 rfl) ?_
                  refine lv_iconst (v := 0) S.1 S.2.1 dL_law_349 (by decide) ?_
                  refine lv_bipush (v := 7) S.1 S.2.1 dL_law_350 (by decide) ?_
                  refine al_cP (rest := []) S hK hW (al_X8_jump l D cy ad σ 0 7 h00 (by decide) (by decide)) al_mi_X8_jump al_ml_RL_122 rfl (al_rc_8 D cy ad _) rfl hl.1 rfl (Nat.le_of_ble_eq_true rfl) dL_law_352 ⟨Nat.le_of_ble_eq_true rfl, Nat.le_of_ble_eq_true rfl⟩ ⟨Nat.le_of_ble_eq_true rfl, Nat.le_of_ble_eq_true rfl⟩ ?_
                  refine W.eq (g2 := F0 m 355 ls [.int (-2)]) rfl ?_
                  refine lv_bipush (v := -2) S.1 S.2.1 dL_law_355 (by decide) ?_
                  refine lv_icmp_ne (tgt := 412) S.1 S.2.1 dL_law_357 (by decide) (fun c9 => ?_) (fun c9 => ?_)
                  · exact absurd c8 c9
                  · refine lv_aload_n S.1 S.2.1 dL_law_360 rfl (lv_at hl 2 rfl) ?_
                    refine lv_bipush (v := 90) S.1 S.2.1 dL_law_361 (by decide) ?_
                    refine al_cG (f := 4) (lo := 90) hAA (rest := []) S hK hW hS (al_X8_far90 l D cy ad hx.1 h90) al_mi_X8_farthest al_ml_RL_27 rfl (al_rc_8 D cy ad _) rfl hl.1 rfl (Nat.le_of_ble_eq_true rfl) dL_law_363 ⟨Nat.le_of_ble_eq_true rfl, Nat.le_of_ble_eq_true rfl⟩ ⟨Nat.le_of_ble_eq_true rfl, Nat.le_of_ble_eq_true rfl⟩ (fun H locs hW hS => ?_)
                    refine W.eq (g2 := F0 m 366 ls [.int (-1)]) rfl ?_
                    refine lv_iconst (v := -1) S.1 S.2.1 dL_law_366 (by decide) ?_
                    refine lv_icmp_ne (tgt := 412) S.1 S.2.1 dL_law_367 (by decide) (fun c10 => ?_) (fun c10 => ?_)
                    · exact absurd (by decide) c10
                    · refine lv_aload_n S.1 S.2.1 dL_law_370 rfl (lv_at hl 2 rfl) ?_
                      refine lv_iconst (v := -1) S.1 S.2.1 dL_law_371 (by decide) ?_
                      refine al_cG (f := 4) (lo := 88) hAA (rest := []) S hK hW hS (al_X8_shapeM l D cy ad hx.1) al_mi_X8_shape al_ml_RL_22 rfl (al_rc_8 D cy ad _) rfl hl.1 rfl (Nat.le_of_ble_eq_true rfl) dL_law_372 ⟨Nat.le_of_ble_eq_true rfl, Nat.le_of_ble_eq_true rfl⟩ ⟨Nat.le_of_ble_eq_true rfl, Nat.le_of_ble_eq_true rfl⟩ (fun H locs hW hS => ?_)
                      refine W.eq (g2 := F0 m 375 ls [.int (-1)]) rfl ?_
                      refine lv_iconst (v := -1) S.1 S.2.1 dL_law_375 (by decide) ?_
                      refine lv_icmp_ne (tgt := 412) S.1 S.2.1 dL_law_376 (by decide) (fun c11 => ?_) (fun c11 => ?_)
                      · exact absurd c10 c11
                      · refine lv_aload_n S.1 S.2.1 dL_law_379 rfl (lv_at hl 2 rfl) ?_
                        refine lv_iconst (v := 0) S.1 S.2.1 dL_law_380 (by decide) ?_
                        refine lv_iconst (v := -1) S.1 S.2.1 dL_law_381 (by decide) ?_
                        refine al_cP (rest := []) S hK hW (al_X8_reach l D cy ad σ 0 (-1) hp.2.2.2) al_mi_X8_reach al_ml_RL_62 rfl (al_rc_8 D cy ad _) rfl hl.1 rfl (Nat.le_of_ble_eq_true rfl) dL_law_382 ⟨Nat.le_of_ble_eq_true rfl, Nat.le_of_ble_eq_true rfl⟩ ⟨Nat.le_of_ble_eq_true rfl, Nat.le_of_ble_eq_true rfl⟩ ?_
                        refine W.eq (g2 := F0 m 385 ls [.int (-2)]) (congrArg (fun z => F0 m 385 ls (Value.int z :: [])) (show al_reach σ 0 (-1) = -2 by rw [al_reach, if_neg h00, if_pos (by decide)])) ?_
                        refine lv_bipush (v := -2) S.1 S.2.1 dL_law_385 (by decide) ?_
                        refine lv_icmp_ne (tgt := 412) S.1 S.2.1 dL_law_387 (by decide) (fun c12 => ?_) (fun c12 => ?_)
                        · exact absurd c9 c12
                        · refine lv_aload_n S.1 S.2.1 dL_law_390 rfl (lv_at hl 2 rfl) ?_
                          refine lv_iconst (v := 0) S.1 S.2.1 dL_law_391 (by decide) ?_
                          refine lv_bipush (v := 90) S.1 S.2.1 dL_law_392 (by decide) ?_
                          refine al_cP (rest := []) S hK hW (al_X8_distance l D cy ad σ 0 90 hp.2.2.2) al_mi_X8_distance al_ml_RL_58 rfl (al_rc_8 D cy ad _) rfl hl.1 rfl (Nat.le_of_ble_eq_true rfl) dL_law_394 ⟨Nat.le_of_ble_eq_true rfl, Nat.le_of_ble_eq_true rfl⟩ ⟨Nat.le_of_ble_eq_true rfl, Nat.le_of_ble_eq_true rfl⟩ ?_
                          refine W.eq (g2 := F0 m 397 ls [.float 2143289344]) (congrArg (fun z => F0 m 397 ls (Value.float z :: [])) (show al_dist σ 0 90 = 2143289344 by rw [al_dist, if_neg h00, if_pos h90])) ?_
                          refine lv_aload_n S.1 S.2.1 dL_law_397 rfl (lv_at hl 2 rfl) ?_
                          refine lv_iconst (v := 0) S.1 S.2.1 dL_law_398 (by decide) ?_
                          refine lv_bipush (v := 90) S.1 S.2.1 dL_law_399 (by decide) ?_
                          refine al_cP (rest := [.float 2143289344]) S hK hW (al_X8_distance l D cy ad σ 0 90 hp.2.2.2) al_mi_X8_distance al_ml_RL_58 rfl (al_rc_8 D cy ad _) rfl hl.1 rfl (Nat.le_of_ble_eq_true rfl) dL_law_401 ⟨Nat.le_of_ble_eq_true rfl, Nat.le_of_ble_eq_true rfl⟩ ⟨Nat.le_of_ble_eq_true rfl, Nat.le_of_ble_eq_true rfl⟩ ?_
                          refine W.eq (g2 := F0 m 404 ls [.float 2143289344, .float 2143289344]) (congrArg (fun z => F0 m 404 ls (Value.float z :: [.float 2143289344])) (show al_dist σ 0 90 = 2143289344 by rw [al_dist, if_neg h00, if_pos h90])) ?_
                          refine lv_fcmp S.1 S.2.1 dL_law_404 ?_
                          refine lv_if_eq (tgt := 412) S.1 S.2.1 dL_law_405 (by decide) (fun c13 => ?_) (fun c13 => ?_)
                          · exact absurd c13 (by decide +kernel)
                          · refine lv_iconst (v := 1) S.1 S.2.1 dL_law_408 (by decide) ?_
                            refine lv_goto (tgt := 413) S.1 S.2.1 dL_law_409 (by decide) ?_
                            exact K _ _ _ hS
  · exact absurd rfl c1
