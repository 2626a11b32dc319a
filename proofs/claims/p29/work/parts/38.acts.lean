/-! acts; and rows for calls from a larger own part, with answers that are not told -/
theorem al_X8_count1 (l : Launch) (D : va_G) (cy : al_CY) (ad : Nat → Nat) (σ : al_St) {E : Nat} (hE : σ.2.2.1 0 = nI E) (hp : al_pOK 9000 σ) : al_MS l yX8_count cX8_count 2 (some .int) 4 88 D cy ad σ [.ref (ad (0)), .int 1] (some (.int (nI E))) σ := by
  have h := al_X8_count l D cy ad σ 1 hp
  have e : al_count σ 1 = (σ.2.2.1 0, σ) := by rw [al_count, if_neg (by decide), if_pos rfl]
  rw [e, hE] at h
  exact h
/-- an act: what it answers and leaves is not told, but that it is right -/
def al_Qa (D : va_G) (cy : al_CY) (ad : Nat → Nat) (σ : al_St) : Array Value → State → Outcome → State → Prop := fun _ st o t => ∃ r : Int32 × al_St, al_okr σ r ∧ o = .returned (some (.int r.1)) ∧ al_H D cy ad r.2 t.heap ∧ va_F (al_A ad) st t
abbrev al_MA (l : Launch) (y : MethodName) (bytes : ByteArray) (maxL : Nat) (ret : Option FieldType) (f lo : Nat) (D : va_G) (cy : al_CY) (ad : Nat → Nat) (σ : al_St) (av : List Value) : Prop := Met l y (al_ws y bytes maxL ret) (al_rm f lo) (al_Pc D cy ad σ av) (al_Qa D cy ad σ) 0 0 (al_A ad)
section ALG
variable {p : Program} {l : Launch} {e : Env} {R : Room} {s : State} {m : MethodId} {args : Array Value} {below : List Frame} {meth : Method} {c : Code} {H : Heap} {locs : List Loc} {cells slots : Nat} {Q : State → Prop}
variable {y : MethodName} {bytes cc : ByteArray} {maxL nL n index f lo pc : Nat} {ret : Option FieldType} {own : String} {b : Addr} {As rest st0 : List Value} {ls : Array Slot}
variable {D : va_G} {cy : al_CY} {ad : Nat → Nat} {σ σ' τ : al_St} {v : Option Value} {H0 : Heap} {A : Nat → Prop}
theorem al_runA (hAA : ∀ q, al_A ad q → A q) (hr : va_Run p l e R s m args below meth c H locs cells slots 0 0 (F0 m pc ls st0) rest (al_Qa D cy ad σ #[]) (al_A ad)) (hS : va_S A H0 H locs) (kk : ∀ (r : Int32 × al_St) (H1 : Heap) (locs1 : List Loc), al_okr σ r → al_H D cy ad r.2 H1 → va_S A H0 H1 locs1 → W p l e R s m args below meth c H1 locs1 cells slots Q (F0 m (pc + 3) ls (.int r.1 :: rest))) : W p l e R s m args below meth c H locs cells slots Q (F0 m pc ls st0) := by
  intro T hT X
  obtain ⟨w, st₀, t, T', L, h0, X', hL, e1, e2, ⟨r, hr2, hv, hw, hz, hk⟩, st⟩ := hr T hT X
  cases hv
  rw [h0] at hz hk
  obtain ⟨t2, a1, b1⟩ := kk r T'.heap (locs ++ L) hr2 (by rw [e1]; exact hw)
    ⟨Nat.le_trans hS.1 (by rw [e1]; exact hz), fun q h1 h2 => by rw [e1, hk q (Nat.lt_of_lt_of_le h1 hS.1) (fun z => h2 (hAA q z))]; exact hS.2.1 q h1 h2, fun q hq => by
      rcases List.mem_append.mp hq with h | h
      · exact hS.2.2 q h
      · exact hAA _ (hL q h)⟩ T' rfl X'
  exact ⟨t2, st t2 a1, b1⟩
theorem al_runR (hAA : ∀ q, al_A ad q → A q) (hr : va_Run p l e R s m args below meth c H locs cells slots 0 0 (F0 m pc ls st0) rest (al_Qr D cy ad v τ #[]) (al_A ad)) (hS : va_S A H0 H locs) (kk : ∀ (σ9 : al_St) (H1 : Heap) (locs1 : List Loc), al_Rl τ σ9 → al_H D cy ad σ9 H1 → va_S A H0 H1 locs1 → W p l e R s m args below meth c H1 locs1 cells slots Q (F0 m (pc + 3) ls (v.toList ++ rest))) : W p l e R s m args below meth c H locs cells slots Q (F0 m pc ls st0) := by
  intro T hT X
  obtain ⟨w, st₀, t, T', L, h0, X', hL, e1, e2, ⟨hv, ⟨σ9, hR9, hw⟩, hz, hk⟩, st⟩ := hr T hT X
  cases hv
  rw [h0] at hz hk
  obtain ⟨t2, a1, b1⟩ := kk σ9 T'.heap (locs ++ L) hR9 (by rw [e1]; exact hw)
    ⟨Nat.le_trans hS.1 (by rw [e1]; exact hz), fun q h1 h2 => by rw [e1, hk q (Nat.lt_of_lt_of_le h1 hS.1) (fun z => h2 (hAA q z))]; exact hS.2.1 q h1 h2, fun q hq => by
      rcases List.mem_append.mp hq with h | h
      · exact hS.2.2 q h
      · exact hAA _ (hL q h)⟩ T' rfl X'
  exact ⟨t2, st t2 a1, b1⟩
/-- a call of one of the law's own that asks only -/
theorem al_cR (hAA : ∀ q, al_A ad q → A q) (S : CallFix p m c cc nL s args al_G own) (hK : va_K D vwCl (al_tys cy) s) (hW : al_H D cy ad σ H) (hS : va_S A H0 H locs) (hM : al_MR l y bytes maxL ret f lo D cy ad τ σ As v) (hm : al_mst y bytes maxL ret n) (hl : Cond.methodLink own index y ∈ al_G) (hn : As.length = n) (hsz : ls.size = nL) (hst : st0 = As.reverse ++ rest) (hrest : (rest.map fun v => v.category).sum ≤ 8) (hdg : decode cc pc = .ok (.invokestatic index, 3)) (hR : f + 1 ≤ R.frames ∧ 8 + (maxL + 11) + lo ≤ R.locals) (hf : cells ≤ R.cells ∧ slots ≤ R.slots)
    (kk : ∀ (σ9 : al_St) (H1 : Heap) (locs1 : List Loc), al_Rl τ σ9 → al_H D cy ad σ9 H1 → va_S A H0 H1 locs1 → W p l e R s m args below meth c H1 locs1 cells slots Q (F0 m (pc + 3) ls (v.toList ++ rest))) : W p l e R s m args below meth c H locs cells slots Q (F0 m pc ls st0) :=
  al_runR hAA (va_runS (As := As) (rest := rest) S hM ⟨al_cb S.2.2.2.2 hm.1 hl hR, S.2.2.2.2 _ hm.2⟩ ⟨al_blind, fun U hU hV => ⟨rfl, by rw [hU]; exact hW, va_K.moved hV.alike hK⟩⟩ rfl hn hsz hst (lv_room hrest) hdg hf) hS kk
/-- a call of acts -/
theorem al_cA (hAA : ∀ q, al_A ad q → A q) (S : CallFix p m c cc nL s args al_G own) (hK : va_K D vwCl (al_tys cy) s) (hW : al_H D cy ad σ H) (hS : va_S A H0 H locs) (hM : al_MA l y bytes maxL ret f lo D cy ad σ As) (hm : al_mst y bytes maxL ret n) (hl : Cond.methodLink own index y ∈ al_G) (hn : As.length = n) (hsz : ls.size = nL) (hst : st0 = As.reverse ++ rest) (hrest : (rest.map fun v => v.category).sum ≤ 8) (hdg : decode cc pc = .ok (.invokestatic index, 3)) (hR : f + 1 ≤ R.frames ∧ 8 + (maxL + 11) + lo ≤ R.locals) (hf : cells ≤ R.cells ∧ slots ≤ R.slots)
    (kk : ∀ (r : Int32 × al_St) (H1 : Heap) (locs1 : List Loc), al_okr σ r → al_H D cy ad r.2 H1 → va_S A H0 H1 locs1 → W p l e R s m args below meth c H1 locs1 cells slots Q (F0 m (pc + 3) ls (.int r.1 :: rest))) : W p l e R s m args below meth c H locs cells slots Q (F0 m pc ls st0) :=
  al_runA hAA (va_runS (As := As) (rest := rest) S hM ⟨al_cb S.2.2.2.2 hm.1 hl hR, S.2.2.2.2 _ hm.2⟩ ⟨al_blind, fun U hU hV => ⟨rfl, by rw [hU]; exact hW, va_K.moved hV.alike hK⟩⟩ rfl hn hsz hst (lv_room hrest) hdg hf) hS kk
end ALG
/-- a good world with a text of its length -/
def al_gx (σ : al_St) : Prop := al_gw σ ∧ ∃ N, N ≤ 60 ∧ σ.2.2.1 6 = nI N
theorem al_gx_7 {σ : al_St} (h : al_gw σ) : ¬ σ.2.2.1 7 < 0 := by
  obtain ⟨⟨-, ⟨U, hU, e⟩, -⟩, -⟩ := h
  rw [e]
  exact nI_pos (by omega)
theorem al_gx_p {σ : al_St} (h : al_gw σ) : al_pOK 9000 σ := by
  obtain ⟨⟨-, -, -, hB⟩, E, d, q, hg⟩ := h
  exact al_pOK_R hg (al_Rl.rf hB)
theorem al_gx_E {σ : al_St} (h : al_gw σ) : ∃ E, 1 ≤ E ∧ E ≤ 90 ∧ σ.2.2.1 0 = nI E := by
  obtain ⟨-, E, d, q, hg⟩ := h
  exact ⟨E, hg.1.1, hg.1.2.1, hg.2.1⟩
theorem al_mv_L_acts : al_mv yL_acts cL_acts 5 (some .int) 2 := ⟨al_c_L_acts, al_ini_RL, ⟨by decide +kernel, by decide +kernel, by decide +kernel⟩, by decide +kernel⟩
theorem al_ms_L_acts : al_mst yL_acts cL_acts 5 (some .int) 2 := ⟨al_mv_L_acts, al_st_L_acts⟩
set_option maxHeartbeats 4000000 in
set_option maxRecDepth 100000 in
theorem al_L_acts (l : Launch) (D : va_G) (cy : al_CY) (ad : Nat → Nat) {σ : al_St} (h : al_gx σ) (y : Int32) : al_MA l yL_acts cL_acts 5 (some .int) 6 132 D cy ad σ [.ref (ad (0)), .int y] := by
  obtain ⟨N, hN, h6⟩ := h.2
  obtain ⟨E, hE1, hE9, hE⟩ := al_gx_E h.1
  refine al_met al_mv_L_acts (Nat.le_of_ble_eq_true rfl) ?_
  intro p e s m args below meth c ls S hr hlocks hK hW hS hl
  have hl : lv_has ls 5 [(0, .ref (ad (0))), (1, .int y)] := hl
  refine lv_aload_n S.1 S.2.1 dL_acts_0 rfl (lv_at hl 0 rfl) ?_
  refine lv_iconst (v := 1) S.1 S.2.1 dL_acts_1 (by decide) ?_
  refine al_cS (rest := []) S hK hW hS (al_X8_count1 l D cy ad σ hE (al_gx_p h.1)) al_mi_X8_count al_ml_RL_12 rfl (al_rc_8 D cy ad _) rfl hl.1 rfl (Nat.le_of_ble_eq_true rfl) dL_acts_2 ⟨Nat.le_of_ble_eq_true rfl, Nat.le_of_ble_eq_true rfl⟩ ⟨Nat.zero_le _, Nat.zero_le _⟩ (fun H locs hW hS => ?_)
  refine W.eq (g2 := F0 m 5 ls [.int (nI E)]) rfl ?_
  refine lv_istore_n (lv' := [(2, .int (nI E)), (0, .ref (ad (0))), (1, .int y)]) S.1 S.2.1 dL_acts_5 rfl hl (by decide) rfl (fun ls hl => ?_)
  refine lv_iload_n S.1 S.2.1 dL_acts_6 rfl (lv_at hl 2 rfl) ?_
  refine lv_iconst (v := 4) S.1 S.2.1 dL_acts_7 (by decide) ?_
  refine lv_ishr S.1 S.2.1 dL_acts_8 ?_
  refine lv_iload_n S.1 S.2.1 dL_acts_9 rfl (lv_at hl 0 rfl) ?_
  refine al_cPs (rest := []) S hK hW (al_L_low l D cy ad σ (y >>> ((4 : Int32) &&& 31)) (nI E) (nI_ne0 (by omega) (by omega))) al_ms_L_low al_ml_RL_68 rfl hl.1 rfl (Nat.le_of_ble_eq_true rfl) dL_acts_10 ⟨Nat.le_of_ble_eq_true rfl, Nat.le_of_ble_eq_true rfl⟩ ⟨Nat.zero_le _, Nat.zero_le _⟩ ?_
  refine W.eq (g2 := F0 m 13 ls [.int (al_low (y >>> ((4 : Int32) &&& 31)) (nI E))]) rfl ?_
  refine lv_istore_n (lv' := [(3, .int (al_low (y >>> ((4 : Int32) &&& 31)) (nI E))), (2, .int (nI E)), (0, .ref (ad (0))), (1, .int y)]) S.1 S.2.1 dL_acts_13 rfl hl (by decide) rfl (fun ls hl => ?_)
  refine lv_iload_n S.1 S.2.1 dL_acts_14 rfl (lv_at hl 3 rfl) ?_
  refine lv_bipush (v := 24) S.1 S.2.1 dL_acts_15 (by decide) ?_
  refine lv_ishr S.1 S.2.1 dL_acts_17 ?_
  refine lv_iconst (v := 1) S.1 S.2.1 dL_acts_18 (by decide) ?_
  refine lv_iand S.1 S.2.1 dL_acts_19 ?_
  refine lv_if_ne (tgt := 29) S.1 S.2.1 dL_acts_20 (by decide) (fun c1 => ?_) (fun c1 => ?_)
  · refine lv_iload_n S.1 S.2.1 dL_acts_29 rfl (lv_at hl 3 rfl) ?_
    refine lv_bipush (v := 11) S.1 S.2.1 dL_acts_30 (by decide) ?_
    refine lv_ishr S.1 S.2.1 dL_acts_32 ?_
    refine lv_iload_n S.1 S.2.1 dL_acts_33 rfl (lv_at hl 1 rfl) ?_
    refine lv_iconst (v := 1) S.1 S.2.1 dL_acts_34 (by decide) ?_
    refine lv_iadd S.1 S.2.1 dL_acts_35 ?_
    refine al_cPs (rest := []) S hK hW (al_L_low l D cy ad σ (y >>> ((11 : Int32) &&& 31)) ((nI E) + 1) (by rw [nI_1]; exact nI_ne0 (by omega) (by omega))) al_ms_L_low al_ml_RL_68 rfl hl.1 rfl (Nat.le_of_ble_eq_true rfl) dL_acts_36 ⟨Nat.le_of_ble_eq_true rfl, Nat.le_of_ble_eq_true rfl⟩ ⟨Nat.zero_le _, Nat.zero_le _⟩ ?_
    refine W.eq (g2 := F0 m 39 ls [.int (al_low (y >>> ((11 : Int32) &&& 31)) ((nI E) + 1))]) rfl ?_
    refine lv_istore (lv' := [(4, .int (al_low (y >>> ((11 : Int32) &&& 31)) ((nI E) + 1))), (3, .int (al_low (y >>> ((4 : Int32) &&& 31)) (nI E))), (2, .int (nI E)), (0, .ref (ad (0))), (1, .int y)]) S.1 S.2.1 dL_acts_39 hl (by decide) rfl (fun ls hl => ?_)
    refine lv_iload_n S.1 S.2.1 dL_acts_41 rfl (lv_at hl 4 rfl) ?_
    refine lv_bipush (v := 12) S.1 S.2.1 dL_acts_42 (by decide) ?_
    refine al_cPs (rest := []) S hK hW (al_L_low l D cy ad σ y 12 (by decide)) al_ms_L_low al_ml_RL_68 rfl hl.1 rfl (Nat.le_of_ble_eq_true rfl) dL_acts_44 ⟨Nat.le_of_ble_eq_true rfl, Nat.le_of_ble_eq_true rfl⟩ ⟨Nat.zero_le _, Nat.zero_le _⟩ ?_
    refine W.eq (g2 := F0 m 47 ls [.int (al_low y 12)]) rfl ?_
    by_cases g2 : (al_low y 12) = 0
    · refine lv_tableIn (off := 53) (tgt := 100) S.1 S.2.1 dL_acts_47 (by rw [g2]; decide) (by rw [g2]; decide) (by rw [g2]; rfl) (by decide) ?_
      refine lv_aload_n S.1 S.2.1 dL_acts_100 rfl (lv_at hl 3 rfl) ?_
      refine lv_iload S.1 S.2.1 dL_acts_101 (lv_at hl 0 rfl) ?_
      refine lv_bipush (v := 100) S.1 S.2.1 dL_acts_103 (by decide) ?_
      refine lv_iload_n S.1 S.2.1 dL_acts_105 rfl (lv_at hl 4 rfl) ?_
      refine lv_bipush (v := 18) S.1 S.2.1 dL_acts_106 (by decide) ?_
      refine lv_ishr S.1 S.2.1 dL_acts_108 ?_
      refine lv_bipush (v := 38) S.1 S.2.1 dL_acts_109 (by decide) ?_
      refine al_cPs (rest := [.int 100, .int (al_low (y >>> ((11 : Int32) &&& 31)) ((nI E) + 1)), .ref (ad (0))]) S hK hW (al_L_low l D cy ad σ (y >>> ((18 : Int32) &&& 31)) 38 (by decide)) al_ms_L_low al_ml_RL_68 rfl hl.1 rfl (Nat.le_of_ble_eq_true rfl) dL_acts_111 ⟨Nat.le_of_ble_eq_true rfl, Nat.le_of_ble_eq_true rfl⟩ ⟨Nat.zero_le _, Nat.zero_le _⟩ ?_
      refine W.eq (g2 := F0 m 114 ls [.int (al_low (y >>> ((18 : Int32) &&& 31)) 38), .int 100, .int (al_low (y >>> ((11 : Int32) &&& 31)) ((nI E) + 1)), .ref (ad (0))]) rfl ?_
      refine lv_iadd S.1 S.2.1 dL_acts_114 ?_
      refine lv_bipush (v := 23) S.1 S.2.1 dL_acts_115 (by decide) ?_
      refine lv_ishl S.1 S.2.1 dL_acts_117 ?_
      refine lv_iload_n S.1 S.2.1 dL_acts_118 rfl (lv_at hl 4 rfl) ?_
      refine lv_ldc S.1 S.2.1 S.2.2.2.1 (S.2.2.2.2 _ al_k_RL_71) dL_acts_119 ?_
      refine al_cPs (rest := [.int (((100 : Int32) + (al_low (y >>> ((18 : Int32) &&& 31)) 38)) <<< ((23 : Int32) &&& 31)), .int (al_low (y >>> ((11 : Int32) &&& 31)) ((nI E) + 1)), .ref (ad (0))]) S hK hW (al_L_low l D cy ad σ y 8388608 (by decide)) al_ms_L_low al_ml_RL_68 rfl hl.1 rfl (Nat.le_of_ble_eq_true rfl) dL_acts_121 ⟨Nat.le_of_ble_eq_true rfl, Nat.le_of_ble_eq_true rfl⟩ ⟨Nat.zero_le _, Nat.zero_le _⟩ ?_
      refine W.eq (g2 := F0 m 124 ls [.int (al_low y 8388608), .int (((100 : Int32) + (al_low (y >>> ((18 : Int32) &&& 31)) 38)) <<< ((23 : Int32) &&& 31)), .int (al_low (y >>> ((11 : Int32) &&& 31)) ((nI E) + 1)), .ref (ad (0))]) rfl ?_
      refine lv_iadd S.1 S.2.1 dL_acts_124 ?_
      refine al_cS (rest := []) S hK hW hS (al_X8_addLeaf l D cy ad σ (al_low (y >>> ((11 : Int32) &&& 31)) ((nI E) + 1)) ((((100 : Int32) + (al_low (y >>> ((18 : Int32) &&& 31)) 38)) <<< ((23 : Int32) &&& 31)) + (al_low y 8388608)) (al_gx_7 h.1) (al_addLeaf_I h.1 _ _).1) al_mi_X8_addLeaf al_ml_RL_72 rfl (al_rc_8 D cy ad _) rfl hl.1 rfl (Nat.le_of_ble_eq_true rfl) dL_acts_125 ⟨Nat.le_of_ble_eq_true rfl, Nat.le_of_ble_eq_true rfl⟩ ⟨Nat.zero_le _, Nat.zero_le _⟩ (fun H locs hW hS => ?_)
      refine W.eq (g2 := F0 m 128 ls [.int ((al_addLeaf σ (al_low (y >>> ((11 : Int32) &&& 31)) ((nI E) + 1)) ((((100 : Int32) + (al_low (y >>> ((18 : Int32) &&& 31)) 38)) <<< ((23 : Int32) &&& 31)) + (al_low y 8388608))).1)]) rfl ?_
      exact W.iret S.1 S.2.1 hr (fun t9 ht9 _ => ⟨al_addLeaf σ (al_low (y >>> ((11 : Int32) &&& 31)) ((nI E) + 1)) ((((100 : Int32) + (al_low (y >>> ((18 : Int32) &&& 31)) 38)) <<< ((23 : Int32) &&& 31)) + (al_low y 8388608)), (al_addLeaf_I h.1 _ _).2, rfl, by rw [ht9]; exact hW, hS.F ht9⟩) hS.2.2 dL_acts_128
    by_cases g3 : (al_low y 12) = 1
    · refine lv_tableIn (off := 53) (tgt := 100) S.1 S.2.1 dL_acts_47 (by rw [g3]; decide) (by rw [g3]; decide) (by rw [g3]; rfl) (by decide) ?_
      refine lv_aload_n S.1 S.2.1 dL_acts_100 rfl (lv_at hl 3 rfl) ?_
      refine lv_iload S.1 S.2.1 dL_acts_101 (lv_at hl 0 rfl) ?_
      refine lv_bipush (v := 100) S.1 S.2.1 dL_acts_103 (by decide) ?_
      refine lv_iload_n S.1 S.2.1 dL_acts_105 rfl (lv_at hl 4 rfl) ?_
      refine lv_bipush (v := 18) S.1 S.2.1 dL_acts_106 (by decide) ?_
      refine lv_ishr S.1 S.2.1 dL_acts_108 ?_
      refine lv_bipush (v := 38) S.1 S.2.1 dL_acts_109 (by decide) ?_
      refine al_cPs (rest := [.int 100, .int (al_low (y >>> ((11 : Int32) &&& 31)) ((nI E) + 1)), .ref (ad (0))]) S hK hW (al_L_low l D cy ad σ (y >>> ((18 : Int32) &&& 31)) 38 (by decide)) al_ms_L_low al_ml_RL_68 rfl hl.1 rfl (Nat.le_of_ble_eq_true rfl) dL_acts_111 ⟨Nat.le_of_ble_eq_true rfl, Nat.le_of_ble_eq_true rfl⟩ ⟨Nat.zero_le _, Nat.zero_le _⟩ ?_
      refine W.eq (g2 := F0 m 114 ls [.int (al_low (y >>> ((18 : Int32) &&& 31)) 38), .int 100, .int (al_low (y >>> ((11 : Int32) &&& 31)) ((nI E) + 1)), .ref (ad (0))]) rfl ?_
      refine lv_iadd S.1 S.2.1 dL_acts_114 ?_
      refine lv_bipush (v := 23) S.1 S.2.1 dL_acts_115 (by decide) ?_
      refine lv_ishl S.1 S.2.1 dL_acts_117 ?_
      refine lv_iload_n S.1 S.2.1 dL_acts_118 rfl (lv_at hl 4 rfl) ?_
      refine lv_ldc S.1 S.2.1 S.2.2.2.1 (S.2.2.2.2 _ al_k_RL_71) dL_acts_119 ?_
      refine al_cPs (rest := [.int (((100 : Int32) + (al_low (y >>> ((18 : Int32) &&& 31)) 38)) <<< ((23 : Int32) &&& 31)), .int (al_low (y >>> ((11 : Int32) &&& 31)) ((nI E) + 1)), .ref (ad (0))]) S hK hW (al_L_low l D cy ad σ y 8388608 (by decide)) al_ms_L_low al_ml_RL_68 rfl hl.1 rfl (Nat.le_of_ble_eq_true rfl) dL_acts_121 ⟨Nat.le_of_ble_eq_true rfl, Nat.le_of_ble_eq_true rfl⟩ ⟨Nat.zero_le _, Nat.zero_le _⟩ ?_
      refine W.eq (g2 := F0 m 124 ls [.int (al_low y 8388608), .int (((100 : Int32) + (al_low (y >>> ((18 : Int32) &&& 31)) 38)) <<< ((23 : Int32) &&& 31)), .int (al_low (y >>> ((11 : Int32) &&& 31)) ((nI E) + 1)), .ref (ad (0))]) rfl ?_
      refine lv_iadd S.1 S.2.1 dL_acts_124 ?_
      refine al_cS (rest := []) S hK hW hS (al_X8_addLeaf l D cy ad σ (al_low (y >>> ((11 : Int32) &&& 31)) ((nI E) + 1)) ((((100 : Int32) + (al_low (y >>> ((18 : Int32) &&& 31)) 38)) <<< ((23 : Int32) &&& 31)) + (al_low y 8388608)) (al_gx_7 h.1) (al_addLeaf_I h.1 _ _).1) al_mi_X8_addLeaf al_ml_RL_72 rfl (al_rc_8 D cy ad _) rfl hl.1 rfl (Nat.le_of_ble_eq_true rfl) dL_acts_125 ⟨Nat.le_of_ble_eq_true rfl, Nat.le_of_ble_eq_true rfl⟩ ⟨Nat.zero_le _, Nat.zero_le _⟩ (fun H locs hW hS => ?_)
      refine W.eq (g2 := F0 m 128 ls [.int ((al_addLeaf σ (al_low (y >>> ((11 : Int32) &&& 31)) ((nI E) + 1)) ((((100 : Int32) + (al_low (y >>> ((18 : Int32) &&& 31)) 38)) <<< ((23 : Int32) &&& 31)) + (al_low y 8388608))).1)]) rfl ?_
      exact W.iret S.1 S.2.1 hr (fun t9 ht9 _ => ⟨al_addLeaf σ (al_low (y >>> ((11 : Int32) &&& 31)) ((nI E) + 1)) ((((100 : Int32) + (al_low (y >>> ((18 : Int32) &&& 31)) 38)) <<< ((23 : Int32) &&& 31)) + (al_low y 8388608)), (al_addLeaf_I h.1 _ _).2, rfl, by rw [ht9]; exact hW, hS.F ht9⟩) hS.2.2 dL_acts_128
    by_cases g4 : (al_low y 12) = 2
    · refine lv_tableIn (off := 53) (tgt := 100) S.1 S.2.1 dL_acts_47 (by rw [g4]; decide) (by rw [g4]; decide) (by rw [g4]; rfl) (by decide) ?_
      refine lv_aload_n S.1 S.2.1 dL_acts_100 rfl (lv_at hl 3 rfl) ?_
      refine lv_iload S.1 S.2.1 dL_acts_101 (lv_at hl 0 rfl) ?_
      refine lv_bipush (v := 100) S.1 S.2.1 dL_acts_103 (by decide) ?_
      refine lv_iload_n S.1 S.2.1 dL_acts_105 rfl (lv_at hl 4 rfl) ?_
      refine lv_bipush (v := 18) S.1 S.2.1 dL_acts_106 (by decide) ?_
      refine lv_ishr S.1 S.2.1 dL_acts_108 ?_
      refine lv_bipush (v := 38) S.1 S.2.1 dL_acts_109 (by decide) ?_
      refine al_cPs (rest := [.int 100, .int (al_low (y >>> ((11 : Int32) &&& 31)) ((nI E) + 1)), .ref (ad (0))]) S hK hW (al_L_low l D cy ad σ (y >>> ((18 : Int32) &&& 31)) 38 (by decide)) al_ms_L_low al_ml_RL_68 rfl hl.1 rfl (Nat.le_of_ble_eq_true rfl) dL_acts_111 ⟨Nat.le_of_ble_eq_true rfl, Nat.le_of_ble_eq_true rfl⟩ ⟨Nat.zero_le _, Nat.zero_le _⟩ ?_
      refine W.eq (g2 := F0 m 114 ls [.int (al_low (y >>> ((18 : Int32) &&& 31)) 38), .int 100, .int (al_low (y >>> ((11 : Int32) &&& 31)) ((nI E) + 1)), .ref (ad (0))]) rfl ?_
      refine lv_iadd S.1 S.2.1 dL_acts_114 ?_
      refine lv_bipush (v := 23) S.1 S.2.1 dL_acts_115 (by decide) ?_
      refine lv_ishl S.1 S.2.1 dL_acts_117 ?_
      refine lv_iload_n S.1 S.2.1 dL_acts_118 rfl (lv_at hl 4 rfl) ?_
      refine lv_ldc S.1 S.2.1 S.2.2.2.1 (S.2.2.2.2 _ al_k_RL_71) dL_acts_119 ?_
      refine al_cPs (rest := [.int (((100 : Int32) + (al_low (y >>> ((18 : Int32) &&& 31)) 38)) <<< ((23 : Int32) &&& 31)), .int (al_low (y >>> ((11 : Int32) &&& 31)) ((nI E) + 1)), .ref (ad (0))]) S hK hW (al_L_low l D cy ad σ y 8388608 (by decide)) al_ms_L_low al_ml_RL_68 rfl hl.1 rfl (Nat.le_of_ble_eq_true rfl) dL_acts_121 ⟨Nat.le_of_ble_eq_true rfl, Nat.le_of_ble_eq_true rfl⟩ ⟨Nat.zero_le _, Nat.zero_le _⟩ ?_
      refine W.eq (g2 := F0 m 124 ls [.int (al_low y 8388608), .int (((100 : Int32) + (al_low (y >>> ((18 : Int32) &&& 31)) 38)) <<< ((23 : Int32) &&& 31)), .int (al_low (y >>> ((11 : Int32) &&& 31)) ((nI E) + 1)), .ref (ad (0))]) rfl ?_
      refine lv_iadd S.1 S.2.1 dL_acts_124 ?_
      refine al_cS (rest := []) S hK hW hS (al_X8_addLeaf l D cy ad σ (al_low (y >>> ((11 : Int32) &&& 31)) ((nI E) + 1)) ((((100 : Int32) + (al_low (y >>> ((18 : Int32) &&& 31)) 38)) <<< ((23 : Int32) &&& 31)) + (al_low y 8388608)) (al_gx_7 h.1) (al_addLeaf_I h.1 _ _).1) al_mi_X8_addLeaf al_ml_RL_72 rfl (al_rc_8 D cy ad _) rfl hl.1 rfl (Nat.le_of_ble_eq_true rfl) dL_acts_125 ⟨Nat.le_of_ble_eq_true rfl, Nat.le_of_ble_eq_true rfl⟩ ⟨Nat.zero_le _, Nat.zero_le _⟩ (fun H locs hW hS => ?_)
      refine W.eq (g2 := F0 m 128 ls [.int ((al_addLeaf σ (al_low (y >>> ((11 : Int32) &&& 31)) ((nI E) + 1)) ((((100 : Int32) + (al_low (y >>> ((18 : Int32) &&& 31)) 38)) <<< ((23 : Int32) &&& 31)) + (al_low y 8388608))).1)]) rfl ?_
      exact W.iret S.1 S.2.1 hr (fun t9 ht9 _ => ⟨al_addLeaf σ (al_low (y >>> ((11 : Int32) &&& 31)) ((nI E) + 1)) ((((100 : Int32) + (al_low (y >>> ((18 : Int32) &&& 31)) 38)) <<< ((23 : Int32) &&& 31)) + (al_low y 8388608)), (al_addLeaf_I h.1 _ _).2, rfl, by rw [ht9]; exact hW, hS.F ht9⟩) hS.2.2 dL_acts_128
    by_cases g5 : (al_low y 12) = 3
    · refine lv_tableIn (off := 53) (tgt := 100) S.1 S.2.1 dL_acts_47 (by rw [g5]; decide) (by rw [g5]; decide) (by rw [g5]; rfl) (by decide) ?_
      refine lv_aload_n S.1 S.2.1 dL_acts_100 rfl (lv_at hl 3 rfl) ?_
      refine lv_iload S.1 S.2.1 dL_acts_101 (lv_at hl 0 rfl) ?_
      refine lv_bipush (v := 100) S.1 S.2.1 dL_acts_103 (by decide) ?_
      refine lv_iload_n S.1 S.2.1 dL_acts_105 rfl (lv_at hl 4 rfl) ?_
      refine lv_bipush (v := 18) S.1 S.2.1 dL_acts_106 (by decide) ?_
      refine lv_ishr S.1 S.2.1 dL_acts_108 ?_
      refine lv_bipush (v := 38) S.1 S.2.1 dL_acts_109 (by decide) ?_
      refine al_cPs (rest := [.int 100, .int (al_low (y >>> ((11 : Int32) &&& 31)) ((nI E) + 1)), .ref (ad (0))]) S hK hW (al_L_low l D cy ad σ (y >>> ((18 : Int32) &&& 31)) 38 (by decide)) al_ms_L_low al_ml_RL_68 rfl hl.1 rfl (Nat.le_of_ble_eq_true rfl) dL_acts_111 ⟨Nat.le_of_ble_eq_true rfl, Nat.le_of_ble_eq_true rfl⟩ ⟨Nat.zero_le _, Nat.zero_le _⟩ ?_
      refine W.eq (g2 := F0 m 114 ls [.int (al_low (y >>> ((18 : Int32) &&& 31)) 38), .int 100, .int (al_low (y >>> ((11 : Int32) &&& 31)) ((nI E) + 1)), .ref (ad (0))]) rfl ?_
      refine lv_iadd S.1 S.2.1 dL_acts_114 ?_
      refine lv_bipush (v := 23) S.1 S.2.1 dL_acts_115 (by decide) ?_
      refine lv_ishl S.1 S.2.1 dL_acts_117 ?_
      refine lv_iload_n S.1 S.2.1 dL_acts_118 rfl (lv_at hl 4 rfl) ?_
      refine lv_ldc S.1 S.2.1 S.2.2.2.1 (S.2.2.2.2 _ al_k_RL_71) dL_acts_119 ?_
      refine al_cPs (rest := [.int (((100 : Int32) + (al_low (y >>> ((18 : Int32) &&& 31)) 38)) <<< ((23 : Int32) &&& 31)), .int (al_low (y >>> ((11 : Int32) &&& 31)) ((nI E) + 1)), .ref (ad (0))]) S hK hW (al_L_low l D cy ad σ y 8388608 (by decide)) al_ms_L_low al_ml_RL_68 rfl hl.1 rfl (Nat.le_of_ble_eq_true rfl) dL_acts_121 ⟨Nat.le_of_ble_eq_true rfl, Nat.le_of_ble_eq_true rfl⟩ ⟨Nat.zero_le _, Nat.zero_le _⟩ ?_
      refine W.eq (g2 := F0 m 124 ls [.int (al_low y 8388608), .int (((100 : Int32) + (al_low (y >>> ((18 : Int32) &&& 31)) 38)) <<< ((23 : Int32) &&& 31)), .int (al_low (y >>> ((11 : Int32) &&& 31)) ((nI E) + 1)), .ref (ad (0))]) rfl ?_
      refine lv_iadd S.1 S.2.1 dL_acts_124 ?_
      refine al_cS (rest := []) S hK hW hS (al_X8_addLeaf l D cy ad σ (al_low (y >>> ((11 : Int32) &&& 31)) ((nI E) + 1)) ((((100 : Int32) + (al_low (y >>> ((18 : Int32) &&& 31)) 38)) <<< ((23 : Int32) &&& 31)) + (al_low y 8388608)) (al_gx_7 h.1) (al_addLeaf_I h.1 _ _).1) al_mi_X8_addLeaf al_ml_RL_72 rfl (al_rc_8 D cy ad _) rfl hl.1 rfl (Nat.le_of_ble_eq_true rfl) dL_acts_125 ⟨Nat.le_of_ble_eq_true rfl, Nat.le_of_ble_eq_true rfl⟩ ⟨Nat.zero_le _, Nat.zero_le _⟩ (fun H locs hW hS => ?_)
      refine W.eq (g2 := F0 m 128 ls [.int ((al_addLeaf σ (al_low (y >>> ((11 : Int32) &&& 31)) ((nI E) + 1)) ((((100 : Int32) + (al_low (y >>> ((18 : Int32) &&& 31)) 38)) <<< ((23 : Int32) &&& 31)) + (al_low y 8388608))).1)]) rfl ?_
      exact W.iret S.1 S.2.1 hr (fun t9 ht9 _ => ⟨al_addLeaf σ (al_low (y >>> ((11 : Int32) &&& 31)) ((nI E) + 1)) ((((100 : Int32) + (al_low (y >>> ((18 : Int32) &&& 31)) 38)) <<< ((23 : Int32) &&& 31)) + (al_low y 8388608)), (al_addLeaf_I h.1 _ _).2, rfl, by rw [ht9]; exact hW, hS.F ht9⟩) hS.2.2 dL_acts_128
    by_cases g6 : (al_low y 12) = 4
    · refine lv_tableIn (off := 82) (tgt := 129) S.1 S.2.1 dL_acts_47 (by rw [g6]; decide) (by rw [g6]; decide) (by rw [g6]; rfl) (by decide) ?_
      refine lv_aload_n S.1 S.2.1 dL_acts_129 rfl (lv_at hl 3 rfl) ?_
      refine lv_iload_n S.1 S.2.1 dL_acts_130 rfl (lv_at hl 1 rfl) ?_
      refine al_cS (rest := []) S hK hW hS (al_X8_prune l D cy ad σ (al_low (y >>> ((4 : Int32) &&& 31)) (nI E)) (al_gx_7 h.1) (al_prune_I h.1 _).1) al_mi_X8_prune al_ml_RL_75 rfl (al_rc_8 D cy ad _) rfl hl.1 rfl (Nat.le_of_ble_eq_true rfl) dL_acts_131 ⟨Nat.le_of_ble_eq_true rfl, Nat.le_of_ble_eq_true rfl⟩ ⟨Nat.zero_le _, Nat.zero_le _⟩ (fun H locs hW hS => ?_)
      refine W.eq (g2 := F0 m 134 ls [.int ((al_prune σ (al_low (y >>> ((4 : Int32) &&& 31)) (nI E))).1)]) rfl ?_
      exact W.iret S.1 S.2.1 hr (fun t9 ht9 _ => ⟨al_prune σ (al_low (y >>> ((4 : Int32) &&& 31)) (nI E)), (al_prune_I h.1 _).2, rfl, by rw [ht9]; exact hW, hS.F ht9⟩) hS.2.2 dL_acts_134
    by_cases g7 : (al_low y 12) = 5
    · refine lv_tableIn (off := 82) (tgt := 129) S.1 S.2.1 dL_acts_47 (by rw [g7]; decide) (by rw [g7]; decide) (by rw [g7]; rfl) (by decide) ?_
      refine lv_aload_n S.1 S.2.1 dL_acts_129 rfl (lv_at hl 3 rfl) ?_
      refine lv_iload_n S.1 S.2.1 dL_acts_130 rfl (lv_at hl 1 rfl) ?_
      refine al_cS (rest := []) S hK hW hS (al_X8_prune l D cy ad σ (al_low (y >>> ((4 : Int32) &&& 31)) (nI E)) (al_gx_7 h.1) (al_prune_I h.1 _).1) al_mi_X8_prune al_ml_RL_75 rfl (al_rc_8 D cy ad _) rfl hl.1 rfl (Nat.le_of_ble_eq_true rfl) dL_acts_131 ⟨Nat.le_of_ble_eq_true rfl, Nat.le_of_ble_eq_true rfl⟩ ⟨Nat.zero_le _, Nat.zero_le _⟩ (fun H locs hW hS => ?_)
      refine W.eq (g2 := F0 m 134 ls [.int ((al_prune σ (al_low (y >>> ((4 : Int32) &&& 31)) (nI E))).1)]) rfl ?_
      exact W.iret S.1 S.2.1 hr (fun t9 ht9 _ => ⟨al_prune σ (al_low (y >>> ((4 : Int32) &&& 31)) (nI E)), (al_prune_I h.1 _).2, rfl, by rw [ht9]; exact hW, hS.F ht9⟩) hS.2.2 dL_acts_134
    by_cases g8 : (al_low y 12) = 6
    · refine lv_tableIn (off := 88) (tgt := 135) S.1 S.2.1 dL_acts_47 (by rw [g8]; decide) (by rw [g8]; decide) (by rw [g8]; rfl) (by decide) ?_
      refine lv_aload_n S.1 S.2.1 dL_acts_135 rfl (lv_at hl 3 rfl) ?_
      refine lv_iload_n S.1 S.2.1 dL_acts_136 rfl (lv_at hl 1 rfl) ?_
      refine lv_iload S.1 S.2.1 dL_acts_137 (lv_at hl 0 rfl) ?_
      refine al_cS (rest := []) S hK hW hS (al_X8_graft l D cy ad σ (al_low (y >>> ((4 : Int32) &&& 31)) (nI E)) (al_low (y >>> ((11 : Int32) &&& 31)) ((nI E) + 1)) (al_gx_7 h.1) (al_graft_I h.1 _ _).1) al_mi_X8_graft al_ml_RL_78 rfl (al_rc_8 D cy ad _) rfl hl.1 rfl (Nat.le_of_ble_eq_true rfl) dL_acts_139 ⟨Nat.le_of_ble_eq_true rfl, Nat.le_of_ble_eq_true rfl⟩ ⟨Nat.zero_le _, Nat.zero_le _⟩ (fun H locs hW hS => ?_)
      refine W.eq (g2 := F0 m 142 ls [.int ((al_graft σ (al_low (y >>> ((4 : Int32) &&& 31)) (nI E)) (al_low (y >>> ((11 : Int32) &&& 31)) ((nI E) + 1))).1)]) rfl ?_
      exact W.iret S.1 S.2.1 hr (fun t9 ht9 _ => ⟨al_graft σ (al_low (y >>> ((4 : Int32) &&& 31)) (nI E)) (al_low (y >>> ((11 : Int32) &&& 31)) ((nI E) + 1)), (al_graft_I h.1 _ _).2, rfl, by rw [ht9]; exact hW, hS.F ht9⟩) hS.2.2 dL_acts_142
    by_cases g9 : (al_low y 12) = 7
    · refine lv_tableIn (off := 88) (tgt := 135) S.1 S.2.1 dL_acts_47 (by rw [g9]; decide) (by rw [g9]; decide) (by rw [g9]; rfl) (by decide) ?_
      refine lv_aload_n S.1 S.2.1 dL_acts_135 rfl (lv_at hl 3 rfl) ?_
      refine lv_iload_n S.1 S.2.1 dL_acts_136 rfl (lv_at hl 1 rfl) ?_
      refine lv_iload S.1 S.2.1 dL_acts_137 (lv_at hl 0 rfl) ?_
      refine al_cS (rest := []) S hK hW hS (al_X8_graft l D cy ad σ (al_low (y >>> ((4 : Int32) &&& 31)) (nI E)) (al_low (y >>> ((11 : Int32) &&& 31)) ((nI E) + 1)) (al_gx_7 h.1) (al_graft_I h.1 _ _).1) al_mi_X8_graft al_ml_RL_78 rfl (al_rc_8 D cy ad _) rfl hl.1 rfl (Nat.le_of_ble_eq_true rfl) dL_acts_139 ⟨Nat.le_of_ble_eq_true rfl, Nat.le_of_ble_eq_true rfl⟩ ⟨Nat.zero_le _, Nat.zero_le _⟩ (fun H locs hW hS => ?_)
      refine W.eq (g2 := F0 m 142 ls [.int ((al_graft σ (al_low (y >>> ((4 : Int32) &&& 31)) (nI E)) (al_low (y >>> ((11 : Int32) &&& 31)) ((nI E) + 1))).1)]) rfl ?_
      exact W.iret S.1 S.2.1 hr (fun t9 ht9 _ => ⟨al_graft σ (al_low (y >>> ((4 : Int32) &&& 31)) (nI E)) (al_low (y >>> ((11 : Int32) &&& 31)) ((nI E) + 1)), (al_graft_I h.1 _ _).2, rfl, by rw [ht9]; exact hW, hS.F ht9⟩) hS.2.2 dL_acts_142
    by_cases g10 : (al_low y 12) = 8
    · refine lv_tableIn (off := 88) (tgt := 135) S.1 S.2.1 dL_acts_47 (by rw [g10]; decide) (by rw [g10]; decide) (by rw [g10]; rfl) (by decide) ?_
      refine lv_aload_n S.1 S.2.1 dL_acts_135 rfl (lv_at hl 3 rfl) ?_
      refine lv_iload_n S.1 S.2.1 dL_acts_136 rfl (lv_at hl 1 rfl) ?_
      refine lv_iload S.1 S.2.1 dL_acts_137 (lv_at hl 0 rfl) ?_
      refine al_cS (rest := []) S hK hW hS (al_X8_graft l D cy ad σ (al_low (y >>> ((4 : Int32) &&& 31)) (nI E)) (al_low (y >>> ((11 : Int32) &&& 31)) ((nI E) + 1)) (al_gx_7 h.1) (al_graft_I h.1 _ _).1) al_mi_X8_graft al_ml_RL_78 rfl (al_rc_8 D cy ad _) rfl hl.1 rfl (Nat.le_of_ble_eq_true rfl) dL_acts_139 ⟨Nat.le_of_ble_eq_true rfl, Nat.le_of_ble_eq_true rfl⟩ ⟨Nat.zero_le _, Nat.zero_le _⟩ (fun H locs hW hS => ?_)
      refine W.eq (g2 := F0 m 142 ls [.int ((al_graft σ (al_low (y >>> ((4 : Int32) &&& 31)) (nI E)) (al_low (y >>> ((11 : Int32) &&& 31)) ((nI E) + 1))).1)]) rfl ?_
      exact W.iret S.1 S.2.1 hr (fun t9 ht9 _ => ⟨al_graft σ (al_low (y >>> ((4 : Int32) &&& 31)) (nI E)) (al_low (y >>> ((11 : Int32) &&& 31)) ((nI E) + 1)), (al_graft_I h.1 _ _).2, rfl, by rw [ht9]; exact hW, hS.F ht9⟩) hS.2.2 dL_acts_142
    by_cases g11 : (al_low y 12) = 9
    · refine lv_tableIn (off := 96) (tgt := 143) S.1 S.2.1 dL_acts_47 (by rw [g11]; decide) (by rw [g11]; decide) (by rw [g11]; rfl) (by decide) ?_
      refine lv_aload_n S.1 S.2.1 dL_acts_143 rfl (lv_at hl 3 rfl) ?_
      refine lv_iload_n S.1 S.2.1 dL_acts_144 rfl (lv_at hl 1 rfl) ?_
      refine lv_bipush (v := 100) S.1 S.2.1 dL_acts_145 (by decide) ?_
      refine lv_iload_n S.1 S.2.1 dL_acts_147 rfl (lv_at hl 4 rfl) ?_
      refine lv_bipush (v := 18) S.1 S.2.1 dL_acts_148 (by decide) ?_
      refine lv_ishr S.1 S.2.1 dL_acts_150 ?_
      refine lv_bipush (v := 38) S.1 S.2.1 dL_acts_151 (by decide) ?_
      refine al_cPs (rest := [.int 100, .int (al_low (y >>> ((4 : Int32) &&& 31)) (nI E)), .ref (ad (0))]) S hK hW (al_L_low l D cy ad σ (y >>> ((18 : Int32) &&& 31)) 38 (by decide)) al_ms_L_low al_ml_RL_68 rfl hl.1 rfl (Nat.le_of_ble_eq_true rfl) dL_acts_153 ⟨Nat.le_of_ble_eq_true rfl, Nat.le_of_ble_eq_true rfl⟩ ⟨Nat.zero_le _, Nat.zero_le _⟩ ?_
      refine W.eq (g2 := F0 m 156 ls [.int (al_low (y >>> ((18 : Int32) &&& 31)) 38), .int 100, .int (al_low (y >>> ((4 : Int32) &&& 31)) (nI E)), .ref (ad (0))]) rfl ?_
      refine lv_iadd S.1 S.2.1 dL_acts_156 ?_
      refine lv_bipush (v := 23) S.1 S.2.1 dL_acts_157 (by decide) ?_
      refine lv_ishl S.1 S.2.1 dL_acts_159 ?_
      refine lv_iload_n S.1 S.2.1 dL_acts_160 rfl (lv_at hl 4 rfl) ?_
      refine lv_ldc S.1 S.2.1 S.2.2.2.1 (S.2.2.2.2 _ al_k_RL_71) dL_acts_161 ?_
      refine al_cPs (rest := [.int (((100 : Int32) + (al_low (y >>> ((18 : Int32) &&& 31)) 38)) <<< ((23 : Int32) &&& 31)), .int (al_low (y >>> ((4 : Int32) &&& 31)) (nI E)), .ref (ad (0))]) S hK hW (al_L_low l D cy ad σ y 8388608 (by decide)) al_ms_L_low al_ml_RL_68 rfl hl.1 rfl (Nat.le_of_ble_eq_true rfl) dL_acts_163 ⟨Nat.le_of_ble_eq_true rfl, Nat.le_of_ble_eq_true rfl⟩ ⟨Nat.zero_le _, Nat.zero_le _⟩ ?_
      refine W.eq (g2 := F0 m 166 ls [.int (al_low y 8388608), .int (((100 : Int32) + (al_low (y >>> ((18 : Int32) &&& 31)) 38)) <<< ((23 : Int32) &&& 31)), .int (al_low (y >>> ((4 : Int32) &&& 31)) (nI E)), .ref (ad (0))]) rfl ?_
      refine lv_iadd S.1 S.2.1 dL_acts_166 ?_
      refine al_cS (rest := []) S hK hW hS (al_X8_setLength l D cy ad σ (al_low (y >>> ((4 : Int32) &&& 31)) (nI E)) ((((100 : Int32) + (al_low (y >>> ((18 : Int32) &&& 31)) 38)) <<< ((23 : Int32) &&& 31)) + (al_low y 8388608)) (al_gx_7 h.1) (al_setLen_I h.1 _ _).1) al_mi_X8_setLength al_ml_RL_81 rfl (al_rc_8 D cy ad _) rfl hl.1 rfl (Nat.le_of_ble_eq_true rfl) dL_acts_167 ⟨Nat.le_of_ble_eq_true rfl, Nat.le_of_ble_eq_true rfl⟩ ⟨Nat.zero_le _, Nat.zero_le _⟩ (fun H locs hW hS => ?_)
      refine W.eq (g2 := F0 m 170 ls [.int ((al_setLen σ (al_low (y >>> ((4 : Int32) &&& 31)) (nI E)) ((((100 : Int32) + (al_low (y >>> ((18 : Int32) &&& 31)) 38)) <<< ((23 : Int32) &&& 31)) + (al_low y 8388608))).1)]) rfl ?_
      exact W.iret S.1 S.2.1 hr (fun t9 ht9 _ => ⟨al_setLen σ (al_low (y >>> ((4 : Int32) &&& 31)) (nI E)) ((((100 : Int32) + (al_low (y >>> ((18 : Int32) &&& 31)) 38)) <<< ((23 : Int32) &&& 31)) + (al_low y 8388608)), (al_setLen_I h.1 _ _).2, rfl, by rw [ht9]; exact hW, hS.F ht9⟩) hS.2.2 dL_acts_170
    refine lv_tableOut (tgt := 171) S.1 S.2.1 dL_acts_47 (al_out9 g2 g3 g4 g5 g6 g7 g8 g9 g10 g11) (by decide) ?_
    refine lv_aload_n S.1 S.2.1 dL_acts_171 rfl (lv_at hl 3 rfl) ?_
    refine lv_iload S.1 S.2.1 dL_acts_172 (lv_at hl 0 rfl) ?_
    refine al_cS (rest := []) S hK hW hS (al_X8_grow l D cy ad σ (al_low (y >>> ((11 : Int32) &&& 31)) ((nI E) + 1)) (al_gx_7 h.1) (al_grow_I h.1 hN h6 _).1) al_mi_X8_grow al_ml_RL_84 rfl (al_rc_8 D cy ad _) rfl hl.1 rfl (Nat.le_of_ble_eq_true rfl) dL_acts_174 ⟨Nat.le_of_ble_eq_true rfl, Nat.le_of_ble_eq_true rfl⟩ ⟨Nat.zero_le _, Nat.zero_le _⟩ (fun H locs hW hS => ?_)
    refine W.eq (g2 := F0 m 177 ls [.int ((al_grow σ (al_low (y >>> ((11 : Int32) &&& 31)) ((nI E) + 1))).1)]) rfl ?_
    exact W.iret S.1 S.2.1 hr (fun t9 ht9 _ => ⟨al_grow σ (al_low (y >>> ((11 : Int32) &&& 31)) ((nI E) + 1)), (al_grow_I h.1 hN h6 _).2, rfl, by rw [ht9]; exact hW, hS.F ht9⟩) hS.2.2 dL_acts_177
  · refine lv_iload_n S.1 S.2.1 dL_acts_23 rfl (lv_at hl 1 rfl) ?_
    refine lv_iconst (v := 1) S.1 S.2.1 dL_acts_24 (by decide) ?_
    refine lv_isub S.1 S.2.1 dL_acts_25 ?_
    refine lv_goto (tgt := 39) S.1 S.2.1 dL_acts_26 (by decide) ?_
    refine lv_istore (lv' := [(4, .int ((nI E) - 1)), (3, .int (al_low (y >>> ((4 : Int32) &&& 31)) (nI E))), (2, .int (nI E)), (0, .ref (ad (0))), (1, .int y)]) S.1 S.2.1 dL_acts_39 hl (by decide) rfl (fun ls hl => ?_)
    refine lv_iload_n S.1 S.2.1 dL_acts_41 rfl (lv_at hl 4 rfl) ?_
    refine lv_bipush (v := 12) S.1 S.2.1 dL_acts_42 (by decide) ?_
    refine al_cPs (rest := []) S hK hW (al_L_low l D cy ad σ y 12 (by decide)) al_ms_L_low al_ml_RL_68 rfl hl.1 rfl (Nat.le_of_ble_eq_true rfl) dL_acts_44 ⟨Nat.le_of_ble_eq_true rfl, Nat.le_of_ble_eq_true rfl⟩ ⟨Nat.zero_le _, Nat.zero_le _⟩ ?_
    refine W.eq (g2 := F0 m 47 ls [.int (al_low y 12)]) rfl ?_
    by_cases g12 : (al_low y 12) = 0
    · refine lv_tableIn (off := 53) (tgt := 100) S.1 S.2.1 dL_acts_47 (by rw [g12]; decide) (by rw [g12]; decide) (by rw [g12]; rfl) (by decide) ?_
      refine lv_aload_n S.1 S.2.1 dL_acts_100 rfl (lv_at hl 3 rfl) ?_
      refine lv_iload S.1 S.2.1 dL_acts_101 (lv_at hl 0 rfl) ?_
      refine lv_bipush (v := 100) S.1 S.2.1 dL_acts_103 (by decide) ?_
      refine lv_iload_n S.1 S.2.1 dL_acts_105 rfl (lv_at hl 4 rfl) ?_
      refine lv_bipush (v := 18) S.1 S.2.1 dL_acts_106 (by decide) ?_
      refine lv_ishr S.1 S.2.1 dL_acts_108 ?_
      refine lv_bipush (v := 38) S.1 S.2.1 dL_acts_109 (by decide) ?_
      refine al_cPs (rest := [.int 100, .int ((nI E) - 1), .ref (ad (0))]) S hK hW (al_L_low l D cy ad σ (y >>> ((18 : Int32) &&& 31)) 38 (by decide)) al_ms_L_low al_ml_RL_68 rfl hl.1 rfl (Nat.le_of_ble_eq_true rfl) dL_acts_111 ⟨Nat.le_of_ble_eq_true rfl, Nat.le_of_ble_eq_true rfl⟩ ⟨Nat.zero_le _, Nat.zero_le _⟩ ?_
      refine W.eq (g2 := F0 m 114 ls [.int (al_low (y >>> ((18 : Int32) &&& 31)) 38), .int 100, .int ((nI E) - 1), .ref (ad (0))]) rfl ?_
      refine lv_iadd S.1 S.2.1 dL_acts_114 ?_
      refine lv_bipush (v := 23) S.1 S.2.1 dL_acts_115 (by decide) ?_
      refine lv_ishl S.1 S.2.1 dL_acts_117 ?_
      refine lv_iload_n S.1 S.2.1 dL_acts_118 rfl (lv_at hl 4 rfl) ?_
      refine lv_ldc S.1 S.2.1 S.2.2.2.1 (S.2.2.2.2 _ al_k_RL_71) dL_acts_119 ?_
      refine al_cPs (rest := [.int (((100 : Int32) + (al_low (y >>> ((18 : Int32) &&& 31)) 38)) <<< ((23 : Int32) &&& 31)), .int ((nI E) - 1), .ref (ad (0))]) S hK hW (al_L_low l D cy ad σ y 8388608 (by decide)) al_ms_L_low al_ml_RL_68 rfl hl.1 rfl (Nat.le_of_ble_eq_true rfl) dL_acts_121 ⟨Nat.le_of_ble_eq_true rfl, Nat.le_of_ble_eq_true rfl⟩ ⟨Nat.zero_le _, Nat.zero_le _⟩ ?_
      refine W.eq (g2 := F0 m 124 ls [.int (al_low y 8388608), .int (((100 : Int32) + (al_low (y >>> ((18 : Int32) &&& 31)) 38)) <<< ((23 : Int32) &&& 31)), .int ((nI E) - 1), .ref (ad (0))]) rfl ?_
      refine lv_iadd S.1 S.2.1 dL_acts_124 ?_
      refine al_cS (rest := []) S hK hW hS (al_X8_addLeaf l D cy ad σ ((nI E) - 1) ((((100 : Int32) + (al_low (y >>> ((18 : Int32) &&& 31)) 38)) <<< ((23 : Int32) &&& 31)) + (al_low y 8388608)) (al_gx_7 h.1) (al_addLeaf_I h.1 _ _).1) al_mi_X8_addLeaf al_ml_RL_72 rfl (al_rc_8 D cy ad _) rfl hl.1 rfl (Nat.le_of_ble_eq_true rfl) dL_acts_125 ⟨Nat.le_of_ble_eq_true rfl, Nat.le_of_ble_eq_true rfl⟩ ⟨Nat.zero_le _, Nat.zero_le _⟩ (fun H locs hW hS => ?_)
      refine W.eq (g2 := F0 m 128 ls [.int ((al_addLeaf σ ((nI E) - 1) ((((100 : Int32) + (al_low (y >>> ((18 : Int32) &&& 31)) 38)) <<< ((23 : Int32) &&& 31)) + (al_low y 8388608))).1)]) rfl ?_
      exact W.iret S.1 S.2.1 hr (fun t9 ht9 _ => ⟨al_addLeaf σ ((nI E) - 1) ((((100 : Int32) + (al_low (y >>> ((18 : Int32) &&& 31)) 38)) <<< ((23 : Int32) &&& 31)) + (al_low y 8388608)), (al_addLeaf_I h.1 _ _).2, rfl, by rw [ht9]; exact hW, hS.F ht9⟩) hS.2.2 dL_acts_128
    by_cases g13 : (al_low y 12) = 1
    · refine lv_tableIn (off := 53) (tgt := 100) S.1 S.2.1 dL_acts_47 (by rw [g13]; decide) (by rw [g13]; decide) (by rw [g13]; rfl) (by decide) ?_
      refine lv_aload_n S.1 S.2.1 dL_acts_100 rfl (lv_at hl 3 rfl) ?_
      refine lv_iload S.1 S.2.1 dL_acts_101 (lv_at hl 0 rfl) ?_
      refine lv_bipush (v := 100) S.1 S.2.1 dL_acts_103 (by decide) ?_
      refine lv_iload_n S.1 S.2.1 dL_acts_105 rfl (lv_at hl 4 rfl) ?_
      refine lv_bipush (v := 18) S.1 S.2.1 dL_acts_106 (by decide) ?_
      refine lv_ishr S.1 S.2.1 dL_acts_108 ?_
      refine lv_bipush (v := 38) S.1 S.2.1 dL_acts_109 (by decide) ?_
      refine al_cPs (rest := [.int 100, .int ((nI E) - 1), .ref (ad (0))]) S hK hW (al_L_low l D cy ad σ (y >>> ((18 : Int32) &&& 31)) 38 (by decide)) al_ms_L_low al_ml_RL_68 rfl hl.1 rfl (Nat.le_of_ble_eq_true rfl) dL_acts_111 ⟨Nat.le_of_ble_eq_true rfl, Nat.le_of_ble_eq_true rfl⟩ ⟨Nat.zero_le _, Nat.zero_le _⟩ ?_
      refine W.eq (g2 := F0 m 114 ls [.int (al_low (y >>> ((18 : Int32) &&& 31)) 38), .int 100, .int ((nI E) - 1), .ref (ad (0))]) rfl ?_
      refine lv_iadd S.1 S.2.1 dL_acts_114 ?_
      refine lv_bipush (v := 23) S.1 S.2.1 dL_acts_115 (by decide) ?_
      refine lv_ishl S.1 S.2.1 dL_acts_117 ?_
      refine lv_iload_n S.1 S.2.1 dL_acts_118 rfl (lv_at hl 4 rfl) ?_
      refine lv_ldc S.1 S.2.1 S.2.2.2.1 (S.2.2.2.2 _ al_k_RL_71) dL_acts_119 ?_
      refine al_cPs (rest := [.int (((100 : Int32) + (al_low (y >>> ((18 : Int32) &&& 31)) 38)) <<< ((23 : Int32) &&& 31)), .int ((nI E) - 1), .ref (ad (0))]) S hK hW (al_L_low l D cy ad σ y 8388608 (by decide)) al_ms_L_low al_ml_RL_68 rfl hl.1 rfl (Nat.le_of_ble_eq_true rfl) dL_acts_121 ⟨Nat.le_of_ble_eq_true rfl, Nat.le_of_ble_eq_true rfl⟩ ⟨Nat.zero_le _, Nat.zero_le _⟩ ?_
      refine W.eq (g2 := F0 m 124 ls [.int (al_low y 8388608), .int (((100 : Int32) + (al_low (y >>> ((18 : Int32) &&& 31)) 38)) <<< ((23 : Int32) &&& 31)), .int ((nI E) - 1), .ref (ad (0))]) rfl ?_
      refine lv_iadd S.1 S.2.1 dL_acts_124 ?_
      refine al_cS (rest := []) S hK hW hS (al_X8_addLeaf l D cy ad σ ((nI E) - 1) ((((100 : Int32) + (al_low (y >>> ((18 : Int32) &&& 31)) 38)) <<< ((23 : Int32) &&& 31)) + (al_low y 8388608)) (al_gx_7 h.1) (al_addLeaf_I h.1 _ _).1) al_mi_X8_addLeaf al_ml_RL_72 rfl (al_rc_8 D cy ad _) rfl hl.1 rfl (Nat.le_of_ble_eq_true rfl) dL_acts_125 ⟨Nat.le_of_ble_eq_true rfl, Nat.le_of_ble_eq_true rfl⟩ ⟨Nat.zero_le _, Nat.zero_le _⟩ (fun H locs hW hS => ?_)
      refine W.eq (g2 := F0 m 128 ls [.int ((al_addLeaf σ ((nI E) - 1) ((((100 : Int32) + (al_low (y >>> ((18 : Int32) &&& 31)) 38)) <<< ((23 : Int32) &&& 31)) + (al_low y 8388608))).1)]) rfl ?_
      exact W.iret S.1 S.2.1 hr (fun t9 ht9 _ => ⟨al_addLeaf σ ((nI E) - 1) ((((100 : Int32) + (al_low (y >>> ((18 : Int32) &&& 31)) 38)) <<< ((23 : Int32) &&& 31)) + (al_low y 8388608)), (al_addLeaf_I h.1 _ _).2, rfl, by rw [ht9]; exact hW, hS.F ht9⟩) hS.2.2 dL_acts_128
    by_cases g14 : (al_low y 12) = 2
    · refine lv_tableIn (off := 53) (tgt := 100) S.1 S.2.1 dL_acts_47 (by rw [g14]; decide) (by rw [g14]; decide) (by rw [g14]; rfl) (by decide) ?_
      refine lv_aload_n S.1 S.2.1 dL_acts_100 rfl (lv_at hl 3 rfl) ?_
      refine lv_iload S.1 S.2.1 dL_acts_101 (lv_at hl 0 rfl) ?_
      refine lv_bipush (v := 100) S.1 S.2.1 dL_acts_103 (by decide) ?_
      refine lv_iload_n S.1 S.2.1 dL_acts_105 rfl (lv_at hl 4 rfl) ?_
      refine lv_bipush (v := 18) S.1 S.2.1 dL_acts_106 (by decide) ?_
      refine lv_ishr S.1 S.2.1 dL_acts_108 ?_
      refine lv_bipush (v := 38) S.1 S.2.1 dL_acts_109 (by decide) ?_
      refine al_cPs (rest := [.int 100, .int ((nI E) - 1), .ref (ad (0))]) S hK hW (al_L_low l D cy ad σ (y >>> ((18 : Int32) &&& 31)) 38 (by decide)) al_ms_L_low al_ml_RL_68 rfl hl.1 rfl (Nat.le_of_ble_eq_true rfl) dL_acts_111 ⟨Nat.le_of_ble_eq_true rfl, Nat.le_of_ble_eq_true rfl⟩ ⟨Nat.zero_le _, Nat.zero_le _⟩ ?_
      refine W.eq (g2 := F0 m 114 ls [.int (al_low (y >>> ((18 : Int32) &&& 31)) 38), .int 100, .int ((nI E) - 1), .ref (ad (0))]) rfl ?_
      refine lv_iadd S.1 S.2.1 dL_acts_114 ?_
      refine lv_bipush (v := 23) S.1 S.2.1 dL_acts_115 (by decide) ?_
      refine lv_ishl S.1 S.2.1 dL_acts_117 ?_
      refine lv_iload_n S.1 S.2.1 dL_acts_118 rfl (lv_at hl 4 rfl) ?_
      refine lv_ldc S.1 S.2.1 S.2.2.2.1 (S.2.2.2.2 _ al_k_RL_71) dL_acts_119 ?_
      refine al_cPs (rest := [.int (((100 : Int32) + (al_low (y >>> ((18 : Int32) &&& 31)) 38)) <<< ((23 : Int32) &&& 31)), .int ((nI E) - 1), .ref (ad (0))]) S hK hW (al_L_low l D cy ad σ y 8388608 (by decide)) al_ms_L_low al_ml_RL_68 rfl hl.1 rfl (Nat.le_of_ble_eq_true rfl) dL_acts_121 ⟨Nat.le_of_ble_eq_true rfl, Nat.le_of_ble_eq_true rfl⟩ ⟨Nat.zero_le _, Nat.zero_le _⟩ ?_
      refine W.eq (g2 := F0 m 124 ls [.int (al_low y 8388608), .int (((100 : Int32) + (al_low (y >>> ((18 : Int32) &&& 31)) 38)) <<< ((23 : Int32) &&& 31)), .int ((nI E) - 1), .ref (ad (0))]) rfl ?_
      refine lv_iadd S.1 S.2.1 dL_acts_124 ?_
      refine al_cS (rest := []) S hK hW hS (al_X8_addLeaf l D cy ad σ ((nI E) - 1) ((((100 : Int32) + (al_low (y >>> ((18 : Int32) &&& 31)) 38)) <<< ((23 : Int32) &&& 31)) + (al_low y 8388608)) (al_gx_7 h.1) (al_addLeaf_I h.1 _ _).1) al_mi_X8_addLeaf al_ml_RL_72 rfl (al_rc_8 D cy ad _) rfl hl.1 rfl (Nat.le_of_ble_eq_true rfl) dL_acts_125 ⟨Nat.le_of_ble_eq_true rfl, Nat.le_of_ble_eq_true rfl⟩ ⟨Nat.zero_le _, Nat.zero_le _⟩ (fun H locs hW hS => ?_)
      refine W.eq (g2 := F0 m 128 ls [.int ((al_addLeaf σ ((nI E) - 1) ((((100 : Int32) + (al_low (y >>> ((18 : Int32) &&& 31)) 38)) <<< ((23 : Int32) &&& 31)) + (al_low y 8388608))).1)]) rfl ?_
      exact W.iret S.1 S.2.1 hr (fun t9 ht9 _ => ⟨al_addLeaf σ ((nI E) - 1) ((((100 : Int32) + (al_low (y >>> ((18 : Int32) &&& 31)) 38)) <<< ((23 : Int32) &&& 31)) + (al_low y 8388608)), (al_addLeaf_I h.1 _ _).2, rfl, by rw [ht9]; exact hW, hS.F ht9⟩) hS.2.2 dL_acts_128
    by_cases g15 : (al_low y 12) = 3
    · refine lv_tableIn (off := 53) (tgt := 100) S.1 S.2.1 dL_acts_47 (by rw [g15]; decide) (by rw [g15]; decide) (by rw [g15]; rfl) (by decide) ?_
      refine lv_aload_n S.1 S.2.1 dL_acts_100 rfl (lv_at hl 3 rfl) ?_
      refine lv_iload S.1 S.2.1 dL_acts_101 (lv_at hl 0 rfl) ?_
      refine lv_bipush (v := 100) S.1 S.2.1 dL_acts_103 (by decide) ?_
      refine lv_iload_n S.1 S.2.1 dL_acts_105 rfl (lv_at hl 4 rfl) ?_
      refine lv_bipush (v := 18) S.1 S.2.1 dL_acts_106 (by decide) ?_
      refine lv_ishr S.1 S.2.1 dL_acts_108 ?_
      refine lv_bipush (v := 38) S.1 S.2.1 dL_acts_109 (by decide) ?_
      refine al_cPs (rest := [.int 100, .int ((nI E) - 1), .ref (ad (0))]) S hK hW (al_L_low l D cy ad σ (y >>> ((18 : Int32) &&& 31)) 38 (by decide)) al_ms_L_low al_ml_RL_68 rfl hl.1 rfl (Nat.le_of_ble_eq_true rfl) dL_acts_111 ⟨Nat.le_of_ble_eq_true rfl, Nat.le_of_ble_eq_true rfl⟩ ⟨Nat.zero_le _, Nat.zero_le _⟩ ?_
      refine W.eq (g2 := F0 m 114 ls [.int (al_low (y >>> ((18 : Int32) &&& 31)) 38), .int 100, .int ((nI E) - 1), .ref (ad (0))]) rfl ?_
      refine lv_iadd S.1 S.2.1 dL_acts_114 ?_
      refine lv_bipush (v := 23) S.1 S.2.1 dL_acts_115 (by decide) ?_
      refine lv_ishl S.1 S.2.1 dL_acts_117 ?_
      refine lv_iload_n S.1 S.2.1 dL_acts_118 rfl (lv_at hl 4 rfl) ?_
      refine lv_ldc S.1 S.2.1 S.2.2.2.1 (S.2.2.2.2 _ al_k_RL_71) dL_acts_119 ?_
      refine al_cPs (rest := [.int (((100 : Int32) + (al_low (y >>> ((18 : Int32) &&& 31)) 38)) <<< ((23 : Int32) &&& 31)), .int ((nI E) - 1), .ref (ad (0))]) S hK hW (al_L_low l D cy ad σ y 8388608 (by decide)) al_ms_L_low al_ml_RL_68 rfl hl.1 rfl (Nat.le_of_ble_eq_true rfl) dL_acts_121 ⟨Nat.le_of_ble_eq_true rfl, Nat.le_of_ble_eq_true rfl⟩ ⟨Nat.zero_le _, Nat.zero_le _⟩ ?_
      refine W.eq (g2 := F0 m 124 ls [.int (al_low y 8388608), .int (((100 : Int32) + (al_low (y >>> ((18 : Int32) &&& 31)) 38)) <<< ((23 : Int32) &&& 31)), .int ((nI E) - 1), .ref (ad (0))]) rfl ?_
      refine lv_iadd S.1 S.2.1 dL_acts_124 ?_
      refine al_cS (rest := []) S hK hW hS (al_X8_addLeaf l D cy ad σ ((nI E) - 1) ((((100 : Int32) + (al_low (y >>> ((18 : Int32) &&& 31)) 38)) <<< ((23 : Int32) &&& 31)) + (al_low y 8388608)) (al_gx_7 h.1) (al_addLeaf_I h.1 _ _).1) al_mi_X8_addLeaf al_ml_RL_72 rfl (al_rc_8 D cy ad _) rfl hl.1 rfl (Nat.le_of_ble_eq_true rfl) dL_acts_125 ⟨Nat.le_of_ble_eq_true rfl, Nat.le_of_ble_eq_true rfl⟩ ⟨Nat.zero_le _, Nat.zero_le _⟩ (fun H locs hW hS => ?_)
      refine W.eq (g2 := F0 m 128 ls [.int ((al_addLeaf σ ((nI E) - 1) ((((100 : Int32) + (al_low (y >>> ((18 : Int32) &&& 31)) 38)) <<< ((23 : Int32) &&& 31)) + (al_low y 8388608))).1)]) rfl ?_
      exact W.iret S.1 S.2.1 hr (fun t9 ht9 _ => ⟨al_addLeaf σ ((nI E) - 1) ((((100 : Int32) + (al_low (y >>> ((18 : Int32) &&& 31)) 38)) <<< ((23 : Int32) &&& 31)) + (al_low y 8388608)), (al_addLeaf_I h.1 _ _).2, rfl, by rw [ht9]; exact hW, hS.F ht9⟩) hS.2.2 dL_acts_128
    by_cases g16 : (al_low y 12) = 4
    · refine lv_tableIn (off := 82) (tgt := 129) S.1 S.2.1 dL_acts_47 (by rw [g16]; decide) (by rw [g16]; decide) (by rw [g16]; rfl) (by decide) ?_
      refine lv_aload_n S.1 S.2.1 dL_acts_129 rfl (lv_at hl 3 rfl) ?_
      refine lv_iload_n S.1 S.2.1 dL_acts_130 rfl (lv_at hl 1 rfl) ?_
      refine al_cS (rest := []) S hK hW hS (al_X8_prune l D cy ad σ (al_low (y >>> ((4 : Int32) &&& 31)) (nI E)) (al_gx_7 h.1) (al_prune_I h.1 _).1) al_mi_X8_prune al_ml_RL_75 rfl (al_rc_8 D cy ad _) rfl hl.1 rfl (Nat.le_of_ble_eq_true rfl) dL_acts_131 ⟨Nat.le_of_ble_eq_true rfl, Nat.le_of_ble_eq_true rfl⟩ ⟨Nat.zero_le _, Nat.zero_le _⟩ (fun H locs hW hS => ?_)
      refine W.eq (g2 := F0 m 134 ls [.int ((al_prune σ (al_low (y >>> ((4 : Int32) &&& 31)) (nI E))).1)]) rfl ?_
      exact W.iret S.1 S.2.1 hr (fun t9 ht9 _ => ⟨al_prune σ (al_low (y >>> ((4 : Int32) &&& 31)) (nI E)), (al_prune_I h.1 _).2, rfl, by rw [ht9]; exact hW, hS.F ht9⟩) hS.2.2 dL_acts_134
    by_cases g17 : (al_low y 12) = 5
    · refine lv_tableIn (off := 82) (tgt := 129) S.1 S.2.1 dL_acts_47 (by rw [g17]; decide) (by rw [g17]; decide) (by rw [g17]; rfl) (by decide) ?_
      refine lv_aload_n S.1 S.2.1 dL_acts_129 rfl (lv_at hl 3 rfl) ?_
      refine lv_iload_n S.1 S.2.1 dL_acts_130 rfl (lv_at hl 1 rfl) ?_
      refine al_cS (rest := []) S hK hW hS (al_X8_prune l D cy ad σ (al_low (y >>> ((4 : Int32) &&& 31)) (nI E)) (al_gx_7 h.1) (al_prune_I h.1 _).1) al_mi_X8_prune al_ml_RL_75 rfl (al_rc_8 D cy ad _) rfl hl.1 rfl (Nat.le_of_ble_eq_true rfl) dL_acts_131 ⟨Nat.le_of_ble_eq_true rfl, Nat.le_of_ble_eq_true rfl⟩ ⟨Nat.zero_le _, Nat.zero_le _⟩ (fun H locs hW hS => ?_)
      refine W.eq (g2 := F0 m 134 ls [.int ((al_prune σ (al_low (y >>> ((4 : Int32) &&& 31)) (nI E))).1)]) rfl ?_
      exact W.iret S.1 S.2.1 hr (fun t9 ht9 _ => ⟨al_prune σ (al_low (y >>> ((4 : Int32) &&& 31)) (nI E)), (al_prune_I h.1 _).2, rfl, by rw [ht9]; exact hW, hS.F ht9⟩) hS.2.2 dL_acts_134
    by_cases g18 : (al_low y 12) = 6
    · refine lv_tableIn (off := 88) (tgt := 135) S.1 S.2.1 dL_acts_47 (by rw [g18]; decide) (by rw [g18]; decide) (by rw [g18]; rfl) (by decide) ?_
      refine lv_aload_n S.1 S.2.1 dL_acts_135 rfl (lv_at hl 3 rfl) ?_
      refine lv_iload_n S.1 S.2.1 dL_acts_136 rfl (lv_at hl 1 rfl) ?_
      refine lv_iload S.1 S.2.1 dL_acts_137 (lv_at hl 0 rfl) ?_
      refine al_cS (rest := []) S hK hW hS (al_X8_graft l D cy ad σ (al_low (y >>> ((4 : Int32) &&& 31)) (nI E)) ((nI E) - 1) (al_gx_7 h.1) (al_graft_I h.1 _ _).1) al_mi_X8_graft al_ml_RL_78 rfl (al_rc_8 D cy ad _) rfl hl.1 rfl (Nat.le_of_ble_eq_true rfl) dL_acts_139 ⟨Nat.le_of_ble_eq_true rfl, Nat.le_of_ble_eq_true rfl⟩ ⟨Nat.zero_le _, Nat.zero_le _⟩ (fun H locs hW hS => ?_)
      refine W.eq (g2 := F0 m 142 ls [.int ((al_graft σ (al_low (y >>> ((4 : Int32) &&& 31)) (nI E)) ((nI E) - 1)).1)]) rfl ?_
      exact W.iret S.1 S.2.1 hr (fun t9 ht9 _ => ⟨al_graft σ (al_low (y >>> ((4 : Int32) &&& 31)) (nI E)) ((nI E) - 1), (al_graft_I h.1 _ _).2, rfl, by rw [ht9]; exact hW, hS.F ht9⟩) hS.2.2 dL_acts_142
    by_cases g19 : (al_low y 12) = 7
    · refine lv_tableIn (off := 88) (tgt := 135) S.1 S.2.1 dL_acts_47 (by rw [g19]; decide) (by rw [g19]; decide) (by rw [g19]; rfl) (by decide) ?_
      refine lv_aload_n S.1 S.2.1 dL_acts_135 rfl (lv_at hl 3 rfl) ?_
      refine lv_iload_n S.1 S.2.1 dL_acts_136 rfl (lv_at hl 1 rfl) ?_
      refine lv_iload S.1 S.2.1 dL_acts_137 (lv_at hl 0 rfl) ?_
      refine al_cS (rest := []) S hK hW hS (al_X8_graft l D cy ad σ (al_low (y >>> ((4 : Int32) &&& 31)) (nI E)) ((nI E) - 1) (al_gx_7 h.1) (al_graft_I h.1 _ _).1) al_mi_X8_graft al_ml_RL_78 rfl (al_rc_8 D cy ad _) rfl hl.1 rfl (Nat.le_of_ble_eq_true rfl) dL_acts_139 ⟨Nat.le_of_ble_eq_true rfl, Nat.le_of_ble_eq_true rfl⟩ ⟨Nat.zero_le _, Nat.zero_le _⟩ (fun H locs hW hS => ?_)
      refine W.eq (g2 := F0 m 142 ls [.int ((al_graft σ (al_low (y >>> ((4 : Int32) &&& 31)) (nI E)) ((nI E) - 1)).1)]) rfl ?_
      exact W.iret S.1 S.2.1 hr (fun t9 ht9 _ => ⟨al_graft σ (al_low (y >>> ((4 : Int32) &&& 31)) (nI E)) ((nI E) - 1), (al_graft_I h.1 _ _).2, rfl, by rw [ht9]; exact hW, hS.F ht9⟩) hS.2.2 dL_acts_142
    by_cases g20 : (al_low y 12) = 8
    · refine lv_tableIn (off := 88) (tgt := 135) S.1 S.2.1 dL_acts_47 (by rw [g20]; decide) (by rw [g20]; decide) (by rw [g20]; rfl) (by decide) ?_
      refine lv_aload_n S.1 S.2.1 dL_acts_135 rfl (lv_at hl 3 rfl) ?_
      refine lv_iload_n S.1 S.2.1 dL_acts_136 rfl (lv_at hl 1 rfl) ?_
      refine lv_iload S.1 S.2.1 dL_acts_137 (lv_at hl 0 rfl) ?_
      refine al_cS (rest := []) S hK hW hS (al_X8_graft l D cy ad σ (al_low (y >>> ((4 : Int32) &&& 31)) (nI E)) ((nI E) - 1) (al_gx_7 h.1) (al_graft_I h.1 _ _).1) al_mi_X8_graft al_ml_RL_78 rfl (al_rc_8 D cy ad _) rfl hl.1 rfl (Nat.le_of_ble_eq_true rfl) dL_acts_139 ⟨Nat.le_of_ble_eq_true rfl, Nat.le_of_ble_eq_true rfl⟩ ⟨Nat.zero_le _, Nat.zero_le _⟩ (fun H locs hW hS => ?_)
      refine W.eq (g2 := F0 m 142 ls [.int ((al_graft σ (al_low (y >>> ((4 : Int32) &&& 31)) (nI E)) ((nI E) - 1)).1)]) rfl ?_
      exact W.iret S.1 S.2.1 hr (fun t9 ht9 _ => ⟨al_graft σ (al_low (y >>> ((4 : Int32) &&& 31)) (nI E)) ((nI E) - 1), (al_graft_I h.1 _ _).2, rfl, by rw [ht9]; exact hW, hS.F ht9⟩) hS.2.2 dL_acts_142
    by_cases g21 : (al_low y 12) = 9
    · refine lv_tableIn (off := 96) (tgt := 143) S.1 S.2.1 dL_acts_47 (by rw [g21]; decide) (by rw [g21]; decide) (by rw [g21]; rfl) (by decide) ?_
      refine lv_aload_n S.1 S.2.1 dL_acts_143 rfl (lv_at hl 3 rfl) ?_
      refine lv_iload_n S.1 S.2.1 dL_acts_144 rfl (lv_at hl 1 rfl) ?_
      refine lv_bipush (v := 100) S.1 S.2.1 dL_acts_145 (by decide) ?_
      refine lv_iload_n S.1 S.2.1 dL_acts_147 rfl (lv_at hl 4 rfl) ?_
      refine lv_bipush (v := 18) S.1 S.2.1 dL_acts_148 (by decide) ?_
      refine lv_ishr S.1 S.2.1 dL_acts_150 ?_
      refine lv_bipush (v := 38) S.1 S.2.1 dL_acts_151 (by decide) ?_
      refine al_cPs (rest := [.int 100, .int (al_low (y >>> ((4 : Int32) &&& 31)) (nI E)), .ref (ad (0))]) S hK hW (al_L_low l D cy ad σ (y >>> ((18 : Int32) &&& 31)) 38 (by decide)) al_ms_L_low al_ml_RL_68 rfl hl.1 rfl (Nat.le_of_ble_eq_true rfl) dL_acts_153 ⟨Nat.le_of_ble_eq_true rfl, Nat.le_of_ble_eq_true rfl⟩ ⟨Nat.zero_le _, Nat.zero_le _⟩ ?_
      refine W.eq (g2 := F0 m 156 ls [.int (al_low (y >>> ((18 : Int32) &&& 31)) 38), .int 100, .int (al_low (y >>> ((4 : Int32) &&& 31)) (nI E)), .ref (ad (0))]) rfl ?_
      refine lv_iadd S.1 S.2.1 dL_acts_156 ?_
      refine lv_bipush (v := 23) S.1 S.2.1 dL_acts_157 (by decide) ?_
      refine lv_ishl S.1 S.2.1 dL_acts_159 ?_
      refine lv_iload_n S.1 S.2.1 dL_acts_160 rfl (lv_at hl 4 rfl) ?_
      refine lv_ldc S.1 S.2.1 S.2.2.2.1 (S.2.2.2.2 _ al_k_RL_71) dL_acts_161 ?_
      refine al_cPs (rest := [.int (((100 : Int32) + (al_low (y >>> ((18 : Int32) &&& 31)) 38)) <<< ((23 : Int32) &&& 31)), .int (al_low (y >>> ((4 : Int32) &&& 31)) (nI E)), .ref (ad (0))]) S hK hW (al_L_low l D cy ad σ y 8388608 (by decide)) al_ms_L_low al_ml_RL_68 rfl hl.1 rfl (Nat.le_of_ble_eq_true rfl) dL_acts_163 ⟨Nat.le_of_ble_eq_true rfl, Nat.le_of_ble_eq_true rfl⟩ ⟨Nat.zero_le _, Nat.zero_le _⟩ ?_
      refine W.eq (g2 := F0 m 166 ls [.int (al_low y 8388608), .int (((100 : Int32) + (al_low (y >>> ((18 : Int32) &&& 31)) 38)) <<< ((23 : Int32) &&& 31)), .int (al_low (y >>> ((4 : Int32) &&& 31)) (nI E)), .ref (ad (0))]) rfl ?_
      refine lv_iadd S.1 S.2.1 dL_acts_166 ?_
      refine al_cS (rest := []) S hK hW hS (al_X8_setLength l D cy ad σ (al_low (y >>> ((4 : Int32) &&& 31)) (nI E)) ((((100 : Int32) + (al_low (y >>> ((18 : Int32) &&& 31)) 38)) <<< ((23 : Int32) &&& 31)) + (al_low y 8388608)) (al_gx_7 h.1) (al_setLen_I h.1 _ _).1) al_mi_X8_setLength al_ml_RL_81 rfl (al_rc_8 D cy ad _) rfl hl.1 rfl (Nat.le_of_ble_eq_true rfl) dL_acts_167 ⟨Nat.le_of_ble_eq_true rfl, Nat.le_of_ble_eq_true rfl⟩ ⟨Nat.zero_le _, Nat.zero_le _⟩ (fun H locs hW hS => ?_)
      refine W.eq (g2 := F0 m 170 ls [.int ((al_setLen σ (al_low (y >>> ((4 : Int32) &&& 31)) (nI E)) ((((100 : Int32) + (al_low (y >>> ((18 : Int32) &&& 31)) 38)) <<< ((23 : Int32) &&& 31)) + (al_low y 8388608))).1)]) rfl ?_
      exact W.iret S.1 S.2.1 hr (fun t9 ht9 _ => ⟨al_setLen σ (al_low (y >>> ((4 : Int32) &&& 31)) (nI E)) ((((100 : Int32) + (al_low (y >>> ((18 : Int32) &&& 31)) 38)) <<< ((23 : Int32) &&& 31)) + (al_low y 8388608)), (al_setLen_I h.1 _ _).2, rfl, by rw [ht9]; exact hW, hS.F ht9⟩) hS.2.2 dL_acts_170
    refine lv_tableOut (tgt := 171) S.1 S.2.1 dL_acts_47 (al_out9 g12 g13 g14 g15 g16 g17 g18 g19 g20 g21) (by decide) ?_
    refine lv_aload_n S.1 S.2.1 dL_acts_171 rfl (lv_at hl 3 rfl) ?_
    refine lv_iload S.1 S.2.1 dL_acts_172 (lv_at hl 0 rfl) ?_
    refine al_cS (rest := []) S hK hW hS (al_X8_grow l D cy ad σ ((nI E) - 1) (al_gx_7 h.1) (al_grow_I h.1 hN h6 _).1) al_mi_X8_grow al_ml_RL_84 rfl (al_rc_8 D cy ad _) rfl hl.1 rfl (Nat.le_of_ble_eq_true rfl) dL_acts_174 ⟨Nat.le_of_ble_eq_true rfl, Nat.le_of_ble_eq_true rfl⟩ ⟨Nat.zero_le _, Nat.zero_le _⟩ (fun H locs hW hS => ?_)
    refine W.eq (g2 := F0 m 177 ls [.int ((al_grow σ ((nI E) - 1)).1)]) rfl ?_
    exact W.iret S.1 S.2.1 hr (fun t9 ht9 _ => ⟨al_grow σ ((nI E) - 1), (al_grow_I h.1 hN h6 _).2, rfl, by rw [ht9]; exact hW, hS.F ht9⟩) hS.2.2 dL_acts_177
