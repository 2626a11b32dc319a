/-! helpers; rows of ints and floats -/
theorem al_He {D : va_G} {cy : al_CY} {ad : Nat → Nat} {σ σ' : al_St} {H : Heap} (h : al_H D cy ad σ H) (e : σ = σ') : al_H D cy ad σ' H := e ▸ h
def al_min (a b : Int32) : Int32 := if b < a then b else a
def al_fill (n : Nat) (v : Int32) (f : Nat → Int32) : Nat → Int32 := fun j => if j < n then v else f j
def al_cpy (n : Nat) (g f : Nat → Int32) : Nat → Int32 := fun j => if j < n then g j else f j
def al_fcpy (n : Nat) (g f : Nat → UInt32) : Nat → UInt32 := fun j => if j < n then g j else f j
theorem al_nn {n : Nat} (h : n < 2 ^ 31) : ¬ nI n < 0 := nI_pos h
theorem al_rg_lt {f : Nat → Int32} {n : Nat} (h : n < 90) : al_rg f (nI n) = f n := by
  have h1 : ¬ nI n < 0 := nI_pos (by omega)
  have h2 : ¬ (90 : Int32) ≤ nI n := nI_ge (a := n) (b := 90) h (by omega)
  simp only [al_rg, h1, h2, if_false, nI_clamp (show n < 2 ^ 31 by omega)]
theorem al_fg_lt {f : Nat → UInt32} {n : Nat} (h : n < 90) : al_fg f (nI n) = f n := by
  have h1 : ¬ nI n < 0 := nI_pos (by omega)
  have h2 : ¬ (90 : Int32) ≤ nI n := nI_ge (a := n) (b := 90) h (by omega)
  simp only [al_fg, h1, h2, if_false, nI_clamp (show n < 2 ^ 31 by omega)]
theorem al_90 {n : Nat} (h : n < 90) : ¬ (90 : Int32) ≤ nI n := nI_ge (a := n) (b := 90) h (by omega)
theorem al_90' {n : Nat} (h : n = 90) : (90 : Int32) ≤ nI n := by rw [h]; decide
theorem al_fill_up {n : Nat} {v : Int32} {f : Nat → Int32} (h : n < 2 ^ 31) : upd (al_fill n v f) (nI n).toNatClampNeg v = al_fill (n + 1) v f := by
  rw [nI_clamp h]
  funext j
  simp only [upd, al_fill]
  by_cases h1 : j = n
  · simp [h1]
  · by_cases h2 : j < n
    · have h3 : j < n + 1 := by omega
      simp [h1, h2, h3]
    · have h3 : ¬ j < n + 1 := by omega
      simp [h1, h2, h3]
theorem al_cpy_up {n : Nat} {g f : Nat → Int32} (h : n < 90) : upd (al_cpy n g f) (nI n).toNatClampNeg (al_rg g (nI n)) = al_cpy (n + 1) g f := by
  rw [nI_clamp (show n < 2 ^ 31 by omega), al_rg_lt h]
  funext j
  simp only [upd, al_cpy]
  by_cases h1 : j = n
  · simp [h1]
  · by_cases h2 : j < n
    · have h3 : j < n + 1 := by omega
      simp [h1, h2, h3]
    · have h3 : ¬ j < n + 1 := by omega
      simp [h1, h2, h3]
theorem al_fcpy_up {n : Nat} {g f : Nat → UInt32} (h : n < 90) : vf_upd (al_fcpy n g f) (nI n).toNatClampNeg (al_fg g (nI n)) = al_fcpy (n + 1) g f := by
  rw [nI_clamp (show n < 2 ^ 31 by omega), al_fg_lt h]
  funext j
  simp only [vf_upd, al_fcpy]
  by_cases h1 : j = n
  · simp [h1]
  · by_cases h2 : j < n
    · have h3 : j < n + 1 := by omega
      simp [h1, h2, h3]
    · have h3 : ¬ j < n + 1 := by omega
      simp [h1, h2, h3]
theorem al_mv_X2_get : al_mv yX2_get cX2_get 2 (some .int) 1 := ⟨al_c_X2_get, al_ini_RX2, ⟨by decide +kernel, by decide +kernel, by decide +kernel⟩, by decide +kernel⟩
theorem al_mi_X2_get : al_mi yX2_get cX2_get 2 (some .int) 1 := ⟨al_mv_X2_get, al_in_X2_get, al_se_X2_get⟩
set_option maxHeartbeats 4000000 in
set_option maxRecDepth 100000 in
theorem al_X2_get (l : Launch) (D : va_G) (cy : al_CY) (ad : Nat → Nat) (σ : al_St) (i : Nat) (hi : i < 25) (x : Int32) : al_MP l yX2_get cX2_get 2 (some .int) 0 0 D cy ad σ [.ref (ad (14 + 2 * i)), .int x] (some (.int (al_rg (σ.1 i) x))) := by
  refine al_met al_mv_X2_get (Nat.le_of_ble_eq_true rfl) ?_
  intro p e s m args below meth c ls S hr hlocks hK hW hS hl
  have hl : lv_has ls 2 [(0, .ref (ad (14 + 2 * i))), (1, .int x)] := hl
  refine lv_iload_n S.1 S.2.1 dX2_get_0 rfl (lv_at hl 1 rfl) ?_
  refine lv_if_lt (tgt := 22) S.1 S.2.1 dX2_get_1 (by decide) (fun c1 => ?_) (fun c1 => ?_)
  · refine lv_iconst (v := -1) S.1 S.2.1 dX2_get_22 (by decide) ?_
    exact W.iret S.1 S.2.1 hr (fun t9 ht9 _ => ⟨(congrArg (fun z => Outcome.returned (some (Value.int z))) (by simp only [al_rg, if_pos (c1)])), ht9⟩) (fun q hq => absurd hq List.not_mem_nil) dX2_get_23
  · refine lv_iload_n S.1 S.2.1 dX2_get_4 rfl (lv_at hl 1 rfl) ?_
    refine lv_aload_n S.1 S.2.1 dX2_get_5 rfl (lv_at hl 0 rfl) ?_
    refine al_g_RX2_9 S hK hW (i := i) (by omega) dX2_get_6 ?_
    refine al_ialen S hK hW (i := i) (by omega) dX2_get_9 ?_
    refine lv_icmp_ge (tgt := 22) S.1 S.2.1 dX2_get_10 (by decide) (fun c2 => ?_) (fun c2 => ?_)
    · refine lv_iconst (v := -1) S.1 S.2.1 dX2_get_22 (by decide) ?_
      exact W.iret S.1 S.2.1 hr (fun t9 ht9 _ => ⟨(congrArg (fun z => Outcome.returned (some (Value.int z))) (by simp only [al_rg, if_neg (c1), if_pos (c2)])), ht9⟩) (fun q hq => absurd hq List.not_mem_nil) dX2_get_23
    · refine lv_aload_n S.1 S.2.1 dX2_get_13 rfl (lv_at hl 0 rfl) ?_
      refine al_g_RX2_9 S hK hW (i := i) (by omega) dX2_get_14 ?_
      refine lv_iload_n S.1 S.2.1 dX2_get_17 rfl (lv_at hl 1 rfl) ?_
      refine al_iald S hK hW (i := i) (by omega) c1 c2 dX2_get_18 ?_
      refine lv_goto (tgt := 23) S.1 S.2.1 dX2_get_19 (by decide) ?_
      exact W.iret S.1 S.2.1 hr (fun t9 ht9 _ => ⟨(congrArg (fun z => Outcome.returned (some (Value.int z))) (by simp only [al_rg, if_neg (c1), if_neg (c2)])), ht9⟩) (fun q hq => absurd hq List.not_mem_nil) dX2_get_23
theorem al_mv_X2_set : al_mv yX2_set cX2_set 3 none 2 := ⟨al_c_X2_set, al_ini_RX2, ⟨by decide +kernel, by decide +kernel, by decide +kernel⟩, by decide +kernel⟩
theorem al_mi_X2_set : al_mi yX2_set cX2_set 3 none 2 := ⟨al_mv_X2_set, al_in_X2_set, al_se_X2_set⟩
set_option maxHeartbeats 4000000 in
set_option maxRecDepth 100000 in
theorem al_X2_set (l : Launch) (D : va_G) (cy : al_CY) (ad : Nat → Nat) (σ : al_St) (i : Nat) (hi : i < 25) (x : Int32) (v : Int32) : al_MS l yX2_set cX2_set 3 none 0 0 D cy ad σ [.ref (ad (14 + 2 * i)), .int x, .int v] none (al_set σ i x v) := by
  refine al_met al_mv_X2_set (Nat.le_of_ble_eq_true rfl) ?_
  intro p e s m args below meth c ls S hr hlocks hK hW hS hl
  have hl : lv_has ls 3 [(0, .ref (ad (14 + 2 * i))), (1, .int x), (2, .int v)] := hl
  refine lv_iload_n S.1 S.2.1 dX2_set_0 rfl (lv_at hl 1 rfl) ?_
  refine lv_if_lt (tgt := 20) S.1 S.2.1 dX2_set_1 (by decide) (fun c1 => ?_) (fun c1 => ?_)
  · exact W.vret S.1 S.2.1 hr (fun t9 ht9 _ => ⟨rfl, by rw [ht9]; exact (al_He hW (by simp only [al_set, al_rs, if_pos (c1), al_sR_self])), hS.F ht9⟩) hS.2.2 dX2_set_20
  · refine lv_iload_n S.1 S.2.1 dX2_set_4 rfl (lv_at hl 1 rfl) ?_
    refine lv_aload_n S.1 S.2.1 dX2_set_5 rfl (lv_at hl 0 rfl) ?_
    refine al_g_RX2_9 S hK hW (i := i) (by omega) dX2_set_6 ?_
    refine al_ialen S hK hW (i := i) (by omega) dX2_set_9 ?_
    refine lv_icmp_ge (tgt := 20) S.1 S.2.1 dX2_set_10 (by decide) (fun c2 => ?_) (fun c2 => ?_)
    · exact W.vret S.1 S.2.1 hr (fun t9 ht9 _ => ⟨rfl, by rw [ht9]; exact (al_He hW (by simp only [al_set, al_rs, if_neg (c1), if_pos (c2), al_sR_self])), hS.F ht9⟩) hS.2.2 dX2_set_20
    · refine lv_aload_n S.1 S.2.1 dX2_set_13 rfl (lv_at hl 0 rfl) ?_
      refine al_g_RX2_9 S hK hW (i := i) (by omega) dX2_set_14 ?_
      refine lv_iload_n S.1 S.2.1 dX2_set_17 rfl (lv_at hl 1 rfl) ?_
      refine lv_iload_n S.1 S.2.1 dX2_set_18 rfl (lv_at hl 2 rfl) ?_
      refine al_iast S hK hW hS (i := i) (by omega) c1 c2 dX2_set_19 (fun H locs hW hS => ?_)
      exact W.vret S.1 S.2.1 hr (fun t9 ht9 _ => ⟨rfl, by rw [ht9]; exact (al_He hW (by simp only [al_set, al_rs, if_neg (c1), if_neg (c2), al_sR_self])), hS.F ht9⟩) hS.2.2 dX2_set_20
theorem al_mv_X0_get : al_mv yX0_get cX0_get 2 (some .float) 1 := ⟨al_c_X0_get, al_ini_RX0, ⟨by decide +kernel, by decide +kernel, by decide +kernel⟩, by decide +kernel⟩
theorem al_mi_X0_get : al_mi yX0_get cX0_get 2 (some .float) 1 := ⟨al_mv_X0_get, al_in_X0_get, al_se_X0_get⟩
set_option maxHeartbeats 4000000 in
set_option maxRecDepth 100000 in
theorem al_X0_get (l : Launch) (D : va_G) (cy : al_CY) (ad : Nat → Nat) (σ : al_St) (i : Nat) (hi : i < 8) (x : Int32) : al_MP l yX0_get cX0_get 2 (some .float) 0 0 D cy ad σ [.ref (ad (64 + 2 * i)), .int x] (some (.float (al_fg (σ.2.1 i) x))) := by
  refine al_met al_mv_X0_get (Nat.le_of_ble_eq_true rfl) ?_
  intro p e s m args below meth c ls S hr hlocks hK hW hS hl
  have hl : lv_has ls 2 [(0, .ref (ad (64 + 2 * i))), (1, .int x)] := hl
  refine lv_iload_n S.1 S.2.1 dX0_get_0 rfl (lv_at hl 1 rfl) ?_
  refine lv_if_lt (tgt := 22) S.1 S.2.1 dX0_get_1 (by decide) (fun c1 => ?_) (fun c1 => ?_)
  · refine lv_fconst0 S.1 S.2.1 dX0_get_22 ?_
    exact W.fret S.1 S.2.1 hr (fun t9 ht9 _ => ⟨(congrArg (fun z => Outcome.returned (some (Value.float z))) (by simp only [al_fg, if_pos (c1)])), ht9⟩) (fun q hq => absurd hq List.not_mem_nil) dX0_get_23
  · refine lv_iload_n S.1 S.2.1 dX0_get_4 rfl (lv_at hl 1 rfl) ?_
    refine lv_aload_n S.1 S.2.1 dX0_get_5 rfl (lv_at hl 0 rfl) ?_
    refine al_g_RX0_9 S hK hW (i := i) (by omega) dX0_get_6 ?_
    refine al_falen S hK hW (i := i) (by omega) dX0_get_9 ?_
    refine lv_icmp_ge (tgt := 22) S.1 S.2.1 dX0_get_10 (by decide) (fun c2 => ?_) (fun c2 => ?_)
    · refine lv_fconst0 S.1 S.2.1 dX0_get_22 ?_
      exact W.fret S.1 S.2.1 hr (fun t9 ht9 _ => ⟨(congrArg (fun z => Outcome.returned (some (Value.float z))) (by simp only [al_fg, if_neg (c1), if_pos (c2)])), ht9⟩) (fun q hq => absurd hq List.not_mem_nil) dX0_get_23
    · refine lv_aload_n S.1 S.2.1 dX0_get_13 rfl (lv_at hl 0 rfl) ?_
      refine al_g_RX0_9 S hK hW (i := i) (by omega) dX0_get_14 ?_
      refine lv_iload_n S.1 S.2.1 dX0_get_17 rfl (lv_at hl 1 rfl) ?_
      refine al_fald S hK hW (i := i) (by omega) c1 c2 dX0_get_18 ?_
      refine lv_goto (tgt := 23) S.1 S.2.1 dX0_get_19 (by decide) ?_
      exact W.fret S.1 S.2.1 hr (fun t9 ht9 _ => ⟨(congrArg (fun z => Outcome.returned (some (Value.float z))) (by simp only [al_fg, if_neg (c1), if_neg (c2)])), ht9⟩) (fun q hq => absurd hq List.not_mem_nil) dX0_get_23
theorem al_mv_X0_set : al_mv yX0_set cX0_set 3 none 2 := ⟨al_c_X0_set, al_ini_RX0, ⟨by decide +kernel, by decide +kernel, by decide +kernel⟩, by decide +kernel⟩
theorem al_mi_X0_set : al_mi yX0_set cX0_set 3 none 2 := ⟨al_mv_X0_set, al_in_X0_set, al_se_X0_set⟩
set_option maxHeartbeats 4000000 in
set_option maxRecDepth 100000 in
theorem al_X0_set (l : Launch) (D : va_G) (cy : al_CY) (ad : Nat → Nat) (σ : al_St) (i : Nat) (hi : i < 8) (x : Int32) (v : UInt32) : al_MS l yX0_set cX0_set 3 none 0 0 D cy ad σ [.ref (ad (64 + 2 * i)), .int x, .float v] none (al_fset σ i x v) := by
  refine al_met al_mv_X0_set (Nat.le_of_ble_eq_true rfl) ?_
  intro p e s m args below meth c ls S hr hlocks hK hW hS hl
  have hl : lv_has ls 3 [(0, .ref (ad (64 + 2 * i))), (1, .int x), (2, .float v)] := hl
  refine lv_iload_n S.1 S.2.1 dX0_set_0 rfl (lv_at hl 1 rfl) ?_
  refine lv_if_lt (tgt := 20) S.1 S.2.1 dX0_set_1 (by decide) (fun c1 => ?_) (fun c1 => ?_)
  · exact W.vret S.1 S.2.1 hr (fun t9 ht9 _ => ⟨rfl, by rw [ht9]; exact (al_He hW (by simp only [al_fset, al_fs, if_pos (c1), al_sF_self])), hS.F ht9⟩) hS.2.2 dX0_set_20
  · refine lv_iload_n S.1 S.2.1 dX0_set_4 rfl (lv_at hl 1 rfl) ?_
    refine lv_aload_n S.1 S.2.1 dX0_set_5 rfl (lv_at hl 0 rfl) ?_
    refine al_g_RX0_9 S hK hW (i := i) (by omega) dX0_set_6 ?_
    refine al_falen S hK hW (i := i) (by omega) dX0_set_9 ?_
    refine lv_icmp_ge (tgt := 20) S.1 S.2.1 dX0_set_10 (by decide) (fun c2 => ?_) (fun c2 => ?_)
    · exact W.vret S.1 S.2.1 hr (fun t9 ht9 _ => ⟨rfl, by rw [ht9]; exact (al_He hW (by simp only [al_fset, al_fs, if_neg (c1), if_pos (c2), al_sF_self])), hS.F ht9⟩) hS.2.2 dX0_set_20
    · refine lv_aload_n S.1 S.2.1 dX0_set_13 rfl (lv_at hl 0 rfl) ?_
      refine al_g_RX0_9 S hK hW (i := i) (by omega) dX0_set_14 ?_
      refine lv_iload_n S.1 S.2.1 dX0_set_17 rfl (lv_at hl 1 rfl) ?_
      refine lv_fload_n S.1 S.2.1 dX0_set_18 rfl (lv_at hl 2 rfl) ?_
      refine al_fast S hK hW hS (i := i) (by omega) c1 c2 dX0_set_19 (fun H locs hW hS => ?_)
      exact W.vret S.1 S.2.1 hr (fun t9 ht9 _ => ⟨rfl, by rw [ht9]; exact (al_He hW (by simp only [al_fset, al_fs, if_neg (c1), if_neg (c2), al_sF_self])), hS.F ht9⟩) hS.2.2 dX0_set_20
