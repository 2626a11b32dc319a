/-! the first world; the script's cells -/
theorem al_s0_pre : al_pre al_s0 := by
  refine ⟨fun t ht => ⟨1, fun _ => 0, ⟨?_, ?_, fun v _ => ⟨?_, ?_⟩, fun v _ => ?_⟩⟩, ⟨0, by omega, rfl⟩, fun j hj => ?_, fun j => ?_⟩
  · have e : (al_td al_s0 t).1 = al_f0 := by
      show al_R0 (2 * t) = al_f0
      rw [al_R0, if_pos ⟨by omega, by omega⟩]
    rw [e]
    refine ⟨by omega, by omega, ?_, rfl, fun v h0 hv => ?_⟩
    · show upd (fun _ => 0) ((0 : Int32).toNatClampNeg) (-1) 0 = -1
      rfl
    · have := hv.1
      omega
  · show (if t < 6 then (1 : Int32) else 0) = nI 1
    rw [if_pos ht]
    rfl
  · exact al_B0
  · show al_z 0 ≤ _
    rw [al_z0]
    exact Int.mul_nonneg (by decide) (Int.le_of_lt al_one_pos)
  · show ¬ al_R0 (2 * t + 1) v < 0
    rw [al_R0, if_neg (by omega)]
    decide
  · show 1 ≤ (if j < 4 then j + 1 else 1) ∧ (if j < 4 then j + 1 else 1) ≤ 4
    rw [if_pos hj]
    omega
  · have key : ∀ f : Nat → UInt32, f = (fun _ => 0) → al_B (al_fg f j) := by
      intro f hf
      rw [hf, al_fg]
      split
      · exact al_B0
      · split
        · exact al_B0
        · exact al_B0
    exact ⟨key _ rfl, key _ rfl⟩
theorem al_s0_I : al_lOK al_s0 ∧ al_gw (al_look al_s0) ∧ (al_look al_s0).2.2.1 6 = nI 0 := by
  obtain ⟨h1, h2, h3⟩ := al_look_gw al_s0_pre
  refine ⟨h1, h3, ?_⟩
  rw [h2.2.2.1 6 (by decide)]
  rfl
/-- a cell of the script, and what stands behind its end -/
def al_cell (L : Nat) (xs : Nat → Int32) (k : Nat) : Int32 := if nI L ≤ nI k then 7919 * (nI k + 43) * (nI k + 73) else xs k
theorem al_mv_L_cell : al_mv yL_cell cL_cell 2 (some .int) 2 := ⟨al_c_L_cell, al_ini_RL, ⟨by decide +kernel, by decide +kernel, by decide +kernel⟩, by decide +kernel⟩
theorem al_ms_L_cell : al_mst yL_cell cL_cell 2 (some .int) 2 := ⟨al_mv_L_cell, al_st_L_cell⟩
theorem al_nlt_le {L k : Nat} (hL : L < 2 ^ 31) (hk : k < 2 ^ 31) (c : ¬ nI L ≤ nI k) : k < L := Nat.lt_of_not_le fun h => c (nI_le h hk)
set_option maxHeartbeats 4000000 in
set_option maxRecDepth 100000 in
theorem al_L_cell (l : Launch) {b L k : Nat} {xs : Nat → Int32} (hL : L ≤ 260) (hk : k < 2 ^ 20) : Met l yL_cell (al_ws yL_cell cL_cell 2 (some .int)) (al_rm 0 0) (va_Pc [.ref b, .int (nI k)] (fun U => b < U.heap.size ∧ va_X b L xs U U.heap)) (al_Qp (some (.int (al_cell L xs k)))) 0 0 (fun _ => False) := by
  refine Met.ofW (cc := cL_cell) (maxL := 2) (ret := (some .int)) al_mv_L_cell.2.2.2 rfl ?_
  intro p e s m args below meth c s₁ B hml hv
  obtain ⟨rfl, hbl, hX⟩ := hv
  have hts := atoms_spec (ws := al_ws yL_cell cL_cell 2 (some .int)) B.pre
  rw [lg_entry_eq]
  have hx := B.exec
  have hb := B.bytes
  have hr := B.returns
  have hlocks : meth.locks = false := B.notSynchronized
  have hS : va_S (fun _ => False) s.heap s.heap [] := va_S.rf
  have key : ∀ ls : Array Slot, lv_has ls 2 [(0, .ref b), (1, .int (nI k))] → W p l e (al_rm 0 0) s m #[Value.ref b, Value.int (nI k)] below meth c s.heap [] 0 0 (MQ below (al_Qp (some (.int (al_cell L xs k)))) #[Value.ref b, Value.int (nI k)] s 0 0 (fun _ => False)) (F0 m 0 ls []) := by
    intro ls hl
    refine lv_iload_n hx hb dL_cell_0 rfl (lv_at hl 1 rfl) ?_
    refine lv_aload_n hx hb dL_cell_1 rfl (lv_at hl 0 rfl) ?_
    refine va_slen hx hb hX hbl (fun h => h) hS dL_cell_2 ?_
    refine lv_icmp_ge (tgt := 12) hx hb dL_cell_3 (by decide) (fun c1 => ?_) (fun c1 => ?_)
    · refine lv_sipush (v := 7919) hx hb dL_cell_12 (by decide) ?_
      refine lv_iload_n hx hb dL_cell_15 rfl (lv_at hl 1 rfl) ?_
      refine lv_bipush (v := 43) hx hb dL_cell_16 (by decide) ?_
      refine lv_iadd hx hb dL_cell_18 ?_
      refine lv_imul hx hb dL_cell_19 ?_
      refine lv_iload_n hx hb dL_cell_20 rfl (lv_at hl 1 rfl) ?_
      refine lv_bipush (v := 73) hx hb dL_cell_21 (by decide) ?_
      refine lv_iadd hx hb dL_cell_23 ?_
      refine lv_imul hx hb dL_cell_24 ?_
      exact W.iret hx hb hr (fun t9 ht9 _ => ⟨by rw [al_cell, if_pos (show nI L ≤ nI k from c1)], ht9⟩) (fun q hq => absurd hq List.not_mem_nil) dL_cell_25
    · have hkL : k < L := al_nlt_le (by omega) (by omega) c1
      refine lv_aload_n hx hb dL_cell_6 rfl (lv_at hl 0 rfl) ?_
      refine lv_iload_n hx hb dL_cell_7 rfl (lv_at hl 1 rfl) ?_
      refine va_sld hx hb hX hbl (fun h => h) hS (pk_in k L hkL rfl (by omega)) dL_cell_8 ?_
      refine lv_goto (tgt := 25) hx hb dL_cell_9 (by decide) ?_
      exact W.iret hx hb hr (fun t9 ht9 _ => ⟨by rw [al_cell, if_neg (show ¬ nI L ≤ nI k from c1), nI_clamp (by omega)], ht9⟩) (fun q hq => absurd hq List.not_mem_nil) dL_cell_25
  exact key _ (lv_entry _ (Nat.le_of_ble_eq_true rfl))
