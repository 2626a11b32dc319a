/-! text and history -/
theorem al_nle {a b : Int32} (h : a < b) : ¬ b ≤ a := fun h2 => by
  rw [Int32.lt_iff_toInt_lt] at h
  rw [Int32.le_iff_toInt_le] at h2
  omega
theorem al_60 {n : Nat} (h : n < 60) : ¬ (60 : Int32) ≤ nI n := nI_ge (a := n) (b := 60) h (by omega)
theorem al_60' {n : Nat} (h : n = 60) : (60 : Int32) ≤ nI n := by rw [h]; decide
def al_tup (f : Nat → Nat) (i t : Nat) : Nat → Nat := fun j => if j = i then t else f j
section ALG
variable {p : Program} {l : Launch} {e : Env} {R : Room} {s : State} {m : MethodId} {args : Array Value} {below : List Frame} {meth : Method} {c : Code} {H : Heap} {locs : List Loc} {cells slots : Nat} {Q : State → Prop}
variable {cc : ByteArray} {nL n pc : Nat} {own : String} {rest : List Value} {ls : Array Slot}
variable {D : va_G} {cy : al_CY} {ad : Nat → Nat} {σ : al_St} {H0 : Heap} {x v : Int32} {w : UInt32}
theorem al_cast (S : CallFix p m c cc nL s args al_G own) (hK : va_K D vwCl (al_tys cy) s) (hW : al_H D cy ad σ H) (hS : va_S (al_A ad) H0 H locs) (h1 : ¬ x < 0) (h2 : ¬ 60 ≤ x) (hv : vp_nar .char v = v) (hdg : decode cc pc = .ok (.castore, 1)) (kk : ∀ (H1 : Heap) (locs1 : List Loc), al_H D cy ad (al_sR σ 25 (upd (σ.1 25) x.toNatClampNeg v)) H1 → va_S (al_A ad) H0 H1 locs1 → W p l e R s m args below meth c H1 locs1 cells slots Q (F0 m (pc + 1) ls rest)) : W p l e R s m args below meth c H locs cells slots Q (F0 m pc ls (.int v :: .int x :: .ref (ad 2) :: rest)) :=
  va_cast S.1 S.2.1 hK hW.1 (al_W_D hW.2.1) hS 2 2 (hW.cell (by decide) rfl) rfl (al_vin rfl h1 h2) hdg (fun H1 locs1 a _ b => kk H1 locs1 (hW.sG (by rw [hv] at a; exact a)) b)
theorem al_W_sT (cy : al_CY) (ad : Nat → Nat) (σ : al_St) (i t : Nat) : (al_W cy ad σ).set 4 (ad 4, .inl (cy.2.2.2, 4, .inr (.inr (.inr (.inr (va_up (fun j => some (ad (8 + σ.2.2.2 j))) i (some (ad (8 + t))))))))) = al_W cy ad (al_sT σ (al_tup σ.2.2.2 i t)) := by
  have key : ∀ k, k < 14 → (k ≠ 4 → al_c0 cy ad (al_sT σ (al_tup σ.2.2.2 i t)) k = al_c0 cy ad σ k) := by
    refine al_c0_out ?_ ?_ ?_ ?_ ?_ ?_ ?_ ?_ ?_ ?_ ?_ ?_ ?_ ?_ <;> first | exact fun _ => rfl | exact fun h => absurd rfl h
  have e : (fun j => some (ad (8 + al_tup σ.2.2.2 i t j))) = va_up (fun j => some (ad (8 + σ.2.2.2 j))) i (some (ad (8 + t))) := by
    funext j
    by_cases h : j = i <;> simp [al_tup, va_up, h]
  refine al_W_set cy ad σ _ ?_ (fun j hj hne => ?_)
  · rw [← e]
    rfl
  · by_cases h1 : j < 14
    · exact al_cE_small h1 (key j h1 hne)
    · exact al_cE_big (σ := σ) (σ' := al_sT σ (al_tup σ.2.2.2 i t)) rfl rfl h1
theorem al_qast (S : CallFix p m c cc nL s args al_G own) (hK : va_K D vwCl (al_tys cy) s) (hW : al_H D cy ad σ H) (hS : va_S (al_A ad) H0 H locs) {t : Nat} (ht : t < 6) (h1 : ¬ x < 0) (h2 : ¬ 4 ≤ x) (hdg : decode cc pc = .ok (.aastore, 1)) (kk : ∀ (H1 : Heap) (locs1 : List Loc), al_H D cy ad (al_sT σ (al_tup σ.2.2.2 x.toNatClampNeg t)) H1 → va_S (al_A ad) H0 H1 locs1 → W p l e R s m args below meth c H1 locs1 cells slots Q (F0 m (pc + 1) ls rest)) : W p l e R s m args below meth c H locs cells slots Q (F0 m pc ls (.ref (ad (8 + t)) :: .int x :: .ref (ad 4) :: rest)) :=
  va_astq S.1 S.2.1 hK hW.1 (al_W_D hW.2.1) hS 4 3 (8 + t) 6 (r := (RX6, TX6, 4)) (hW.cell (by decide) rfl) rfl (hW.cell (by omega) (al_cE_tree cy ad σ ht)) rfl (al_vin rfl h1 h2) hdg (fun H1 locs1 a _ b => kk H1 locs1 ⟨by rw [← al_W_sT]; exact a, hW.2.1, fun j => by
    show al_tup σ.2.2.2 x.toNatClampNeg t j < 6
    simp only [al_tup]
    split
    · exact ht
    · exact hW.2.2 j⟩ b)
end ALG
def al_put (σ : al_St) (x : Int32) : Int32 × al_St := if σ.2.2.1 6 < 0 then (0, σ) else if σ.2.2.1 6 < 60 then (1, al_sV (al_sR σ 25 (upd (σ.1 25) (σ.2.2.1 6).toNatClampNeg x)) 6 ((al_sR σ 25 (upd (σ.1 25) (σ.2.2.1 6).toNatClampNeg x)).2.2.1 6 + 1)) else (0, σ)
def al_plantL (u : Nat) : Nat → Nat → Int32 → al_St → al_St
  | 0, _, _, σ => σ
  | n + 1, k, a, σ => if σ.2.2.1 6 ≤ nI k then σ else if σ.1 25 (nI k).toNatClampNeg = 40 then al_plantL u n (k + 1) (σ.2.2.1 u) (al_append σ u a 1065353216 FP.fconst1) else al_plantL u n (k + 1) (al_rg (σ.1 (2 * u)) a) σ
def al_faultE (σ : al_St) (o : Int32) : Int32 := if σ.2.2.1 6 = 0 then σ.2.2.1 6 else if o ≤ 0 then -1 else σ.2.2.1 6
def al_faultL (σ : al_St) : Nat → Nat → Int32 → Int32
  | 0, _, o => al_faultE σ o
  | n + 1, k, o => if σ.2.2.1 6 ≤ nI k then al_faultE σ o else if σ.1 25 (nI k).toNatClampNeg = 40 then al_faultL σ n (k + 1) (o + 1) else if σ.1 25 (nI k).toNatClampNeg = 41 then (if o ≤ 0 then nI k else al_faultL σ n (k + 1) (o + (-1))) else nI k
theorem al_mv_X5_length : al_mv yX5_length cX5_length 1 (some .int) 0 := ⟨al_c_X5_length, al_ini_RX5, ⟨by decide +kernel, by decide +kernel, by decide +kernel⟩, by decide +kernel⟩
theorem al_mi_X5_length : al_mi yX5_length cX5_length 1 (some .int) 0 := ⟨al_mv_X5_length, al_in_X5_length, al_se_X5_length⟩
set_option maxHeartbeats 4000000 in
set_option maxRecDepth 100000 in
theorem al_X5_length (l : Launch) (D : va_G) (cy : al_CY) (ad : Nat → Nat) (σ : al_St) : al_MP l yX5_length cX5_length 1 (some .int) 0 0 D cy ad σ [.ref (ad (1))] (some (.int (σ.2.2.1 6))) := by
  refine al_met al_mv_X5_length (Nat.le_of_ble_eq_true rfl) ?_
  intro p e s m args below meth c ls S hr hlocks hK hW hS hl
  have hl : lv_has ls 1 [(0, .ref (ad (1)))] := hl
  refine lv_aload_n S.1 S.2.1 dX5_length_0 rfl (lv_at hl 0 rfl) ?_
  refine al_g_RX5_15 S hK hW dX5_length_1 ?_
  exact W.iret S.1 S.2.1 hr (fun t9 ht9 _ => ⟨(congrArg (fun z => Outcome.returned (some (Value.int z))) rfl), ht9⟩) (fun q hq => absurd hq List.not_mem_nil) dX5_length_4
theorem al_mv_X5_put : al_mv yX5_put cX5_put 2 (some .boolean) 1 := ⟨al_c_X5_put, al_ini_RX5, ⟨by decide +kernel, by decide +kernel, by decide +kernel⟩, by decide +kernel⟩
theorem al_mi_X5_put : al_mi yX5_put cX5_put 2 (some .boolean) 1 := ⟨al_mv_X5_put, al_in_X5_put, al_se_X5_put⟩
set_option maxHeartbeats 4000000 in
set_option maxRecDepth 100000 in
theorem al_X5_put (l : Launch) (D : va_G) (cy : al_CY) (ad : Nat → Nat) (σ : al_St) (x : Int32) (hx : vp_nar .char x = x) : al_MS l yX5_put cX5_put 2 (some .boolean) 0 0 D cy ad σ [.ref (ad (1)), .int x] (some (.int ((al_put σ x).1))) ((al_put σ x).2) := by
  refine al_met al_mv_X5_put (Nat.le_of_ble_eq_true rfl) ?_
  intro p e s m args below meth c ls S hr hlocks hK hW hS hl
  have hl : lv_has ls 2 [(0, .ref (ad (1))), (1, .int x)] := hl
  refine lv_aload_n S.1 S.2.1 dX5_put_0 rfl (lv_at hl 0 rfl) ?_
  refine al_g_RX5_15 S hK hW dX5_put_1 ?_
  refine lv_if_lt (tgt := 19) S.1 S.2.1 dX5_put_4 (by decide) (fun c1 => ?_) (fun c1 => ?_)
  · refine lv_iconst (v := 0) S.1 S.2.1 dX5_put_19 (by decide) ?_
    exact W.zret S.1 S.2.1 hr rfl (fun t9 ht9 _ => ⟨(congrArg (fun z => Outcome.returned (some (Value.int z))) (by simp only [al_put, if_pos (c1)])), by rw [ht9]; exact (al_He hW (by simp only [al_put, if_pos (c1)])), hS.F ht9⟩) hS.2.2 dX5_put_20
  · refine lv_aload_n S.1 S.2.1 dX5_put_7 rfl (lv_at hl 0 rfl) ?_
    refine al_g_RX5_15 S hK hW dX5_put_8 ?_
    refine lv_aload_n S.1 S.2.1 dX5_put_11 rfl (lv_at hl 0 rfl) ?_
    refine al_g_RX5_9 S hK hW dX5_put_12 ?_
    refine al_calen S hK hW dX5_put_15 ?_
    refine lv_icmp_lt (tgt := 21) S.1 S.2.1 dX5_put_16 (by decide) (fun c2 => ?_) (fun c2 => ?_)
    · refine lv_aload_n S.1 S.2.1 dX5_put_21 rfl (lv_at hl 0 rfl) ?_
      refine al_g_RX5_9 S hK hW dX5_put_22 ?_
      refine lv_aload_n S.1 S.2.1 dX5_put_25 rfl (lv_at hl 0 rfl) ?_
      refine al_g_RX5_15 S hK hW dX5_put_26 ?_
      refine lv_iload_n S.1 S.2.1 dX5_put_29 rfl (lv_at hl 1 rfl) ?_
      refine al_cast S hK hW hS c1 (al_nle c2) hx dX5_put_30 (fun H locs hW hS => ?_)
      refine lv_aload_n S.1 S.2.1 dX5_put_31 rfl (lv_at hl 0 rfl) ?_
      refine lv_dup S.1 S.2.1 dX5_put_32 rfl ?_
      refine al_g_RX5_15 S hK hW dX5_put_33 ?_
      refine lv_iconst (v := 1) S.1 S.2.1 dX5_put_36 (by decide) ?_
      refine lv_iadd S.1 S.2.1 dX5_put_37 ?_
      refine al_p_RX5_15 S hK hW hS dX5_put_38 (fun H locs hW hS => ?_)
      refine lv_iconst (v := 1) S.1 S.2.1 dX5_put_41 (by decide) ?_
      exact W.zret S.1 S.2.1 hr rfl (fun t9 ht9 _ => ⟨(congrArg (fun z => Outcome.returned (some (Value.int z))) (by simp only [al_put, if_neg (c1), if_pos (c2)])), by rw [ht9]; exact (al_He hW (by simp only [al_put, if_neg (c1), if_pos (c2)])), hS.F ht9⟩) hS.2.2 dX5_put_42
    · refine lv_iconst (v := 0) S.1 S.2.1 dX5_put_19 (by decide) ?_
      exact W.zret S.1 S.2.1 hr rfl (fun t9 ht9 _ => ⟨(congrArg (fun z => Outcome.returned (some (Value.int z))) (by simp only [al_put, if_neg (c1), if_neg (c2)])), by rw [ht9]; exact (al_He hW (by simp only [al_put, if_neg (c1), if_neg (c2)])), hS.F ht9⟩) hS.2.2 dX5_put_20
theorem al_mv_X5_branches : al_mv yX5_branches cX5_branches 1 (some .int) 0 := ⟨al_c_X5_branches, al_ini_RX5, ⟨by decide +kernel, by decide +kernel, by decide +kernel⟩, by decide +kernel⟩
theorem al_mi_X5_branches : al_mi yX5_branches cX5_branches 1 (some .int) 0 := ⟨al_mv_X5_branches, al_in_X5_branches, al_se_X5_branches⟩
set_option maxHeartbeats 4000000 in
set_option maxRecDepth 100000 in
theorem al_X5_branches (l : Launch) (D : va_G) (cy : al_CY) (ad : Nat → Nat) (σ : al_St) : al_MP l yX5_branches cX5_branches 1 (some .int) 0 0 D cy ad σ [.ref (ad (1))] (some (.int (σ.2.2.1 6 / 2))) := by
  refine al_met al_mv_X5_branches (Nat.le_of_ble_eq_true rfl) ?_
  intro p e s m args below meth c ls S hr hlocks hK hW hS hl
  have hl : lv_has ls 1 [(0, .ref (ad (1)))] := hl
  refine lv_aload_n S.1 S.2.1 dX5_branches_0 rfl (lv_at hl 0 rfl) ?_
  refine al_g_RX5_15 S hK hW dX5_branches_1 ?_
  refine lv_iconst (v := 2) S.1 S.2.1 dX5_branches_4 (by decide) ?_
  refine lv_idiv S.1 S.2.1 dX5_branches_5 (by decide) ?_
  exact W.iret S.1 S.2.1 hr (fun t9 ht9 _ => ⟨(congrArg (fun z => Outcome.returned (some (Value.int z))) (by simp only [])), ht9⟩) (fun q hq => absurd hq List.not_mem_nil) dX5_branches_6
set_option maxHeartbeats 4000000 in
set_option maxRecDepth 100000 in
theorem al_tl_X5_fault {p : Program} {e : Env} {s : State} {m : MethodId} {args : Array Value} {below : List Frame} {meth : Method} {c : Code} (l : Launch) (D : va_G) (cy : al_CY) (ad : Nat → Nat) (S : CallFix p m c cX5_fault 3 s args al_G RX5) (hr : meth.sig.returnType = (some .int)) (hlocks : meth.locks = false) (hK : va_K D vwCl (al_tys cy) s) {H : Heap} {σ : al_St} (hh : H = s.heap) (hW : al_H D cy ad σ H) : ∀ (n : Nat) (k : Nat) (o : Int32) (ls : Array Slot), k + n = 60 → lv_has ls 3 [(0, .ref (ad (1))), (1, .int o), (2, .int (nI k))] → W p l e (al_rm 0 0) s m args below meth c H [] 0 0 (MQ below (al_Qp (some (.int (al_faultL σ n k o)))) args s 0 0 (fun _ => False)) (F0 m 4 ls []) := by
  intro n
  induction n with
  | zero =>
    intro k o ls hk hl
    subst hh
    refine lv_iload_n S.1 S.2.1 dX5_fault_4 rfl (lv_at hl 2 rfl) ?_
    refine lv_aload_n S.1 S.2.1 dX5_fault_5 rfl (lv_at hl 0 rfl) ?_
    refine al_g_RX5_15 S hK hW dX5_fault_6 ?_
    refine lv_icmp_ge (tgt := 67) S.1 S.2.1 dX5_fault_9 (by decide) (fun c1 => ?_) (fun c1 => ?_)
    · refine lv_aload_n S.1 S.2.1 dX5_fault_67 rfl (lv_at hl 0 rfl) ?_
      refine al_g_RX5_15 S hK hW dX5_fault_68 ?_
      refine lv_if_eq (tgt := 78) S.1 S.2.1 dX5_fault_71 (by decide) (fun c2 => ?_) (fun c2 => ?_)
      · refine lv_aload_n S.1 S.2.1 dX5_fault_78 rfl (lv_at hl 0 rfl) ?_
        refine al_g_RX5_15 S hK hW dX5_fault_79 ?_
        refine lv_goto (tgt := 86) S.1 S.2.1 dX5_fault_82 (by decide) ?_
        exact W.iret S.1 S.2.1 hr (fun t9 ht9 _ => ⟨(congrArg (fun z => Outcome.returned (some (Value.int z))) (by simp only [al_faultL, al_faultE, if_pos (c1), if_pos (c2)])), ht9⟩) (fun q hq => absurd hq List.not_mem_nil) dX5_fault_86
      · refine lv_iload_n S.1 S.2.1 dX5_fault_74 rfl (lv_at hl 1 rfl) ?_
        refine lv_if_le (tgt := 85) S.1 S.2.1 dX5_fault_75 (by decide) (fun c3 => ?_) (fun c3 => ?_)
        · refine lv_iconst (v := -1) S.1 S.2.1 dX5_fault_85 (by decide) ?_
          exact W.iret S.1 S.2.1 hr (fun t9 ht9 _ => ⟨(congrArg (fun z => Outcome.returned (some (Value.int z))) (by simp only [al_faultL, al_faultE, if_pos (c1), if_neg (c2), if_pos (c3)])), ht9⟩) (fun q hq => absurd hq List.not_mem_nil) dX5_fault_86
        · refine lv_aload_n S.1 S.2.1 dX5_fault_78 rfl (lv_at hl 0 rfl) ?_
          refine al_g_RX5_15 S hK hW dX5_fault_79 ?_
          refine lv_goto (tgt := 86) S.1 S.2.1 dX5_fault_82 (by decide) ?_
          exact W.iret S.1 S.2.1 hr (fun t9 ht9 _ => ⟨(congrArg (fun z => Outcome.returned (some (Value.int z))) (by simp only [al_faultL, al_faultE, if_pos (c1), if_neg (c2), if_neg (c3)])), ht9⟩) (fun q hq => absurd hq List.not_mem_nil) dX5_fault_86
    · refine lv_iload_n S.1 S.2.1 dX5_fault_12 rfl (lv_at hl 2 rfl) ?_
      refine lv_aload_n S.1 S.2.1 dX5_fault_13 rfl (lv_at hl 0 rfl) ?_
      refine al_g_RX5_9 S hK hW dX5_fault_14 ?_
      refine al_calen S hK hW dX5_fault_17 ?_
      refine lv_icmp_ge (tgt := 67) S.1 S.2.1 dX5_fault_18 (by decide) (fun c4 => ?_) (fun c4 => ?_)
      · refine lv_aload_n S.1 S.2.1 dX5_fault_67 rfl (lv_at hl 0 rfl) ?_
        refine al_g_RX5_15 S hK hW dX5_fault_68 ?_
        refine lv_if_eq (tgt := 78) S.1 S.2.1 dX5_fault_71 (by decide) (fun c5 => ?_) (fun c5 => ?_)
        · refine lv_aload_n S.1 S.2.1 dX5_fault_78 rfl (lv_at hl 0 rfl) ?_
          refine al_g_RX5_15 S hK hW dX5_fault_79 ?_
          refine lv_goto (tgt := 86) S.1 S.2.1 dX5_fault_82 (by decide) ?_
          exact W.iret S.1 S.2.1 hr (fun t9 ht9 _ => ⟨(congrArg (fun z => Outcome.returned (some (Value.int z))) (by simp only [al_faultL, al_faultE, if_neg (c1), if_pos (c4), if_pos (c5)])), ht9⟩) (fun q hq => absurd hq List.not_mem_nil) dX5_fault_86
        · refine lv_iload_n S.1 S.2.1 dX5_fault_74 rfl (lv_at hl 1 rfl) ?_
          refine lv_if_le (tgt := 85) S.1 S.2.1 dX5_fault_75 (by decide) (fun c6 => ?_) (fun c6 => ?_)
          · refine lv_iconst (v := -1) S.1 S.2.1 dX5_fault_85 (by decide) ?_
            exact W.iret S.1 S.2.1 hr (fun t9 ht9 _ => ⟨(congrArg (fun z => Outcome.returned (some (Value.int z))) (by simp only [al_faultL, al_faultE, if_neg (c1), if_pos (c4), if_neg (c5), if_pos (c6)])), ht9⟩) (fun q hq => absurd hq List.not_mem_nil) dX5_fault_86
          · refine lv_aload_n S.1 S.2.1 dX5_fault_78 rfl (lv_at hl 0 rfl) ?_
            refine al_g_RX5_15 S hK hW dX5_fault_79 ?_
            refine lv_goto (tgt := 86) S.1 S.2.1 dX5_fault_82 (by decide) ?_
            exact W.iret S.1 S.2.1 hr (fun t9 ht9 _ => ⟨(congrArg (fun z => Outcome.returned (some (Value.int z))) (by simp only [al_faultL, al_faultE, if_neg (c1), if_pos (c4), if_neg (c5), if_neg (c6)])), ht9⟩) (fun q hq => absurd hq List.not_mem_nil) dX5_fault_86
      · exact absurd (al_60' (by omega)) c4
  | succ n ih =>
    intro k o ls hk hl
    subst hh
    refine lv_iload_n S.1 S.2.1 dX5_fault_4 rfl (lv_at hl 2 rfl) ?_
    refine lv_aload_n S.1 S.2.1 dX5_fault_5 rfl (lv_at hl 0 rfl) ?_
    refine al_g_RX5_15 S hK hW dX5_fault_6 ?_
    refine lv_icmp_ge (tgt := 67) S.1 S.2.1 dX5_fault_9 (by decide) (fun c1 => ?_) (fun c1 => ?_)
    · refine lv_aload_n S.1 S.2.1 dX5_fault_67 rfl (lv_at hl 0 rfl) ?_
      refine al_g_RX5_15 S hK hW dX5_fault_68 ?_
      refine lv_if_eq (tgt := 78) S.1 S.2.1 dX5_fault_71 (by decide) (fun c2 => ?_) (fun c2 => ?_)
      · refine lv_aload_n S.1 S.2.1 dX5_fault_78 rfl (lv_at hl 0 rfl) ?_
        refine al_g_RX5_15 S hK hW dX5_fault_79 ?_
        refine lv_goto (tgt := 86) S.1 S.2.1 dX5_fault_82 (by decide) ?_
        exact W.iret S.1 S.2.1 hr (fun t9 ht9 _ => ⟨(congrArg (fun z => Outcome.returned (some (Value.int z))) (by simp only [al_faultL, al_faultE, if_pos (c1), if_pos (c2)])), ht9⟩) (fun q hq => absurd hq List.not_mem_nil) dX5_fault_86
      · refine lv_iload_n S.1 S.2.1 dX5_fault_74 rfl (lv_at hl 1 rfl) ?_
        refine lv_if_le (tgt := 85) S.1 S.2.1 dX5_fault_75 (by decide) (fun c3 => ?_) (fun c3 => ?_)
        · refine lv_iconst (v := -1) S.1 S.2.1 dX5_fault_85 (by decide) ?_
          exact W.iret S.1 S.2.1 hr (fun t9 ht9 _ => ⟨(congrArg (fun z => Outcome.returned (some (Value.int z))) (by simp only [al_faultL, al_faultE, if_pos (c1), if_neg (c2), if_pos (c3)])), ht9⟩) (fun q hq => absurd hq List.not_mem_nil) dX5_fault_86
        · refine lv_aload_n S.1 S.2.1 dX5_fault_78 rfl (lv_at hl 0 rfl) ?_
          refine al_g_RX5_15 S hK hW dX5_fault_79 ?_
          refine lv_goto (tgt := 86) S.1 S.2.1 dX5_fault_82 (by decide) ?_
          exact W.iret S.1 S.2.1 hr (fun t9 ht9 _ => ⟨(congrArg (fun z => Outcome.returned (some (Value.int z))) (by simp only [al_faultL, al_faultE, if_pos (c1), if_neg (c2), if_neg (c3)])), ht9⟩) (fun q hq => absurd hq List.not_mem_nil) dX5_fault_86
    · refine lv_iload_n S.1 S.2.1 dX5_fault_12 rfl (lv_at hl 2 rfl) ?_
      refine lv_aload_n S.1 S.2.1 dX5_fault_13 rfl (lv_at hl 0 rfl) ?_
      refine al_g_RX5_9 S hK hW dX5_fault_14 ?_
      refine al_calen S hK hW dX5_fault_17 ?_
      refine lv_icmp_ge (tgt := 67) S.1 S.2.1 dX5_fault_18 (by decide) (fun c4 => ?_) (fun c4 => ?_)
      · exact absurd c4 (al_60 (by omega))
      · refine lv_aload_n S.1 S.2.1 dX5_fault_21 rfl (lv_at hl 0 rfl) ?_
        refine al_g_RX5_9 S hK hW dX5_fault_22 ?_
        refine lv_iload_n S.1 S.2.1 dX5_fault_25 rfl (lv_at hl 2 rfl) ?_
        refine al_cald S hK hW (al_nn (by omega)) c4 dX5_fault_26 ?_
        refine lv_bipush (v := 40) S.1 S.2.1 dX5_fault_27 (by decide) ?_
        refine lv_icmp_ne (tgt := 38) S.1 S.2.1 dX5_fault_29 (by decide) (fun c5 => ?_) (fun c5 => ?_)
        · refine lv_aload_n S.1 S.2.1 dX5_fault_38 rfl (lv_at hl 0 rfl) ?_
          refine al_g_RX5_9 S hK hW dX5_fault_39 ?_
          refine lv_iload_n S.1 S.2.1 dX5_fault_42 rfl (lv_at hl 2 rfl) ?_
          refine al_cald S hK hW (al_nn (by omega)) c4 dX5_fault_43 ?_
          refine lv_bipush (v := 41) S.1 S.2.1 dX5_fault_44 (by decide) ?_
          refine lv_icmp_ne (tgt := 59) S.1 S.2.1 dX5_fault_46 (by decide) (fun c6 => ?_) (fun c6 => ?_)
          · refine lv_iload_n S.1 S.2.1 dX5_fault_59 rfl (lv_at hl 2 rfl) ?_
            exact W.iret S.1 S.2.1 hr (fun t9 ht9 _ => ⟨(congrArg (fun z => Outcome.returned (some (Value.int z))) (by simp only [al_faultL, al_faultE, if_neg (c1), if_neg (c4), if_neg (c5), if_neg (c6)])), ht9⟩) (fun q hq => absurd hq List.not_mem_nil) dX5_fault_60
          · refine lv_iload_n S.1 S.2.1 dX5_fault_49 rfl (lv_at hl 1 rfl) ?_
            refine lv_if_le (tgt := 59) S.1 S.2.1 dX5_fault_50 (by decide) (fun c7 => ?_) (fun c7 => ?_)
            · refine lv_iload_n S.1 S.2.1 dX5_fault_59 rfl (lv_at hl 2 rfl) ?_
              exact W.iret S.1 S.2.1 hr (fun t9 ht9 _ => ⟨(congrArg (fun z => Outcome.returned (some (Value.int z))) (by simp only [al_faultL, al_faultE, if_neg (c1), if_neg (c4), if_neg (c5), if_pos (c6), if_pos (c7)])), ht9⟩) (fun q hq => absurd hq List.not_mem_nil) dX5_fault_60
            · refine lv_iinc (k := 1) (v := o + (-1)) (lv' := [(1, .int (o + (-1))), (0, .ref (ad (1))), (2, .int (nI k))]) S.1 S.2.1 dX5_fault_53 hl rfl rfl (by decide) rfl (fun ls hl => ?_)
              refine lv_goto (tgt := 61) S.1 S.2.1 dX5_fault_56 (by decide) ?_
              refine lv_iinc (k := 2) (v := nI (k + 1)) (lv' := [(2, .int (nI (k + 1))), (1, .int (o + (-1))), (0, .ref (ad (1)))]) S.1 S.2.1 dX5_fault_61 hl rfl (al_inc k) (by decide) rfl (fun ls hl => ?_)
              refine lv_goto (tgt := 4) S.1 S.2.1 dX5_fault_64 (by decide) ?_
              rw [show al_faultL σ (n + 1) k o = al_faultL σ n (k + 1) (o + (-1)) from by simp only [al_faultL, al_faultE, if_neg (c1), if_neg (c4), if_neg (c5), if_pos (c6), if_neg (c7)]]
              exact ih (k + 1) (o + (-1)) _ (by omega) (lv_sub hl [2, 1, 0] rfl)
        · refine lv_iinc (k := 1) (v := o + 1) (lv' := [(1, .int (o + 1)), (0, .ref (ad (1))), (2, .int (nI k))]) S.1 S.2.1 dX5_fault_32 hl rfl rfl (by decide) rfl (fun ls hl => ?_)
          refine lv_goto (tgt := 61) S.1 S.2.1 dX5_fault_35 (by decide) ?_
          refine lv_iinc (k := 2) (v := nI (k + 1)) (lv' := [(2, .int (nI (k + 1))), (1, .int (o + 1)), (0, .ref (ad (1)))]) S.1 S.2.1 dX5_fault_61 hl rfl (al_inc k) (by decide) rfl (fun ls hl => ?_)
          refine lv_goto (tgt := 4) S.1 S.2.1 dX5_fault_64 (by decide) ?_
          rw [show al_faultL σ (n + 1) k o = al_faultL σ n (k + 1) (o + 1) from by simp only [al_faultL, al_faultE, if_neg (c1), if_neg (c4), if_pos (c5)]]
          exact ih (k + 1) (o + 1) _ (by omega) (lv_sub hl [2, 1, 0] rfl)
theorem al_mv_X5_fault : al_mv yX5_fault cX5_fault 3 (some .int) 0 := ⟨al_c_X5_fault, al_ini_RX5, ⟨by decide +kernel, by decide +kernel, by decide +kernel⟩, by decide +kernel⟩
theorem al_mi_X5_fault : al_mi yX5_fault cX5_fault 3 (some .int) 0 := ⟨al_mv_X5_fault, al_in_X5_fault, al_se_X5_fault⟩
set_option maxHeartbeats 4000000 in
set_option maxRecDepth 100000 in
theorem al_X5_fault (l : Launch) (D : va_G) (cy : al_CY) (ad : Nat → Nat) (σ : al_St) : al_MP l yX5_fault cX5_fault 3 (some .int) 0 0 D cy ad σ [.ref (ad (1))] (some (.int (al_faultL σ 60 0 0))) := by
  refine al_met al_mv_X5_fault (Nat.le_of_ble_eq_true rfl) ?_
  intro p e s m args below meth c ls S hr hlocks hK hW hS hl
  have hl : lv_has ls 3 [(0, .ref (ad (1)))] := hl
  refine lv_iconst (v := 0) S.1 S.2.1 dX5_fault_0 (by decide) ?_
  refine lv_istore_n (lv' := [(1, .int 0), (0, .ref (ad (1)))]) S.1 S.2.1 dX5_fault_1 rfl hl (by decide) rfl (fun ls hl => ?_)
  refine lv_iconst (v := 0) S.1 S.2.1 dX5_fault_2 (by decide) ?_
  refine lv_istore_n (lv' := [(2, .int 0), (1, .int 0), (0, .ref (ad (1)))]) S.1 S.2.1 dX5_fault_3 rfl hl (by decide) rfl (fun ls hl => ?_)
  exact al_tl_X5_fault l D cy ad  S hr hlocks hK rfl hW 60 0 0 _ (by omega) (lv_sub hl [2, 1, 0] rfl)
set_option maxHeartbeats 4000000 in
set_option maxRecDepth 100000 in
theorem al_lp_X5_plant {p : Program} {e : Env} {s : State} {m : MethodId} {args : Array Value} {below : List Frame} {meth : Method} {c : Code} {Q : State → Prop} (l : Launch) (D : va_G) (cy : al_CY) (ad : Nat → Nat) (u : Nat) (hu : u < 6) (S : CallFix p m c cX5_plant 5 s args al_G RX5) (hK : va_K D vwCl (al_tys cy) s) {H0 : Heap} : ∀ (n : Nat) (σ : al_St) (k : Nat) (a : Int32) (H : Heap) (locs : List Loc) (ls : Array Slot), k + n = 60 → al_H D cy ad σ H → va_S (al_A ad) H0 H locs → lv_has ls 5 [(0, .ref (ad (1))), (1, .ref (ad (8 + u))), (3, .int a), (4, .int (nI k))] → (∀ (σ' : al_St) (H : Heap) (locs : List Loc) (ls : Array Slot), al_plantL u n k a σ = σ' → al_H D cy ad σ' H → va_S (al_A ad) H0 H locs → lv_has ls 5 [(0, .ref (ad (1)))] → W p l e (al_rm 3 69) s m args below meth c H locs 0 0 Q (F0 m 59 ls [])) → W p l e (al_rm 3 69) s m args below meth c H locs 0 0 Q (F0 m 5 ls []) := by
  intro n
  induction n with
  | zero =>
    intro σ k a H locs ls hk hW hS hl K
    refine lv_iload S.1 S.2.1 dX5_plant_5 (lv_at hl 3 rfl) ?_
    refine lv_aload_n S.1 S.2.1 dX5_plant_7 rfl (lv_at hl 0 rfl) ?_
    refine al_g_RX5_15 S hK hW dX5_plant_8 ?_
    refine lv_icmp_ge (tgt := 59) S.1 S.2.1 dX5_plant_11 (by decide) (fun c1 => ?_) (fun c1 => ?_)
    · exact K σ  _ _ _ (by simp only [al_plantL, if_pos (c1)]) hW hS (lv_sub hl [0] rfl)
    · refine lv_iload S.1 S.2.1 dX5_plant_14 (lv_at hl 3 rfl) ?_
      refine lv_aload_n S.1 S.2.1 dX5_plant_16 rfl (lv_at hl 0 rfl) ?_
      refine al_g_RX5_9 S hK hW dX5_plant_17 ?_
      refine al_calen S hK hW dX5_plant_20 ?_
      refine lv_icmp_ge (tgt := 59) S.1 S.2.1 dX5_plant_21 (by decide) (fun c2 => ?_) (fun c2 => ?_)
      · exact K σ  _ _ _ (by simp only [al_plantL, if_neg (c1), if_pos (c2)]) hW hS (lv_sub hl [0] rfl)
      · exact absurd (al_60' (by omega)) c2
  | succ n ih =>
    intro σ k a H locs ls hk hW hS hl K
    refine lv_iload S.1 S.2.1 dX5_plant_5 (lv_at hl 3 rfl) ?_
    refine lv_aload_n S.1 S.2.1 dX5_plant_7 rfl (lv_at hl 0 rfl) ?_
    refine al_g_RX5_15 S hK hW dX5_plant_8 ?_
    refine lv_icmp_ge (tgt := 59) S.1 S.2.1 dX5_plant_11 (by decide) (fun c1 => ?_) (fun c1 => ?_)
    · exact K σ  _ _ _ (by simp only [al_plantL, if_pos (c1)]) hW hS (lv_sub hl [0] rfl)
    · refine lv_iload S.1 S.2.1 dX5_plant_14 (lv_at hl 3 rfl) ?_
      refine lv_aload_n S.1 S.2.1 dX5_plant_16 rfl (lv_at hl 0 rfl) ?_
      refine al_g_RX5_9 S hK hW dX5_plant_17 ?_
      refine al_calen S hK hW dX5_plant_20 ?_
      refine lv_icmp_ge (tgt := 59) S.1 S.2.1 dX5_plant_21 (by decide) (fun c2 => ?_) (fun c2 => ?_)
      · exact absurd c2 (al_60 (by omega))
      · refine lv_aload_n S.1 S.2.1 dX5_plant_24 rfl (lv_at hl 0 rfl) ?_
        refine al_g_RX5_9 S hK hW dX5_plant_25 ?_
        refine lv_iload S.1 S.2.1 dX5_plant_28 (lv_at hl 3 rfl) ?_
        refine al_cald S hK hW (al_nn (by omega)) c2 dX5_plant_30 ?_
        refine lv_bipush (v := 40) S.1 S.2.1 dX5_plant_31 (by decide) ?_
        refine lv_icmp_ne (tgt := 47) S.1 S.2.1 dX5_plant_33 (by decide) (fun c3 => ?_) (fun c3 => ?_)
        · refine lv_aload_n S.1 S.2.1 dX5_plant_47 rfl (lv_at hl 1 rfl) ?_
          refine lv_iload_n S.1 S.2.1 dX5_plant_48 rfl (lv_at hl 2 rfl) ?_
          refine al_cP (rest := []) S hK hW (al_X6_parentOf l D cy ad σ u (by omega) a) al_mi_X6_parentOf al_ml_RX5_26 rfl (al_rc_T D cy ad _ (t := u) (by omega)) rfl hl.1 rfl (Nat.le_of_ble_eq_true rfl) dX5_plant_49 ⟨Nat.le_of_ble_eq_true rfl, Nat.le_of_ble_eq_true rfl⟩ ⟨Nat.zero_le _, Nat.zero_le _⟩ ?_
          refine W.eq (g2 := F0 m 52 ls [.int (al_rg (σ.1 (2 * u)) a)]) rfl ?_
          refine lv_istore_n (lv' := [(3, .int (al_rg (σ.1 (2 * u)) a)), (0, .ref (ad (1))), (1, .ref (ad (8 + u))), (4, .int (nI k))]) S.1 S.2.1 dX5_plant_52 rfl hl (by decide) rfl (fun ls hl => ?_)
          refine lv_iinc (k := 3) (v := nI (k + 1)) (lv' := [(4, .int (nI (k + 1))), (3, .int (al_rg (σ.1 (2 * u)) a)), (0, .ref (ad (1))), (1, .ref (ad (8 + u)))]) S.1 S.2.1 dX5_plant_53 hl rfl (al_inc k) (by decide) rfl (fun ls hl => ?_)
          refine lv_goto (tgt := 5) S.1 S.2.1 dX5_plant_56 (by decide) ?_
          exact ih σ (k + 1) (al_rg (σ.1 (2 * u)) a) _ _ _ (by omega) hW hS (lv_sub hl [2, 3, 1, 0] rfl) (fun σ'  H locs ls e9 hW hS hl => K σ'  H locs ls (by simp only [al_plantL, if_neg (c1), if_neg (c2), if_neg (c3)]; exact e9) hW hS hl)
        · refine lv_aload_n S.1 S.2.1 dX5_plant_36 rfl (lv_at hl 1 rfl) ?_
          refine lv_iload_n S.1 S.2.1 dX5_plant_37 rfl (lv_at hl 2 rfl) ?_
          refine lv_ldc S.1 S.2.1 S.2.2.2.1 (S.2.2.2.2 _ al_k_RX5_19) dX5_plant_38 ?_
          refine lv_fconst1 S.1 S.2.1 dX5_plant_40 ?_
          refine al_cS (rest := []) S hK hW hS (al_X6_append l D cy ad σ u (by omega) a 1065353216 FP.fconst1) al_mi_X6_append al_ml_RX5_20 rfl (al_rc_T D cy ad _ (t := u) (by omega)) rfl hl.1 rfl (Nat.le_of_ble_eq_true rfl) dX5_plant_41 ⟨Nat.le_of_ble_eq_true rfl, Nat.le_of_ble_eq_true rfl⟩ ⟨Nat.zero_le _, Nat.zero_le _⟩ (fun H locs hW hS => ?_)
          refine W.eq (g2 := F0 m 44 ls [.int (σ.2.2.1 u)]) rfl ?_
          refine lv_goto (tgt := 52) S.1 S.2.1 dX5_plant_44 (by decide) ?_
          refine lv_istore_n (lv' := [(3, .int (σ.2.2.1 u)), (0, .ref (ad (1))), (1, .ref (ad (8 + u))), (4, .int (nI k))]) S.1 S.2.1 dX5_plant_52 rfl hl (by decide) rfl (fun ls hl => ?_)
          refine lv_iinc (k := 3) (v := nI (k + 1)) (lv' := [(4, .int (nI (k + 1))), (3, .int (σ.2.2.1 u)), (0, .ref (ad (1))), (1, .ref (ad (8 + u)))]) S.1 S.2.1 dX5_plant_53 hl rfl (al_inc k) (by decide) rfl (fun ls hl => ?_)
          refine lv_goto (tgt := 5) S.1 S.2.1 dX5_plant_56 (by decide) ?_
          exact ih (al_append σ u a 1065353216 FP.fconst1) (k + 1) (σ.2.2.1 u) _ _ _ (by omega) hW hS (lv_sub hl [2, 3, 1, 0] rfl) (fun σ'  H locs ls e9 hW hS hl => K σ'  H locs ls (by simp only [al_plantL, if_neg (c1), if_neg (c2), if_pos (c3)]; exact e9) hW hS hl)
theorem al_mv_X5_plant : al_mv yX5_plant cX5_plant 5 none 2 := ⟨al_c_X5_plant, al_ini_RX5, ⟨by decide +kernel, by decide +kernel, by decide +kernel⟩, by decide +kernel⟩
theorem al_mi_X5_plant : al_mi yX5_plant cX5_plant 5 none 2 := ⟨al_mv_X5_plant, al_in_X5_plant, al_se_X5_plant⟩
set_option maxHeartbeats 4000000 in
set_option maxRecDepth 100000 in
theorem al_X5_plant (l : Launch) (D : va_G) (cy : al_CY) (ad : Nat → Nat) (σ : al_St) (u : Nat) (hu : u < 6) (a : Int32) : al_MS l yX5_plant cX5_plant 5 none 3 69 D cy ad σ [.ref (ad (1)), .ref (ad (8 + u)), .int a] none (al_plantL u 60 0 a σ) := by
  refine al_met al_mv_X5_plant (Nat.le_of_ble_eq_true rfl) ?_
  intro p e s m args below meth c ls S hr hlocks hK hW hS hl
  have hl : lv_has ls 5 [(0, .ref (ad (1))), (1, .ref (ad (8 + u))), (2, .int a)] := hl
  refine lv_iload_n S.1 S.2.1 dX5_plant_0 rfl (lv_at hl 2 rfl) ?_
  refine lv_istore_n (lv' := [(3, .int a), (0, .ref (ad (1))), (1, .ref (ad (8 + u))), (2, .int a)]) S.1 S.2.1 dX5_plant_1 rfl hl (by decide) rfl (fun ls hl => ?_)
  refine lv_iconst (v := 0) S.1 S.2.1 dX5_plant_2 (by decide) ?_
  refine lv_istore (lv' := [(4, .int 0), (3, .int a), (0, .ref (ad (1))), (1, .ref (ad (8 + u))), (2, .int a)]) S.1 S.2.1 dX5_plant_3 hl (by decide) rfl (fun ls hl => ?_)
  refine al_lp_X5_plant l D cy ad u hu S hK 60 σ 0 a _ _ _ (by omega) hW hS (lv_sub hl [2, 3, 1, 0] rfl) (fun σ1 H locs ls e2 hW hS hl => ?_)
  exact W.vret S.1 S.2.1 hr (fun t9 ht9 _ => ⟨rfl, by rw [ht9]; exact (al_He hW (by simp only [e2])), hS.F ht9⟩) hS.2.2 dX5_plant_59

def al_drop (σ : al_St) : al_St := al_sV (al_sT σ (al_tup (al_tup (al_tup (al_tup σ.2.2.2 0 (σ.2.2.2 1)) 1 (σ.2.2.2 2)) 2 (σ.2.2.2 3)) 3 (σ.2.2.2 0))) 7 3
def al_rec1 (σ : al_St) (u : Nat) : al_St := al_sV (al_copyT σ (σ.2.2.2 (σ.2.2.1 7).toNatClampNeg) u) 7 ((al_copyT σ (σ.2.2.2 (σ.2.2.1 7).toNatClampNeg) u).2.2.1 7 + 1)
def al_record (σ : al_St) (u : Nat) : al_St := if σ.2.2.1 7 < 4 then al_rec1 σ u else al_rec1 (al_drop σ) u
def al_takeBack (σ : al_St) (u : Nat) : al_St := al_sV (al_copyT σ u (σ.2.2.2 (σ.2.2.1 7 - 1).toNatClampNeg)) 7 ((al_copyT σ u (σ.2.2.2 (σ.2.2.1 7 - 1).toNatClampNeg)).2.2.1 7 - 1)
def al_keepS (σ : al_St) (u : Nat) : al_St := al_sV (al_copyT σ 5 u) 8 1
theorem al_mv_X1_length : al_mv yX1_length cX1_length 1 (some .int) 0 := ⟨al_c_X1_length, al_ini_RX1, ⟨by decide +kernel, by decide +kernel, by decide +kernel⟩, by decide +kernel⟩
theorem al_mi_X1_length : al_mi yX1_length cX1_length 1 (some .int) 0 := ⟨al_mv_X1_length, al_in_X1_length, al_se_X1_length⟩
set_option maxHeartbeats 4000000 in
set_option maxRecDepth 100000 in
theorem al_X1_length (l : Launch) (D : va_G) (cy : al_CY) (ad : Nat → Nat) (σ : al_St) : al_MP l yX1_length cX1_length 1 (some .int) 0 0 D cy ad σ [.ref (ad (3))] (some (.int (σ.2.2.1 7))) := by
  refine al_met al_mv_X1_length (Nat.le_of_ble_eq_true rfl) ?_
  intro p e s m args below meth c ls S hr hlocks hK hW hS hl
  have hl : lv_has ls 1 [(0, .ref (ad (3)))] := hl
  refine lv_aload_n S.1 S.2.1 dX1_length_0 rfl (lv_at hl 0 rfl) ?_
  refine al_g_RX1_22 S hK hW dX1_length_1 ?_
  exact W.iret S.1 S.2.1 hr (fun t9 ht9 _ => ⟨(congrArg (fun z => Outcome.returned (some (Value.int z))) rfl), ht9⟩) (fun q hq => absurd hq List.not_mem_nil) dX1_length_4
theorem al_mv_X1_hasSnapshot : al_mv yX1_hasSnapshot cX1_hasSnapshot 1 (some .boolean) 0 := ⟨al_c_X1_hasSnapshot, al_ini_RX1, ⟨by decide +kernel, by decide +kernel, by decide +kernel⟩, by decide +kernel⟩
theorem al_mi_X1_hasSnapshot : al_mi yX1_hasSnapshot cX1_hasSnapshot 1 (some .boolean) 0 := ⟨al_mv_X1_hasSnapshot, al_in_X1_hasSnapshot, al_se_X1_hasSnapshot⟩
set_option maxHeartbeats 4000000 in
set_option maxRecDepth 100000 in
theorem al_X1_hasSnapshot (l : Launch) (D : va_G) (cy : al_CY) (ad : Nat → Nat) (σ : al_St) (hz : narrow .boolean (.int (σ.2.2.1 8)) = .int (σ.2.2.1 8)) : al_MP l yX1_hasSnapshot cX1_hasSnapshot 1 (some .boolean) 0 0 D cy ad σ [.ref (ad (3))] (some (.int (σ.2.2.1 8))) := by
  refine al_met al_mv_X1_hasSnapshot (Nat.le_of_ble_eq_true rfl) ?_
  intro p e s m args below meth c ls S hr hlocks hK hW hS hl
  have hl : lv_has ls 1 [(0, .ref (ad (3)))] := hl
  refine lv_aload_n S.1 S.2.1 dX1_hasSnapshot_0 rfl (lv_at hl 0 rfl) ?_
  refine al_g_RX1_26 S hK hW dX1_hasSnapshot_1 ?_
  exact W.zret S.1 S.2.1 hr hz (fun t9 ht9 _ => ⟨(congrArg (fun z => Outcome.returned (some (Value.int z))) rfl), ht9⟩) (fun q hq => absurd hq List.not_mem_nil) dX1_hasSnapshot_4
theorem al_mv_X1_stateAt : al_mv yX1_stateAt cX1_stateAt 2 (some (.object "AncestorLooks$Tree")) 1 := ⟨al_c_X1_stateAt, al_ini_RX1, ⟨by decide +kernel, by decide +kernel, by decide +kernel⟩, by decide +kernel⟩
theorem al_mi_X1_stateAt : al_mi yX1_stateAt cX1_stateAt 2 (some (.object "AncestorLooks$Tree")) 1 := ⟨al_mv_X1_stateAt, al_in_X1_stateAt, al_se_X1_stateAt⟩
set_option maxHeartbeats 4000000 in
set_option maxRecDepth 100000 in
theorem al_X1_stateAt (l : Launch) (D : va_G) (cy : al_CY) (ad : Nat → Nat) (σ : al_St) (x : Int32) (h1 : ¬ x < 0) (h2 : ¬ 4 ≤ x) : al_MP l yX1_stateAt cX1_stateAt 2 (some (.object "AncestorLooks$Tree")) 0 0 D cy ad σ [.ref (ad (3)), .int x] (some (.ref (ad (8 + σ.2.2.2 x.toNatClampNeg)))) := by
  refine al_met al_mv_X1_stateAt (Nat.le_of_ble_eq_true rfl) ?_
  intro p e s m args below meth c ls S hr hlocks hK hW hS hl
  have hl : lv_has ls 2 [(0, .ref (ad (3))), (1, .int x)] := hl
  refine lv_iload_n S.1 S.2.1 dX1_stateAt_0 rfl (lv_at hl 1 rfl) ?_
  refine lv_if_lt (tgt := 22) S.1 S.2.1 dX1_stateAt_1 (by decide) (fun c1 => ?_) (fun c1 => ?_)
  · exact absurd c1 h1
  · refine lv_iload_n S.1 S.2.1 dX1_stateAt_4 rfl (lv_at hl 1 rfl) ?_
    refine lv_aload_n S.1 S.2.1 dX1_stateAt_5 rfl (lv_at hl 0 rfl) ?_
    refine al_g_RX1_11 S hK hW dX1_stateAt_6 ?_
    refine al_qalen S hK hW dX1_stateAt_9 ?_
    refine lv_icmp_ge (tgt := 22) S.1 S.2.1 dX1_stateAt_10 (by decide) (fun c2 => ?_) (fun c2 => ?_)
    · exact absurd c2 h2
    · refine lv_aload_n S.1 S.2.1 dX1_stateAt_13 rfl (lv_at hl 0 rfl) ?_
      refine al_g_RX1_11 S hK hW dX1_stateAt_14 ?_
      refine lv_iload_n S.1 S.2.1 dX1_stateAt_17 rfl (lv_at hl 1 rfl) ?_
      refine al_qald S hK hW c1 c2 dX1_stateAt_18 ?_
      refine lv_goto (tgt := 23) S.1 S.2.1 dX1_stateAt_19 (by decide) ?_
      exact W.aret S.1 S.2.1 hr (Or.inl ⟨_, rfl⟩) (Or.inr ⟨_, rfl⟩) (fun t9 ht9 _ => ⟨rfl, ht9⟩) (fun q hq => absurd hq List.not_mem_nil) dX1_stateAt_23
theorem al_drop_eq (σ : al_St) : al_sV (al_sT (al_sT (al_sT (al_sT σ (al_tup σ.2.2.2 (1 - 1 : Int32).toNatClampNeg (σ.2.2.2 (1 : Int32).toNatClampNeg))) (al_tup (al_sT σ (al_tup σ.2.2.2 (1 - 1 : Int32).toNatClampNeg (σ.2.2.2 (1 : Int32).toNatClampNeg))).2.2.2 (2 - 1 : Int32).toNatClampNeg ((al_sT σ (al_tup σ.2.2.2 (1 - 1 : Int32).toNatClampNeg (σ.2.2.2 (1 : Int32).toNatClampNeg))).2.2.2 (2 : Int32).toNatClampNeg))) (al_tup (al_sT (al_sT σ (al_tup σ.2.2.2 (1 - 1 : Int32).toNatClampNeg (σ.2.2.2 (1 : Int32).toNatClampNeg))) (al_tup (al_sT σ (al_tup σ.2.2.2 (1 - 1 : Int32).toNatClampNeg (σ.2.2.2 (1 : Int32).toNatClampNeg))).2.2.2 (2 - 1 : Int32).toNatClampNeg ((al_sT σ (al_tup σ.2.2.2 (1 - 1 : Int32).toNatClampNeg (σ.2.2.2 (1 : Int32).toNatClampNeg))).2.2.2 (2 : Int32).toNatClampNeg))).2.2.2 (3 - 1 : Int32).toNatClampNeg ((al_sT (al_sT σ (al_tup σ.2.2.2 (1 - 1 : Int32).toNatClampNeg (σ.2.2.2 (1 : Int32).toNatClampNeg))) (al_tup (al_sT σ (al_tup σ.2.2.2 (1 - 1 : Int32).toNatClampNeg (σ.2.2.2 (1 : Int32).toNatClampNeg))).2.2.2 (2 - 1 : Int32).toNatClampNeg ((al_sT σ (al_tup σ.2.2.2 (1 - 1 : Int32).toNatClampNeg (σ.2.2.2 (1 : Int32).toNatClampNeg))).2.2.2 (2 : Int32).toNatClampNeg))).2.2.2 (3 : Int32).toNatClampNeg))) (al_tup (al_sT (al_sT (al_sT σ (al_tup σ.2.2.2 (1 - 1 : Int32).toNatClampNeg (σ.2.2.2 (1 : Int32).toNatClampNeg))) (al_tup (al_sT σ (al_tup σ.2.2.2 (1 - 1 : Int32).toNatClampNeg (σ.2.2.2 (1 : Int32).toNatClampNeg))).2.2.2 (2 - 1 : Int32).toNatClampNeg ((al_sT σ (al_tup σ.2.2.2 (1 - 1 : Int32).toNatClampNeg (σ.2.2.2 (1 : Int32).toNatClampNeg))).2.2.2 (2 : Int32).toNatClampNeg))) (al_tup (al_sT (al_sT σ (al_tup σ.2.2.2 (1 - 1 : Int32).toNatClampNeg (σ.2.2.2 (1 : Int32).toNatClampNeg))) (al_tup (al_sT σ (al_tup σ.2.2.2 (1 - 1 : Int32).toNatClampNeg (σ.2.2.2 (1 : Int32).toNatClampNeg))).2.2.2 (2 - 1 : Int32).toNatClampNeg ((al_sT σ (al_tup σ.2.2.2 (1 - 1 : Int32).toNatClampNeg (σ.2.2.2 (1 : Int32).toNatClampNeg))).2.2.2 (2 : Int32).toNatClampNeg))).2.2.2 (3 - 1 : Int32).toNatClampNeg ((al_sT (al_sT σ (al_tup σ.2.2.2 (1 - 1 : Int32).toNatClampNeg (σ.2.2.2 (1 : Int32).toNatClampNeg))) (al_tup (al_sT σ (al_tup σ.2.2.2 (1 - 1 : Int32).toNatClampNeg (σ.2.2.2 (1 : Int32).toNatClampNeg))).2.2.2 (2 - 1 : Int32).toNatClampNeg ((al_sT σ (al_tup σ.2.2.2 (1 - 1 : Int32).toNatClampNeg (σ.2.2.2 (1 : Int32).toNatClampNeg))).2.2.2 (2 : Int32).toNatClampNeg))).2.2.2 (3 : Int32).toNatClampNeg))).2.2.2 (4 - 1 : Int32).toNatClampNeg (σ.2.2.2 (0 : Int32).toNatClampNeg))) 7 (4 - 1) = al_drop σ := rfl
theorem al_mv_X1_dropOldest : al_mv yX1_dropOldest cX1_dropOldest 3 none 0 := ⟨al_c_X1_dropOldest, al_ini_RX1, ⟨by decide +kernel, by decide +kernel, by decide +kernel⟩, by decide +kernel⟩
theorem al_mi_X1_dropOldest : al_mi yX1_dropOldest cX1_dropOldest 3 none 0 := ⟨al_mv_X1_dropOldest, al_in_X1_dropOldest, al_se_X1_dropOldest⟩
set_option maxHeartbeats 4000000 in
set_option maxRecDepth 100000 in
theorem al_X1_dropOldest (l : Launch) (D : va_G) (cy : al_CY) (ad : Nat → Nat) (σ : al_St) : al_MS l yX1_dropOldest cX1_dropOldest 3 none 1 21 D cy ad σ [.ref (ad (3))] none (al_drop σ) := by
  have hT0 : ∀ H, al_H D cy ad σ H → σ.2.2.2 (Int32.toNatClampNeg 0) < 6 := fun _ h => h.2.2 _
  refine al_met al_mv_X1_dropOldest (Nat.le_of_ble_eq_true rfl) ?_
  intro p e s m args below meth c ls S hr hlocks hK hW hS hl
  have hl : lv_has ls 3 [(0, .ref (ad (3)))] := hl
  have hT1 := hT0 _ hW
  refine lv_aload_n S.1 S.2.1 dX1_dropOldest_0 rfl (lv_at hl 0 rfl) ?_
  refine lv_iconst (v := 0) S.1 S.2.1 dX1_dropOldest_1 (by decide) ?_
  refine al_cP (rest := []) S hK hW (al_X1_stateAt l D cy ad σ 0 (by decide) (by decide)) al_mi_X1_stateAt al_ml_RX1_33 rfl (al_rc_1 D cy ad _) rfl hl.1 rfl (Nat.le_of_ble_eq_true rfl) dX1_dropOldest_2 ⟨Nat.le_of_ble_eq_true rfl, Nat.le_of_ble_eq_true rfl⟩ ⟨Nat.zero_le _, Nat.zero_le _⟩ ?_
  refine W.eq (g2 := F0 m 5 ls [.ref (ad (8 + (σ.2.2.2 (0 : Int32).toNatClampNeg)))]) rfl ?_
  refine lv_astore_n (lv' := [(1, .ref (ad (8 + (σ.2.2.2 (0 : Int32).toNatClampNeg)))), (0, .ref (ad (3)))]) S.1 S.2.1 dX1_dropOldest_5 rfl hl (by decide) rfl (fun ls hl => ?_)
  refine lv_iconst (v := 1) S.1 S.2.1 dX1_dropOldest_6 (by decide) ?_
  refine lv_istore_n (lv' := [(2, .int 1), (1, .ref (ad (8 + (σ.2.2.2 (0 : Int32).toNatClampNeg)))), (0, .ref (ad (3)))]) S.1 S.2.1 dX1_dropOldest_7 rfl hl (by decide) rfl (fun ls hl => ?_)
  refine lv_iload_n S.1 S.2.1 dX1_dropOldest_8 rfl (lv_at hl 0 rfl) ?_
  refine lv_aload_n S.1 S.2.1 dX1_dropOldest_9 rfl (lv_at hl 2 rfl) ?_
  refine al_g_RX1_11 S hK hW dX1_dropOldest_10 ?_
  refine al_qalen S hK hW dX1_dropOldest_13 ?_
  refine lv_icmp_ge (tgt := 37) S.1 S.2.1 dX1_dropOldest_14 (by decide) (fun c1 => ?_) (fun c1 => ?_)
  · exact absurd c1 (by decide)
  · refine lv_aload_n S.1 S.2.1 dX1_dropOldest_17 rfl (lv_at hl 2 rfl) ?_
    refine al_g_RX1_11 S hK hW dX1_dropOldest_18 ?_
    refine lv_iload_n S.1 S.2.1 dX1_dropOldest_21 rfl (lv_at hl 0 rfl) ?_
    refine lv_iconst (v := 1) S.1 S.2.1 dX1_dropOldest_22 (by decide) ?_
    refine lv_isub S.1 S.2.1 dX1_dropOldest_23 ?_
    refine lv_aload_n S.1 S.2.1 dX1_dropOldest_24 rfl (lv_at hl 2 rfl) ?_
    refine al_g_RX1_11 S hK hW dX1_dropOldest_25 ?_
    refine lv_iload_n S.1 S.2.1 dX1_dropOldest_28 rfl (lv_at hl 0 rfl) ?_
    refine al_qald S hK hW (by decide) c1 dX1_dropOldest_29 ?_
    refine al_qast S hK hW hS (t := (σ.2.2.2 (1 : Int32).toNatClampNeg)) (hW.2.2 _) (by decide) (by decide) dX1_dropOldest_30 (fun H locs hW hS => ?_)
    refine lv_iinc (k := 0) (v := 2) (lv' := [(2, .int 2), (1, .ref (ad (8 + (σ.2.2.2 (0 : Int32).toNatClampNeg)))), (0, .ref (ad (3)))]) S.1 S.2.1 dX1_dropOldest_31 hl rfl (by decide) (by decide) rfl (fun ls hl => ?_)
    refine lv_goto (tgt := 8) S.1 S.2.1 dX1_dropOldest_34 (by decide) ?_
    refine lv_iload_n S.1 S.2.1 dX1_dropOldest_8 rfl (lv_at hl 0 rfl) ?_
    refine lv_aload_n S.1 S.2.1 dX1_dropOldest_9 rfl (lv_at hl 2 rfl) ?_
    refine al_g_RX1_11 S hK hW dX1_dropOldest_10 ?_
    refine al_qalen S hK hW dX1_dropOldest_13 ?_
    refine lv_icmp_ge (tgt := 37) S.1 S.2.1 dX1_dropOldest_14 (by decide) (fun c2 => ?_) (fun c2 => ?_)
    · exact absurd c2 (by decide)
    · refine lv_aload_n S.1 S.2.1 dX1_dropOldest_17 rfl (lv_at hl 2 rfl) ?_
      refine al_g_RX1_11 S hK hW dX1_dropOldest_18 ?_
      refine lv_iload_n S.1 S.2.1 dX1_dropOldest_21 rfl (lv_at hl 0 rfl) ?_
      refine lv_iconst (v := 1) S.1 S.2.1 dX1_dropOldest_22 (by decide) ?_
      refine lv_isub S.1 S.2.1 dX1_dropOldest_23 ?_
      refine lv_aload_n S.1 S.2.1 dX1_dropOldest_24 rfl (lv_at hl 2 rfl) ?_
      refine al_g_RX1_11 S hK hW dX1_dropOldest_25 ?_
      refine lv_iload_n S.1 S.2.1 dX1_dropOldest_28 rfl (lv_at hl 0 rfl) ?_
      refine al_qald S hK hW (by decide) c2 dX1_dropOldest_29 ?_
      refine al_qast S hK hW hS (t := ((al_sT σ (al_tup σ.2.2.2 (1 - 1 : Int32).toNatClampNeg (σ.2.2.2 (1 : Int32).toNatClampNeg))).2.2.2 (2 : Int32).toNatClampNeg)) (hW.2.2 _) (by decide) (by decide) dX1_dropOldest_30 (fun H locs hW hS => ?_)
      refine lv_iinc (k := 0) (v := 3) (lv' := [(2, .int 3), (1, .ref (ad (8 + (σ.2.2.2 (0 : Int32).toNatClampNeg)))), (0, .ref (ad (3)))]) S.1 S.2.1 dX1_dropOldest_31 hl rfl (by decide) (by decide) rfl (fun ls hl => ?_)
      refine lv_goto (tgt := 8) S.1 S.2.1 dX1_dropOldest_34 (by decide) ?_
      refine lv_iload_n S.1 S.2.1 dX1_dropOldest_8 rfl (lv_at hl 0 rfl) ?_
      refine lv_aload_n S.1 S.2.1 dX1_dropOldest_9 rfl (lv_at hl 2 rfl) ?_
      refine al_g_RX1_11 S hK hW dX1_dropOldest_10 ?_
      refine al_qalen S hK hW dX1_dropOldest_13 ?_
      refine lv_icmp_ge (tgt := 37) S.1 S.2.1 dX1_dropOldest_14 (by decide) (fun c3 => ?_) (fun c3 => ?_)
      · exact absurd c3 (by decide)
      · refine lv_aload_n S.1 S.2.1 dX1_dropOldest_17 rfl (lv_at hl 2 rfl) ?_
        refine al_g_RX1_11 S hK hW dX1_dropOldest_18 ?_
        refine lv_iload_n S.1 S.2.1 dX1_dropOldest_21 rfl (lv_at hl 0 rfl) ?_
        refine lv_iconst (v := 1) S.1 S.2.1 dX1_dropOldest_22 (by decide) ?_
        refine lv_isub S.1 S.2.1 dX1_dropOldest_23 ?_
        refine lv_aload_n S.1 S.2.1 dX1_dropOldest_24 rfl (lv_at hl 2 rfl) ?_
        refine al_g_RX1_11 S hK hW dX1_dropOldest_25 ?_
        refine lv_iload_n S.1 S.2.1 dX1_dropOldest_28 rfl (lv_at hl 0 rfl) ?_
        refine al_qald S hK hW (by decide) c3 dX1_dropOldest_29 ?_
        refine al_qast S hK hW hS (t := ((al_sT (al_sT σ (al_tup σ.2.2.2 (1 - 1 : Int32).toNatClampNeg (σ.2.2.2 (1 : Int32).toNatClampNeg))) (al_tup (al_sT σ (al_tup σ.2.2.2 (1 - 1 : Int32).toNatClampNeg (σ.2.2.2 (1 : Int32).toNatClampNeg))).2.2.2 (2 - 1 : Int32).toNatClampNeg ((al_sT σ (al_tup σ.2.2.2 (1 - 1 : Int32).toNatClampNeg (σ.2.2.2 (1 : Int32).toNatClampNeg))).2.2.2 (2 : Int32).toNatClampNeg))).2.2.2 (3 : Int32).toNatClampNeg)) (hW.2.2 _) (by decide) (by decide) dX1_dropOldest_30 (fun H locs hW hS => ?_)
        refine lv_iinc (k := 0) (v := 4) (lv' := [(2, .int 4), (1, .ref (ad (8 + (σ.2.2.2 (0 : Int32).toNatClampNeg)))), (0, .ref (ad (3)))]) S.1 S.2.1 dX1_dropOldest_31 hl rfl (by decide) (by decide) rfl (fun ls hl => ?_)
        refine lv_goto (tgt := 8) S.1 S.2.1 dX1_dropOldest_34 (by decide) ?_
        refine lv_iload_n S.1 S.2.1 dX1_dropOldest_8 rfl (lv_at hl 0 rfl) ?_
        refine lv_aload_n S.1 S.2.1 dX1_dropOldest_9 rfl (lv_at hl 2 rfl) ?_
        refine al_g_RX1_11 S hK hW dX1_dropOldest_10 ?_
        refine al_qalen S hK hW dX1_dropOldest_13 ?_
        refine lv_icmp_ge (tgt := 37) S.1 S.2.1 dX1_dropOldest_14 (by decide) (fun c4 => ?_) (fun c4 => ?_)
        · refine lv_aload_n S.1 S.2.1 dX1_dropOldest_37 rfl (lv_at hl 2 rfl) ?_
          refine al_g_RX1_11 S hK hW dX1_dropOldest_38 ?_
          refine al_qalen S hK hW dX1_dropOldest_41 ?_
          refine lv_if_le (tgt := 58) S.1 S.2.1 dX1_dropOldest_42 (by decide) (fun c5 => ?_) (fun c5 => ?_)
          · exact absurd c5 (by decide)
          · refine lv_aload_n S.1 S.2.1 dX1_dropOldest_45 rfl (lv_at hl 2 rfl) ?_
            refine al_g_RX1_11 S hK hW dX1_dropOldest_46 ?_
            refine lv_aload_n S.1 S.2.1 dX1_dropOldest_49 rfl (lv_at hl 2 rfl) ?_
            refine al_g_RX1_11 S hK hW dX1_dropOldest_50 ?_
            refine al_qalen S hK hW dX1_dropOldest_53 ?_
            refine lv_iconst (v := 1) S.1 S.2.1 dX1_dropOldest_54 (by decide) ?_
            refine lv_isub S.1 S.2.1 dX1_dropOldest_55 ?_
            refine lv_aload_n S.1 S.2.1 dX1_dropOldest_56 rfl (lv_at hl 1 rfl) ?_
            refine al_qast S hK hW hS (t := (σ.2.2.2 (0 : Int32).toNatClampNeg)) hT1 (by decide) (by decide) dX1_dropOldest_57 (fun H locs hW hS => ?_)
            refine lv_aload_n S.1 S.2.1 dX1_dropOldest_58 rfl (lv_at hl 2 rfl) ?_
            refine lv_aload_n S.1 S.2.1 dX1_dropOldest_59 rfl (lv_at hl 2 rfl) ?_
            refine al_g_RX1_11 S hK hW dX1_dropOldest_60 ?_
            refine al_qalen S hK hW dX1_dropOldest_63 ?_
            refine lv_iconst (v := 1) S.1 S.2.1 dX1_dropOldest_64 (by decide) ?_
            refine lv_isub S.1 S.2.1 dX1_dropOldest_65 ?_
            refine al_p_RX1_22 S hK hW hS dX1_dropOldest_66 (fun H locs hW hS => ?_)
            exact W.vret S.1 S.2.1 hr (fun t9 ht9 _ => ⟨rfl, by rw [ht9]; exact (al_He hW (al_drop_eq σ)), hS.F ht9⟩) hS.2.2 dX1_dropOldest_69
        · exact absurd (by decide) c4
theorem al_mv_X1_record : al_mv yX1_record cX1_record 3 none 1 := ⟨al_c_X1_record, al_ini_RX1, ⟨by decide +kernel, by decide +kernel, by decide +kernel⟩, by decide +kernel⟩
theorem al_mi_X1_record : al_mi yX1_record cX1_record 3 none 1 := ⟨al_mv_X1_record, al_in_X1_record, al_se_X1_record⟩
set_option maxHeartbeats 4000000 in
set_option maxRecDepth 100000 in
theorem al_X1_record (l : Launch) (D : va_G) (cy : al_CY) (ad : Nat → Nat) (σ : al_St) (u : Nat) (hu : u < 6) (h1 : ¬ σ.2.2.1 7 < 0) : al_MS l yX1_record cX1_record 3 none 3 64 D cy ad σ [.ref (ad (3)), .ref (ad (8 + u))] none (al_record σ u) := by
  refine al_met al_mv_X1_record (Nat.le_of_ble_eq_true rfl) ?_
  intro p e s m args below meth c ls S hr hlocks hK hW hS hl
  have hl : lv_has ls 3 [(0, .ref (ad (3))), (1, .ref (ad (8 + u)))] := hl
  refine lv_aload_n S.1 S.2.1 dX1_record_0 rfl (lv_at hl 0 rfl) ?_
  refine al_g_RX1_22 S hK hW dX1_record_1 ?_
  refine lv_aload_n S.1 S.2.1 dX1_record_4 rfl (lv_at hl 0 rfl) ?_
  refine al_g_RX1_11 S hK hW dX1_record_5 ?_
  refine al_qalen S hK hW dX1_record_8 ?_
  refine lv_icmp_lt (tgt := 16) S.1 S.2.1 dX1_record_9 (by decide) (fun c1 => ?_) (fun c1 => ?_)
  · refine lv_aload_n S.1 S.2.1 dX1_record_16 rfl (lv_at hl 0 rfl) ?_
    refine lv_aload_n S.1 S.2.1 dX1_record_17 rfl (lv_at hl 0 rfl) ?_
    refine al_g_RX1_22 S hK hW dX1_record_18 ?_
    refine al_cP (rest := []) S hK hW (al_X1_stateAt l D cy ad σ (σ.2.2.1 7) h1 (al_nle c1)) al_mi_X1_stateAt al_ml_RX1_33 rfl (al_rc_1 D cy ad _) rfl hl.1 rfl (Nat.le_of_ble_eq_true rfl) dX1_record_21 ⟨Nat.le_of_ble_eq_true rfl, Nat.le_of_ble_eq_true rfl⟩ ⟨Nat.zero_le _, Nat.zero_le _⟩ ?_
    refine W.eq (g2 := F0 m 24 ls [.ref (ad (8 + (σ.2.2.2 (σ.2.2.1 7).toNatClampNeg)))]) rfl ?_
    refine lv_astore_n (lv' := [(2, .ref (ad (8 + (σ.2.2.2 (σ.2.2.1 7).toNatClampNeg)))), (0, .ref (ad (3))), (1, .ref (ad (8 + u)))]) S.1 S.2.1 dX1_record_24 rfl hl (by decide) rfl (fun ls hl => ?_)
    refine lv_aload_n S.1 S.2.1 dX1_record_25 rfl (lv_at hl 0 rfl) ?_
    refine lv_ifnull S.1 S.2.1 dX1_record_26 ?_
    refine lv_aload_n S.1 S.2.1 dX1_record_29 rfl (lv_at hl 0 rfl) ?_
    refine lv_aload_n S.1 S.2.1 dX1_record_30 rfl (lv_at hl 2 rfl) ?_
    refine al_cS (rest := []) S hK hW hS (al_X6_copyFrom l D cy ad σ (σ.2.2.2 (σ.2.2.1 7).toNatClampNeg) (hW.2.2 _) u (by omega)) al_mi_X6_copyFrom al_ml_RX1_37 rfl (al_rc_T D cy ad _ (t := σ.2.2.2 (σ.2.2.1 7).toNatClampNeg) (hW.2.2 _)) rfl hl.1 rfl (Nat.le_of_ble_eq_true rfl) dX1_record_31 ⟨Nat.le_of_ble_eq_true rfl, Nat.le_of_ble_eq_true rfl⟩ ⟨Nat.zero_le _, Nat.zero_le _⟩ (fun H locs hW hS => ?_)
    refine W.eq (g2 := F0 m 34 ls []) rfl ?_
    refine lv_aload_n S.1 S.2.1 dX1_record_34 rfl (lv_at hl 1 rfl) ?_
    refine lv_dup S.1 S.2.1 dX1_record_35 rfl ?_
    refine al_g_RX1_22 S hK hW dX1_record_36 ?_
    refine lv_iconst (v := 1) S.1 S.2.1 dX1_record_39 (by decide) ?_
    refine lv_iadd S.1 S.2.1 dX1_record_40 ?_
    refine al_p_RX1_22 S hK hW hS dX1_record_41 (fun H locs hW hS => ?_)
    exact W.vret S.1 S.2.1 hr (fun t9 ht9 _ => ⟨rfl, by rw [ht9]; exact (al_He hW (by simp only [al_record, al_rec1, if_pos (c1)])), hS.F ht9⟩) hS.2.2 dX1_record_44
  · refine lv_aload_n S.1 S.2.1 dX1_record_12 rfl (lv_at hl 0 rfl) ?_
    refine al_cS (rest := []) S hK hW hS (al_X1_dropOldest l D cy ad σ ) al_mi_X1_dropOldest al_ml_RX1_30 rfl (al_rc_1 D cy ad _) rfl hl.1 rfl (Nat.le_of_ble_eq_true rfl) dX1_record_13 ⟨Nat.le_of_ble_eq_true rfl, Nat.le_of_ble_eq_true rfl⟩ ⟨Nat.zero_le _, Nat.zero_le _⟩ (fun H locs hW hS => ?_)
    refine W.eq (g2 := F0 m 16 ls []) rfl ?_
    refine lv_aload_n S.1 S.2.1 dX1_record_16 rfl (lv_at hl 0 rfl) ?_
    refine lv_aload_n S.1 S.2.1 dX1_record_17 rfl (lv_at hl 0 rfl) ?_
    refine al_g_RX1_22 S hK hW dX1_record_18 ?_
    refine al_cP (rest := []) S hK hW (al_X1_stateAt l D cy ad (al_drop σ) ((al_drop σ).2.2.1 7) (show ¬ (3 : Int32) < 0 by decide) (show ¬ (4 : Int32) ≤ 3 by decide)) al_mi_X1_stateAt al_ml_RX1_33 rfl (al_rc_1 D cy ad _) rfl hl.1 rfl (Nat.le_of_ble_eq_true rfl) dX1_record_21 ⟨Nat.le_of_ble_eq_true rfl, Nat.le_of_ble_eq_true rfl⟩ ⟨Nat.zero_le _, Nat.zero_le _⟩ ?_
    refine W.eq (g2 := F0 m 24 ls [.ref (ad (8 + ((al_drop σ).2.2.2 ((al_drop σ).2.2.1 7).toNatClampNeg)))]) rfl ?_
    refine lv_astore_n (lv' := [(2, .ref (ad (8 + ((al_drop σ).2.2.2 ((al_drop σ).2.2.1 7).toNatClampNeg)))), (0, .ref (ad (3))), (1, .ref (ad (8 + u)))]) S.1 S.2.1 dX1_record_24 rfl hl (by decide) rfl (fun ls hl => ?_)
    refine lv_aload_n S.1 S.2.1 dX1_record_25 rfl (lv_at hl 0 rfl) ?_
    refine lv_ifnull S.1 S.2.1 dX1_record_26 ?_
    refine lv_aload_n S.1 S.2.1 dX1_record_29 rfl (lv_at hl 0 rfl) ?_
    refine lv_aload_n S.1 S.2.1 dX1_record_30 rfl (lv_at hl 2 rfl) ?_
    refine al_cS (rest := []) S hK hW hS (al_X6_copyFrom l D cy ad (al_drop σ) ((al_drop σ).2.2.2 ((al_drop σ).2.2.1 7).toNatClampNeg) (hW.2.2 _) u (by omega)) al_mi_X6_copyFrom al_ml_RX1_37 rfl (al_rc_T D cy ad _ (t := (al_drop σ).2.2.2 ((al_drop σ).2.2.1 7).toNatClampNeg) (hW.2.2 _)) rfl hl.1 rfl (Nat.le_of_ble_eq_true rfl) dX1_record_31 ⟨Nat.le_of_ble_eq_true rfl, Nat.le_of_ble_eq_true rfl⟩ ⟨Nat.zero_le _, Nat.zero_le _⟩ (fun H locs hW hS => ?_)
    refine W.eq (g2 := F0 m 34 ls []) rfl ?_
    refine lv_aload_n S.1 S.2.1 dX1_record_34 rfl (lv_at hl 1 rfl) ?_
    refine lv_dup S.1 S.2.1 dX1_record_35 rfl ?_
    refine al_g_RX1_22 S hK hW dX1_record_36 ?_
    refine lv_iconst (v := 1) S.1 S.2.1 dX1_record_39 (by decide) ?_
    refine lv_iadd S.1 S.2.1 dX1_record_40 ?_
    refine al_p_RX1_22 S hK hW hS dX1_record_41 (fun H locs hW hS => ?_)
    exact W.vret S.1 S.2.1 hr (fun t9 ht9 _ => ⟨rfl, by rw [ht9]; exact (al_He hW (by simp only [al_record, al_rec1, if_neg (c1)])), hS.F ht9⟩) hS.2.2 dX1_record_44
theorem al_mv_X1_takeBack : al_mv yX1_takeBack cX1_takeBack 3 none 1 := ⟨al_c_X1_takeBack, al_ini_RX1, ⟨by decide +kernel, by decide +kernel, by decide +kernel⟩, by decide +kernel⟩
theorem al_mi_X1_takeBack : al_mi yX1_takeBack cX1_takeBack 3 none 1 := ⟨al_mv_X1_takeBack, al_in_X1_takeBack, al_se_X1_takeBack⟩
set_option maxHeartbeats 4000000 in
set_option maxRecDepth 100000 in
theorem al_X1_takeBack (l : Launch) (D : va_G) (cy : al_CY) (ad : Nat → Nat) (σ : al_St) (u : Nat) (hu : u < 6) (h1 : ¬ σ.2.2.1 7 - 1 < 0) (h2 : ¬ 4 ≤ σ.2.2.1 7 - 1) : al_MS l yX1_takeBack cX1_takeBack 3 none 3 64 D cy ad σ [.ref (ad (3)), .ref (ad (8 + u))] none (al_takeBack σ u) := by
  refine al_met al_mv_X1_takeBack (Nat.le_of_ble_eq_true rfl) ?_
  intro p e s m args below meth c ls S hr hlocks hK hW hS hl
  have hl : lv_has ls 3 [(0, .ref (ad (3))), (1, .ref (ad (8 + u)))] := hl
  refine lv_aload_n S.1 S.2.1 dX1_takeBack_0 rfl (lv_at hl 0 rfl) ?_
  refine lv_aload_n S.1 S.2.1 dX1_takeBack_1 rfl (lv_at hl 0 rfl) ?_
  refine al_g_RX1_22 S hK hW dX1_takeBack_2 ?_
  refine lv_iconst (v := 1) S.1 S.2.1 dX1_takeBack_5 (by decide) ?_
  refine lv_isub S.1 S.2.1 dX1_takeBack_6 ?_
  refine al_cP (rest := []) S hK hW (al_X1_stateAt l D cy ad σ ((σ.2.2.1 7) - 1) h1 h2) al_mi_X1_stateAt al_ml_RX1_33 rfl (al_rc_1 D cy ad _) rfl hl.1 rfl (Nat.le_of_ble_eq_true rfl) dX1_takeBack_7 ⟨Nat.le_of_ble_eq_true rfl, Nat.le_of_ble_eq_true rfl⟩ ⟨Nat.zero_le _, Nat.zero_le _⟩ ?_
  refine W.eq (g2 := F0 m 10 ls [.ref (ad (8 + (σ.2.2.2 ((σ.2.2.1 7) - 1).toNatClampNeg)))]) rfl ?_
  refine lv_astore_n (lv' := [(2, .ref (ad (8 + (σ.2.2.2 ((σ.2.2.1 7) - 1).toNatClampNeg)))), (0, .ref (ad (3))), (1, .ref (ad (8 + u)))]) S.1 S.2.1 dX1_takeBack_10 rfl hl (by decide) rfl (fun ls hl => ?_)
  refine lv_aload_n S.1 S.2.1 dX1_takeBack_11 rfl (lv_at hl 0 rfl) ?_
  refine lv_ifnull S.1 S.2.1 dX1_takeBack_12 ?_
  refine lv_aload_n S.1 S.2.1 dX1_takeBack_15 rfl (lv_at hl 2 rfl) ?_
  refine lv_aload_n S.1 S.2.1 dX1_takeBack_16 rfl (lv_at hl 0 rfl) ?_
  refine al_cS (rest := []) S hK hW hS (al_X6_copyFrom l D cy ad σ u (by omega) (σ.2.2.2 ((σ.2.2.1 7) - 1).toNatClampNeg) (hW.2.2 _)) al_mi_X6_copyFrom al_ml_RX1_37 rfl (al_rc_T D cy ad _ (t := u) (by omega)) rfl hl.1 rfl (Nat.le_of_ble_eq_true rfl) dX1_takeBack_17 ⟨Nat.le_of_ble_eq_true rfl, Nat.le_of_ble_eq_true rfl⟩ ⟨Nat.zero_le _, Nat.zero_le _⟩ (fun H locs hW hS => ?_)
  refine W.eq (g2 := F0 m 20 ls []) rfl ?_
  refine lv_aload_n S.1 S.2.1 dX1_takeBack_20 rfl (lv_at hl 1 rfl) ?_
  refine lv_dup S.1 S.2.1 dX1_takeBack_21 rfl ?_
  refine al_g_RX1_22 S hK hW dX1_takeBack_22 ?_
  refine lv_iconst (v := 1) S.1 S.2.1 dX1_takeBack_25 (by decide) ?_
  refine lv_isub S.1 S.2.1 dX1_takeBack_26 ?_
  refine al_p_RX1_22 S hK hW hS dX1_takeBack_27 (fun H locs hW hS => ?_)
  exact W.vret S.1 S.2.1 hr (fun t9 ht9 _ => ⟨rfl, by rw [ht9]; exact (al_He hW (by simp only [al_takeBack])), hS.F ht9⟩) hS.2.2 dX1_takeBack_30
theorem al_mv_X1_keepSnapshot : al_mv yX1_keepSnapshot cX1_keepSnapshot 2 none 1 := ⟨al_c_X1_keepSnapshot, al_ini_RX1, ⟨by decide +kernel, by decide +kernel, by decide +kernel⟩, by decide +kernel⟩
theorem al_mi_X1_keepSnapshot : al_mi yX1_keepSnapshot cX1_keepSnapshot 2 none 1 := ⟨al_mv_X1_keepSnapshot, al_in_X1_keepSnapshot, al_se_X1_keepSnapshot⟩
set_option maxHeartbeats 4000000 in
set_option maxRecDepth 100000 in
theorem al_X1_keepSnapshot (l : Launch) (D : va_G) (cy : al_CY) (ad : Nat → Nat) (σ : al_St) (u : Nat) (hu : u < 6) : al_MS l yX1_keepSnapshot cX1_keepSnapshot 2 none 3 64 D cy ad σ [.ref (ad (3)), .ref (ad (8 + u))] none (al_keepS σ u) := by
  refine al_met al_mv_X1_keepSnapshot (Nat.le_of_ble_eq_true rfl) ?_
  intro p e s m args below meth c ls S hr hlocks hK hW hS hl
  have hl : lv_has ls 2 [(0, .ref (ad (3))), (1, .ref (ad (8 + u)))] := hl
  refine lv_aload_n S.1 S.2.1 dX1_keepSnapshot_0 rfl (lv_at hl 0 rfl) ?_
  refine al_g_RX1_18 S hK hW dX1_keepSnapshot_1 ?_
  refine lv_aload_n S.1 S.2.1 dX1_keepSnapshot_4 rfl (lv_at hl 1 rfl) ?_
  refine al_cS (rest := []) S hK hW hS (al_X6_copyFrom l D cy ad σ 5 (by omega) u (by omega)) al_mi_X6_copyFrom al_ml_RX1_37 rfl (al_rc_T D cy ad _ (t := 5) (by omega)) rfl hl.1 rfl (Nat.le_of_ble_eq_true rfl) dX1_keepSnapshot_5 ⟨Nat.le_of_ble_eq_true rfl, Nat.le_of_ble_eq_true rfl⟩ ⟨Nat.zero_le _, Nat.zero_le _⟩ (fun H locs hW hS => ?_)
  refine W.eq (g2 := F0 m 8 ls []) rfl ?_
  refine lv_aload_n S.1 S.2.1 dX1_keepSnapshot_8 rfl (lv_at hl 0 rfl) ?_
  refine lv_iconst (v := 1) S.1 S.2.1 dX1_keepSnapshot_9 (by decide) ?_
  refine al_p_RX1_26 S hK hW hS rfl rfl dX1_keepSnapshot_10 (fun H locs hW hS => ?_)
  exact W.vret S.1 S.2.1 hr (fun t9 ht9 _ => ⟨rfl, by rw [ht9]; exact (al_He hW (by simp only [al_keepS])), hS.F ht9⟩) hS.2.2 dX1_keepSnapshot_13
theorem al_mv_X1_showSnapshot : al_mv yX1_showSnapshot cX1_showSnapshot 2 none 1 := ⟨al_c_X1_showSnapshot, al_ini_RX1, ⟨by decide +kernel, by decide +kernel, by decide +kernel⟩, by decide +kernel⟩
theorem al_mi_X1_showSnapshot : al_mi yX1_showSnapshot cX1_showSnapshot 2 none 1 := ⟨al_mv_X1_showSnapshot, al_in_X1_showSnapshot, al_se_X1_showSnapshot⟩
set_option maxHeartbeats 4000000 in
set_option maxRecDepth 100000 in
theorem al_X1_showSnapshot (l : Launch) (D : va_G) (cy : al_CY) (ad : Nat → Nat) (σ : al_St) (u : Nat) (hu : u < 6) : al_MS l yX1_showSnapshot cX1_showSnapshot 2 none 3 64 D cy ad σ [.ref (ad (3)), .ref (ad (8 + u))] none (al_copyT σ u 5) := by
  refine al_met al_mv_X1_showSnapshot (Nat.le_of_ble_eq_true rfl) ?_
  intro p e s m args below meth c ls S hr hlocks hK hW hS hl
  have hl : lv_has ls 2 [(0, .ref (ad (3))), (1, .ref (ad (8 + u)))] := hl
  refine lv_aload_n S.1 S.2.1 dX1_showSnapshot_0 rfl (lv_at hl 1 rfl) ?_
  refine lv_aload_n S.1 S.2.1 dX1_showSnapshot_1 rfl (lv_at hl 0 rfl) ?_
  refine al_g_RX1_18 S hK hW dX1_showSnapshot_2 ?_
  refine al_cS (rest := []) S hK hW hS (al_X6_copyFrom l D cy ad σ u (by omega) 5 (by omega)) al_mi_X6_copyFrom al_ml_RX1_37 rfl (al_rc_T D cy ad _ (t := u) (by omega)) rfl hl.1 rfl (Nat.le_of_ble_eq_true rfl) dX1_showSnapshot_5 ⟨Nat.le_of_ble_eq_true rfl, Nat.le_of_ble_eq_true rfl⟩ ⟨Nat.zero_le _, Nat.zero_le _⟩ (fun H locs hW hS => ?_)
  refine W.eq (g2 := F0 m 8 ls []) rfl ?_
  exact W.vret S.1 S.2.1 hr (fun t9 ht9 _ => ⟨rfl, by rw [ht9]; exact hW, hS.F ht9⟩) hS.2.2 dX1_showSnapshot_8
