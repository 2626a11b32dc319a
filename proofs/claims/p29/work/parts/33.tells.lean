/-! the law's own methods: what they ask, in terms of a fixed state τ -/
theorem al_pOK_R {τ σ : al_St} {E : Nat} {d : Nat → Nat} {q : List Nat} (hg : al_GG τ E d q) (hR : al_Rl τ σ) : al_pOK 9000 σ :=
  ⟨q.length, by have := hg.2.2.2.2.1.2.1; omega, (hR.2.2.1 9 (by decide)).trans hg.2.2.2.2.1.1⟩
section ALVV
variable {τ σ : al_St} {E : Nat} {d : Nat → Nat} {q : List Nat}
theorem al_As_R (hg : al_GG τ E d q) (hR : al_Rl τ σ) : al_As τ σ := al_As_I hg (hR.GG hg) (hR.1 0 (by decide)) (hR.2.1 0 (by decide))
theorem al_farV (hg : al_GG τ E d q) (hR : al_Rl τ σ) (x : Int32) : (al_far σ x).1 = (al_far τ x).1 := by
  by_cases h : al_isN τ 0 x = 0
  · rw [al_far, al_far, hR.isN, if_pos h, if_pos h]
  · obtain ⟨v, rfl, hv⟩ := al_isN_node hg.2.1 hg.1.2.1 h
    exact (al_As_R hg hR).2.2.2 v (al_nd_lt hg.1 hv)
theorem al_shapeV (hg : al_GG τ E d q) (hR : al_Rl τ σ) (x : Int32) : (al_shape σ x).1 = (al_shape τ x).1 := by
  by_cases h : al_isN τ 0 x = 0
  · rw [al_shape, al_shape, hR.isN, if_pos h, if_pos h]
  · obtain ⟨v, rfl, hv⟩ := al_isN_node hg.2.1 hg.1.2.1 h
    exact (al_As_R hg hR).2.2.1 v (al_nd_lt hg.1 hv)
theorem al_alikeV (hg : al_GG τ E d q) (hR : al_Rl τ σ) (x : Int32) : (al_alike σ x).1 = (al_alike τ x).1 := by
  by_cases h : al_isN τ 0 x = 0
  · rw [al_alike, al_alike, hR.isN, if_pos h, if_pos h]
  · obtain ⟨v, rfl, hv⟩ := al_isN_node hg.2.1 hg.1.2.1 h
    have h9 := al_nd_lt hg.1 hv
    have w1 := (al_write_I hg hR).1
    have w2 := (al_write_I hg (al_Rl.rf hg.2.2.2.2.2.2.2.2.2.2)).1
    have key : ∀ (n k : Nat) (a : Int32), k + n = 90 → al_likeL (al_write σ) (nI v) n k a = al_likeL (al_write τ) (nI v) n k a := by
      intro n
      induction n with
      | zero => intro k a _; rw [al_likeL, al_likeL]
      | succ n ih =>
        intro k a hk
        rw [al_likeL, al_likeL, al_rg_lt (show k < 90 by omega), al_rg_lt (show k < 90 by omega), al_rg_lt h9, al_rg_lt h9, w1 k (by omega), w2 k (by omega), w1 v h9, w2 v h9, ih (k + 1) _ (by omega), ih (k + 1) _ (by omega)]
    rw [al_alike, al_alike, hR.isN, if_neg h, if_neg h, hR.1 18 (by decide)]
    split
    · exact key 90 0 0 (by omega)
    · rfl
theorem al_countV (hg : al_GG τ E d q) (hR : al_Rl τ σ) (w : Int32) : (al_count σ w).1 = (al_count τ w).1 := by
  by_cases h : ∃ k, k < 8 ∧ w = nI k
  · obtain ⟨k, hk, rfl⟩ := h
    exact (al_As_R hg hR).1 k hk
  · have hn : ∀ k, k < 8 → ¬ w = nI k := fun k hk e => h ⟨k, hk, e⟩
    rw [al_count, al_count, if_neg (show ¬ w = 0 from hn 0 (by omega)), if_neg (show ¬ w = 1 from hn 1 (by omega)), if_neg (show ¬ w = 2 from hn 2 (by omega)), if_neg (show ¬ w = 3 from hn 3 (by omega)), if_neg (show ¬ w = 4 from hn 4 (by omega)), if_neg (show ¬ w = 5 from hn 5 (by omega)), if_neg (show ¬ w = 6 from hn 6 (by omega)), if_neg (show ¬ w = 7 from hn 7 (by omega)), if_neg (show ¬ w = 0 from hn 0 (by omega)), if_neg (show ¬ w = 1 from hn 1 (by omega)), if_neg (show ¬ w = 2 from hn 2 (by omega)), if_neg (show ¬ w = 3 from hn 3 (by omega)), if_neg (show ¬ w = 4 from hn 4 (by omega)), if_neg (show ¬ w = 5 from hn 5 (by omega)), if_neg (show ¬ w = 6 from hn 6 (by omega)), if_neg (show ¬ w = 7 from hn 7 (by omega)), hR.2.2.1 7 (by decide), hR.2.2.1 6 (by decide)]
    split
    · rfl
    · split <;> rfl
theorem al_apartV (hg : al_GG τ E d q) (hR : al_Rl τ σ) (w : Int32) : (al_apart σ w).1 = (al_apart τ w).1 := by
  obtain ⟨h1, h2⟩ := al_findPair_two hg (al_Rl.rf hg.2.2.2.2.2.2.2.2.2.2) hR
  rw [al_apart, al_apart]
  split
  · rfl
  · split
    · split
      · exact h1
      · exact h2
    · rfl
theorem al_farR (hg : al_GG τ E d q) (hR : al_Rl τ σ) (x : Int32) : al_Rl τ (al_far σ x).2 := al_far_Rl ⟨E, d, q, hg⟩ hR x
end ALVV
/-- a query of the law's own: it leaves the world as it was, but for what queries write -/
def al_Qr (D : va_G) (cy : al_CY) (ad : Nat → Nat) (v : Option Value) (τ : al_St) : Array Value → State → Outcome → State → Prop := fun _ st o t => o = .returned v ∧ (∃ σ', al_Rl τ σ' ∧ al_H D cy ad σ' t.heap) ∧ va_F (al_A ad) st t
abbrev al_MR (l : Launch) (y : MethodName) (bytes : ByteArray) (maxL : Nat) (ret : Option FieldType) (f lo : Nat) (D : va_G) (cy : al_CY) (ad : Nat → Nat) (τ σ : al_St) (av : List Value) (v : Option Value) : Prop := Met l y (al_ws y bytes maxL ret) (al_rm f lo) (al_Pc D cy ad σ av) (al_Qr D cy ad v τ) 0 0 (al_A ad)
def al_low (v n : Int32) : Int32 := (v &&& 2147483647) - (v &&& 2147483647) / n * n
theorem al_low_I (v : Int32) {n : Nat} (h0 : 0 < n) (hn : n < 2 ^ 31) : ∃ j, j < n ∧ al_low v (nI n) = nI j := by
  obtain ⟨j, hj, e⟩ := pk_andE v (m := 2147483647) 31 (by decide)
  rw [al_low, e, pk_rem hj h0 hn]
  exact ⟨j % n, Nat.mod_lt _ h0, rfl⟩
def al_isv (τ : al_St) (x : Int32) : Int32 := if al_node τ x 1 < 0 then 0 else 1
/-- all, as the law sums it -/
def al_allA (τ : al_St) : Nat → Int64
  | 0 => 71
  | k + 1 => 31 * al_allA τ k + ((al_count τ (nI k)).1).toInt64
def al_allC (τ : al_St) (v : Nat) (a : Int64) : Nat → Int64
  | 0 => a
  | k + 1 => 31 * al_allC τ v a k + (al_node τ (nI v) (nI k)).toInt64
def al_allB (τ : al_St) : Nat → Int64
  | 0 => al_allA τ 8
  | v + 1 => 31 * al_allC τ v (al_allB τ v) 10 + ((al_shape τ (nI v)).1).toInt64 + 7 * ((al_far τ (nI v)).1).toInt64
def al_all (τ : al_St) : Int64 := al_allB τ (τ.2.2.1 0).toNatClampNeg
theorem al_all_As {σ σ' : al_St} (h : al_As σ σ') (hE : σ'.2.2.1 0 = σ.2.2.1 0) (h9 : (σ.2.2.1 0).toNatClampNeg ≤ 90) : al_all σ' = al_all σ := by
  have hA : ∀ k, k ≤ 8 → al_allA σ' k = al_allA σ k := by
    intro k
    induction k with
    | zero => intro _; rfl
    | succ k ih => intro hk; rw [al_allA, al_allA, ih (by omega), h.1 k (by omega)]
  have hC : ∀ v, v < 90 → ∀ (a : Int64) (k : Nat), k ≤ 10 → al_allC σ' v a k = al_allC σ v a k := by
    intro v hv a k
    induction k with
    | zero => intro _; rfl
    | succ k ih => intro hk; rw [al_allC, al_allC, ih (by omega), h.2.1 v k hv (by omega)]
  have hB : ∀ v, v ≤ 90 → al_allB σ' v = al_allB σ v := by
    intro v
    induction v with
    | zero => intro _; exact hA 8 (by omega)
    | succ v ih => intro hv; rw [al_allB, al_allB, ih (by omega), hC v (by omega) _ 10 (by omega), h.2.2.1 v (by omega), h.2.2.2 v (by omega)]
  rw [al_all, al_all, hE]
  exact hB _ h9
theorem al_all_td {σ σ' : al_St} (h : al_gw σ) (h' : al_gw σ') (ht : al_td σ' 0 = al_td σ 0) : al_all σ' = al_all σ := by
  refine al_all_As (al_As_td h h' ht) (congrArg (fun D : al_TD => D.2.2.2) ht) ?_
  obtain ⟨-, E, d, q, hg⟩ := h
  have := hg.1.2.1
  rw [hg.2.1, nI_clamp (by omega)]
  exact this
theorem al_mv_L_low : al_mv yL_low cL_low 2 (some .int) 2 := ⟨al_c_L_low, al_ini_RL, ⟨by decide +kernel, by decide +kernel, by decide +kernel⟩, by decide +kernel⟩
theorem al_ms_L_low : al_mst yL_low cL_low 2 (some .int) 2 := ⟨al_mv_L_low, al_st_L_low⟩
set_option maxHeartbeats 4000000 in
set_option maxRecDepth 100000 in
theorem al_L_low (l : Launch) (D : va_G) (cy : al_CY) (ad : Nat → Nat) (σ : al_St) (v : Int32) (n : Int32) (hn : ¬ n = 0) : al_MP l yL_low cL_low 2 (some .int) 0 0 D cy ad σ [.int v, .int n] (some (.int (al_low v n))) := by
  refine al_met al_mv_L_low (Nat.le_of_ble_eq_true rfl) ?_
  intro p e s m args below meth c ls S hr hlocks hK hW hS hl
  have hl : lv_has ls 2 [(0, .int v), (1, .int n)] := hl
  refine lv_iload_n S.1 S.2.1 dL_low_0 rfl (lv_at hl 0 rfl) ?_
  refine lv_ldc S.1 S.2.1 S.2.2.2.1 (S.2.2.2.2 _ al_k_RL_7) dL_low_1 ?_
  refine lv_iand S.1 S.2.1 dL_low_3 ?_
  refine lv_iload_n S.1 S.2.1 dL_low_4 rfl (lv_at hl 1 rfl) ?_
  refine lv_irem S.1 S.2.1 dL_low_5 hn ?_
  exact W.iret S.1 S.2.1 hr (fun t9 ht9 _ => ⟨(congrArg (fun z => Outcome.returned (some (Value.int z))) (by simp only [al_low])), ht9⟩) (fun q hq => absurd hq List.not_mem_nil) dL_low_6
theorem al_mv_L_is : al_mv yL_is cL_is 2 (some .boolean) 2 := ⟨al_c_L_is, al_ini_RL, ⟨by decide +kernel, by decide +kernel, by decide +kernel⟩, by decide +kernel⟩
theorem al_ms_L_is : al_mst yL_is cL_is 2 (some .boolean) 2 := ⟨al_mv_L_is, al_st_L_is⟩
set_option maxHeartbeats 4000000 in
set_option maxRecDepth 100000 in
theorem al_L_is (l : Launch) (D : va_G) (cy : al_CY) (ad : Nat → Nat) {τ σ : al_St} (hR : al_Rl τ σ) (x : Int32) : al_MP l yL_is cL_is 2 (some .boolean) 4 85 D cy ad σ [.ref (ad (0)), .int x] (some (.int (al_isv τ x))) := by
  refine al_met al_mv_L_is (Nat.le_of_ble_eq_true rfl) ?_
  intro p e s m args below meth c ls S hr hlocks hK hW hS hl
  have hl : lv_has ls 2 [(0, .ref (ad (0))), (1, .int x)] := hl
  refine lv_aload_n S.1 S.2.1 dL_is_0 rfl (lv_at hl 0 rfl) ?_
  refine lv_iload_n S.1 S.2.1 dL_is_1 rfl (lv_at hl 1 rfl) ?_
  refine lv_iconst (v := 1) S.1 S.2.1 dL_is_2 (by decide) ?_
  refine al_cP (rest := []) S hK hW (al_X8_node l D cy ad σ x 1) al_mi_X8_node al_ml_RL_18 rfl (al_rc_8 D cy ad _) rfl hl.1 rfl (Nat.le_of_ble_eq_true rfl) dL_is_3 ⟨Nat.le_of_ble_eq_true rfl, Nat.le_of_ble_eq_true rfl⟩ ⟨Nat.zero_le _, Nat.zero_le _⟩ ?_
  refine W.eq (g2 := F0 m 6 ls [.int (al_node τ x 1)]) (congrArg (fun z => F0 m 6 ls (Value.int z :: [])) (hR.node x 1)) ?_
  refine lv_if_lt (tgt := 13) S.1 S.2.1 dL_is_6 (by decide) (fun c1 => ?_) (fun c1 => ?_)
  · refine lv_iconst (v := 0) S.1 S.2.1 dL_is_13 (by decide) ?_
    exact W.zret S.1 S.2.1 hr rfl (fun t9 ht9 _ => ⟨(congrArg (fun z => Outcome.returned (some (Value.int z))) (by rw [al_isv, if_pos (c1)])), ht9⟩) (fun q hq => absurd hq List.not_mem_nil) dL_is_14
  · refine lv_iconst (v := 1) S.1 S.2.1 dL_is_9 (by decide) ?_
    refine lv_goto (tgt := 14) S.1 S.2.1 dL_is_10 (by decide) ?_
    exact W.zret S.1 S.2.1 hr rfl (fun t9 ht9 _ => ⟨(congrArg (fun z => Outcome.returned (some (Value.int z))) (by rw [al_isv, if_neg (c1)])), ht9⟩) (fun q hq => absurd hq List.not_mem_nil) dL_is_14
