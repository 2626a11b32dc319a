/-! the class itself: each call, as it answers and what it leaves -/
def al_isLen (b : Int32) : Int32 := if b < 0 then 0 else if 1148846080 < b then 0 else 1
def al_orN (x : Int32) : Int32 := if x = -1 then -5 else x
def al_tfL : Nat → UInt32 → UInt32
  | 0, w => w
  | n + 1, w => al_tfL n (FP.fmul w 1056964608)
def al_toF (b : Int32) : UInt32 := if b >>> ((23 : Int32) &&& 31) = 0 then al_tfL 149 (FP.i2f (b &&& 8388607)) else al_tfL (150 - (b >>> ((23 : Int32) &&& 31)).toNatClampNeg) (FP.i2f ((b &&& 8388607) + 8388608))
theorem al_i2f_w {j : Nat} (h : j < 2 ^ 31) : FP.i2f (nI j) = al_w j := by
  show FP.Core.i2f (nI j) = FP.Core.l2f (Int64.ofNat j)
  rw [FP.Core.i2f_l2f, nI_l h]
  rfl
theorem al_w_B {j : Nat} (h : j ≤ 2 ^ 24) : al_B (al_w j) := by
  have hn := al_w_nn h
  have hs : (al_w j).toNat < 2 ^ 31 := by
    obtain ⟨c, q, h1⟩ := FP.Core.l2f_shape (Int64.ofNat j)
    have e : (Int64.ofNat j).toInt = (j : Int) := by rw [Int64.toInt_ofNat_of_lt (by omega)]
    have h2 := FP.Core.sgn_bits32 hn
    have h3 : FP.Core.sgn (FP.Core.val32 (al_w j)) = false := by
      show FP.Core.sgn (FP.Core.val32 (FP.Core.l2f (Int64.ofNat j))) = false
      rw [h1, e]
      show decide ((j : Int) < 0) = false
      exact decide_eq_false (by omega)
    rw [h3] at h2
    have := of_decide_eq_false h2.symm
    omega
  have hV : al_B (al_w (2 ^ 24)) := by
    show (al_w (2 ^ 24)).toNat < 2013265920
    decide +kernel
  refine al_B_of hn hs (al_B_nn hV) hV ?_
  rw [al_w_z h, al_w_z (Nat.le_refl _)]
  exact Int.mul_le_mul_of_nonneg_right (by omega) (Int.le_of_lt al_one_pos)
theorem al_frac (b : Int32) : ∃ j, j < 2 ^ 23 ∧ b &&& 8388607 = nI j := by
  have h := pk_andE b (m := 8388607) 23 (by decide)
  exact h
theorem al_len_ok {b : Int32} (h : ¬ al_isLen b = 0) : ¬ b < 0 ∧ ¬ 1148846080 < b := by
  unfold al_isLen at h
  refine ⟨fun h1 => h (by rw [if_pos h1]), fun h1 => h ?_⟩
  by_cases h2 : b < 0
  · rw [if_pos h2]
  · rw [if_neg h2, if_pos h1]
theorem al_pow_ok {b : Int32} (h : ¬ al_isLen b = 0) : b >>> ((23 : Int32) &&& 31) = nI (b >>> ((23 : Int32) &&& 31)).toNatClampNeg ∧ (b >>> ((23 : Int32) &&& 31)).toNatClampNeg ≤ 136 := by
  obtain ⟨h1, h2⟩ := al_len_ok h
  obtain ⟨j, hj, rfl⟩ := nI_of h1
  have h3 : j ≤ 1148846080 := by
    rcases Nat.lt_or_ge 1148846080 j with q | q
    · exact absurd (nI_lt (a := 1148846080) (b := j) q hj) h2
    · exact q
  have e : nI j >>> ((23 : Int32) &&& 31) = nI (j / 2 ^ 23) := pk_shrN hj _ 23 (by decide)
  rw [e, nI_clamp (by omega)]
  exact ⟨rfl, by omega⟩
theorem al_150 {n : Nat} (h : n < 150) : ¬ (150 : Int32) ≤ nI n := nI_ge (a := n) (b := 150) h (by omega)
theorem al_150' {n : Nat} (h : n = 150) : (150 : Int32) ≤ nI n := by rw [h]; decide
theorem al_out9 {x : Int32} (h0 : ¬ x = 0) (h1 : ¬ x = 1) (h2 : ¬ x = 2) (h3 : ¬ x = 3) (h4 : ¬ x = 4) (h5 : ¬ x = 5) (h6 : ¬ x = 6) (h7 : ¬ x = 7) (h8 : ¬ x = 8) (h9 : ¬ x = 9) : x.toInt < 0 ∨ 9 < x.toInt := by
  have g : ∀ k : Int32, ¬ x = k → x.toInt ≠ k.toInt := fun k h e => h (Int32.toInt_inj.mp e)
  have a0 := g 0 h0
  have a1 := g 1 h1
  have a2 := g 2 h2
  have a3 := g 3 h3
  have a4 := g 4 h4
  have a5 := g 5 h5
  have a6 := g 6 h6
  have a7 := g 7 h7
  have a8 := g 8 h8
  have a9 := g 9 h9
  have b0 : (0 : Int32).toInt = 0 := rfl
  have b1 : (1 : Int32).toInt = 1 := rfl
  have b2 : (2 : Int32).toInt = 2 := rfl
  have b3 : (3 : Int32).toInt = 3 := rfl
  have b4 : (4 : Int32).toInt = 4 := rfl
  have b5 : (5 : Int32).toInt = 5 := rfl
  have b6 : (6 : Int32).toInt = 6 := rfl
  have b7 : (7 : Int32).toInt = 7 := rfl
  have b8 : (8 : Int32).toInt = 8 := rfl
  have b9 : (9 : Int32).toInt = 9 := rfl
  omega
def al_look (σ : al_St) : al_St := al_wtake (al_take σ)
def al_lOK (σ : al_St) : Prop := al_wOK (al_take σ)
def al_addLeaf (σ : al_St) (u b : Int32) : Int32 × al_St :=
  if al_isN σ 0 u = 0 then (-1, σ) else if al_isLen b = 0 then (-2, σ) else if al_room σ 0 1 = 0 then (-3, σ)
  else ((al_record σ 0).2.2.1 0, al_look (al_append (al_record σ 0) 0 u b (al_toF b)))
def al_prune (σ : al_St) (x : Int32) : Int32 × al_St :=
  if al_isN σ 0 x = 0 then (-1, σ) else if x = 0 then (-4, σ) else if al_isLf σ x = 0 then (-4, σ)
  else (al_rg ((al_look (al_set (al_record σ 0) (2 * 0) x (-2))).1 17) (al_rg ((al_record σ 0).1 (2 * 0)) x), al_look (al_set (al_record σ 0) (2 * 0) x (-2)))
def al_graft (σ : al_St) (x u : Int32) : Int32 × al_St :=
  if al_isN σ 0 x = 0 then (-1, σ) else if al_isN σ 0 u = 0 then (-1, σ) else if x = 0 then (-4, σ) else if al_inB σ u x = 0 then
    (if al_rg (σ.1 (2 * 0)) x = u then (-5, σ) else (al_rg (σ.1 (2 * 0)) x, al_look (al_set (al_record σ 0) (2 * 0) x u)))
  else (-4, σ)
def al_setLen (σ : al_St) (x b : Int32) : Int32 × al_St :=
  if al_isN σ 0 x = 0 then (-1, σ) else if al_isLen b = 0 then (-2, σ) else if x = 0 then (-4, σ) else if al_rg (σ.1 (2 * 0 + 1)) x = b then (-5, σ)
  else (al_rg (σ.1 (2 * 0 + 1)) x, al_look (al_stretch (al_record σ 0) 0 x b (al_toF b)))
def al_type (σ : al_St) (x : Int32) : Int32 × al_St := if (al_put σ x).1 = 0 then (-3, (al_put σ x).2) else ((al_put σ x).2.2.2.1 6, (al_put σ x).2)
def al_grow (σ : al_St) (u : Int32) : Int32 × al_St :=
  if al_isN σ 0 u = 0 then (-1, σ) else if al_faultL σ 60 0 0 = -1 then
    (if al_room σ 0 (σ.2.2.1 6 / 2) = 0 then (-3, σ) else (σ.2.2.1 6 / 2, al_look (al_plantL 0 60 0 u (al_record σ 0))))
  else (-100 - al_faultL σ 60 0 0, σ)
def al_undo (σ : al_St) : Int32 × al_St := if σ.2.2.1 7 = 0 then (-5, σ) else ((al_look (al_takeBack σ 0)).2.2.1 7, al_look (al_takeBack σ 0))
def al_restore (σ : al_St) : Int32 × al_St := if σ.2.2.1 8 = 0 then (-5, σ) else ((al_look (al_copyT (al_record σ 0) 0 5)).2.2.1 9, al_look (al_copyT (al_record σ 0) 0 5))
def al_anc (σ : al_St) (x y : Int32) : Int32 := if al_isN σ 0 x = 0 then -1 else if 0 ≤ y then (if y ≤ al_rg (σ.1 15) x then al_cl σ x y else -5) else -2
def al_lks (σ : al_St) (x y : Int32) : Int32 := if al_isN σ 0 x = 0 then -1 else if 0 ≤ y then (if y ≤ al_rg (σ.1 15) x then al_looks σ x y else -5) else -2
def al_ladAt (σ : al_St) (x y : Int32) : Int32 := if al_isN σ 0 x = 0 then -1 else if 0 ≤ y then (if y < al_lad σ x then al_cl σ (al_rg (σ.1 21) x) y else -5) else -2
def al_node (σ : al_St) (x w : Int32) : Int32 :=
  if al_isN σ 0 x = 0 then -1 else if w = 0 then al_orN (al_rg (σ.1 (2 * 0)) x) else if w = 1 then al_rg (σ.1 15) x else if w = 2 then al_rg (σ.1 16) x
  else if w = 3 then al_rg (σ.1 17) x else if w = 4 then al_rg (σ.1 18) x else if w = 5 then al_orN (al_rg (σ.1 19) x) else if w = 6 then al_rg (σ.1 20) x
  else if w = 7 then al_rg (σ.1 21) x else if w = 8 then al_way σ x else if w = 9 then al_lad σ x else -2
def al_mtg (σ : al_St) (x y : Int32) : Int32 := if al_isN σ 0 x = 0 then -1 else if al_isN σ 0 y = 0 then -1 else al_meet σ x y
def al_wayAt (σ : al_St) (x y z : Int32) : Int32 := if al_isN σ 0 x = 0 then -1 else if al_isN σ 0 y = 0 then -1 else if 0 ≤ z then al_orN (al_onWay σ x y z) else -2
def al_real (σ : al_St) (x w : Int32) : UInt32 :=
  if al_isN σ 0 x = 0 then 2143289344 else if w < 0 then 2143289344 else if w ≤ 1 then (if w = 0 then al_fg (σ.2.1 0) x else al_fg (σ.2.1 6) x) else 2143289344
def al_dist (σ : al_St) (x y : Int32) : UInt32 := if al_isN σ 0 x = 0 then 2143289344 else if al_isN σ 0 y = 0 then 2143289344 else al_sum (al_fg (σ.2.1 6) x) (al_fg (σ.2.1 6) y) (al_fg (σ.2.1 6) (al_meet σ x y))
def al_reach (σ : al_St) (x b : Int32) : Int32 := if al_isN σ 0 x = 0 then -1 else if al_isLen b = 0 then -2 else al_hwL σ (al_toF b) (al_fg (σ.2.1 6) x) 90 x
def al_far (σ : al_St) (x : Int32) : Int32 × al_St := if al_isN σ 0 x = 0 then (-1, σ) else (al_farOn (al_meets σ x) x 0, al_meets σ x)
def al_apart (σ : al_St) (w : Int32) : Int32 × al_St :=
  if w < 0 then (-2, σ) else if w ≤ 1 then (if w = 0 then ((al_findPair σ).2.2.1 10, al_findPair σ) else ((al_findPair σ).2.2.1 11, al_findPair σ)) else (-2, σ)
def al_shape (σ : al_St) (x : Int32) : Int32 × al_St :=
  if al_isN σ 0 x = 0 then (-1, σ) else if al_rg (σ.1 18) x ≤ 15 then (al_rg ((al_write σ).1 23) x, al_write σ) else (-5, σ)
def al_alike (σ : al_St) (x : Int32) : Int32 × al_St :=
  if al_isN σ 0 x = 0 then (-1, σ) else if al_rg (σ.1 18) x ≤ 15 then (al_likeL (al_write σ) x 90 0 0, al_write σ) else (-5, σ)
def al_count (σ : al_St) (w : Int32) : Int32 × al_St :=
  if w = 0 then (σ.2.2.1 9, σ) else if w = 1 then (σ.2.2.1 0, σ) else if w = 2 then (al_cLv σ 90 0 0, σ) else if w = 3 then (al_cLv σ 90 0 0, σ)
  else if w = 4 then (al_cLd σ 90 0 0, σ) else if w = 5 then (al_cJm σ 90 0 0, σ) else if w = 6 then (al_rg (σ.1 16) 0, σ)
  else if w = 7 then ((al_sort (al_write σ)).2.2.1 12, al_sort (al_write σ)) else if w = 8 then (σ.2.2.1 7, σ) else if w = 9 then (σ.2.2.1 6, σ) else (-2, σ)
theorem al_mv_X8_isLength : al_mv yX8_isLength cX8_isLength 1 (some .boolean) 1 := ⟨al_c_X8_isLength, al_ini_RX8, ⟨by decide +kernel, by decide +kernel, by decide +kernel⟩, by decide +kernel⟩
theorem al_ms_X8_isLength : al_mst yX8_isLength cX8_isLength 1 (some .boolean) 1 := ⟨al_mv_X8_isLength, al_st_X8_isLength⟩
set_option maxHeartbeats 4000000 in
set_option maxRecDepth 100000 in
theorem al_X8_isLength (l : Launch) (D : va_G) (cy : al_CY) (ad : Nat → Nat) (σ : al_St) (b : Int32) : al_MP l yX8_isLength cX8_isLength 1 (some .boolean) 0 0 D cy ad σ [.int b] (some (.int (al_isLen b))) := by
  refine al_met al_mv_X8_isLength (Nat.le_of_ble_eq_true rfl) ?_
  intro p e s m args below meth c ls S hr hlocks hK hW hS hl
  have hl : lv_has ls 1 [(0, .int b)] := hl
  refine lv_iload_n S.1 S.2.1 dX8_isLength_0 rfl (lv_at hl 0 rfl) ?_
  refine lv_if_lt (tgt := 14) S.1 S.2.1 dX8_isLength_1 (by decide) (fun c1 => ?_) (fun c1 => ?_)
  · refine lv_iconst (v := 0) S.1 S.2.1 dX8_isLength_14 (by decide) ?_
    exact W.zret S.1 S.2.1 hr rfl (fun t9 ht9 _ => ⟨(congrArg (fun z => Outcome.returned (some (Value.int z))) (by simp only [al_isLen, if_pos (c1)])), ht9⟩) (fun q hq => absurd hq List.not_mem_nil) dX8_isLength_15
  · refine lv_iload_n S.1 S.2.1 dX8_isLength_4 rfl (lv_at hl 0 rfl) ?_
    refine lv_ldc S.1 S.2.1 S.2.2.2.1 (S.2.2.2.2 _ al_k_RX8_252) dX8_isLength_5 ?_
    refine lv_icmp_gt (tgt := 14) S.1 S.2.1 dX8_isLength_7 (by decide) (fun c2 => ?_) (fun c2 => ?_)
    · refine lv_iconst (v := 0) S.1 S.2.1 dX8_isLength_14 (by decide) ?_
      exact W.zret S.1 S.2.1 hr rfl (fun t9 ht9 _ => ⟨(congrArg (fun z => Outcome.returned (some (Value.int z))) (by simp only [al_isLen, if_neg (c1), if_pos (c2)])), ht9⟩) (fun q hq => absurd hq List.not_mem_nil) dX8_isLength_15
    · refine lv_iconst (v := 1) S.1 S.2.1 dX8_isLength_10 (by decide) ?_
      refine lv_goto (tgt := 15) S.1 S.2.1 dX8_isLength_11 (by decide) ?_
      exact W.zret S.1 S.2.1 hr rfl (fun t9 ht9 _ => ⟨(congrArg (fun z => Outcome.returned (some (Value.int z))) (by simp only [al_isLen, if_neg (c1), if_neg (c2)])), ht9⟩) (fun q hq => absurd hq List.not_mem_nil) dX8_isLength_15
theorem al_mv_X8_orNone : al_mv yX8_orNone cX8_orNone 1 (some .int) 1 := ⟨al_c_X8_orNone, al_ini_RX8, ⟨by decide +kernel, by decide +kernel, by decide +kernel⟩, by decide +kernel⟩
theorem al_ms_X8_orNone : al_mst yX8_orNone cX8_orNone 1 (some .int) 1 := ⟨al_mv_X8_orNone, al_st_X8_orNone⟩
set_option maxHeartbeats 4000000 in
set_option maxRecDepth 100000 in
theorem al_X8_orNone (l : Launch) (D : va_G) (cy : al_CY) (ad : Nat → Nat) (σ : al_St) (x : Int32) : al_MP l yX8_orNone cX8_orNone 1 (some .int) 0 0 D cy ad σ [.int x] (some (.int (al_orN x))) := by
  refine al_met al_mv_X8_orNone (Nat.le_of_ble_eq_true rfl) ?_
  intro p e s m args below meth c ls S hr hlocks hK hW hS hl
  have hl : lv_has ls 1 [(0, .int x)] := hl
  refine lv_iload_n S.1 S.2.1 dX8_orNone_0 rfl (lv_at hl 0 rfl) ?_
  refine lv_iconst (v := -1) S.1 S.2.1 dX8_orNone_1 (by decide) ?_
  refine lv_icmp_ne (tgt := 10) S.1 S.2.1 dX8_orNone_2 (by decide) (fun c1 => ?_) (fun c1 => ?_)
  · refine lv_iload_n S.1 S.2.1 dX8_orNone_10 rfl (lv_at hl 0 rfl) ?_
    exact W.iret S.1 S.2.1 hr (fun t9 ht9 _ => ⟨(congrArg (fun z => Outcome.returned (some (Value.int z))) (by simp only [al_orN, if_neg (c1)])), ht9⟩) (fun q hq => absurd hq List.not_mem_nil) dX8_orNone_11
  · refine lv_bipush (v := -5) S.1 S.2.1 dX8_orNone_5 (by decide) ?_
    refine lv_goto (tgt := 11) S.1 S.2.1 dX8_orNone_7 (by decide) ?_
    exact W.iret S.1 S.2.1 hr (fun t9 ht9 _ => ⟨(congrArg (fun z => Outcome.returned (some (Value.int z))) (by simp only [al_orN, if_pos (c1)])), ht9⟩) (fun q hq => absurd hq List.not_mem_nil) dX8_orNone_11
theorem al_mv_X8_noFloat : al_mv yX8_noFloat cX8_noFloat 0 (some .float) 0 := ⟨al_c_X8_noFloat, al_ini_RX8, ⟨by decide +kernel, by decide +kernel, by decide +kernel⟩, by decide +kernel⟩
theorem al_ms_X8_noFloat : al_mst yX8_noFloat cX8_noFloat 0 (some .float) 0 := ⟨al_mv_X8_noFloat, al_st_X8_noFloat⟩
set_option maxHeartbeats 4000000 in
set_option maxRecDepth 100000 in
theorem al_X8_noFloat (l : Launch) (D : va_G) (cy : al_CY) (ad : Nat → Nat) (σ : al_St) : al_MP l yX8_noFloat cX8_noFloat 0 (some .float) 0 0 D cy ad σ [] (some (.float 2143289344)) := by
  refine al_met al_mv_X8_noFloat (Nat.le_of_ble_eq_true rfl) ?_
  intro p e s m args below meth c ls S hr hlocks hK hW hS hl
  have hl : lv_has ls 0 [] := hl
  refine lv_ldcf S.1 S.2.1 S.2.2.2.1 (S.2.2.2.2 _ al_k_RX8_251) dX8_noFloat_0 ?_
  exact W.fret S.1 S.2.1 hr (fun t9 ht9 _ => ⟨(congrArg (fun z => Outcome.returned (some (Value.float z))) rfl), ht9⟩) (fun q hq => absurd hq List.not_mem_nil) dX8_noFloat_2
set_option maxHeartbeats 4000000 in
set_option maxRecDepth 100000 in
theorem al_lp_X8_tf {p : Program} {e : Env} {s : State} {m : MethodId} {args : Array Value} {below : List Frame} {meth : Method} {c : Code} {Q : State → Prop} (l : Launch) (D : va_G) (cy : al_CY) (ad : Nat → Nat) (S : CallFix p m c cX8_toFloat 5 s args al_G RX8) (hK : va_K D vwCl (al_tys cy) s) {H : Heap} {locs : List Loc} {σ : al_St} (hW : al_H D cy ad σ H) : ∀ (n : Nat) (k : Nat) (w : UInt32) (ls : Array Slot), (k + n = 150) → (al_B w) → lv_has ls 5 [(3, .float w), (4, .int (nI k))] → (∀ (w' : UInt32) (ls : Array Slot), al_tfL n w = w' → lv_has ls 5 [(3, .float w')] → W p l e (al_rm 0 0) s m args below meth c H locs 0 0 Q (F0 m 55 ls [])) → W p l e (al_rm 0 0) s m args below meth c H locs 0 0 Q (F0 m 36 ls []) := by
  intro n
  induction n with
  | zero =>
    intro k w ls hk hB hl K
    refine lv_iload S.1 S.2.1 dX8_toFloat_36 (lv_at hl 1 rfl) ?_
    refine lv_sipush (v := 150) S.1 S.2.1 dX8_toFloat_38 (by decide) ?_
    refine lv_icmp_ge (tgt := 55) S.1 S.2.1 dX8_toFloat_41 (by decide) (fun c1 => ?_) (fun c1 => ?_)
    · exact K w _ (by simp only [al_tfL, if_pos (c1)]) (lv_sub hl [0] rfl)
    · exact absurd (al_150' (by omega)) c1
  | succ n ih =>
    intro k w ls hk hB hl K
    refine lv_iload S.1 S.2.1 dX8_toFloat_36 (lv_at hl 1 rfl) ?_
    refine lv_sipush (v := 150) S.1 S.2.1 dX8_toFloat_38 (by decide) ?_
    refine lv_icmp_ge (tgt := 55) S.1 S.2.1 dX8_toFloat_41 (by decide) (fun c1 => ?_) (fun c1 => ?_)
    · exact absurd c1 (al_150 (by omega))
    · refine lv_fload_n S.1 S.2.1 dX8_toFloat_44 rfl (lv_at hl 0 rfl) ?_
      refine lv_ldcf S.1 S.2.1 S.2.2.2.1 (S.2.2.2.2 _ al_k_RX8_255) dX8_toFloat_45 ?_
      refine lv_fmul S.1 S.2.1 dX8_toFloat_47 (al_half_n32 hB) ?_
      refine lv_fstore_n (lv' := [(3, .float (FP.fmul w 1056964608)), (4, .int (nI k))]) S.1 S.2.1 dX8_toFloat_48 rfl hl (by decide) rfl (fun ls hl => ?_)
      refine lv_iinc (k := 1) (v := nI (k + 1)) (lv' := [(4, .int (nI (k + 1))), (3, .float (FP.fmul w 1056964608))]) S.1 S.2.1 dX8_toFloat_49 hl rfl (al_inc k) (by decide) rfl (fun ls hl => ?_)
      refine lv_goto (tgt := 36) S.1 S.2.1 dX8_toFloat_52 (by decide) ?_
      exact ih (k + 1) (FP.fmul w 1056964608) _ (by omega) (al_half_B hB) (lv_sub hl [1, 0] rfl) (fun w' ls e9 hl => K w' ls (by simp only [al_tfL, if_neg (c1)]; exact e9) hl)
theorem al_mv_X8_toFloat : al_mv yX8_toFloat cX8_toFloat 5 (some .float) 1 := ⟨al_c_X8_toFloat, al_ini_RX8, ⟨by decide +kernel, by decide +kernel, by decide +kernel⟩, by decide +kernel⟩
theorem al_ms_X8_toFloat : al_mst yX8_toFloat cX8_toFloat 5 (some .float) 1 := ⟨al_mv_X8_toFloat, al_st_X8_toFloat⟩
set_option maxHeartbeats 4000000 in
set_option maxRecDepth 100000 in
theorem al_X8_toFloat (l : Launch) (D : va_G) (cy : al_CY) (ad : Nat → Nat) (σ : al_St) (b : Int32) (hb : ¬ al_isLen b = 0) : al_MP l yX8_toFloat cX8_toFloat 5 (some .float) 0 0 D cy ad σ [.int b] (some (.float (al_toF b))) := by
  refine al_met al_mv_X8_toFloat (Nat.le_of_ble_eq_true rfl) ?_
  intro p e s m args below meth c ls S hr hlocks hK hW hS hl
  have hl : lv_has ls 5 [(0, .int b)] := hl
  refine lv_iload_n S.1 S.2.1 dX8_toFloat_0 rfl (lv_at hl 0 rfl) ?_
  refine lv_bipush (v := 23) S.1 S.2.1 dX8_toFloat_1 (by decide) ?_
  refine lv_ishr S.1 S.2.1 dX8_toFloat_3 ?_
  refine lv_istore_n (lv' := [(1, .int (b >>> (23 &&& 31))), (0, .int b)]) S.1 S.2.1 dX8_toFloat_4 rfl hl (by decide) rfl (fun ls hl => ?_)
  refine lv_iload_n S.1 S.2.1 dX8_toFloat_5 rfl (lv_at hl 1 rfl) ?_
  refine lv_ldc S.1 S.2.1 S.2.2.2.1 (S.2.2.2.2 _ al_k_RX8_253) dX8_toFloat_6 ?_
  refine lv_iand S.1 S.2.1 dX8_toFloat_8 ?_
  refine lv_istore_n (lv' := [(2, .int (b &&& 8388607)), (1, .int (b >>> (23 &&& 31))), (0, .int b)]) S.1 S.2.1 dX8_toFloat_9 rfl hl (by decide) rfl (fun ls hl => ?_)
  refine lv_iload_n S.1 S.2.1 dX8_toFloat_10 rfl (lv_at hl 1 rfl) ?_
  refine lv_if_ne (tgt := 19) S.1 S.2.1 dX8_toFloat_11 (by decide) (fun c1 => ?_) (fun c1 => ?_)
  · refine lv_iload_n S.1 S.2.1 dX8_toFloat_19 rfl (lv_at hl 0 rfl) ?_
    refine lv_ldc S.1 S.2.1 S.2.2.2.1 (S.2.2.2.2 _ al_k_RX8_254) dX8_toFloat_20 ?_
    refine lv_iadd S.1 S.2.1 dX8_toFloat_22 ?_
    refine lv_i2f S.1 S.2.1 dX8_toFloat_23 ?_
    refine lv_fstore_n (lv' := [(3, .float (FP.i2f ((b &&& 8388607) + 8388608))), (2, .int (b &&& 8388607)), (1, .int (b >>> (23 &&& 31))), (0, .int b)]) S.1 S.2.1 dX8_toFloat_24 rfl hl (by decide) rfl (fun ls hl => ?_)
    refine lv_iload_n S.1 S.2.1 dX8_toFloat_25 rfl (lv_at hl 2 rfl) ?_
    refine lv_if_ne (tgt := 33) S.1 S.2.1 dX8_toFloat_26 (by decide) (fun c2 => ?_) (fun c2 => ?_)
    · refine lv_iload_n S.1 S.2.1 dX8_toFloat_33 rfl (lv_at hl 2 rfl) ?_
      refine lv_istore (lv' := [(4, .int (b >>> (23 &&& 31))), (3, .float (FP.i2f ((b &&& 8388607) + 8388608))), (2, .int (b &&& 8388607)), (1, .int (b >>> (23 &&& 31))), (0, .int b)]) S.1 S.2.1 dX8_toFloat_34 hl (by decide) rfl (fun ls hl => ?_)
      have hp := al_pow_ok hb
      rw [hp.1] at hl
      refine al_lp_X8_tf l D cy ad  S hK hW (150 - (b >>> ((23 : Int32) &&& 31)).toNatClampNeg) ((b >>> ((23 : Int32) &&& 31)).toNatClampNeg) (FP.i2f ((b &&& 8388607) + 8388608)) _ (by have := hp.2; omega) (by obtain ⟨j, hj, ej⟩ := al_frac b; rw [ej, show (8388608 : Int32) = nI 8388608 from rfl, nI_add, al_i2f_w (by omega)]; exact al_w_B (by omega)) (lv_sub hl [1, 0] rfl) (fun w3 ls e4 hl => ?_)
      refine lv_fload_n S.1 S.2.1 dX8_toFloat_55 rfl (lv_at hl 0 rfl) ?_
      exact W.fret S.1 S.2.1 hr (fun t9 ht9 _ => ⟨(congrArg (fun z => Outcome.returned (some (Value.float z))) (by simp only [al_toF, if_neg (c1), if_neg (c2), e4])), ht9⟩) (fun q hq => absurd hq List.not_mem_nil) dX8_toFloat_56
    · exact absurd c2 c1
  · refine lv_iload_n S.1 S.2.1 dX8_toFloat_14 rfl (lv_at hl 0 rfl) ?_
    refine lv_i2f S.1 S.2.1 dX8_toFloat_15 ?_
    refine lv_goto (tgt := 24) S.1 S.2.1 dX8_toFloat_16 (by decide) ?_
    refine lv_fstore_n (lv' := [(3, .float (FP.i2f (b &&& 8388607))), (2, .int (b &&& 8388607)), (1, .int (b >>> (23 &&& 31))), (0, .int b)]) S.1 S.2.1 dX8_toFloat_24 rfl hl (by decide) rfl (fun ls hl => ?_)
    refine lv_iload_n S.1 S.2.1 dX8_toFloat_25 rfl (lv_at hl 2 rfl) ?_
    refine lv_if_ne (tgt := 33) S.1 S.2.1 dX8_toFloat_26 (by decide) (fun c5 => ?_) (fun c5 => ?_)
    · exact absurd c1 c5
    · refine lv_iconst (v := 1) S.1 S.2.1 dX8_toFloat_29 (by decide) ?_
      refine lv_goto (tgt := 34) S.1 S.2.1 dX8_toFloat_30 (by decide) ?_
      refine lv_istore (lv' := [(4, .int 1), (3, .float (FP.i2f (b &&& 8388607))), (2, .int (b &&& 8388607)), (1, .int (b >>> (23 &&& 31))), (0, .int b)]) S.1 S.2.1 dX8_toFloat_34 hl (by decide) rfl (fun ls hl => ?_)
      refine al_lp_X8_tf l D cy ad  S hK hW 149 1 (FP.i2f (b &&& 8388607)) _ (by omega) (by obtain ⟨j, hj, ej⟩ := al_frac b; rw [ej, al_i2f_w (by omega)]; exact al_w_B (by omega)) (lv_sub hl [1, 0] rfl) (fun w6 ls e7 hl => ?_)
      refine lv_fload_n S.1 S.2.1 dX8_toFloat_55 rfl (lv_at hl 0 rfl) ?_
      exact W.fret S.1 S.2.1 hr (fun t9 ht9 _ => ⟨(congrArg (fun z => Outcome.returned (some (Value.float z))) (by simp only [al_toF, if_pos (c1), if_pos (c5), e7])), ht9⟩) (fun q hq => absurd hq List.not_mem_nil) dX8_toFloat_56
theorem al_mv_X8_lookAround : al_mv yX8_lookAround cX8_lookAround 1 none 0 := ⟨al_c_X8_lookAround, al_ini_RX8, ⟨by decide +kernel, by decide +kernel, by decide +kernel⟩, by decide +kernel⟩
theorem al_mi_X8_lookAround : al_mi yX8_lookAround cX8_lookAround 1 none 0 := ⟨al_mv_X8_lookAround, al_in_X8_lookAround, al_se_X8_lookAround⟩
set_option maxHeartbeats 4000000 in
set_option maxRecDepth 100000 in
theorem al_X8_lookAround (l : Launch) (D : va_G) (cy : al_CY) (ad : Nat → Nat) (σ : al_St) (hO : al_lOK σ) : al_MS l yX8_lookAround cX8_lookAround 1 none 4 89 D cy ad σ [.ref (ad (0))] none (al_look σ) := by
  refine al_met al_mv_X8_lookAround (Nat.le_of_ble_eq_true rfl) ?_
  intro p e s m args below meth c ls S hr hlocks hK hW hS hl
  have hl : lv_has ls 1 [(0, .ref (ad (0)))] := hl
  refine lv_aload_n S.1 S.2.1 dX8_lookAround_0 rfl (lv_at hl 0 rfl) ?_
  refine al_g_RX8_35 S hK hW dX8_lookAround_1 ?_
  refine al_cS (rest := []) S hK hW hS (al_X4_take l D cy ad σ ) al_mi_X4_take al_ml_RX8_247 rfl (al_rc_4 D cy ad _) rfl hl.1 rfl (Nat.le_of_ble_eq_true rfl) dX8_lookAround_4 ⟨Nat.le_of_ble_eq_true rfl, Nat.le_of_ble_eq_true rfl⟩ ⟨Nat.zero_le _, Nat.zero_le _⟩ (fun H locs hW hS => ?_)
  refine W.eq (g2 := F0 m 7 ls []) rfl ?_
  refine lv_aload_n S.1 S.2.1 dX8_lookAround_7 rfl (lv_at hl 0 rfl) ?_
  refine al_g_RX8_44 S hK hW dX8_lookAround_8 ?_
  refine al_cS (rest := []) S hK hW hS (al_X7_take l D cy ad (al_take σ) hO) al_mi_X7_take al_ml_RX8_250 rfl (al_rc_7 D cy ad _) rfl hl.1 rfl (Nat.le_of_ble_eq_true rfl) dX8_lookAround_11 ⟨Nat.le_of_ble_eq_true rfl, Nat.le_of_ble_eq_true rfl⟩ ⟨Nat.zero_le _, Nat.zero_le _⟩ (fun H locs hW hS => ?_)
  refine W.eq (g2 := F0 m 14 ls []) rfl ?_
  exact W.vret S.1 S.2.1 hr (fun t9 ht9 _ => ⟨rfl, by rw [ht9]; exact (al_He hW rfl), hS.F ht9⟩) hS.2.2 dX8_lookAround_14
theorem al_mv_X8_addLeaf : al_mv yX8_addLeaf cX8_addLeaf 4 (some .int) 2 := ⟨al_c_X8_addLeaf, al_ini_RX8, ⟨by decide +kernel, by decide +kernel, by decide +kernel⟩, by decide +kernel⟩
theorem al_mi_X8_addLeaf : al_mi yX8_addLeaf cX8_addLeaf 4 (some .int) 2 := ⟨al_mv_X8_addLeaf, al_in_X8_addLeaf, al_se_X8_addLeaf⟩
set_option maxHeartbeats 4000000 in
set_option maxRecDepth 100000 in
theorem al_X8_addLeaf (l : Launch) (D : va_G) (cy : al_CY) (ad : Nat → Nat) (σ : al_St) (u : Int32) (b : Int32) (h1 : ¬ σ.2.2.1 7 < 0) (hO : ¬ al_isN σ 0 u = 0 → ¬ al_isLen b = 0 → ¬ al_room σ 0 1 = 0 → al_lOK (al_append (al_record σ 0) 0 u b (al_toF b))) : al_MS l yX8_addLeaf cX8_addLeaf 4 (some .int) 5 109 D cy ad σ [.ref (ad (0)), .int u, .int b] (some (.int ((al_addLeaf σ u b).1))) ((al_addLeaf σ u b).2) := by
  refine al_met al_mv_X8_addLeaf (Nat.le_of_ble_eq_true rfl) ?_
  intro p e s m args below meth c ls S hr hlocks hK hW hS hl
  have hl : lv_has ls 4 [(0, .ref (ad (0))), (1, .int u), (2, .int b)] := hl
  refine lv_aload_n S.1 S.2.1 dX8_addLeaf_0 rfl (lv_at hl 0 rfl) ?_
  refine al_g_RX8_10 S hK hW dX8_addLeaf_1 ?_
  refine lv_iload_n S.1 S.2.1 dX8_addLeaf_4 rfl (lv_at hl 1 rfl) ?_
  refine al_cP (rest := []) S hK hW (al_X6_isNode l D cy ad σ 0 (by omega) u) al_mi_X6_isNode al_ml_RX8_58 rfl (al_rc_T D cy ad _ (t := 0) (by omega)) rfl hl.1 rfl (Nat.le_of_ble_eq_true rfl) dX8_addLeaf_5 ⟨Nat.le_of_ble_eq_true rfl, Nat.le_of_ble_eq_true rfl⟩ ⟨Nat.zero_le _, Nat.zero_le _⟩ ?_
  refine W.eq (g2 := F0 m 8 ls [.int (al_isN σ 0 u)]) rfl ?_
  refine lv_if_ne (tgt := 13) S.1 S.2.1 dX8_addLeaf_8 (by decide) (fun c1 => ?_) (fun c1 => ?_)
  · refine lv_iload_n S.1 S.2.1 dX8_addLeaf_13 rfl (lv_at hl 2 rfl) ?_
    refine al_cPs (rest := []) S hK hW (al_X8_isLength l D cy ad σ b) al_ms_X8_isLength al_ml_RX8_62 rfl hl.1 rfl (Nat.le_of_ble_eq_true rfl) dX8_addLeaf_14 ⟨Nat.le_of_ble_eq_true rfl, Nat.le_of_ble_eq_true rfl⟩ ⟨Nat.zero_le _, Nat.zero_le _⟩ ?_
    refine W.eq (g2 := F0 m 17 ls [.int (al_isLen b)]) rfl ?_
    refine lv_if_ne (tgt := 23) S.1 S.2.1 dX8_addLeaf_17 (by decide) (fun c2 => ?_) (fun c2 => ?_)
    · refine lv_aload_n S.1 S.2.1 dX8_addLeaf_23 rfl (lv_at hl 0 rfl) ?_
      refine al_g_RX8_10 S hK hW dX8_addLeaf_24 ?_
      refine lv_iconst (v := 1) S.1 S.2.1 dX8_addLeaf_27 (by decide) ?_
      refine al_cP (rest := []) S hK hW (al_X6_hasRoomFor l D cy ad σ 0 (by omega) 1) al_mi_X6_hasRoomFor al_ml_RX8_65 rfl (al_rc_T D cy ad _ (t := 0) (by omega)) rfl hl.1 rfl (Nat.le_of_ble_eq_true rfl) dX8_addLeaf_28 ⟨Nat.le_of_ble_eq_true rfl, Nat.le_of_ble_eq_true rfl⟩ ⟨Nat.zero_le _, Nat.zero_le _⟩ ?_
      refine W.eq (g2 := F0 m 31 ls [.int (al_room σ 0 1)]) rfl ?_
      refine lv_if_ne (tgt := 37) S.1 S.2.1 dX8_addLeaf_31 (by decide) (fun c3 => ?_) (fun c3 => ?_)
      · refine lv_aload_n S.1 S.2.1 dX8_addLeaf_37 rfl (lv_at hl 0 rfl) ?_
        refine al_g_RX8_26 S hK hW dX8_addLeaf_38 ?_
        refine lv_aload_n S.1 S.2.1 dX8_addLeaf_41 rfl (lv_at hl 0 rfl) ?_
        refine al_g_RX8_10 S hK hW dX8_addLeaf_42 ?_
        refine al_cS (rest := []) S hK hW hS (al_X1_record l D cy ad σ 0 (by omega) h1) al_mi_X1_record al_ml_RX8_68 rfl (al_rc_1 D cy ad _) rfl hl.1 rfl (Nat.le_of_ble_eq_true rfl) dX8_addLeaf_45 ⟨Nat.le_of_ble_eq_true rfl, Nat.le_of_ble_eq_true rfl⟩ ⟨Nat.zero_le _, Nat.zero_le _⟩ (fun H locs hW hS => ?_)
        refine W.eq (g2 := F0 m 48 ls []) rfl ?_
        refine lv_aload_n S.1 S.2.1 dX8_addLeaf_48 rfl (lv_at hl 0 rfl) ?_
        refine al_g_RX8_10 S hK hW dX8_addLeaf_49 ?_
        refine lv_iload_n S.1 S.2.1 dX8_addLeaf_52 rfl (lv_at hl 1 rfl) ?_
        refine lv_iload_n S.1 S.2.1 dX8_addLeaf_53 rfl (lv_at hl 2 rfl) ?_
        refine lv_iload_n S.1 S.2.1 dX8_addLeaf_54 rfl (lv_at hl 2 rfl) ?_
        refine al_cPs (rest := [.int b, .int u, .ref (ad (8 + 0))]) S hK hW (al_X8_toFloat l D cy ad (al_record σ 0) b c2) al_ms_X8_toFloat al_ml_RX8_71 rfl hl.1 rfl (Nat.le_of_ble_eq_true rfl) dX8_addLeaf_55 ⟨Nat.le_of_ble_eq_true rfl, Nat.le_of_ble_eq_true rfl⟩ ⟨Nat.zero_le _, Nat.zero_le _⟩ ?_
        refine W.eq (g2 := F0 m 58 ls [.float (al_toF b), .int b, .int u, .ref (ad (8 + 0))]) rfl ?_
        refine al_cS (rest := []) S hK hW hS (al_X6_append l D cy ad (al_record σ 0) 0 (by omega) u b (al_toF b)) al_mi_X6_append al_ml_RX8_75 rfl (al_rc_T D cy ad _ (t := 0) (by omega)) rfl hl.1 rfl (Nat.le_of_ble_eq_true rfl) dX8_addLeaf_58 ⟨Nat.le_of_ble_eq_true rfl, Nat.le_of_ble_eq_true rfl⟩ ⟨Nat.zero_le _, Nat.zero_le _⟩ (fun H locs hW hS => ?_)
        refine W.eq (g2 := F0 m 61 ls [.int ((al_record σ 0).2.2.1 0)]) rfl ?_
        refine lv_istore_n (lv' := [(3, .int ((al_record σ 0).2.2.1 0)), (0, .ref (ad (0))), (1, .int u), (2, .int b)]) S.1 S.2.1 dX8_addLeaf_61 rfl hl (by decide) rfl (fun ls hl => ?_)
        refine lv_aload_n S.1 S.2.1 dX8_addLeaf_62 rfl (lv_at hl 1 rfl) ?_
        refine al_cS (rest := []) S hK hW hS (al_X8_lookAround l D cy ad (al_append (al_record σ 0) 0 u b (al_toF b)) (hO c1 c2 c3)) al_mi_X8_lookAround al_ml_RX8_55 rfl (al_rc_8 D cy ad _) rfl hl.1 rfl (Nat.le_of_ble_eq_true rfl) dX8_addLeaf_63 ⟨Nat.le_of_ble_eq_true rfl, Nat.le_of_ble_eq_true rfl⟩ ⟨Nat.zero_le _, Nat.zero_le _⟩ (fun H locs hW hS => ?_)
        refine W.eq (g2 := F0 m 66 ls []) rfl ?_
        refine lv_iload_n S.1 S.2.1 dX8_addLeaf_66 rfl (lv_at hl 0 rfl) ?_
        exact W.iret S.1 S.2.1 hr (fun t9 ht9 _ => ⟨(congrArg (fun z => Outcome.returned (some (Value.int z))) (by simp only [al_addLeaf, if_neg (c1), if_neg (c2), if_neg (c3)])), by rw [ht9]; exact (al_He hW (by simp only [al_addLeaf, if_neg (c1), if_neg (c2), if_neg (c3)])), hS.F ht9⟩) hS.2.2 dX8_addLeaf_67
      · refine lv_bipush (v := -3) S.1 S.2.1 dX8_addLeaf_34 (by decide) ?_
        exact W.iret S.1 S.2.1 hr (fun t9 ht9 _ => ⟨(congrArg (fun z => Outcome.returned (some (Value.int z))) (by simp only [al_addLeaf, if_neg (c1), if_neg (c2), if_pos (c3)])), by rw [ht9]; exact (al_He hW (by simp only [al_addLeaf, if_neg (c1), if_neg (c2), if_pos (c3)])), hS.F ht9⟩) hS.2.2 dX8_addLeaf_36
    · refine lv_bipush (v := -2) S.1 S.2.1 dX8_addLeaf_20 (by decide) ?_
      exact W.iret S.1 S.2.1 hr (fun t9 ht9 _ => ⟨(congrArg (fun z => Outcome.returned (some (Value.int z))) (by simp only [al_addLeaf, if_neg (c1), if_pos (c2)])), by rw [ht9]; exact (al_He hW (by simp only [al_addLeaf, if_neg (c1), if_pos (c2)])), hS.F ht9⟩) hS.2.2 dX8_addLeaf_22
  · refine lv_iconst (v := -1) S.1 S.2.1 dX8_addLeaf_11 (by decide) ?_
    exact W.iret S.1 S.2.1 hr (fun t9 ht9 _ => ⟨(congrArg (fun z => Outcome.returned (some (Value.int z))) (by simp only [al_addLeaf, if_pos (c1)])), by rw [ht9]; exact (al_He hW (by simp only [al_addLeaf, if_pos (c1)])), hS.F ht9⟩) hS.2.2 dX8_addLeaf_12
theorem al_mv_X8_prune : al_mv yX8_prune cX8_prune 3 (some .int) 1 := ⟨al_c_X8_prune, al_ini_RX8, ⟨by decide +kernel, by decide +kernel, by decide +kernel⟩, by decide +kernel⟩
theorem al_mi_X8_prune : al_mi yX8_prune cX8_prune 3 (some .int) 1 := ⟨al_mv_X8_prune, al_in_X8_prune, al_se_X8_prune⟩
set_option maxHeartbeats 4000000 in
set_option maxRecDepth 100000 in
theorem al_X8_prune (l : Launch) (D : va_G) (cy : al_CY) (ad : Nat → Nat) (σ : al_St) (x : Int32) (h1 : ¬ σ.2.2.1 7 < 0) (hO : ¬ al_isN σ 0 x = 0 → ¬ x = 0 → ¬ al_isLf σ x = 0 → al_lOK (al_set (al_record σ 0) (2 * 0) x (-2))) : al_MS l yX8_prune cX8_prune 3 (some .int) 5 109 D cy ad σ [.ref (ad (0)), .int x] (some (.int ((al_prune σ x).1))) ((al_prune σ x).2) := by
  refine al_met al_mv_X8_prune (Nat.le_of_ble_eq_true rfl) ?_
  intro p e s m args below meth c ls S hr hlocks hK hW hS hl
  have hl : lv_has ls 3 [(0, .ref (ad (0))), (1, .int x)] := hl
  refine lv_aload_n S.1 S.2.1 dX8_prune_0 rfl (lv_at hl 0 rfl) ?_
  refine al_g_RX8_10 S hK hW dX8_prune_1 ?_
  refine lv_iload_n S.1 S.2.1 dX8_prune_4 rfl (lv_at hl 1 rfl) ?_
  refine al_cP (rest := []) S hK hW (al_X6_isNode l D cy ad σ 0 (by omega) x) al_mi_X6_isNode al_ml_RX8_58 rfl (al_rc_T D cy ad _ (t := 0) (by omega)) rfl hl.1 rfl (Nat.le_of_ble_eq_true rfl) dX8_prune_5 ⟨Nat.le_of_ble_eq_true rfl, Nat.le_of_ble_eq_true rfl⟩ ⟨Nat.zero_le _, Nat.zero_le _⟩ ?_
  refine W.eq (g2 := F0 m 8 ls [.int (al_isN σ 0 x)]) rfl ?_
  refine lv_if_ne (tgt := 13) S.1 S.2.1 dX8_prune_8 (by decide) (fun c1 => ?_) (fun c1 => ?_)
  · refine lv_iload_n S.1 S.2.1 dX8_prune_13 rfl (lv_at hl 1 rfl) ?_
    refine lv_if_eq (tgt := 28) S.1 S.2.1 dX8_prune_14 (by decide) (fun c2 => ?_) (fun c2 => ?_)
    · refine lv_bipush (v := -4) S.1 S.2.1 dX8_prune_28 (by decide) ?_
      exact W.iret S.1 S.2.1 hr (fun t9 ht9 _ => ⟨(congrArg (fun z => Outcome.returned (some (Value.int z))) (by simp only [al_prune, if_neg (c1), if_pos (c2)])), by rw [ht9]; exact (al_He hW (by simp only [al_prune, if_neg (c1), if_pos (c2)])), hS.F ht9⟩) hS.2.2 dX8_prune_30
    · refine lv_aload_n S.1 S.2.1 dX8_prune_17 rfl (lv_at hl 0 rfl) ?_
      refine al_g_RX8_35 S hK hW dX8_prune_18 ?_
      refine lv_iload_n S.1 S.2.1 dX8_prune_21 rfl (lv_at hl 1 rfl) ?_
      refine al_cP (rest := []) S hK hW (al_X4_isLeaf l D cy ad σ x) al_mi_X4_isLeaf al_ml_RX8_79 rfl (al_rc_4 D cy ad _) rfl hl.1 rfl (Nat.le_of_ble_eq_true rfl) dX8_prune_22 ⟨Nat.le_of_ble_eq_true rfl, Nat.le_of_ble_eq_true rfl⟩ ⟨Nat.zero_le _, Nat.zero_le _⟩ ?_
      refine W.eq (g2 := F0 m 25 ls [.int (al_isLf σ x)]) rfl ?_
      refine lv_if_ne (tgt := 31) S.1 S.2.1 dX8_prune_25 (by decide) (fun c3 => ?_) (fun c3 => ?_)
      · refine lv_aload_n S.1 S.2.1 dX8_prune_31 rfl (lv_at hl 0 rfl) ?_
        refine al_g_RX8_26 S hK hW dX8_prune_32 ?_
        refine lv_aload_n S.1 S.2.1 dX8_prune_35 rfl (lv_at hl 0 rfl) ?_
        refine al_g_RX8_10 S hK hW dX8_prune_36 ?_
        refine al_cS (rest := []) S hK hW hS (al_X1_record l D cy ad σ 0 (by omega) h1) al_mi_X1_record al_ml_RX8_68 rfl (al_rc_1 D cy ad _) rfl hl.1 rfl (Nat.le_of_ble_eq_true rfl) dX8_prune_39 ⟨Nat.le_of_ble_eq_true rfl, Nat.le_of_ble_eq_true rfl⟩ ⟨Nat.zero_le _, Nat.zero_le _⟩ (fun H locs hW hS => ?_)
        refine W.eq (g2 := F0 m 42 ls []) rfl ?_
        refine lv_aload_n S.1 S.2.1 dX8_prune_42 rfl (lv_at hl 0 rfl) ?_
        refine al_g_RX8_10 S hK hW dX8_prune_43 ?_
        refine lv_iload_n S.1 S.2.1 dX8_prune_46 rfl (lv_at hl 1 rfl) ?_
        refine al_cP (rest := []) S hK hW (al_X6_parentOf l D cy ad (al_record σ 0) 0 (by omega) x) al_mi_X6_parentOf al_ml_RX8_82 rfl (al_rc_T D cy ad _ (t := 0) (by omega)) rfl hl.1 rfl (Nat.le_of_ble_eq_true rfl) dX8_prune_47 ⟨Nat.le_of_ble_eq_true rfl, Nat.le_of_ble_eq_true rfl⟩ ⟨Nat.zero_le _, Nat.zero_le _⟩ ?_
        refine W.eq (g2 := F0 m 50 ls [.int (al_rg ((al_record σ 0).1 (2 * 0)) x)]) rfl ?_
        refine lv_istore_n (lv' := [(2, .int (al_rg ((al_record σ 0).1 (2 * 0)) x)), (0, .ref (ad (0))), (1, .int x)]) S.1 S.2.1 dX8_prune_50 rfl hl (by decide) rfl (fun ls hl => ?_)
        refine lv_aload_n S.1 S.2.1 dX8_prune_51 rfl (lv_at hl 1 rfl) ?_
        refine al_g_RX8_10 S hK hW dX8_prune_52 ?_
        refine lv_iload_n S.1 S.2.1 dX8_prune_55 rfl (lv_at hl 2 rfl) ?_
        refine al_cS (rest := []) S hK hW hS (al_X6_remove l D cy ad (al_record σ 0) 0 (by omega) x) al_mi_X6_remove al_ml_RX8_86 rfl (al_rc_T D cy ad _ (t := 0) (by omega)) rfl hl.1 rfl (Nat.le_of_ble_eq_true rfl) dX8_prune_56 ⟨Nat.le_of_ble_eq_true rfl, Nat.le_of_ble_eq_true rfl⟩ ⟨Nat.zero_le _, Nat.zero_le _⟩ (fun H locs hW hS => ?_)
        refine W.eq (g2 := F0 m 59 ls []) rfl ?_
        refine lv_aload_n S.1 S.2.1 dX8_prune_59 rfl (lv_at hl 1 rfl) ?_
        refine al_cS (rest := []) S hK hW hS (al_X8_lookAround l D cy ad (al_set (al_record σ 0) (2 * 0) x (-2)) (hO c1 c2 c3)) al_mi_X8_lookAround al_ml_RX8_55 rfl (al_rc_8 D cy ad _) rfl hl.1 rfl (Nat.le_of_ble_eq_true rfl) dX8_prune_60 ⟨Nat.le_of_ble_eq_true rfl, Nat.le_of_ble_eq_true rfl⟩ ⟨Nat.zero_le _, Nat.zero_le _⟩ (fun H locs hW hS => ?_)
        refine W.eq (g2 := F0 m 63 ls []) rfl ?_
        refine lv_aload_n S.1 S.2.1 dX8_prune_63 rfl (lv_at hl 1 rfl) ?_
        refine al_g_RX8_35 S hK hW dX8_prune_64 ?_
        refine lv_iload_n S.1 S.2.1 dX8_prune_67 rfl (lv_at hl 0 rfl) ?_
        refine al_cP (rest := []) S hK hW (al_X4_childrenOf l D cy ad (al_look (al_set (al_record σ 0) (2 * 0) x (-2))) (al_rg ((al_record σ 0).1 (2 * 0)) x)) al_mi_X4_childrenOf al_ml_RX8_90 rfl (al_rc_4 D cy ad _) rfl hl.1 rfl (Nat.le_of_ble_eq_true rfl) dX8_prune_68 ⟨Nat.le_of_ble_eq_true rfl, Nat.le_of_ble_eq_true rfl⟩ ⟨Nat.zero_le _, Nat.zero_le _⟩ ?_
        refine W.eq (g2 := F0 m 71 ls [.int (al_rg ((al_look (al_set (al_record σ 0) (2 * 0) x (-2))).1 17) (al_rg ((al_record σ 0).1 (2 * 0)) x))]) rfl ?_
        exact W.iret S.1 S.2.1 hr (fun t9 ht9 _ => ⟨(congrArg (fun z => Outcome.returned (some (Value.int z))) (by simp only [al_prune, if_neg (c1), if_neg (c2), if_neg (c3)])), by rw [ht9]; exact (al_He hW (by simp only [al_prune, if_neg (c1), if_neg (c2), if_neg (c3)])), hS.F ht9⟩) hS.2.2 dX8_prune_71
      · refine lv_bipush (v := -4) S.1 S.2.1 dX8_prune_28 (by decide) ?_
        exact W.iret S.1 S.2.1 hr (fun t9 ht9 _ => ⟨(congrArg (fun z => Outcome.returned (some (Value.int z))) (by simp only [al_prune, if_neg (c1), if_neg (c2), if_pos (c3)])), by rw [ht9]; exact (al_He hW (by simp only [al_prune, if_neg (c1), if_neg (c2), if_pos (c3)])), hS.F ht9⟩) hS.2.2 dX8_prune_30
  · refine lv_iconst (v := -1) S.1 S.2.1 dX8_prune_11 (by decide) ?_
    exact W.iret S.1 S.2.1 hr (fun t9 ht9 _ => ⟨(congrArg (fun z => Outcome.returned (some (Value.int z))) (by simp only [al_prune, if_pos (c1)])), by rw [ht9]; exact (al_He hW (by simp only [al_prune, if_pos (c1)])), hS.F ht9⟩) hS.2.2 dX8_prune_12
theorem al_mv_X8_graft : al_mv yX8_graft cX8_graft 4 (some .int) 2 := ⟨al_c_X8_graft, al_ini_RX8, ⟨by decide +kernel, by decide +kernel, by decide +kernel⟩, by decide +kernel⟩
theorem al_mi_X8_graft : al_mi yX8_graft cX8_graft 4 (some .int) 2 := ⟨al_mv_X8_graft, al_in_X8_graft, al_se_X8_graft⟩
set_option maxHeartbeats 4000000 in
set_option maxRecDepth 100000 in
theorem al_X8_graft (l : Launch) (D : va_G) (cy : al_CY) (ad : Nat → Nat) (σ : al_St) (x : Int32) (u : Int32) (h1 : ¬ σ.2.2.1 7 < 0) (hO : ¬ al_isN σ 0 x = 0 → ¬ al_isN σ 0 u = 0 → ¬ x = 0 → al_inB σ u x = 0 → ¬ al_rg (σ.1 (2 * 0)) x = u → al_lOK (al_set (al_record σ 0) (2 * 0) x u)) : al_MS l yX8_graft cX8_graft 4 (some .int) 5 109 D cy ad σ [.ref (ad (0)), .int x, .int u] (some (.int ((al_graft σ x u).1))) ((al_graft σ x u).2) := by
  refine al_met al_mv_X8_graft (Nat.le_of_ble_eq_true rfl) ?_
  intro p e s m args below meth c ls S hr hlocks hK hW hS hl
  have hl : lv_has ls 4 [(0, .ref (ad (0))), (1, .int x), (2, .int u)] := hl
  refine lv_aload_n S.1 S.2.1 dX8_graft_0 rfl (lv_at hl 0 rfl) ?_
  refine al_g_RX8_10 S hK hW dX8_graft_1 ?_
  refine lv_iload_n S.1 S.2.1 dX8_graft_4 rfl (lv_at hl 1 rfl) ?_
  refine al_cP (rest := []) S hK hW (al_X6_isNode l D cy ad σ 0 (by omega) x) al_mi_X6_isNode al_ml_RX8_58 rfl (al_rc_T D cy ad _ (t := 0) (by omega)) rfl hl.1 rfl (Nat.le_of_ble_eq_true rfl) dX8_graft_5 ⟨Nat.le_of_ble_eq_true rfl, Nat.le_of_ble_eq_true rfl⟩ ⟨Nat.zero_le _, Nat.zero_le _⟩ ?_
  refine W.eq (g2 := F0 m 8 ls [.int (al_isN σ 0 x)]) rfl ?_
  refine lv_if_eq (tgt := 22) S.1 S.2.1 dX8_graft_8 (by decide) (fun c1 => ?_) (fun c1 => ?_)
  · refine lv_iconst (v := -1) S.1 S.2.1 dX8_graft_22 (by decide) ?_
    exact W.iret S.1 S.2.1 hr (fun t9 ht9 _ => ⟨(congrArg (fun z => Outcome.returned (some (Value.int z))) (by simp only [al_graft, if_pos (c1)])), by rw [ht9]; exact (al_He hW (by simp only [al_graft, if_pos (c1)])), hS.F ht9⟩) hS.2.2 dX8_graft_23
  · refine lv_aload_n S.1 S.2.1 dX8_graft_11 rfl (lv_at hl 0 rfl) ?_
    refine al_g_RX8_10 S hK hW dX8_graft_12 ?_
    refine lv_iload_n S.1 S.2.1 dX8_graft_15 rfl (lv_at hl 2 rfl) ?_
    refine al_cP (rest := []) S hK hW (al_X6_isNode l D cy ad σ 0 (by omega) u) al_mi_X6_isNode al_ml_RX8_58 rfl (al_rc_T D cy ad _ (t := 0) (by omega)) rfl hl.1 rfl (Nat.le_of_ble_eq_true rfl) dX8_graft_16 ⟨Nat.le_of_ble_eq_true rfl, Nat.le_of_ble_eq_true rfl⟩ ⟨Nat.zero_le _, Nat.zero_le _⟩ ?_
    refine W.eq (g2 := F0 m 19 ls [.int (al_isN σ 0 u)]) rfl ?_
    refine lv_if_ne (tgt := 24) S.1 S.2.1 dX8_graft_19 (by decide) (fun c2 => ?_) (fun c2 => ?_)
    · refine lv_iload_n S.1 S.2.1 dX8_graft_24 rfl (lv_at hl 1 rfl) ?_
      refine lv_if_eq (tgt := 40) S.1 S.2.1 dX8_graft_25 (by decide) (fun c3 => ?_) (fun c3 => ?_)
      · refine lv_bipush (v := -4) S.1 S.2.1 dX8_graft_40 (by decide) ?_
        exact W.iret S.1 S.2.1 hr (fun t9 ht9 _ => ⟨(congrArg (fun z => Outcome.returned (some (Value.int z))) (by simp only [al_graft, if_neg (c1), if_neg (c2), if_pos (c3)])), by rw [ht9]; exact (al_He hW (by simp only [al_graft, if_neg (c1), if_neg (c2), if_pos (c3)])), hS.F ht9⟩) hS.2.2 dX8_graft_42
      · refine lv_aload_n S.1 S.2.1 dX8_graft_28 rfl (lv_at hl 0 rfl) ?_
        refine al_g_RX8_35 S hK hW dX8_graft_29 ?_
        refine lv_iload_n S.1 S.2.1 dX8_graft_32 rfl (lv_at hl 2 rfl) ?_
        refine lv_iload_n S.1 S.2.1 dX8_graft_33 rfl (lv_at hl 1 rfl) ?_
        refine al_cP (rest := []) S hK hW (al_X4_isInBranch l D cy ad σ u x) al_mi_X4_isInBranch al_ml_RX8_93 rfl (al_rc_4 D cy ad _) rfl hl.1 rfl (Nat.le_of_ble_eq_true rfl) dX8_graft_34 ⟨Nat.le_of_ble_eq_true rfl, Nat.le_of_ble_eq_true rfl⟩ ⟨Nat.zero_le _, Nat.zero_le _⟩ ?_
        refine W.eq (g2 := F0 m 37 ls [.int (al_inB σ u x)]) rfl ?_
        refine lv_if_eq (tgt := 43) S.1 S.2.1 dX8_graft_37 (by decide) (fun c4 => ?_) (fun c4 => ?_)
        · refine lv_aload_n S.1 S.2.1 dX8_graft_43 rfl (lv_at hl 0 rfl) ?_
          refine al_g_RX8_10 S hK hW dX8_graft_44 ?_
          refine lv_iload_n S.1 S.2.1 dX8_graft_47 rfl (lv_at hl 1 rfl) ?_
          refine al_cP (rest := []) S hK hW (al_X6_parentOf l D cy ad σ 0 (by omega) x) al_mi_X6_parentOf al_ml_RX8_82 rfl (al_rc_T D cy ad _ (t := 0) (by omega)) rfl hl.1 rfl (Nat.le_of_ble_eq_true rfl) dX8_graft_48 ⟨Nat.le_of_ble_eq_true rfl, Nat.le_of_ble_eq_true rfl⟩ ⟨Nat.zero_le _, Nat.zero_le _⟩ ?_
          refine W.eq (g2 := F0 m 51 ls [.int (al_rg (σ.1 (2 * 0)) x)]) rfl ?_
          refine lv_istore_n (lv' := [(3, .int (al_rg (σ.1 (2 * 0)) x)), (0, .ref (ad (0))), (1, .int x), (2, .int u)]) S.1 S.2.1 dX8_graft_51 rfl hl (by decide) rfl (fun ls hl => ?_)
          refine lv_iload_n S.1 S.2.1 dX8_graft_52 rfl (lv_at hl 0 rfl) ?_
          refine lv_iload_n S.1 S.2.1 dX8_graft_53 rfl (lv_at hl 3 rfl) ?_
          refine lv_icmp_ne (tgt := 60) S.1 S.2.1 dX8_graft_54 (by decide) (fun c5 => ?_) (fun c5 => ?_)
          · refine lv_aload_n S.1 S.2.1 dX8_graft_60 rfl (lv_at hl 1 rfl) ?_
            refine al_g_RX8_26 S hK hW dX8_graft_61 ?_
            refine lv_aload_n S.1 S.2.1 dX8_graft_64 rfl (lv_at hl 1 rfl) ?_
            refine al_g_RX8_10 S hK hW dX8_graft_65 ?_
            refine al_cS (rest := []) S hK hW hS (al_X1_record l D cy ad σ 0 (by omega) h1) al_mi_X1_record al_ml_RX8_68 rfl (al_rc_1 D cy ad _) rfl hl.1 rfl (Nat.le_of_ble_eq_true rfl) dX8_graft_68 ⟨Nat.le_of_ble_eq_true rfl, Nat.le_of_ble_eq_true rfl⟩ ⟨Nat.zero_le _, Nat.zero_le _⟩ (fun H locs hW hS => ?_)
            refine W.eq (g2 := F0 m 71 ls []) rfl ?_
            refine lv_aload_n S.1 S.2.1 dX8_graft_71 rfl (lv_at hl 1 rfl) ?_
            refine al_g_RX8_10 S hK hW dX8_graft_72 ?_
            refine lv_iload_n S.1 S.2.1 dX8_graft_75 rfl (lv_at hl 2 rfl) ?_
            refine lv_iload_n S.1 S.2.1 dX8_graft_76 rfl (lv_at hl 3 rfl) ?_
            refine al_cS (rest := []) S hK hW hS (al_X6_hang l D cy ad (al_record σ 0) 0 (by omega) x u) al_mi_X6_hang al_ml_RX8_97 rfl (al_rc_T D cy ad _ (t := 0) (by omega)) rfl hl.1 rfl (Nat.le_of_ble_eq_true rfl) dX8_graft_77 ⟨Nat.le_of_ble_eq_true rfl, Nat.le_of_ble_eq_true rfl⟩ ⟨Nat.zero_le _, Nat.zero_le _⟩ (fun H locs hW hS => ?_)
            refine W.eq (g2 := F0 m 80 ls []) rfl ?_
            refine lv_aload_n S.1 S.2.1 dX8_graft_80 rfl (lv_at hl 1 rfl) ?_
            refine al_cS (rest := []) S hK hW hS (al_X8_lookAround l D cy ad (al_set (al_record σ 0) (2 * 0) x u) (hO c1 c2 c3 c4 c5)) al_mi_X8_lookAround al_ml_RX8_55 rfl (al_rc_8 D cy ad _) rfl hl.1 rfl (Nat.le_of_ble_eq_true rfl) dX8_graft_81 ⟨Nat.le_of_ble_eq_true rfl, Nat.le_of_ble_eq_true rfl⟩ ⟨Nat.zero_le _, Nat.zero_le _⟩ (fun H locs hW hS => ?_)
            refine W.eq (g2 := F0 m 84 ls []) rfl ?_
            refine lv_iload_n S.1 S.2.1 dX8_graft_84 rfl (lv_at hl 0 rfl) ?_
            exact W.iret S.1 S.2.1 hr (fun t9 ht9 _ => ⟨(congrArg (fun z => Outcome.returned (some (Value.int z))) (by simp only [al_graft, if_neg (c1), if_neg (c2), if_neg (c3), if_pos (c4), if_neg (c5)])), by rw [ht9]; exact (al_He hW (by simp only [al_graft, if_neg (c1), if_neg (c2), if_neg (c3), if_pos (c4), if_neg (c5)])), hS.F ht9⟩) hS.2.2 dX8_graft_85
          · refine lv_bipush (v := -5) S.1 S.2.1 dX8_graft_57 (by decide) ?_
            exact W.iret S.1 S.2.1 hr (fun t9 ht9 _ => ⟨(congrArg (fun z => Outcome.returned (some (Value.int z))) (by simp only [al_graft, if_neg (c1), if_neg (c2), if_neg (c3), if_pos (c4), if_pos (c5)])), by rw [ht9]; exact (al_He hW (by simp only [al_graft, if_neg (c1), if_neg (c2), if_neg (c3), if_pos (c4), if_pos (c5)])), hS.F ht9⟩) hS.2.2 dX8_graft_59
        · refine lv_bipush (v := -4) S.1 S.2.1 dX8_graft_40 (by decide) ?_
          exact W.iret S.1 S.2.1 hr (fun t9 ht9 _ => ⟨(congrArg (fun z => Outcome.returned (some (Value.int z))) (by simp only [al_graft, if_neg (c1), if_neg (c2), if_neg (c3), if_neg (c4)])), by rw [ht9]; exact (al_He hW (by simp only [al_graft, if_neg (c1), if_neg (c2), if_neg (c3), if_neg (c4)])), hS.F ht9⟩) hS.2.2 dX8_graft_42
    · refine lv_iconst (v := -1) S.1 S.2.1 dX8_graft_22 (by decide) ?_
      exact W.iret S.1 S.2.1 hr (fun t9 ht9 _ => ⟨(congrArg (fun z => Outcome.returned (some (Value.int z))) (by simp only [al_graft, if_neg (c1), if_pos (c2)])), by rw [ht9]; exact (al_He hW (by simp only [al_graft, if_neg (c1), if_pos (c2)])), hS.F ht9⟩) hS.2.2 dX8_graft_23
theorem al_mv_X8_setLength : al_mv yX8_setLength cX8_setLength 4 (some .int) 2 := ⟨al_c_X8_setLength, al_ini_RX8, ⟨by decide +kernel, by decide +kernel, by decide +kernel⟩, by decide +kernel⟩
theorem al_mi_X8_setLength : al_mi yX8_setLength cX8_setLength 4 (some .int) 2 := ⟨al_mv_X8_setLength, al_in_X8_setLength, al_se_X8_setLength⟩
set_option maxHeartbeats 4000000 in
set_option maxRecDepth 100000 in
theorem al_X8_setLength (l : Launch) (D : va_G) (cy : al_CY) (ad : Nat → Nat) (σ : al_St) (x : Int32) (b : Int32) (h1 : ¬ σ.2.2.1 7 < 0) (hO : ¬ al_isN σ 0 x = 0 → ¬ al_isLen b = 0 → ¬ x = 0 → ¬ al_rg (σ.1 (2 * 0 + 1)) x = b → al_lOK (al_stretch (al_record σ 0) 0 x b (al_toF b))) : al_MS l yX8_setLength cX8_setLength 4 (some .int) 5 109 D cy ad σ [.ref (ad (0)), .int x, .int b] (some (.int ((al_setLen σ x b).1))) ((al_setLen σ x b).2) := by
  refine al_met al_mv_X8_setLength (Nat.le_of_ble_eq_true rfl) ?_
  intro p e s m args below meth c ls S hr hlocks hK hW hS hl
  have hl : lv_has ls 4 [(0, .ref (ad (0))), (1, .int x), (2, .int b)] := hl
  refine lv_aload_n S.1 S.2.1 dX8_setLength_0 rfl (lv_at hl 0 rfl) ?_
  refine al_g_RX8_10 S hK hW dX8_setLength_1 ?_
  refine lv_iload_n S.1 S.2.1 dX8_setLength_4 rfl (lv_at hl 1 rfl) ?_
  refine al_cP (rest := []) S hK hW (al_X6_isNode l D cy ad σ 0 (by omega) x) al_mi_X6_isNode al_ml_RX8_58 rfl (al_rc_T D cy ad _ (t := 0) (by omega)) rfl hl.1 rfl (Nat.le_of_ble_eq_true rfl) dX8_setLength_5 ⟨Nat.le_of_ble_eq_true rfl, Nat.le_of_ble_eq_true rfl⟩ ⟨Nat.zero_le _, Nat.zero_le _⟩ ?_
  refine W.eq (g2 := F0 m 8 ls [.int (al_isN σ 0 x)]) rfl ?_
  refine lv_if_ne (tgt := 13) S.1 S.2.1 dX8_setLength_8 (by decide) (fun c1 => ?_) (fun c1 => ?_)
  · refine lv_iload_n S.1 S.2.1 dX8_setLength_13 rfl (lv_at hl 2 rfl) ?_
    refine al_cPs (rest := []) S hK hW (al_X8_isLength l D cy ad σ b) al_ms_X8_isLength al_ml_RX8_62 rfl hl.1 rfl (Nat.le_of_ble_eq_true rfl) dX8_setLength_14 ⟨Nat.le_of_ble_eq_true rfl, Nat.le_of_ble_eq_true rfl⟩ ⟨Nat.zero_le _, Nat.zero_le _⟩ ?_
    refine W.eq (g2 := F0 m 17 ls [.int (al_isLen b)]) rfl ?_
    refine lv_if_ne (tgt := 23) S.1 S.2.1 dX8_setLength_17 (by decide) (fun c2 => ?_) (fun c2 => ?_)
    · refine lv_iload_n S.1 S.2.1 dX8_setLength_23 rfl (lv_at hl 1 rfl) ?_
      refine lv_if_ne (tgt := 30) S.1 S.2.1 dX8_setLength_24 (by decide) (fun c3 => ?_) (fun c3 => ?_)
      · refine lv_aload_n S.1 S.2.1 dX8_setLength_30 rfl (lv_at hl 0 rfl) ?_
        refine al_g_RX8_10 S hK hW dX8_setLength_31 ?_
        refine lv_iload_n S.1 S.2.1 dX8_setLength_34 rfl (lv_at hl 1 rfl) ?_
        refine al_cP (rest := []) S hK hW (al_X6_bitsOf l D cy ad σ 0 (by omega) x) al_mi_X6_bitsOf al_ml_RX8_101 rfl (al_rc_T D cy ad _ (t := 0) (by omega)) rfl hl.1 rfl (Nat.le_of_ble_eq_true rfl) dX8_setLength_35 ⟨Nat.le_of_ble_eq_true rfl, Nat.le_of_ble_eq_true rfl⟩ ⟨Nat.zero_le _, Nat.zero_le _⟩ ?_
        refine W.eq (g2 := F0 m 38 ls [.int (al_rg (σ.1 (2 * 0 + 1)) x)]) rfl ?_
        refine lv_istore_n (lv' := [(3, .int (al_rg (σ.1 (2 * 0 + 1)) x)), (0, .ref (ad (0))), (1, .int x), (2, .int b)]) S.1 S.2.1 dX8_setLength_38 rfl hl (by decide) rfl (fun ls hl => ?_)
        refine lv_iload_n S.1 S.2.1 dX8_setLength_39 rfl (lv_at hl 0 rfl) ?_
        refine lv_iload_n S.1 S.2.1 dX8_setLength_40 rfl (lv_at hl 3 rfl) ?_
        refine lv_icmp_ne (tgt := 47) S.1 S.2.1 dX8_setLength_41 (by decide) (fun c4 => ?_) (fun c4 => ?_)
        · refine lv_aload_n S.1 S.2.1 dX8_setLength_47 rfl (lv_at hl 1 rfl) ?_
          refine al_g_RX8_26 S hK hW dX8_setLength_48 ?_
          refine lv_aload_n S.1 S.2.1 dX8_setLength_51 rfl (lv_at hl 1 rfl) ?_
          refine al_g_RX8_10 S hK hW dX8_setLength_52 ?_
          refine al_cS (rest := []) S hK hW hS (al_X1_record l D cy ad σ 0 (by omega) h1) al_mi_X1_record al_ml_RX8_68 rfl (al_rc_1 D cy ad _) rfl hl.1 rfl (Nat.le_of_ble_eq_true rfl) dX8_setLength_55 ⟨Nat.le_of_ble_eq_true rfl, Nat.le_of_ble_eq_true rfl⟩ ⟨Nat.zero_le _, Nat.zero_le _⟩ (fun H locs hW hS => ?_)
          refine W.eq (g2 := F0 m 58 ls []) rfl ?_
          refine lv_aload_n S.1 S.2.1 dX8_setLength_58 rfl (lv_at hl 1 rfl) ?_
          refine al_g_RX8_10 S hK hW dX8_setLength_59 ?_
          refine lv_iload_n S.1 S.2.1 dX8_setLength_62 rfl (lv_at hl 2 rfl) ?_
          refine lv_iload_n S.1 S.2.1 dX8_setLength_63 rfl (lv_at hl 3 rfl) ?_
          refine lv_iload_n S.1 S.2.1 dX8_setLength_64 rfl (lv_at hl 3 rfl) ?_
          refine al_cPs (rest := [.int b, .int x, .ref (ad (8 + 0))]) S hK hW (al_X8_toFloat l D cy ad (al_record σ 0) b c2) al_ms_X8_toFloat al_ml_RX8_71 rfl hl.1 rfl (Nat.le_of_ble_eq_true rfl) dX8_setLength_65 ⟨Nat.le_of_ble_eq_true rfl, Nat.le_of_ble_eq_true rfl⟩ ⟨Nat.zero_le _, Nat.zero_le _⟩ ?_
          refine W.eq (g2 := F0 m 68 ls [.float (al_toF b), .int b, .int x, .ref (ad (8 + 0))]) rfl ?_
          refine al_cS (rest := []) S hK hW hS (al_X6_stretch l D cy ad (al_record σ 0) 0 (by omega) x b (al_toF b)) al_mi_X6_stretch al_ml_RX8_104 rfl (al_rc_T D cy ad _ (t := 0) (by omega)) rfl hl.1 rfl (Nat.le_of_ble_eq_true rfl) dX8_setLength_68 ⟨Nat.le_of_ble_eq_true rfl, Nat.le_of_ble_eq_true rfl⟩ ⟨Nat.zero_le _, Nat.zero_le _⟩ (fun H locs hW hS => ?_)
          refine W.eq (g2 := F0 m 71 ls []) rfl ?_
          refine lv_aload_n S.1 S.2.1 dX8_setLength_71 rfl (lv_at hl 1 rfl) ?_
          refine al_cS (rest := []) S hK hW hS (al_X8_lookAround l D cy ad (al_stretch (al_record σ 0) 0 x b (al_toF b)) (hO c1 c2 c3 c4)) al_mi_X8_lookAround al_ml_RX8_55 rfl (al_rc_8 D cy ad _) rfl hl.1 rfl (Nat.le_of_ble_eq_true rfl) dX8_setLength_72 ⟨Nat.le_of_ble_eq_true rfl, Nat.le_of_ble_eq_true rfl⟩ ⟨Nat.zero_le _, Nat.zero_le _⟩ (fun H locs hW hS => ?_)
          refine W.eq (g2 := F0 m 75 ls []) rfl ?_
          refine lv_iload_n S.1 S.2.1 dX8_setLength_75 rfl (lv_at hl 0 rfl) ?_
          exact W.iret S.1 S.2.1 hr (fun t9 ht9 _ => ⟨(congrArg (fun z => Outcome.returned (some (Value.int z))) (by simp only [al_setLen, if_neg (c1), if_neg (c2), if_neg (c3), if_neg (c4)])), by rw [ht9]; exact (al_He hW (by simp only [al_setLen, if_neg (c1), if_neg (c2), if_neg (c3), if_neg (c4)])), hS.F ht9⟩) hS.2.2 dX8_setLength_76
        · refine lv_bipush (v := -5) S.1 S.2.1 dX8_setLength_44 (by decide) ?_
          exact W.iret S.1 S.2.1 hr (fun t9 ht9 _ => ⟨(congrArg (fun z => Outcome.returned (some (Value.int z))) (by simp only [al_setLen, if_neg (c1), if_neg (c2), if_neg (c3), if_pos (c4)])), by rw [ht9]; exact (al_He hW (by simp only [al_setLen, if_neg (c1), if_neg (c2), if_neg (c3), if_pos (c4)])), hS.F ht9⟩) hS.2.2 dX8_setLength_46
      · refine lv_bipush (v := -4) S.1 S.2.1 dX8_setLength_27 (by decide) ?_
        exact W.iret S.1 S.2.1 hr (fun t9 ht9 _ => ⟨(congrArg (fun z => Outcome.returned (some (Value.int z))) (by simp only [al_setLen, if_neg (c1), if_neg (c2), if_pos (c3)])), by rw [ht9]; exact (al_He hW (by simp only [al_setLen, if_neg (c1), if_neg (c2), if_pos (c3)])), hS.F ht9⟩) hS.2.2 dX8_setLength_29
    · refine lv_bipush (v := -2) S.1 S.2.1 dX8_setLength_20 (by decide) ?_
      exact W.iret S.1 S.2.1 hr (fun t9 ht9 _ => ⟨(congrArg (fun z => Outcome.returned (some (Value.int z))) (by simp only [al_setLen, if_neg (c1), if_pos (c2)])), by rw [ht9]; exact (al_He hW (by simp only [al_setLen, if_neg (c1), if_pos (c2)])), hS.F ht9⟩) hS.2.2 dX8_setLength_22
  · refine lv_iconst (v := -1) S.1 S.2.1 dX8_setLength_11 (by decide) ?_
    exact W.iret S.1 S.2.1 hr (fun t9 ht9 _ => ⟨(congrArg (fun z => Outcome.returned (some (Value.int z))) (by simp only [al_setLen, if_pos (c1)])), by rw [ht9]; exact (al_He hW (by simp only [al_setLen, if_pos (c1)])), hS.F ht9⟩) hS.2.2 dX8_setLength_12
theorem al_mv_X8_type : al_mv yX8_type cX8_type 2 (some .int) 1 := ⟨al_c_X8_type, al_ini_RX8, ⟨by decide +kernel, by decide +kernel, by decide +kernel⟩, by decide +kernel⟩
theorem al_mi_X8_type : al_mi yX8_type cX8_type 2 (some .int) 1 := ⟨al_mv_X8_type, al_in_X8_type, al_se_X8_type⟩
set_option maxHeartbeats 4000000 in
set_option maxRecDepth 100000 in
theorem al_X8_type (l : Launch) (D : va_G) (cy : al_CY) (ad : Nat → Nat) (σ : al_St) (x : Int32) (hx : vp_nar .char x = x) : al_MS l yX8_type cX8_type 2 (some .int) 1 21 D cy ad σ [.ref (ad (0)), .int x] (some (.int ((al_type σ x).1))) ((al_type σ x).2) := by
  refine al_met al_mv_X8_type (Nat.le_of_ble_eq_true rfl) ?_
  intro p e s m args below meth c ls S hr hlocks hK hW hS hl
  have hl : lv_has ls 2 [(0, .ref (ad (0))), (1, .int x)] := hl
  refine lv_aload_n S.1 S.2.1 dX8_type_0 rfl (lv_at hl 0 rfl) ?_
  refine al_g_RX8_19 S hK hW dX8_type_1 ?_
  refine lv_iload_n S.1 S.2.1 dX8_type_4 rfl (lv_at hl 1 rfl) ?_
  refine al_cS (rest := []) S hK hW hS (al_X5_put l D cy ad σ x hx) al_mi_X5_put al_ml_RX8_108 rfl (al_rc_5 D cy ad _) rfl hl.1 rfl (Nat.le_of_ble_eq_true rfl) dX8_type_5 ⟨Nat.le_of_ble_eq_true rfl, Nat.le_of_ble_eq_true rfl⟩ ⟨Nat.zero_le _, Nat.zero_le _⟩ (fun H locs hW hS => ?_)
  refine W.eq (g2 := F0 m 8 ls [.int ((al_put σ x).1)]) rfl ?_
  refine lv_if_eq (tgt := 21) S.1 S.2.1 dX8_type_8 (by decide) (fun c1 => ?_) (fun c1 => ?_)
  · refine lv_bipush (v := -3) S.1 S.2.1 dX8_type_21 (by decide) ?_
    exact W.iret S.1 S.2.1 hr (fun t9 ht9 _ => ⟨(congrArg (fun z => Outcome.returned (some (Value.int z))) (by simp only [al_type, if_pos (c1)])), by rw [ht9]; exact (al_He hW (by simp only [al_type, if_pos (c1)])), hS.F ht9⟩) hS.2.2 dX8_type_23
  · refine lv_aload_n S.1 S.2.1 dX8_type_11 rfl (lv_at hl 0 rfl) ?_
    refine al_g_RX8_19 S hK hW dX8_type_12 ?_
    refine al_cP (rest := []) S hK hW (al_X5_length l D cy ad ((al_put σ x).2) ) al_mi_X5_length al_ml_RX8_112 rfl (al_rc_5 D cy ad _) rfl hl.1 rfl (Nat.le_of_ble_eq_true rfl) dX8_type_15 ⟨Nat.le_of_ble_eq_true rfl, Nat.le_of_ble_eq_true rfl⟩ ⟨Nat.zero_le _, Nat.zero_le _⟩ ?_
    refine W.eq (g2 := F0 m 18 ls [.int (((al_put σ x).2).2.2.1 6)]) rfl ?_
    refine lv_goto (tgt := 23) S.1 S.2.1 dX8_type_18 (by decide) ?_
    exact W.iret S.1 S.2.1 hr (fun t9 ht9 _ => ⟨(congrArg (fun z => Outcome.returned (some (Value.int z))) (by simp only [al_type, if_neg (c1)])), by rw [ht9]; exact (al_He hW (by simp only [al_type, if_neg (c1)])), hS.F ht9⟩) hS.2.2 dX8_type_23
theorem al_mv_X8_grow : al_mv yX8_grow cX8_grow 4 (some .int) 1 := ⟨al_c_X8_grow, al_ini_RX8, ⟨by decide +kernel, by decide +kernel, by decide +kernel⟩, by decide +kernel⟩
theorem al_mi_X8_grow : al_mi yX8_grow cX8_grow 4 (some .int) 1 := ⟨al_mv_X8_grow, al_in_X8_grow, al_se_X8_grow⟩
set_option maxHeartbeats 4000000 in
set_option maxRecDepth 100000 in
theorem al_X8_grow (l : Launch) (D : va_G) (cy : al_CY) (ad : Nat → Nat) (σ : al_St) (u : Int32) (h1 : ¬ σ.2.2.1 7 < 0) (hO : ¬ al_isN σ 0 u = 0 → al_faultL σ 60 0 0 = -1 → ¬ al_room σ 0 (σ.2.2.1 6 / 2) = 0 → al_lOK (al_plantL 0 60 0 u (al_record σ 0))) : al_MS l yX8_grow cX8_grow 4 (some .int) 5 109 D cy ad σ [.ref (ad (0)), .int u] (some (.int ((al_grow σ u).1))) ((al_grow σ u).2) := by
  refine al_met al_mv_X8_grow (Nat.le_of_ble_eq_true rfl) ?_
  intro p e s m args below meth c ls S hr hlocks hK hW hS hl
  have hl : lv_has ls 4 [(0, .ref (ad (0))), (1, .int u)] := hl
  refine lv_aload_n S.1 S.2.1 dX8_grow_0 rfl (lv_at hl 0 rfl) ?_
  refine al_g_RX8_10 S hK hW dX8_grow_1 ?_
  refine lv_iload_n S.1 S.2.1 dX8_grow_4 rfl (lv_at hl 1 rfl) ?_
  refine al_cP (rest := []) S hK hW (al_X6_isNode l D cy ad σ 0 (by omega) u) al_mi_X6_isNode al_ml_RX8_58 rfl (al_rc_T D cy ad _ (t := 0) (by omega)) rfl hl.1 rfl (Nat.le_of_ble_eq_true rfl) dX8_grow_5 ⟨Nat.le_of_ble_eq_true rfl, Nat.le_of_ble_eq_true rfl⟩ ⟨Nat.zero_le _, Nat.zero_le _⟩ ?_
  refine W.eq (g2 := F0 m 8 ls [.int (al_isN σ 0 u)]) rfl ?_
  refine lv_if_ne (tgt := 13) S.1 S.2.1 dX8_grow_8 (by decide) (fun c1 => ?_) (fun c1 => ?_)
  · refine lv_aload_n S.1 S.2.1 dX8_grow_13 rfl (lv_at hl 0 rfl) ?_
    refine al_g_RX8_19 S hK hW dX8_grow_14 ?_
    refine al_cP (rest := []) S hK hW (al_X5_fault l D cy ad σ ) al_mi_X5_fault al_ml_RX8_119 rfl (al_rc_5 D cy ad _) rfl hl.1 rfl (Nat.le_of_ble_eq_true rfl) dX8_grow_17 ⟨Nat.le_of_ble_eq_true rfl, Nat.le_of_ble_eq_true rfl⟩ ⟨Nat.zero_le _, Nat.zero_le _⟩ ?_
    refine W.eq (g2 := F0 m 20 ls [.int (al_faultL σ 60 0 0)]) rfl ?_
    refine lv_istore_n (lv' := [(2, .int (al_faultL σ 60 0 0)), (0, .ref (ad (0))), (1, .int u)]) S.1 S.2.1 dX8_grow_20 rfl hl (by decide) rfl (fun ls hl => ?_)
    refine lv_iload_n S.1 S.2.1 dX8_grow_21 rfl (lv_at hl 0 rfl) ?_
    refine lv_iconst (v := -1) S.1 S.2.1 dX8_grow_22 (by decide) ?_
    refine lv_icmp_eq (tgt := 31) S.1 S.2.1 dX8_grow_23 (by decide) (fun c2 => ?_) (fun c2 => ?_)
    · refine lv_aload_n S.1 S.2.1 dX8_grow_31 rfl (lv_at hl 1 rfl) ?_
      refine al_g_RX8_19 S hK hW dX8_grow_32 ?_
      refine al_cP (rest := []) S hK hW (al_X5_branches l D cy ad σ ) al_mi_X5_branches al_ml_RX8_122 rfl (al_rc_5 D cy ad _) rfl hl.1 rfl (Nat.le_of_ble_eq_true rfl) dX8_grow_35 ⟨Nat.le_of_ble_eq_true rfl, Nat.le_of_ble_eq_true rfl⟩ ⟨Nat.zero_le _, Nat.zero_le _⟩ ?_
      refine W.eq (g2 := F0 m 38 ls [.int (σ.2.2.1 6 / 2)]) rfl ?_
      refine lv_istore_n (lv' := [(3, .int (σ.2.2.1 6 / 2)), (2, .int (al_faultL σ 60 0 0)), (0, .ref (ad (0))), (1, .int u)]) S.1 S.2.1 dX8_grow_38 rfl hl (by decide) rfl (fun ls hl => ?_)
      refine lv_aload_n S.1 S.2.1 dX8_grow_39 rfl (lv_at hl 2 rfl) ?_
      refine al_g_RX8_10 S hK hW dX8_grow_40 ?_
      refine lv_iload_n S.1 S.2.1 dX8_grow_43 rfl (lv_at hl 0 rfl) ?_
      refine al_cP (rest := []) S hK hW (al_X6_hasRoomFor l D cy ad σ 0 (by omega) (σ.2.2.1 6 / 2)) al_mi_X6_hasRoomFor al_ml_RX8_65 rfl (al_rc_T D cy ad _ (t := 0) (by omega)) rfl hl.1 rfl (Nat.le_of_ble_eq_true rfl) dX8_grow_44 ⟨Nat.le_of_ble_eq_true rfl, Nat.le_of_ble_eq_true rfl⟩ ⟨Nat.zero_le _, Nat.zero_le _⟩ ?_
      refine W.eq (g2 := F0 m 47 ls [.int (al_room σ 0 (σ.2.2.1 6 / 2))]) rfl ?_
      refine lv_if_ne (tgt := 53) S.1 S.2.1 dX8_grow_47 (by decide) (fun c3 => ?_) (fun c3 => ?_)
      · refine lv_aload_n S.1 S.2.1 dX8_grow_53 rfl (lv_at hl 2 rfl) ?_
        refine al_g_RX8_26 S hK hW dX8_grow_54 ?_
        refine lv_aload_n S.1 S.2.1 dX8_grow_57 rfl (lv_at hl 2 rfl) ?_
        refine al_g_RX8_10 S hK hW dX8_grow_58 ?_
        refine al_cS (rest := []) S hK hW hS (al_X1_record l D cy ad σ 0 (by omega) h1) al_mi_X1_record al_ml_RX8_68 rfl (al_rc_1 D cy ad _) rfl hl.1 rfl (Nat.le_of_ble_eq_true rfl) dX8_grow_61 ⟨Nat.le_of_ble_eq_true rfl, Nat.le_of_ble_eq_true rfl⟩ ⟨Nat.zero_le _, Nat.zero_le _⟩ (fun H locs hW hS => ?_)
        refine W.eq (g2 := F0 m 64 ls []) rfl ?_
        refine lv_aload_n S.1 S.2.1 dX8_grow_64 rfl (lv_at hl 2 rfl) ?_
        refine al_g_RX8_19 S hK hW dX8_grow_65 ?_
        refine lv_aload_n S.1 S.2.1 dX8_grow_68 rfl (lv_at hl 2 rfl) ?_
        refine al_g_RX8_10 S hK hW dX8_grow_69 ?_
        refine lv_iload_n S.1 S.2.1 dX8_grow_72 rfl (lv_at hl 3 rfl) ?_
        refine al_cS (rest := []) S hK hW hS (al_X5_plant l D cy ad (al_record σ 0) 0 (by omega) u) al_mi_X5_plant al_ml_RX8_125 rfl (al_rc_5 D cy ad _) rfl hl.1 rfl (Nat.le_of_ble_eq_true rfl) dX8_grow_73 ⟨Nat.le_of_ble_eq_true rfl, Nat.le_of_ble_eq_true rfl⟩ ⟨Nat.zero_le _, Nat.zero_le _⟩ (fun H locs hW hS => ?_)
        refine W.eq (g2 := F0 m 76 ls []) rfl ?_
        refine lv_aload_n S.1 S.2.1 dX8_grow_76 rfl (lv_at hl 2 rfl) ?_
        refine al_cS (rest := []) S hK hW hS (al_X8_lookAround l D cy ad (al_plantL 0 60 0 u (al_record σ 0)) (hO c1 c2 c3)) al_mi_X8_lookAround al_ml_RX8_55 rfl (al_rc_8 D cy ad _) rfl hl.1 rfl (Nat.le_of_ble_eq_true rfl) dX8_grow_77 ⟨Nat.le_of_ble_eq_true rfl, Nat.le_of_ble_eq_true rfl⟩ ⟨Nat.zero_le _, Nat.zero_le _⟩ (fun H locs hW hS => ?_)
        refine W.eq (g2 := F0 m 80 ls []) rfl ?_
        refine lv_iload_n S.1 S.2.1 dX8_grow_80 rfl (lv_at hl 0 rfl) ?_
        exact W.iret S.1 S.2.1 hr (fun t9 ht9 _ => ⟨(congrArg (fun z => Outcome.returned (some (Value.int z))) (by simp only [al_grow, if_neg (c1), if_pos (c2), if_neg (c3)])), by rw [ht9]; exact (al_He hW (by simp only [al_grow, if_neg (c1), if_pos (c2), if_neg (c3)])), hS.F ht9⟩) hS.2.2 dX8_grow_81
      · refine lv_bipush (v := -3) S.1 S.2.1 dX8_grow_50 (by decide) ?_
        exact W.iret S.1 S.2.1 hr (fun t9 ht9 _ => ⟨(congrArg (fun z => Outcome.returned (some (Value.int z))) (by simp only [al_grow, if_neg (c1), if_pos (c2), if_pos (c3)])), by rw [ht9]; exact (al_He hW (by simp only [al_grow, if_neg (c1), if_pos (c2), if_pos (c3)])), hS.F ht9⟩) hS.2.2 dX8_grow_52
    · refine lv_bipush (v := -100) S.1 S.2.1 dX8_grow_26 (by decide) ?_
      refine lv_iload_n S.1 S.2.1 dX8_grow_28 rfl (lv_at hl 0 rfl) ?_
      refine lv_isub S.1 S.2.1 dX8_grow_29 ?_
      exact W.iret S.1 S.2.1 hr (fun t9 ht9 _ => ⟨(congrArg (fun z => Outcome.returned (some (Value.int z))) (by simp only [al_grow, if_neg (c1), if_neg (c2)])), by rw [ht9]; exact (al_He hW (by simp only [al_grow, if_neg (c1), if_neg (c2)])), hS.F ht9⟩) hS.2.2 dX8_grow_30
  · refine lv_iconst (v := -1) S.1 S.2.1 dX8_grow_11 (by decide) ?_
    exact W.iret S.1 S.2.1 hr (fun t9 ht9 _ => ⟨(congrArg (fun z => Outcome.returned (some (Value.int z))) (by simp only [al_grow, if_pos (c1)])), by rw [ht9]; exact (al_He hW (by simp only [al_grow, if_pos (c1)])), hS.F ht9⟩) hS.2.2 dX8_grow_12
theorem al_mv_X8_undo : al_mv yX8_undo cX8_undo 1 (some .int) 0 := ⟨al_c_X8_undo, al_ini_RX8, ⟨by decide +kernel, by decide +kernel, by decide +kernel⟩, by decide +kernel⟩
theorem al_mi_X8_undo : al_mi yX8_undo cX8_undo 1 (some .int) 0 := ⟨al_mv_X8_undo, al_in_X8_undo, al_se_X8_undo⟩
set_option maxHeartbeats 4000000 in
set_option maxRecDepth 100000 in
theorem al_X8_undo (l : Launch) (D : va_G) (cy : al_CY) (ad : Nat → Nat) (σ : al_St) (h1 : ¬ σ.2.2.1 7 = 0 → ¬ σ.2.2.1 7 - 1 < 0) (h2 : ¬ σ.2.2.1 7 = 0 → ¬ 4 ≤ σ.2.2.1 7 - 1) (hO : ¬ σ.2.2.1 7 = 0 → al_lOK (al_takeBack σ 0)) : al_MS l yX8_undo cX8_undo 1 (some .int) 5 109 D cy ad σ [.ref (ad (0))] (some (.int ((al_undo σ).1))) ((al_undo σ).2) := by
  refine al_met al_mv_X8_undo (Nat.le_of_ble_eq_true rfl) ?_
  intro p e s m args below meth c ls S hr hlocks hK hW hS hl
  have hl : lv_has ls 1 [(0, .ref (ad (0)))] := hl
  refine lv_aload_n S.1 S.2.1 dX8_undo_0 rfl (lv_at hl 0 rfl) ?_
  refine al_g_RX8_26 S hK hW dX8_undo_1 ?_
  refine al_cP (rest := []) S hK hW (al_X1_length l D cy ad σ ) al_mi_X1_length al_ml_RX8_129 rfl (al_rc_1 D cy ad _) rfl hl.1 rfl (Nat.le_of_ble_eq_true rfl) dX8_undo_4 ⟨Nat.le_of_ble_eq_true rfl, Nat.le_of_ble_eq_true rfl⟩ ⟨Nat.zero_le _, Nat.zero_le _⟩ ?_
  refine W.eq (g2 := F0 m 7 ls [.int (σ.2.2.1 7)]) rfl ?_
  refine lv_if_ne (tgt := 13) S.1 S.2.1 dX8_undo_7 (by decide) (fun c1 => ?_) (fun c1 => ?_)
  · refine lv_aload_n S.1 S.2.1 dX8_undo_13 rfl (lv_at hl 0 rfl) ?_
    refine al_g_RX8_26 S hK hW dX8_undo_14 ?_
    refine lv_aload_n S.1 S.2.1 dX8_undo_17 rfl (lv_at hl 0 rfl) ?_
    refine al_g_RX8_10 S hK hW dX8_undo_18 ?_
    refine al_cS (rest := []) S hK hW hS (al_X1_takeBack l D cy ad σ 0 (by omega) (h1 c1) (h2 c1)) al_mi_X1_takeBack al_ml_RX8_130 rfl (al_rc_1 D cy ad _) rfl hl.1 rfl (Nat.le_of_ble_eq_true rfl) dX8_undo_21 ⟨Nat.le_of_ble_eq_true rfl, Nat.le_of_ble_eq_true rfl⟩ ⟨Nat.zero_le _, Nat.zero_le _⟩ (fun H locs hW hS => ?_)
    refine W.eq (g2 := F0 m 24 ls []) rfl ?_
    refine lv_aload_n S.1 S.2.1 dX8_undo_24 rfl (lv_at hl 0 rfl) ?_
    refine al_cS (rest := []) S hK hW hS (al_X8_lookAround l D cy ad (al_takeBack σ 0) (hO c1)) al_mi_X8_lookAround al_ml_RX8_55 rfl (al_rc_8 D cy ad _) rfl hl.1 rfl (Nat.le_of_ble_eq_true rfl) dX8_undo_25 ⟨Nat.le_of_ble_eq_true rfl, Nat.le_of_ble_eq_true rfl⟩ ⟨Nat.zero_le _, Nat.zero_le _⟩ (fun H locs hW hS => ?_)
    refine W.eq (g2 := F0 m 28 ls []) rfl ?_
    refine lv_aload_n S.1 S.2.1 dX8_undo_28 rfl (lv_at hl 0 rfl) ?_
    refine al_g_RX8_26 S hK hW dX8_undo_29 ?_
    refine al_cP (rest := []) S hK hW (al_X1_length l D cy ad (al_look (al_takeBack σ 0)) ) al_mi_X1_length al_ml_RX8_129 rfl (al_rc_1 D cy ad _) rfl hl.1 rfl (Nat.le_of_ble_eq_true rfl) dX8_undo_32 ⟨Nat.le_of_ble_eq_true rfl, Nat.le_of_ble_eq_true rfl⟩ ⟨Nat.zero_le _, Nat.zero_le _⟩ ?_
    refine W.eq (g2 := F0 m 35 ls [.int ((al_look (al_takeBack σ 0)).2.2.1 7)]) rfl ?_
    exact W.iret S.1 S.2.1 hr (fun t9 ht9 _ => ⟨(congrArg (fun z => Outcome.returned (some (Value.int z))) (by simp only [al_undo, if_neg (c1)])), by rw [ht9]; exact (al_He hW (by simp only [al_undo, if_neg (c1)])), hS.F ht9⟩) hS.2.2 dX8_undo_35
  · refine lv_bipush (v := -5) S.1 S.2.1 dX8_undo_10 (by decide) ?_
    exact W.iret S.1 S.2.1 hr (fun t9 ht9 _ => ⟨(congrArg (fun z => Outcome.returned (some (Value.int z))) (by simp only [al_undo, if_pos (c1)])), by rw [ht9]; exact (al_He hW (by simp only [al_undo, if_pos (c1)])), hS.F ht9⟩) hS.2.2 dX8_undo_12
theorem al_mv_X8_keep : al_mv yX8_keep cX8_keep 1 (some .int) 0 := ⟨al_c_X8_keep, al_ini_RX8, ⟨by decide +kernel, by decide +kernel, by decide +kernel⟩, by decide +kernel⟩
theorem al_mi_X8_keep : al_mi yX8_keep cX8_keep 1 (some .int) 0 := ⟨al_mv_X8_keep, al_in_X8_keep, al_se_X8_keep⟩
set_option maxHeartbeats 4000000 in
set_option maxRecDepth 100000 in
theorem al_X8_keep (l : Launch) (D : va_G) (cy : al_CY) (ad : Nat → Nat) (σ : al_St) : al_MS l yX8_keep cX8_keep 1 (some .int) 4 85 D cy ad σ [.ref (ad (0))] (some (.int ((al_keepS σ 0).2.2.1 9))) (al_keepS σ 0) := by
  refine al_met al_mv_X8_keep (Nat.le_of_ble_eq_true rfl) ?_
  intro p e s m args below meth c ls S hr hlocks hK hW hS hl
  have hl : lv_has ls 1 [(0, .ref (ad (0)))] := hl
  refine lv_aload_n S.1 S.2.1 dX8_keep_0 rfl (lv_at hl 0 rfl) ?_
  refine al_g_RX8_26 S hK hW dX8_keep_1 ?_
  refine lv_aload_n S.1 S.2.1 dX8_keep_4 rfl (lv_at hl 0 rfl) ?_
  refine al_g_RX8_10 S hK hW dX8_keep_5 ?_
  refine al_cS (rest := []) S hK hW hS (al_X1_keepSnapshot l D cy ad σ 0 (by omega)) al_mi_X1_keepSnapshot al_ml_RX8_133 rfl (al_rc_1 D cy ad _) rfl hl.1 rfl (Nat.le_of_ble_eq_true rfl) dX8_keep_8 ⟨Nat.le_of_ble_eq_true rfl, Nat.le_of_ble_eq_true rfl⟩ ⟨Nat.zero_le _, Nat.zero_le _⟩ (fun H locs hW hS => ?_)
  refine W.eq (g2 := F0 m 11 ls []) rfl ?_
  refine lv_aload_n S.1 S.2.1 dX8_keep_11 rfl (lv_at hl 0 rfl) ?_
  refine al_g_RX8_35 S hK hW dX8_keep_12 ?_
  refine al_cP (rest := []) S hK hW (al_X4_present l D cy ad (al_keepS σ 0) ) al_mi_X4_present al_ml_RX8_136 rfl (al_rc_4 D cy ad _) rfl hl.1 rfl (Nat.le_of_ble_eq_true rfl) dX8_keep_15 ⟨Nat.le_of_ble_eq_true rfl, Nat.le_of_ble_eq_true rfl⟩ ⟨Nat.zero_le _, Nat.zero_le _⟩ ?_
  refine W.eq (g2 := F0 m 18 ls [.int ((al_keepS σ 0).2.2.1 9)]) rfl ?_
  exact W.iret S.1 S.2.1 hr (fun t9 ht9 _ => ⟨(congrArg (fun z => Outcome.returned (some (Value.int z))) rfl), by rw [ht9]; exact hW, hS.F ht9⟩) hS.2.2 dX8_keep_18
theorem al_mv_X8_restore : al_mv yX8_restore cX8_restore 1 (some .int) 0 := ⟨al_c_X8_restore, al_ini_RX8, ⟨by decide +kernel, by decide +kernel, by decide +kernel⟩, by decide +kernel⟩
theorem al_mi_X8_restore : al_mi yX8_restore cX8_restore 1 (some .int) 0 := ⟨al_mv_X8_restore, al_in_X8_restore, al_se_X8_restore⟩
set_option maxHeartbeats 4000000 in
set_option maxRecDepth 100000 in
theorem al_X8_restore (l : Launch) (D : va_G) (cy : al_CY) (ad : Nat → Nat) (σ : al_St) (h1 : ¬ σ.2.2.1 7 < 0) (hz : narrow .boolean (.int (σ.2.2.1 8)) = .int (σ.2.2.1 8)) (hO : ¬ σ.2.2.1 8 = 0 → al_lOK (al_copyT (al_record σ 0) 0 5)) : al_MS l yX8_restore cX8_restore 1 (some .int) 5 109 D cy ad σ [.ref (ad (0))] (some (.int ((al_restore σ).1))) ((al_restore σ).2) := by
  refine al_met al_mv_X8_restore (Nat.le_of_ble_eq_true rfl) ?_
  intro p e s m args below meth c ls S hr hlocks hK hW hS hl
  have hl : lv_has ls 1 [(0, .ref (ad (0)))] := hl
  refine lv_aload_n S.1 S.2.1 dX8_restore_0 rfl (lv_at hl 0 rfl) ?_
  refine al_g_RX8_26 S hK hW dX8_restore_1 ?_
  refine al_cP (rest := []) S hK hW (al_X1_hasSnapshot l D cy ad σ hz) al_mi_X1_hasSnapshot al_ml_RX8_139 rfl (al_rc_1 D cy ad _) rfl hl.1 rfl (Nat.le_of_ble_eq_true rfl) dX8_restore_4 ⟨Nat.le_of_ble_eq_true rfl, Nat.le_of_ble_eq_true rfl⟩ ⟨Nat.zero_le _, Nat.zero_le _⟩ ?_
  refine W.eq (g2 := F0 m 7 ls [.int (σ.2.2.1 8)]) rfl ?_
  refine lv_if_ne (tgt := 13) S.1 S.2.1 dX8_restore_7 (by decide) (fun c1 => ?_) (fun c1 => ?_)
  · refine lv_aload_n S.1 S.2.1 dX8_restore_13 rfl (lv_at hl 0 rfl) ?_
    refine al_g_RX8_26 S hK hW dX8_restore_14 ?_
    refine lv_aload_n S.1 S.2.1 dX8_restore_17 rfl (lv_at hl 0 rfl) ?_
    refine al_g_RX8_10 S hK hW dX8_restore_18 ?_
    refine al_cS (rest := []) S hK hW hS (al_X1_record l D cy ad σ 0 (by omega) h1) al_mi_X1_record al_ml_RX8_68 rfl (al_rc_1 D cy ad _) rfl hl.1 rfl (Nat.le_of_ble_eq_true rfl) dX8_restore_21 ⟨Nat.le_of_ble_eq_true rfl, Nat.le_of_ble_eq_true rfl⟩ ⟨Nat.zero_le _, Nat.zero_le _⟩ (fun H locs hW hS => ?_)
    refine W.eq (g2 := F0 m 24 ls []) rfl ?_
    refine lv_aload_n S.1 S.2.1 dX8_restore_24 rfl (lv_at hl 0 rfl) ?_
    refine al_g_RX8_26 S hK hW dX8_restore_25 ?_
    refine lv_aload_n S.1 S.2.1 dX8_restore_28 rfl (lv_at hl 0 rfl) ?_
    refine al_g_RX8_10 S hK hW dX8_restore_29 ?_
    refine al_cS (rest := []) S hK hW hS (al_X1_showSnapshot l D cy ad (al_record σ 0) 0 (by omega)) al_mi_X1_showSnapshot al_ml_RX8_143 rfl (al_rc_1 D cy ad _) rfl hl.1 rfl (Nat.le_of_ble_eq_true rfl) dX8_restore_32 ⟨Nat.le_of_ble_eq_true rfl, Nat.le_of_ble_eq_true rfl⟩ ⟨Nat.zero_le _, Nat.zero_le _⟩ (fun H locs hW hS => ?_)
    refine W.eq (g2 := F0 m 35 ls []) rfl ?_
    refine lv_aload_n S.1 S.2.1 dX8_restore_35 rfl (lv_at hl 0 rfl) ?_
    refine al_cS (rest := []) S hK hW hS (al_X8_lookAround l D cy ad (al_copyT (al_record σ 0) 0 5) (hO c1)) al_mi_X8_lookAround al_ml_RX8_55 rfl (al_rc_8 D cy ad _) rfl hl.1 rfl (Nat.le_of_ble_eq_true rfl) dX8_restore_36 ⟨Nat.le_of_ble_eq_true rfl, Nat.le_of_ble_eq_true rfl⟩ ⟨Nat.zero_le _, Nat.zero_le _⟩ (fun H locs hW hS => ?_)
    refine W.eq (g2 := F0 m 39 ls []) rfl ?_
    refine lv_aload_n S.1 S.2.1 dX8_restore_39 rfl (lv_at hl 0 rfl) ?_
    refine al_g_RX8_35 S hK hW dX8_restore_40 ?_
    refine al_cP (rest := []) S hK hW (al_X4_present l D cy ad (al_look (al_copyT (al_record σ 0) 0 5)) ) al_mi_X4_present al_ml_RX8_136 rfl (al_rc_4 D cy ad _) rfl hl.1 rfl (Nat.le_of_ble_eq_true rfl) dX8_restore_43 ⟨Nat.le_of_ble_eq_true rfl, Nat.le_of_ble_eq_true rfl⟩ ⟨Nat.zero_le _, Nat.zero_le _⟩ ?_
    refine W.eq (g2 := F0 m 46 ls [.int ((al_look (al_copyT (al_record σ 0) 0 5)).2.2.1 9)]) rfl ?_
    exact W.iret S.1 S.2.1 hr (fun t9 ht9 _ => ⟨(congrArg (fun z => Outcome.returned (some (Value.int z))) (by simp only [al_restore, if_neg (c1)])), by rw [ht9]; exact (al_He hW (by simp only [al_restore, if_neg (c1)])), hS.F ht9⟩) hS.2.2 dX8_restore_46
  · refine lv_bipush (v := -5) S.1 S.2.1 dX8_restore_10 (by decide) ?_
    exact W.iret S.1 S.2.1 hr (fun t9 ht9 _ => ⟨(congrArg (fun z => Outcome.returned (some (Value.int z))) (by simp only [al_restore, if_pos (c1)])), by rw [ht9]; exact (al_He hW (by simp only [al_restore, if_pos (c1)])), hS.F ht9⟩) hS.2.2 dX8_restore_12
theorem al_mv_X8_ancestor : al_mv yX8_ancestor cX8_ancestor 3 (some .int) 2 := ⟨al_c_X8_ancestor, al_ini_RX8, ⟨by decide +kernel, by decide +kernel, by decide +kernel⟩, by decide +kernel⟩
theorem al_mi_X8_ancestor : al_mi yX8_ancestor cX8_ancestor 3 (some .int) 2 := ⟨al_mv_X8_ancestor, al_in_X8_ancestor, al_se_X8_ancestor⟩
set_option maxHeartbeats 4000000 in
set_option maxRecDepth 100000 in
theorem al_X8_ancestor (l : Launch) (D : va_G) (cy : al_CY) (ad : Nat → Nat) (σ : al_St) (x : Int32) (y : Int32) : al_MP l yX8_ancestor cX8_ancestor 3 (some .int) 3 66 D cy ad σ [.ref (ad (0)), .int x, .int y] (some (.int (al_anc σ x y))) := by
  refine al_met al_mv_X8_ancestor (Nat.le_of_ble_eq_true rfl) ?_
  intro p e s m args below meth c ls S hr hlocks hK hW hS hl
  have hl : lv_has ls 3 [(0, .ref (ad (0))), (1, .int x), (2, .int y)] := hl
  refine lv_aload_n S.1 S.2.1 dX8_ancestor_0 rfl (lv_at hl 0 rfl) ?_
  refine al_g_RX8_10 S hK hW dX8_ancestor_1 ?_
  refine lv_iload_n S.1 S.2.1 dX8_ancestor_4 rfl (lv_at hl 1 rfl) ?_
  refine al_cP (rest := []) S hK hW (al_X6_isNode l D cy ad σ 0 (by omega) x) al_mi_X6_isNode al_ml_RX8_58 rfl (al_rc_T D cy ad _ (t := 0) (by omega)) rfl hl.1 rfl (Nat.le_of_ble_eq_true rfl) dX8_ancestor_5 ⟨Nat.le_of_ble_eq_true rfl, Nat.le_of_ble_eq_true rfl⟩ ⟨Nat.zero_le _, Nat.zero_le _⟩ ?_
  refine W.eq (g2 := F0 m 8 ls [.int (al_isN σ 0 x)]) rfl ?_
  refine lv_if_ne (tgt := 13) S.1 S.2.1 dX8_ancestor_8 (by decide) (fun c1 => ?_) (fun c1 => ?_)
  · refine lv_iload_n S.1 S.2.1 dX8_ancestor_13 rfl (lv_at hl 2 rfl) ?_
    refine lv_if_ge (tgt := 20) S.1 S.2.1 dX8_ancestor_14 (by decide) (fun c2 => ?_) (fun c2 => ?_)
    · refine lv_iload_n S.1 S.2.1 dX8_ancestor_20 rfl (lv_at hl 2 rfl) ?_
      refine lv_aload_n S.1 S.2.1 dX8_ancestor_21 rfl (lv_at hl 0 rfl) ?_
      refine al_g_RX8_35 S hK hW dX8_ancestor_22 ?_
      refine lv_iload_n S.1 S.2.1 dX8_ancestor_25 rfl (lv_at hl 1 rfl) ?_
      refine al_cP (rest := [.int y]) S hK hW (al_X4_depthOf l D cy ad σ x) al_mi_X4_depthOf al_ml_RX8_146 rfl (al_rc_4 D cy ad _) rfl hl.1 rfl (Nat.le_of_ble_eq_true rfl) dX8_ancestor_26 ⟨Nat.le_of_ble_eq_true rfl, Nat.le_of_ble_eq_true rfl⟩ ⟨Nat.zero_le _, Nat.zero_le _⟩ ?_
      refine W.eq (g2 := F0 m 29 ls [.int (al_rg (σ.1 15) x), .int y]) rfl ?_
      refine lv_icmp_le (tgt := 37) S.1 S.2.1 dX8_ancestor_29 (by decide) (fun c3 => ?_) (fun c3 => ?_)
      · refine lv_aload_n S.1 S.2.1 dX8_ancestor_37 rfl (lv_at hl 0 rfl) ?_
        refine al_g_RX8_35 S hK hW dX8_ancestor_38 ?_
        refine lv_iload_n S.1 S.2.1 dX8_ancestor_41 rfl (lv_at hl 1 rfl) ?_
        refine lv_iload_n S.1 S.2.1 dX8_ancestor_42 rfl (lv_at hl 2 rfl) ?_
        refine al_cP (rest := []) S hK hW (al_X4_climb l D cy ad σ x y) al_mi_X4_climb al_ml_RX8_149 rfl (al_rc_4 D cy ad _) rfl hl.1 rfl (Nat.le_of_ble_eq_true rfl) dX8_ancestor_43 ⟨Nat.le_of_ble_eq_true rfl, Nat.le_of_ble_eq_true rfl⟩ ⟨Nat.zero_le _, Nat.zero_le _⟩ ?_
        refine W.eq (g2 := F0 m 46 ls [.int (al_cl σ x y)]) rfl ?_
        exact W.iret S.1 S.2.1 hr (fun t9 ht9 _ => ⟨(congrArg (fun z => Outcome.returned (some (Value.int z))) (by simp only [al_anc, if_neg (c1), if_pos (c2), if_pos (c3)])), ht9⟩) (fun q hq => absurd hq List.not_mem_nil) dX8_ancestor_46
      · refine lv_bipush (v := -5) S.1 S.2.1 dX8_ancestor_32 (by decide) ?_
        refine lv_goto (tgt := 46) S.1 S.2.1 dX8_ancestor_34 (by decide) ?_
        exact W.iret S.1 S.2.1 hr (fun t9 ht9 _ => ⟨(congrArg (fun z => Outcome.returned (some (Value.int z))) (by simp only [al_anc, if_neg (c1), if_pos (c2), if_neg (c3)])), ht9⟩) (fun q hq => absurd hq List.not_mem_nil) dX8_ancestor_46
    · refine lv_bipush (v := -2) S.1 S.2.1 dX8_ancestor_17 (by decide) ?_
      exact W.iret S.1 S.2.1 hr (fun t9 ht9 _ => ⟨(congrArg (fun z => Outcome.returned (some (Value.int z))) (by simp only [al_anc, if_neg (c1), if_neg (c2)])), ht9⟩) (fun q hq => absurd hq List.not_mem_nil) dX8_ancestor_19
  · refine lv_iconst (v := -1) S.1 S.2.1 dX8_ancestor_11 (by decide) ?_
    exact W.iret S.1 S.2.1 hr (fun t9 ht9 _ => ⟨(congrArg (fun z => Outcome.returned (some (Value.int z))) (by simp only [al_anc, if_pos (c1)])), ht9⟩) (fun q hq => absurd hq List.not_mem_nil) dX8_ancestor_12
theorem al_mv_X8_looks : al_mv yX8_looks cX8_looks 3 (some .int) 2 := ⟨al_c_X8_looks, al_ini_RX8, ⟨by decide +kernel, by decide +kernel, by decide +kernel⟩, by decide +kernel⟩
theorem al_mi_X8_looks : al_mi yX8_looks cX8_looks 3 (some .int) 2 := ⟨al_mv_X8_looks, al_in_X8_looks, al_se_X8_looks⟩
set_option maxHeartbeats 4000000 in
set_option maxRecDepth 100000 in
theorem al_X8_looks (l : Launch) (D : va_G) (cy : al_CY) (ad : Nat → Nat) (σ : al_St) (x : Int32) (y : Int32) : al_MP l yX8_looks cX8_looks 3 (some .int) 4 86 D cy ad σ [.ref (ad (0)), .int x, .int y] (some (.int (al_lks σ x y))) := by
  refine al_met al_mv_X8_looks (Nat.le_of_ble_eq_true rfl) ?_
  intro p e s m args below meth c ls S hr hlocks hK hW hS hl
  have hl : lv_has ls 3 [(0, .ref (ad (0))), (1, .int x), (2, .int y)] := hl
  refine lv_aload_n S.1 S.2.1 dX8_looks_0 rfl (lv_at hl 0 rfl) ?_
  refine al_g_RX8_10 S hK hW dX8_looks_1 ?_
  refine lv_iload_n S.1 S.2.1 dX8_looks_4 rfl (lv_at hl 1 rfl) ?_
  refine al_cP (rest := []) S hK hW (al_X6_isNode l D cy ad σ 0 (by omega) x) al_mi_X6_isNode al_ml_RX8_58 rfl (al_rc_T D cy ad _ (t := 0) (by omega)) rfl hl.1 rfl (Nat.le_of_ble_eq_true rfl) dX8_looks_5 ⟨Nat.le_of_ble_eq_true rfl, Nat.le_of_ble_eq_true rfl⟩ ⟨Nat.zero_le _, Nat.zero_le _⟩ ?_
  refine W.eq (g2 := F0 m 8 ls [.int (al_isN σ 0 x)]) rfl ?_
  refine lv_if_ne (tgt := 13) S.1 S.2.1 dX8_looks_8 (by decide) (fun c1 => ?_) (fun c1 => ?_)
  · refine lv_iload_n S.1 S.2.1 dX8_looks_13 rfl (lv_at hl 2 rfl) ?_
    refine lv_if_ge (tgt := 20) S.1 S.2.1 dX8_looks_14 (by decide) (fun c2 => ?_) (fun c2 => ?_)
    · refine lv_iload_n S.1 S.2.1 dX8_looks_20 rfl (lv_at hl 2 rfl) ?_
      refine lv_aload_n S.1 S.2.1 dX8_looks_21 rfl (lv_at hl 0 rfl) ?_
      refine al_g_RX8_35 S hK hW dX8_looks_22 ?_
      refine lv_iload_n S.1 S.2.1 dX8_looks_25 rfl (lv_at hl 1 rfl) ?_
      refine al_cP (rest := [.int y]) S hK hW (al_X4_depthOf l D cy ad σ x) al_mi_X4_depthOf al_ml_RX8_146 rfl (al_rc_4 D cy ad _) rfl hl.1 rfl (Nat.le_of_ble_eq_true rfl) dX8_looks_26 ⟨Nat.le_of_ble_eq_true rfl, Nat.le_of_ble_eq_true rfl⟩ ⟨Nat.zero_le _, Nat.zero_le _⟩ ?_
      refine W.eq (g2 := F0 m 29 ls [.int (al_rg (σ.1 15) x), .int y]) rfl ?_
      refine lv_icmp_le (tgt := 37) S.1 S.2.1 dX8_looks_29 (by decide) (fun c3 => ?_) (fun c3 => ?_)
      · refine lv_aload_n S.1 S.2.1 dX8_looks_37 rfl (lv_at hl 0 rfl) ?_
        refine al_g_RX8_35 S hK hW dX8_looks_38 ?_
        refine lv_iload_n S.1 S.2.1 dX8_looks_41 rfl (lv_at hl 1 rfl) ?_
        refine lv_iload_n S.1 S.2.1 dX8_looks_42 rfl (lv_at hl 2 rfl) ?_
        refine al_cP (rest := []) S hK hW (al_X4_looksFor l D cy ad σ x y) al_mi_X4_looksFor al_ml_RX8_153 rfl (al_rc_4 D cy ad _) rfl hl.1 rfl (Nat.le_of_ble_eq_true rfl) dX8_looks_43 ⟨Nat.le_of_ble_eq_true rfl, Nat.le_of_ble_eq_true rfl⟩ ⟨Nat.zero_le _, Nat.zero_le _⟩ ?_
        refine W.eq (g2 := F0 m 46 ls [.int (al_looks σ x y)]) rfl ?_
        exact W.iret S.1 S.2.1 hr (fun t9 ht9 _ => ⟨(congrArg (fun z => Outcome.returned (some (Value.int z))) (by simp only [al_lks, if_neg (c1), if_pos (c2), if_pos (c3)])), ht9⟩) (fun q hq => absurd hq List.not_mem_nil) dX8_looks_46
      · refine lv_bipush (v := -5) S.1 S.2.1 dX8_looks_32 (by decide) ?_
        refine lv_goto (tgt := 46) S.1 S.2.1 dX8_looks_34 (by decide) ?_
        exact W.iret S.1 S.2.1 hr (fun t9 ht9 _ => ⟨(congrArg (fun z => Outcome.returned (some (Value.int z))) (by simp only [al_lks, if_neg (c1), if_pos (c2), if_neg (c3)])), ht9⟩) (fun q hq => absurd hq List.not_mem_nil) dX8_looks_46
    · refine lv_bipush (v := -2) S.1 S.2.1 dX8_looks_17 (by decide) ?_
      exact W.iret S.1 S.2.1 hr (fun t9 ht9 _ => ⟨(congrArg (fun z => Outcome.returned (some (Value.int z))) (by simp only [al_lks, if_neg (c1), if_neg (c2)])), ht9⟩) (fun q hq => absurd hq List.not_mem_nil) dX8_looks_19
  · refine lv_iconst (v := -1) S.1 S.2.1 dX8_looks_11 (by decide) ?_
    exact W.iret S.1 S.2.1 hr (fun t9 ht9 _ => ⟨(congrArg (fun z => Outcome.returned (some (Value.int z))) (by simp only [al_lks, if_pos (c1)])), ht9⟩) (fun q hq => absurd hq List.not_mem_nil) dX8_looks_12
theorem al_mv_X8_jump : al_mv yX8_jump cX8_jump 4 (some .int) 2 := ⟨al_c_X8_jump, al_ini_RX8, ⟨by decide +kernel, by decide +kernel, by decide +kernel⟩, by decide +kernel⟩
theorem al_mi_X8_jump : al_mi yX8_jump cX8_jump 4 (some .int) 2 := ⟨al_mv_X8_jump, al_in_X8_jump, al_se_X8_jump⟩
set_option maxHeartbeats 4000000 in
set_option maxRecDepth 100000 in
theorem al_X8_jump (l : Launch) (D : va_G) (cy : al_CY) (ad : Nat → Nat) (σ : al_St) (x : Int32) (y : Int32) (hn : ¬ al_isN σ 0 x = 0) (hy : ¬ y < 0) (hy2 : ¬ y ≤ 6) : al_MP l yX8_jump cX8_jump 4 (some .int) 3 66 D cy ad σ [.ref (ad (0)), .int x, .int y] (some (.int (-2))) := by
  refine al_met al_mv_X8_jump (Nat.le_of_ble_eq_true rfl) ?_
  intro p e s m args below meth c ls S hr hlocks hK hW hS hl
  have hl : lv_has ls 4 [(0, .ref (ad (0))), (1, .int x), (2, .int y)] := hl
  refine lv_aload_n S.1 S.2.1 dX8_jump_0 rfl (lv_at hl 0 rfl) ?_
  refine al_g_RX8_10 S hK hW dX8_jump_1 ?_
  refine lv_iload_n S.1 S.2.1 dX8_jump_4 rfl (lv_at hl 1 rfl) ?_
  refine al_cP (rest := []) S hK hW (al_X6_isNode l D cy ad σ 0 (by omega) x) al_mi_X6_isNode al_ml_RX8_58 rfl (al_rc_T D cy ad _ (t := 0) (by omega)) rfl hl.1 rfl (Nat.le_of_ble_eq_true rfl) dX8_jump_5 ⟨Nat.le_of_ble_eq_true rfl, Nat.le_of_ble_eq_true rfl⟩ ⟨Nat.zero_le _, Nat.zero_le _⟩ ?_
  refine W.eq (g2 := F0 m 8 ls [.int (al_isN σ 0 x)]) rfl ?_
  refine lv_if_ne (tgt := 13) S.1 S.2.1 dX8_jump_8 (by decide) (fun c1 => ?_) (fun c1 => ?_)
  · refine lv_iload_n S.1 S.2.1 dX8_jump_13 rfl (lv_at hl 2 rfl) ?_
    refine lv_if_lt (tgt := 23) S.1 S.2.1 dX8_jump_14 (by decide) (fun c2 => ?_) (fun c2 => ?_)
    · exact absurd c2 hy
    · refine lv_iload_n S.1 S.2.1 dX8_jump_17 rfl (lv_at hl 2 rfl) ?_
      refine lv_bipush (v := 6) S.1 S.2.1 dX8_jump_18 (by decide) ?_
      refine lv_icmp_le (tgt := 26) S.1 S.2.1 dX8_jump_20 (by decide) (fun c3 => ?_) (fun c3 => ?_)
      · exact absurd c3 hy2
      · refine lv_bipush (v := -2) S.1 S.2.1 dX8_jump_23 (by decide) ?_
        exact W.iret S.1 S.2.1 hr (fun t9 ht9 _ => ⟨(congrArg (fun z => Outcome.returned (some (Value.int z))) rfl), ht9⟩) (fun q hq => absurd hq List.not_mem_nil) dX8_jump_25
  · exact absurd c1 hn
theorem al_mv_X8_ladderAt : al_mv yX8_ladderAt cX8_ladderAt 3 (some .int) 2 := ⟨al_c_X8_ladderAt, al_ini_RX8, ⟨by decide +kernel, by decide +kernel, by decide +kernel⟩, by decide +kernel⟩
theorem al_mi_X8_ladderAt : al_mi yX8_ladderAt cX8_ladderAt 3 (some .int) 2 := ⟨al_mv_X8_ladderAt, al_in_X8_ladderAt, al_se_X8_ladderAt⟩
set_option maxHeartbeats 4000000 in
set_option maxRecDepth 100000 in
theorem al_X8_ladderAt (l : Launch) (D : va_G) (cy : al_CY) (ad : Nat → Nat) (σ : al_St) (x : Int32) (y : Int32) : al_MP l yX8_ladderAt cX8_ladderAt 3 (some .int) 3 66 D cy ad σ [.ref (ad (0)), .int x, .int y] (some (.int (al_ladAt σ x y))) := by
  refine al_met al_mv_X8_ladderAt (Nat.le_of_ble_eq_true rfl) ?_
  intro p e s m args below meth c ls S hr hlocks hK hW hS hl
  have hl : lv_has ls 3 [(0, .ref (ad (0))), (1, .int x), (2, .int y)] := hl
  refine lv_aload_n S.1 S.2.1 dX8_ladderAt_0 rfl (lv_at hl 0 rfl) ?_
  refine al_g_RX8_10 S hK hW dX8_ladderAt_1 ?_
  refine lv_iload_n S.1 S.2.1 dX8_ladderAt_4 rfl (lv_at hl 1 rfl) ?_
  refine al_cP (rest := []) S hK hW (al_X6_isNode l D cy ad σ 0 (by omega) x) al_mi_X6_isNode al_ml_RX8_58 rfl (al_rc_T D cy ad _ (t := 0) (by omega)) rfl hl.1 rfl (Nat.le_of_ble_eq_true rfl) dX8_ladderAt_5 ⟨Nat.le_of_ble_eq_true rfl, Nat.le_of_ble_eq_true rfl⟩ ⟨Nat.zero_le _, Nat.zero_le _⟩ ?_
  refine W.eq (g2 := F0 m 8 ls [.int (al_isN σ 0 x)]) rfl ?_
  refine lv_if_ne (tgt := 13) S.1 S.2.1 dX8_ladderAt_8 (by decide) (fun c1 => ?_) (fun c1 => ?_)
  · refine lv_iload_n S.1 S.2.1 dX8_ladderAt_13 rfl (lv_at hl 2 rfl) ?_
    refine lv_if_ge (tgt := 20) S.1 S.2.1 dX8_ladderAt_14 (by decide) (fun c2 => ?_) (fun c2 => ?_)
    · refine lv_iload_n S.1 S.2.1 dX8_ladderAt_20 rfl (lv_at hl 2 rfl) ?_
      refine lv_aload_n S.1 S.2.1 dX8_ladderAt_21 rfl (lv_at hl 0 rfl) ?_
      refine al_g_RX8_35 S hK hW dX8_ladderAt_22 ?_
      refine lv_iload_n S.1 S.2.1 dX8_ladderAt_25 rfl (lv_at hl 1 rfl) ?_
      refine al_cP (rest := [.int y]) S hK hW (al_X4_ladderOf l D cy ad σ x) al_mi_X4_ladderOf al_ml_RX8_156 rfl (al_rc_4 D cy ad _) rfl hl.1 rfl (Nat.le_of_ble_eq_true rfl) dX8_ladderAt_26 ⟨Nat.le_of_ble_eq_true rfl, Nat.le_of_ble_eq_true rfl⟩ ⟨Nat.zero_le _, Nat.zero_le _⟩ ?_
      refine W.eq (g2 := F0 m 29 ls [.int (al_lad σ x), .int y]) rfl ?_
      refine lv_icmp_lt (tgt := 37) S.1 S.2.1 dX8_ladderAt_29 (by decide) (fun c3 => ?_) (fun c3 => ?_)
      · refine lv_aload_n S.1 S.2.1 dX8_ladderAt_37 rfl (lv_at hl 0 rfl) ?_
        refine al_g_RX8_35 S hK hW dX8_ladderAt_38 ?_
        refine lv_aload_n S.1 S.2.1 dX8_ladderAt_41 rfl (lv_at hl 0 rfl) ?_
        refine al_g_RX8_35 S hK hW dX8_ladderAt_42 ?_
        refine lv_iload_n S.1 S.2.1 dX8_ladderAt_45 rfl (lv_at hl 1 rfl) ?_
        refine al_cP (rest := [.ref (ad (5))]) S hK hW (al_X4_footOf l D cy ad σ x) al_mi_X4_footOf al_ml_RX8_159 rfl (al_rc_4 D cy ad _) rfl hl.1 rfl (Nat.le_of_ble_eq_true rfl) dX8_ladderAt_46 ⟨Nat.le_of_ble_eq_true rfl, Nat.le_of_ble_eq_true rfl⟩ ⟨Nat.zero_le _, Nat.zero_le _⟩ ?_
        refine W.eq (g2 := F0 m 49 ls [.int (al_rg (σ.1 21) x), .ref (ad (5))]) rfl ?_
        refine lv_iload_n S.1 S.2.1 dX8_ladderAt_49 rfl (lv_at hl 2 rfl) ?_
        refine al_cP (rest := []) S hK hW (al_X4_climb l D cy ad σ (al_rg (σ.1 21) x) y) al_mi_X4_climb al_ml_RX8_149 rfl (al_rc_4 D cy ad _) rfl hl.1 rfl (Nat.le_of_ble_eq_true rfl) dX8_ladderAt_50 ⟨Nat.le_of_ble_eq_true rfl, Nat.le_of_ble_eq_true rfl⟩ ⟨Nat.zero_le _, Nat.zero_le _⟩ ?_
        refine W.eq (g2 := F0 m 53 ls [.int (al_cl σ (al_rg (σ.1 21) x) y)]) rfl ?_
        exact W.iret S.1 S.2.1 hr (fun t9 ht9 _ => ⟨(congrArg (fun z => Outcome.returned (some (Value.int z))) (by simp only [al_ladAt, if_neg (c1), if_pos (c2), if_pos (c3)])), ht9⟩) (fun q hq => absurd hq List.not_mem_nil) dX8_ladderAt_53
      · refine lv_bipush (v := -5) S.1 S.2.1 dX8_ladderAt_32 (by decide) ?_
        refine lv_goto (tgt := 53) S.1 S.2.1 dX8_ladderAt_34 (by decide) ?_
        exact W.iret S.1 S.2.1 hr (fun t9 ht9 _ => ⟨(congrArg (fun z => Outcome.returned (some (Value.int z))) (by simp only [al_ladAt, if_neg (c1), if_pos (c2), if_neg (c3)])), ht9⟩) (fun q hq => absurd hq List.not_mem_nil) dX8_ladderAt_53
    · refine lv_bipush (v := -2) S.1 S.2.1 dX8_ladderAt_17 (by decide) ?_
      exact W.iret S.1 S.2.1 hr (fun t9 ht9 _ => ⟨(congrArg (fun z => Outcome.returned (some (Value.int z))) (by simp only [al_ladAt, if_neg (c1), if_neg (c2)])), ht9⟩) (fun q hq => absurd hq List.not_mem_nil) dX8_ladderAt_19
  · refine lv_iconst (v := -1) S.1 S.2.1 dX8_ladderAt_11 (by decide) ?_
    exact W.iret S.1 S.2.1 hr (fun t9 ht9 _ => ⟨(congrArg (fun z => Outcome.returned (some (Value.int z))) (by simp only [al_ladAt, if_pos (c1)])), ht9⟩) (fun q hq => absurd hq List.not_mem_nil) dX8_ladderAt_12
theorem al_mv_X8_node : al_mv yX8_node cX8_node 3 (some .int) 2 := ⟨al_c_X8_node, al_ini_RX8, ⟨by decide +kernel, by decide +kernel, by decide +kernel⟩, by decide +kernel⟩
theorem al_mi_X8_node : al_mi yX8_node cX8_node 3 (some .int) 2 := ⟨al_mv_X8_node, al_in_X8_node, al_se_X8_node⟩
set_option maxHeartbeats 4000000 in
set_option maxRecDepth 100000 in
theorem al_X8_node (l : Launch) (D : va_G) (cy : al_CY) (ad : Nat → Nat) (σ : al_St) (x : Int32) (w : Int32) : al_MP l yX8_node cX8_node 3 (some .int) 3 63 D cy ad σ [.ref (ad (0)), .int x, .int w] (some (.int (al_node σ x w))) := by
  refine al_met al_mv_X8_node (Nat.le_of_ble_eq_true rfl) ?_
  intro p e s m args below meth c ls S hr hlocks hK hW hS hl
  have hl : lv_has ls 3 [(0, .ref (ad (0))), (1, .int x), (2, .int w)] := hl
  refine lv_aload_n S.1 S.2.1 dX8_node_0 rfl (lv_at hl 0 rfl) ?_
  refine al_g_RX8_10 S hK hW dX8_node_1 ?_
  refine lv_iload_n S.1 S.2.1 dX8_node_4 rfl (lv_at hl 1 rfl) ?_
  refine al_cP (rest := []) S hK hW (al_X6_isNode l D cy ad σ 0 (by omega) x) al_mi_X6_isNode al_ml_RX8_58 rfl (al_rc_T D cy ad _ (t := 0) (by omega)) rfl hl.1 rfl (Nat.le_of_ble_eq_true rfl) dX8_node_5 ⟨Nat.le_of_ble_eq_true rfl, Nat.le_of_ble_eq_true rfl⟩ ⟨Nat.zero_le _, Nat.zero_le _⟩ ?_
  refine W.eq (g2 := F0 m 8 ls [.int (al_isN σ 0 x)]) rfl ?_
  refine lv_if_ne (tgt := 13) S.1 S.2.1 dX8_node_8 (by decide) (fun c1 => ?_) (fun c1 => ?_)
  · refine lv_iload_n S.1 S.2.1 dX8_node_13 rfl (lv_at hl 2 rfl) ?_
    by_cases g2 : w = 0
    · refine lv_tableIn (off := 54) (tgt := 68) S.1 S.2.1 dX8_node_14 (by rw [g2]; decide) (by rw [g2]; decide) (by rw [g2]; rfl) (by decide) ?_
      refine lv_aload_n S.1 S.2.1 dX8_node_68 rfl (lv_at hl 0 rfl) ?_
      refine al_g_RX8_10 S hK hW dX8_node_69 ?_
      refine lv_iload_n S.1 S.2.1 dX8_node_72 rfl (lv_at hl 1 rfl) ?_
      refine al_cP (rest := []) S hK hW (al_X6_parentOf l D cy ad σ 0 (by omega) x) al_mi_X6_parentOf al_ml_RX8_82 rfl (al_rc_T D cy ad _ (t := 0) (by omega)) rfl hl.1 rfl (Nat.le_of_ble_eq_true rfl) dX8_node_73 ⟨Nat.le_of_ble_eq_true rfl, Nat.le_of_ble_eq_true rfl⟩ ⟨Nat.zero_le _, Nat.zero_le _⟩ ?_
      refine W.eq (g2 := F0 m 76 ls [.int (al_rg (σ.1 (2 * 0)) x)]) rfl ?_
      refine al_cPs (rest := []) S hK hW (al_X8_orNone l D cy ad σ (al_rg (σ.1 (2 * 0)) x)) al_ms_X8_orNone al_ml_RX8_162 rfl hl.1 rfl (Nat.le_of_ble_eq_true rfl) dX8_node_76 ⟨Nat.le_of_ble_eq_true rfl, Nat.le_of_ble_eq_true rfl⟩ ⟨Nat.zero_le _, Nat.zero_le _⟩ ?_
      refine W.eq (g2 := F0 m 79 ls [.int (al_orN (al_rg (σ.1 (2 * 0)) x))]) rfl ?_
      exact W.iret S.1 S.2.1 hr (fun t9 ht9 _ => ⟨(congrArg (fun z => Outcome.returned (some (Value.int z))) (by simp only [al_node, if_neg (c1), if_pos (g2)])), ht9⟩) (fun q hq => absurd hq List.not_mem_nil) dX8_node_79
    by_cases g3 : w = 1
    · refine lv_tableIn (off := 66) (tgt := 80) S.1 S.2.1 dX8_node_14 (by rw [g3]; decide) (by rw [g3]; decide) (by rw [g3]; rfl) (by decide) ?_
      refine lv_aload_n S.1 S.2.1 dX8_node_80 rfl (lv_at hl 0 rfl) ?_
      refine al_g_RX8_35 S hK hW dX8_node_81 ?_
      refine lv_iload_n S.1 S.2.1 dX8_node_84 rfl (lv_at hl 1 rfl) ?_
      refine al_cP (rest := []) S hK hW (al_X4_depthOf l D cy ad σ x) al_mi_X4_depthOf al_ml_RX8_146 rfl (al_rc_4 D cy ad _) rfl hl.1 rfl (Nat.le_of_ble_eq_true rfl) dX8_node_85 ⟨Nat.le_of_ble_eq_true rfl, Nat.le_of_ble_eq_true rfl⟩ ⟨Nat.zero_le _, Nat.zero_le _⟩ ?_
      refine W.eq (g2 := F0 m 88 ls [.int (al_rg (σ.1 15) x)]) rfl ?_
      exact W.iret S.1 S.2.1 hr (fun t9 ht9 _ => ⟨(congrArg (fun z => Outcome.returned (some (Value.int z))) (by simp only [al_node, if_neg (c1), if_neg (g2), if_pos (g3)])), ht9⟩) (fun q hq => absurd hq List.not_mem_nil) dX8_node_88
    by_cases g4 : w = 2
    · refine lv_tableIn (off := 75) (tgt := 89) S.1 S.2.1 dX8_node_14 (by rw [g4]; decide) (by rw [g4]; decide) (by rw [g4]; rfl) (by decide) ?_
      refine lv_aload_n S.1 S.2.1 dX8_node_89 rfl (lv_at hl 0 rfl) ?_
      refine al_g_RX8_35 S hK hW dX8_node_90 ?_
      refine lv_iload_n S.1 S.2.1 dX8_node_93 rfl (lv_at hl 1 rfl) ?_
      refine al_cP (rest := []) S hK hW (al_X4_heightOf l D cy ad σ x) al_mi_X4_heightOf al_ml_RX8_165 rfl (al_rc_4 D cy ad _) rfl hl.1 rfl (Nat.le_of_ble_eq_true rfl) dX8_node_94 ⟨Nat.le_of_ble_eq_true rfl, Nat.le_of_ble_eq_true rfl⟩ ⟨Nat.zero_le _, Nat.zero_le _⟩ ?_
      refine W.eq (g2 := F0 m 97 ls [.int (al_rg (σ.1 16) x)]) rfl ?_
      exact W.iret S.1 S.2.1 hr (fun t9 ht9 _ => ⟨(congrArg (fun z => Outcome.returned (some (Value.int z))) (by simp only [al_node, if_neg (c1), if_neg (g2), if_neg (g3), if_pos (g4)])), ht9⟩) (fun q hq => absurd hq List.not_mem_nil) dX8_node_97
    by_cases g5 : w = 3
    · refine lv_tableIn (off := 84) (tgt := 98) S.1 S.2.1 dX8_node_14 (by rw [g5]; decide) (by rw [g5]; decide) (by rw [g5]; rfl) (by decide) ?_
      refine lv_aload_n S.1 S.2.1 dX8_node_98 rfl (lv_at hl 0 rfl) ?_
      refine al_g_RX8_35 S hK hW dX8_node_99 ?_
      refine lv_iload_n S.1 S.2.1 dX8_node_102 rfl (lv_at hl 1 rfl) ?_
      refine al_cP (rest := []) S hK hW (al_X4_childrenOf l D cy ad σ x) al_mi_X4_childrenOf al_ml_RX8_90 rfl (al_rc_4 D cy ad _) rfl hl.1 rfl (Nat.le_of_ble_eq_true rfl) dX8_node_103 ⟨Nat.le_of_ble_eq_true rfl, Nat.le_of_ble_eq_true rfl⟩ ⟨Nat.zero_le _, Nat.zero_le _⟩ ?_
      refine W.eq (g2 := F0 m 106 ls [.int (al_rg (σ.1 17) x)]) rfl ?_
      exact W.iret S.1 S.2.1 hr (fun t9 ht9 _ => ⟨(congrArg (fun z => Outcome.returned (some (Value.int z))) (by simp only [al_node, if_neg (c1), if_neg (g2), if_neg (g3), if_neg (g4), if_pos (g5)])), ht9⟩) (fun q hq => absurd hq List.not_mem_nil) dX8_node_106
    by_cases g6 : w = 4
    · refine lv_tableIn (off := 93) (tgt := 107) S.1 S.2.1 dX8_node_14 (by rw [g6]; decide) (by rw [g6]; decide) (by rw [g6]; rfl) (by decide) ?_
      refine lv_aload_n S.1 S.2.1 dX8_node_107 rfl (lv_at hl 0 rfl) ?_
      refine al_g_RX8_35 S hK hW dX8_node_108 ?_
      refine lv_iload_n S.1 S.2.1 dX8_node_111 rfl (lv_at hl 1 rfl) ?_
      refine al_cP (rest := []) S hK hW (al_X4_sizeOf l D cy ad σ x) al_mi_X4_sizeOf al_ml_RX8_168 rfl (al_rc_4 D cy ad _) rfl hl.1 rfl (Nat.le_of_ble_eq_true rfl) dX8_node_112 ⟨Nat.le_of_ble_eq_true rfl, Nat.le_of_ble_eq_true rfl⟩ ⟨Nat.zero_le _, Nat.zero_le _⟩ ?_
      refine W.eq (g2 := F0 m 115 ls [.int (al_rg (σ.1 18) x)]) rfl ?_
      exact W.iret S.1 S.2.1 hr (fun t9 ht9 _ => ⟨(congrArg (fun z => Outcome.returned (some (Value.int z))) (by simp only [al_node, if_neg (c1), if_neg (g2), if_neg (g3), if_neg (g4), if_neg (g5), if_pos (g6)])), ht9⟩) (fun q hq => absurd hq List.not_mem_nil) dX8_node_115
    by_cases g7 : w = 5
    · refine lv_tableIn (off := 102) (tgt := 116) S.1 S.2.1 dX8_node_14 (by rw [g7]; decide) (by rw [g7]; decide) (by rw [g7]; rfl) (by decide) ?_
      refine lv_aload_n S.1 S.2.1 dX8_node_116 rfl (lv_at hl 0 rfl) ?_
      refine al_g_RX8_35 S hK hW dX8_node_117 ?_
      refine lv_iload_n S.1 S.2.1 dX8_node_120 rfl (lv_at hl 1 rfl) ?_
      refine al_cP (rest := []) S hK hW (al_X4_longChildOf l D cy ad σ x) al_mi_X4_longChildOf al_ml_RX8_171 rfl (al_rc_4 D cy ad _) rfl hl.1 rfl (Nat.le_of_ble_eq_true rfl) dX8_node_121 ⟨Nat.le_of_ble_eq_true rfl, Nat.le_of_ble_eq_true rfl⟩ ⟨Nat.zero_le _, Nat.zero_le _⟩ ?_
      refine W.eq (g2 := F0 m 124 ls [.int (al_rg (σ.1 19) x)]) rfl ?_
      refine al_cPs (rest := []) S hK hW (al_X8_orNone l D cy ad σ (al_rg (σ.1 19) x)) al_ms_X8_orNone al_ml_RX8_162 rfl hl.1 rfl (Nat.le_of_ble_eq_true rfl) dX8_node_124 ⟨Nat.le_of_ble_eq_true rfl, Nat.le_of_ble_eq_true rfl⟩ ⟨Nat.zero_le _, Nat.zero_le _⟩ ?_
      refine W.eq (g2 := F0 m 127 ls [.int (al_orN (al_rg (σ.1 19) x))]) rfl ?_
      exact W.iret S.1 S.2.1 hr (fun t9 ht9 _ => ⟨(congrArg (fun z => Outcome.returned (some (Value.int z))) (by simp only [al_node, if_neg (c1), if_neg (g2), if_neg (g3), if_neg (g4), if_neg (g5), if_neg (g6), if_pos (g7)])), ht9⟩) (fun q hq => absurd hq List.not_mem_nil) dX8_node_127
    by_cases g8 : w = 6
    · refine lv_tableIn (off := 114) (tgt := 128) S.1 S.2.1 dX8_node_14 (by rw [g8]; decide) (by rw [g8]; decide) (by rw [g8]; rfl) (by decide) ?_
      refine lv_aload_n S.1 S.2.1 dX8_node_128 rfl (lv_at hl 0 rfl) ?_
      refine al_g_RX8_35 S hK hW dX8_node_129 ?_
      refine lv_iload_n S.1 S.2.1 dX8_node_132 rfl (lv_at hl 1 rfl) ?_
      refine al_cP (rest := []) S hK hW (al_X4_topOf l D cy ad σ x) al_mi_X4_topOf al_ml_RX8_174 rfl (al_rc_4 D cy ad _) rfl hl.1 rfl (Nat.le_of_ble_eq_true rfl) dX8_node_133 ⟨Nat.le_of_ble_eq_true rfl, Nat.le_of_ble_eq_true rfl⟩ ⟨Nat.zero_le _, Nat.zero_le _⟩ ?_
      refine W.eq (g2 := F0 m 136 ls [.int (al_rg (σ.1 20) x)]) rfl ?_
      exact W.iret S.1 S.2.1 hr (fun t9 ht9 _ => ⟨(congrArg (fun z => Outcome.returned (some (Value.int z))) (by simp only [al_node, if_neg (c1), if_neg (g2), if_neg (g3), if_neg (g4), if_neg (g5), if_neg (g6), if_neg (g7), if_pos (g8)])), ht9⟩) (fun q hq => absurd hq List.not_mem_nil) dX8_node_136
    by_cases g9 : w = 7
    · refine lv_tableIn (off := 123) (tgt := 137) S.1 S.2.1 dX8_node_14 (by rw [g9]; decide) (by rw [g9]; decide) (by rw [g9]; rfl) (by decide) ?_
      refine lv_aload_n S.1 S.2.1 dX8_node_137 rfl (lv_at hl 0 rfl) ?_
      refine al_g_RX8_35 S hK hW dX8_node_138 ?_
      refine lv_iload_n S.1 S.2.1 dX8_node_141 rfl (lv_at hl 1 rfl) ?_
      refine al_cP (rest := []) S hK hW (al_X4_footOf l D cy ad σ x) al_mi_X4_footOf al_ml_RX8_159 rfl (al_rc_4 D cy ad _) rfl hl.1 rfl (Nat.le_of_ble_eq_true rfl) dX8_node_142 ⟨Nat.le_of_ble_eq_true rfl, Nat.le_of_ble_eq_true rfl⟩ ⟨Nat.zero_le _, Nat.zero_le _⟩ ?_
      refine W.eq (g2 := F0 m 145 ls [.int (al_rg (σ.1 21) x)]) rfl ?_
      exact W.iret S.1 S.2.1 hr (fun t9 ht9 _ => ⟨(congrArg (fun z => Outcome.returned (some (Value.int z))) (by simp only [al_node, if_neg (c1), if_neg (g2), if_neg (g3), if_neg (g4), if_neg (g5), if_neg (g6), if_neg (g7), if_neg (g8), if_pos (g9)])), ht9⟩) (fun q hq => absurd hq List.not_mem_nil) dX8_node_145
    by_cases g10 : w = 8
    · refine lv_tableIn (off := 132) (tgt := 146) S.1 S.2.1 dX8_node_14 (by rw [g10]; decide) (by rw [g10]; decide) (by rw [g10]; rfl) (by decide) ?_
      refine lv_aload_n S.1 S.2.1 dX8_node_146 rfl (lv_at hl 0 rfl) ?_
      refine al_g_RX8_35 S hK hW dX8_node_147 ?_
      refine lv_iload_n S.1 S.2.1 dX8_node_150 rfl (lv_at hl 1 rfl) ?_
      refine al_cP (rest := []) S hK hW (al_X4_longWayOf l D cy ad σ x) al_mi_X4_longWayOf al_ml_RX8_177 rfl (al_rc_4 D cy ad _) rfl hl.1 rfl (Nat.le_of_ble_eq_true rfl) dX8_node_151 ⟨Nat.le_of_ble_eq_true rfl, Nat.le_of_ble_eq_true rfl⟩ ⟨Nat.zero_le _, Nat.zero_le _⟩ ?_
      refine W.eq (g2 := F0 m 154 ls [.int (al_way σ x)]) rfl ?_
      exact W.iret S.1 S.2.1 hr (fun t9 ht9 _ => ⟨(congrArg (fun z => Outcome.returned (some (Value.int z))) (by simp only [al_node, if_neg (c1), if_neg (g2), if_neg (g3), if_neg (g4), if_neg (g5), if_neg (g6), if_neg (g7), if_neg (g8), if_neg (g9), if_pos (g10)])), ht9⟩) (fun q hq => absurd hq List.not_mem_nil) dX8_node_154
    by_cases g11 : w = 9
    · refine lv_tableIn (off := 141) (tgt := 155) S.1 S.2.1 dX8_node_14 (by rw [g11]; decide) (by rw [g11]; decide) (by rw [g11]; rfl) (by decide) ?_
      refine lv_aload_n S.1 S.2.1 dX8_node_155 rfl (lv_at hl 0 rfl) ?_
      refine al_g_RX8_35 S hK hW dX8_node_156 ?_
      refine lv_iload_n S.1 S.2.1 dX8_node_159 rfl (lv_at hl 1 rfl) ?_
      refine al_cP (rest := []) S hK hW (al_X4_ladderOf l D cy ad σ x) al_mi_X4_ladderOf al_ml_RX8_156 rfl (al_rc_4 D cy ad _) rfl hl.1 rfl (Nat.le_of_ble_eq_true rfl) dX8_node_160 ⟨Nat.le_of_ble_eq_true rfl, Nat.le_of_ble_eq_true rfl⟩ ⟨Nat.zero_le _, Nat.zero_le _⟩ ?_
      refine W.eq (g2 := F0 m 163 ls [.int (al_lad σ x)]) rfl ?_
      exact W.iret S.1 S.2.1 hr (fun t9 ht9 _ => ⟨(congrArg (fun z => Outcome.returned (some (Value.int z))) (by simp only [al_node, if_neg (c1), if_neg (g2), if_neg (g3), if_neg (g4), if_neg (g5), if_neg (g6), if_neg (g7), if_neg (g8), if_neg (g9), if_neg (g10), if_pos (g11)])), ht9⟩) (fun q hq => absurd hq List.not_mem_nil) dX8_node_163
    refine lv_tableOut (tgt := 164) S.1 S.2.1 dX8_node_14 (al_out9 g2 g3 g4 g5 g6 g7 g8 g9 g10 g11) (by decide) ?_
    refine lv_bipush (v := -2) S.1 S.2.1 dX8_node_164 (by decide) ?_
    exact W.iret S.1 S.2.1 hr (fun t9 ht9 _ => ⟨(congrArg (fun z => Outcome.returned (some (Value.int z))) (by simp only [al_node, if_neg (c1), if_neg (g2), if_neg (g3), if_neg (g4), if_neg (g5), if_neg (g6), if_neg (g7), if_neg (g8), if_neg (g9), if_neg (g10), if_neg (g11)])), ht9⟩) (fun q hq => absurd hq List.not_mem_nil) dX8_node_166
  · refine lv_iconst (v := -1) S.1 S.2.1 dX8_node_11 (by decide) ?_
    exact W.iret S.1 S.2.1 hr (fun t9 ht9 _ => ⟨(congrArg (fun z => Outcome.returned (some (Value.int z))) (by simp only [al_node, if_pos (c1)])), ht9⟩) (fun q hq => absurd hq List.not_mem_nil) dX8_node_12
theorem al_mv_X8_meeting : al_mv yX8_meeting cX8_meeting 3 (some .int) 2 := ⟨al_c_X8_meeting, al_ini_RX8, ⟨by decide +kernel, by decide +kernel, by decide +kernel⟩, by decide +kernel⟩
theorem al_mi_X8_meeting : al_mi yX8_meeting cX8_meeting 3 (some .int) 2 := ⟨al_mv_X8_meeting, al_in_X8_meeting, al_se_X8_meeting⟩
set_option maxHeartbeats 4000000 in
set_option maxRecDepth 100000 in
theorem al_X8_meeting (l : Launch) (D : va_G) (cy : al_CY) (ad : Nat → Nat) (σ : al_St) (x : Int32) (y : Int32) : al_MP l yX8_meeting cX8_meeting 3 (some .int) 4 91 D cy ad σ [.ref (ad (0)), .int x, .int y] (some (.int (al_mtg σ x y))) := by
  refine al_met al_mv_X8_meeting (Nat.le_of_ble_eq_true rfl) ?_
  intro p e s m args below meth c ls S hr hlocks hK hW hS hl
  have hl : lv_has ls 3 [(0, .ref (ad (0))), (1, .int x), (2, .int y)] := hl
  refine lv_aload_n S.1 S.2.1 dX8_meeting_0 rfl (lv_at hl 0 rfl) ?_
  refine al_g_RX8_10 S hK hW dX8_meeting_1 ?_
  refine lv_iload_n S.1 S.2.1 dX8_meeting_4 rfl (lv_at hl 1 rfl) ?_
  refine al_cP (rest := []) S hK hW (al_X6_isNode l D cy ad σ 0 (by omega) x) al_mi_X6_isNode al_ml_RX8_58 rfl (al_rc_T D cy ad _ (t := 0) (by omega)) rfl hl.1 rfl (Nat.le_of_ble_eq_true rfl) dX8_meeting_5 ⟨Nat.le_of_ble_eq_true rfl, Nat.le_of_ble_eq_true rfl⟩ ⟨Nat.zero_le _, Nat.zero_le _⟩ ?_
  refine W.eq (g2 := F0 m 8 ls [.int (al_isN σ 0 x)]) rfl ?_
  refine lv_if_eq (tgt := 22) S.1 S.2.1 dX8_meeting_8 (by decide) (fun c1 => ?_) (fun c1 => ?_)
  · refine lv_iconst (v := -1) S.1 S.2.1 dX8_meeting_22 (by decide) ?_
    exact W.iret S.1 S.2.1 hr (fun t9 ht9 _ => ⟨(congrArg (fun z => Outcome.returned (some (Value.int z))) (by simp only [al_mtg, if_pos (c1)])), ht9⟩) (fun q hq => absurd hq List.not_mem_nil) dX8_meeting_23
  · refine lv_aload_n S.1 S.2.1 dX8_meeting_11 rfl (lv_at hl 0 rfl) ?_
    refine al_g_RX8_10 S hK hW dX8_meeting_12 ?_
    refine lv_iload_n S.1 S.2.1 dX8_meeting_15 rfl (lv_at hl 2 rfl) ?_
    refine al_cP (rest := []) S hK hW (al_X6_isNode l D cy ad σ 0 (by omega) y) al_mi_X6_isNode al_ml_RX8_58 rfl (al_rc_T D cy ad _ (t := 0) (by omega)) rfl hl.1 rfl (Nat.le_of_ble_eq_true rfl) dX8_meeting_16 ⟨Nat.le_of_ble_eq_true rfl, Nat.le_of_ble_eq_true rfl⟩ ⟨Nat.zero_le _, Nat.zero_le _⟩ ?_
    refine W.eq (g2 := F0 m 19 ls [.int (al_isN σ 0 y)]) rfl ?_
    refine lv_if_ne (tgt := 24) S.1 S.2.1 dX8_meeting_19 (by decide) (fun c2 => ?_) (fun c2 => ?_)
    · refine lv_aload_n S.1 S.2.1 dX8_meeting_24 rfl (lv_at hl 0 rfl) ?_
      refine al_g_RX8_35 S hK hW dX8_meeting_25 ?_
      refine lv_iload_n S.1 S.2.1 dX8_meeting_28 rfl (lv_at hl 1 rfl) ?_
      refine lv_iload_n S.1 S.2.1 dX8_meeting_29 rfl (lv_at hl 2 rfl) ?_
      refine al_cP (rest := []) S hK hW (al_X4_meetingOf l D cy ad σ x y) al_mi_X4_meetingOf al_ml_RX8_180 rfl (al_rc_4 D cy ad _) rfl hl.1 rfl (Nat.le_of_ble_eq_true rfl) dX8_meeting_30 ⟨Nat.le_of_ble_eq_true rfl, Nat.le_of_ble_eq_true rfl⟩ ⟨Nat.zero_le _, Nat.zero_le _⟩ ?_
      refine W.eq (g2 := F0 m 33 ls [.int (al_meet σ x y)]) rfl ?_
      exact W.iret S.1 S.2.1 hr (fun t9 ht9 _ => ⟨(congrArg (fun z => Outcome.returned (some (Value.int z))) (by simp only [al_mtg, if_neg (c1), if_neg (c2)])), ht9⟩) (fun q hq => absurd hq List.not_mem_nil) dX8_meeting_33
    · refine lv_iconst (v := -1) S.1 S.2.1 dX8_meeting_22 (by decide) ?_
      exact W.iret S.1 S.2.1 hr (fun t9 ht9 _ => ⟨(congrArg (fun z => Outcome.returned (some (Value.int z))) (by simp only [al_mtg, if_neg (c1), if_pos (c2)])), ht9⟩) (fun q hq => absurd hq List.not_mem_nil) dX8_meeting_23
theorem al_mv_X8_wayAt : al_mv yX8_wayAt cX8_wayAt 4 (some .int) 3 := ⟨al_c_X8_wayAt, al_ini_RX8, ⟨by decide +kernel, by decide +kernel, by decide +kernel⟩, by decide +kernel⟩
theorem al_mi_X8_wayAt : al_mi yX8_wayAt cX8_wayAt 4 (some .int) 3 := ⟨al_mv_X8_wayAt, al_in_X8_wayAt, al_se_X8_wayAt⟩
set_option maxHeartbeats 4000000 in
set_option maxRecDepth 100000 in
theorem al_X8_wayAt (l : Launch) (D : va_G) (cy : al_CY) (ad : Nat → Nat) (σ : al_St) (x : Int32) (y : Int32) (z : Int32) : al_MP l yX8_wayAt cX8_wayAt 4 (some .int) 5 117 D cy ad σ [.ref (ad (0)), .int x, .int y, .int z] (some (.int (al_wayAt σ x y z))) := by
  refine al_met al_mv_X8_wayAt (Nat.le_of_ble_eq_true rfl) ?_
  intro p e s m args below meth c ls S hr hlocks hK hW hS hl
  have hl : lv_has ls 4 [(0, .ref (ad (0))), (1, .int x), (2, .int y), (3, .int z)] := hl
  refine lv_aload_n S.1 S.2.1 dX8_wayAt_0 rfl (lv_at hl 0 rfl) ?_
  refine al_g_RX8_10 S hK hW dX8_wayAt_1 ?_
  refine lv_iload_n S.1 S.2.1 dX8_wayAt_4 rfl (lv_at hl 1 rfl) ?_
  refine al_cP (rest := []) S hK hW (al_X6_isNode l D cy ad σ 0 (by omega) x) al_mi_X6_isNode al_ml_RX8_58 rfl (al_rc_T D cy ad _ (t := 0) (by omega)) rfl hl.1 rfl (Nat.le_of_ble_eq_true rfl) dX8_wayAt_5 ⟨Nat.le_of_ble_eq_true rfl, Nat.le_of_ble_eq_true rfl⟩ ⟨Nat.zero_le _, Nat.zero_le _⟩ ?_
  refine W.eq (g2 := F0 m 8 ls [.int (al_isN σ 0 x)]) rfl ?_
  refine lv_if_eq (tgt := 22) S.1 S.2.1 dX8_wayAt_8 (by decide) (fun c1 => ?_) (fun c1 => ?_)
  · refine lv_iconst (v := -1) S.1 S.2.1 dX8_wayAt_22 (by decide) ?_
    exact W.iret S.1 S.2.1 hr (fun t9 ht9 _ => ⟨(congrArg (fun z => Outcome.returned (some (Value.int z))) (by simp only [al_wayAt, if_pos (c1)])), ht9⟩) (fun q hq => absurd hq List.not_mem_nil) dX8_wayAt_23
  · refine lv_aload_n S.1 S.2.1 dX8_wayAt_11 rfl (lv_at hl 0 rfl) ?_
    refine al_g_RX8_10 S hK hW dX8_wayAt_12 ?_
    refine lv_iload_n S.1 S.2.1 dX8_wayAt_15 rfl (lv_at hl 2 rfl) ?_
    refine al_cP (rest := []) S hK hW (al_X6_isNode l D cy ad σ 0 (by omega) y) al_mi_X6_isNode al_ml_RX8_58 rfl (al_rc_T D cy ad _ (t := 0) (by omega)) rfl hl.1 rfl (Nat.le_of_ble_eq_true rfl) dX8_wayAt_16 ⟨Nat.le_of_ble_eq_true rfl, Nat.le_of_ble_eq_true rfl⟩ ⟨Nat.zero_le _, Nat.zero_le _⟩ ?_
    refine W.eq (g2 := F0 m 19 ls [.int (al_isN σ 0 y)]) rfl ?_
    refine lv_if_ne (tgt := 24) S.1 S.2.1 dX8_wayAt_19 (by decide) (fun c2 => ?_) (fun c2 => ?_)
    · refine lv_iload_n S.1 S.2.1 dX8_wayAt_24 rfl (lv_at hl 3 rfl) ?_
      refine lv_if_ge (tgt := 31) S.1 S.2.1 dX8_wayAt_25 (by decide) (fun c3 => ?_) (fun c3 => ?_)
      · refine lv_aload_n S.1 S.2.1 dX8_wayAt_31 rfl (lv_at hl 0 rfl) ?_
        refine al_g_RX8_44 S hK hW dX8_wayAt_32 ?_
        refine lv_iload_n S.1 S.2.1 dX8_wayAt_35 rfl (lv_at hl 1 rfl) ?_
        refine lv_iload_n S.1 S.2.1 dX8_wayAt_36 rfl (lv_at hl 2 rfl) ?_
        refine lv_iload_n S.1 S.2.1 dX8_wayAt_37 rfl (lv_at hl 3 rfl) ?_
        refine al_cP (rest := []) S hK hW (al_X7_onWay l D cy ad σ x y z) al_mi_X7_onWay al_ml_RX8_183 rfl (al_rc_7 D cy ad _) rfl hl.1 rfl (Nat.le_of_ble_eq_true rfl) dX8_wayAt_38 ⟨Nat.le_of_ble_eq_true rfl, Nat.le_of_ble_eq_true rfl⟩ ⟨Nat.zero_le _, Nat.zero_le _⟩ ?_
        refine W.eq (g2 := F0 m 41 ls [.int (al_onWay σ x y z)]) rfl ?_
        refine al_cPs (rest := []) S hK hW (al_X8_orNone l D cy ad σ (al_onWay σ x y z)) al_ms_X8_orNone al_ml_RX8_162 rfl hl.1 rfl (Nat.le_of_ble_eq_true rfl) dX8_wayAt_41 ⟨Nat.le_of_ble_eq_true rfl, Nat.le_of_ble_eq_true rfl⟩ ⟨Nat.zero_le _, Nat.zero_le _⟩ ?_
        refine W.eq (g2 := F0 m 44 ls [.int (al_orN (al_onWay σ x y z))]) rfl ?_
        exact W.iret S.1 S.2.1 hr (fun t9 ht9 _ => ⟨(congrArg (fun z => Outcome.returned (some (Value.int z))) (by simp only [al_wayAt, if_neg (c1), if_neg (c2), if_pos (c3)])), ht9⟩) (fun q hq => absurd hq List.not_mem_nil) dX8_wayAt_44
      · refine lv_bipush (v := -2) S.1 S.2.1 dX8_wayAt_28 (by decide) ?_
        exact W.iret S.1 S.2.1 hr (fun t9 ht9 _ => ⟨(congrArg (fun z => Outcome.returned (some (Value.int z))) (by simp only [al_wayAt, if_neg (c1), if_neg (c2), if_neg (c3)])), ht9⟩) (fun q hq => absurd hq List.not_mem_nil) dX8_wayAt_30
    · refine lv_iconst (v := -1) S.1 S.2.1 dX8_wayAt_22 (by decide) ?_
      exact W.iret S.1 S.2.1 hr (fun t9 ht9 _ => ⟨(congrArg (fun z => Outcome.returned (some (Value.int z))) (by simp only [al_wayAt, if_neg (c1), if_pos (c2)])), ht9⟩) (fun q hq => absurd hq List.not_mem_nil) dX8_wayAt_23
theorem al_mv_X8_real : al_mv yX8_real cX8_real 3 (some .float) 2 := ⟨al_c_X8_real, al_ini_RX8, ⟨by decide +kernel, by decide +kernel, by decide +kernel⟩, by decide +kernel⟩
theorem al_mi_X8_real : al_mi yX8_real cX8_real 3 (some .float) 2 := ⟨al_mv_X8_real, al_in_X8_real, al_se_X8_real⟩
set_option maxHeartbeats 4000000 in
set_option maxRecDepth 100000 in
theorem al_X8_real (l : Launch) (D : va_G) (cy : al_CY) (ad : Nat → Nat) (σ : al_St) (x : Int32) (w : Int32) : al_MP l yX8_real cX8_real 3 (some .float) 2 42 D cy ad σ [.ref (ad (0)), .int x, .int w] (some (.float (al_real σ x w))) := by
  refine al_met al_mv_X8_real (Nat.le_of_ble_eq_true rfl) ?_
  intro p e s m args below meth c ls S hr hlocks hK hW hS hl
  have hl : lv_has ls 3 [(0, .ref (ad (0))), (1, .int x), (2, .int w)] := hl
  refine lv_aload_n S.1 S.2.1 dX8_real_0 rfl (lv_at hl 0 rfl) ?_
  refine al_g_RX8_10 S hK hW dX8_real_1 ?_
  refine lv_iload_n S.1 S.2.1 dX8_real_4 rfl (lv_at hl 1 rfl) ?_
  refine al_cP (rest := []) S hK hW (al_X6_isNode l D cy ad σ 0 (by omega) x) al_mi_X6_isNode al_ml_RX8_58 rfl (al_rc_T D cy ad _ (t := 0) (by omega)) rfl hl.1 rfl (Nat.le_of_ble_eq_true rfl) dX8_real_5 ⟨Nat.le_of_ble_eq_true rfl, Nat.le_of_ble_eq_true rfl⟩ ⟨Nat.zero_le _, Nat.zero_le _⟩ ?_
  refine W.eq (g2 := F0 m 8 ls [.int (al_isN σ 0 x)]) rfl ?_
  refine lv_if_eq (tgt := 20) S.1 S.2.1 dX8_real_8 (by decide) (fun c1 => ?_) (fun c1 => ?_)
  · refine al_cPs (rest := []) S hK hW (al_X8_noFloat l D cy ad σ ) al_ms_X8_noFloat al_ml_RX8_187 rfl hl.1 rfl (Nat.le_of_ble_eq_true rfl) dX8_real_20 ⟨Nat.le_of_ble_eq_true rfl, Nat.le_of_ble_eq_true rfl⟩ ⟨Nat.zero_le _, Nat.zero_le _⟩ ?_
    refine W.eq (g2 := F0 m 23 ls [.float 2143289344]) rfl ?_
    exact W.fret S.1 S.2.1 hr (fun t9 ht9 _ => ⟨(congrArg (fun z => Outcome.returned (some (Value.float z))) (by simp only [al_real, if_pos (c1)])), ht9⟩) (fun q hq => absurd hq List.not_mem_nil) dX8_real_23
  · refine lv_iload_n S.1 S.2.1 dX8_real_11 rfl (lv_at hl 2 rfl) ?_
    refine lv_if_lt (tgt := 20) S.1 S.2.1 dX8_real_12 (by decide) (fun c2 => ?_) (fun c2 => ?_)
    · refine al_cPs (rest := []) S hK hW (al_X8_noFloat l D cy ad σ ) al_ms_X8_noFloat al_ml_RX8_187 rfl hl.1 rfl (Nat.le_of_ble_eq_true rfl) dX8_real_20 ⟨Nat.le_of_ble_eq_true rfl, Nat.le_of_ble_eq_true rfl⟩ ⟨Nat.zero_le _, Nat.zero_le _⟩ ?_
      refine W.eq (g2 := F0 m 23 ls [.float 2143289344]) rfl ?_
      exact W.fret S.1 S.2.1 hr (fun t9 ht9 _ => ⟨(congrArg (fun z => Outcome.returned (some (Value.float z))) (by simp only [al_real, if_neg (c1), if_pos (c2)])), ht9⟩) (fun q hq => absurd hq List.not_mem_nil) dX8_real_23
    · refine lv_iload_n S.1 S.2.1 dX8_real_15 rfl (lv_at hl 2 rfl) ?_
      refine lv_iconst (v := 1) S.1 S.2.1 dX8_real_16 (by decide) ?_
      refine lv_icmp_le (tgt := 24) S.1 S.2.1 dX8_real_17 (by decide) (fun c3 => ?_) (fun c3 => ?_)
      · refine lv_iload_n S.1 S.2.1 dX8_real_24 rfl (lv_at hl 2 rfl) ?_
        refine lv_if_ne (tgt := 39) S.1 S.2.1 dX8_real_25 (by decide) (fun c4 => ?_) (fun c4 => ?_)
        · refine lv_aload_n S.1 S.2.1 dX8_real_39 rfl (lv_at hl 0 rfl) ?_
          refine al_g_RX8_44 S hK hW dX8_real_40 ?_
          refine lv_iload_n S.1 S.2.1 dX8_real_43 rfl (lv_at hl 1 rfl) ?_
          refine al_cP (rest := []) S hK hW (al_X7_pathOf l D cy ad σ x) al_mi_X7_pathOf al_ml_RX8_194 rfl (al_rc_7 D cy ad _) rfl hl.1 rfl (Nat.le_of_ble_eq_true rfl) dX8_real_44 ⟨Nat.le_of_ble_eq_true rfl, Nat.le_of_ble_eq_true rfl⟩ ⟨Nat.zero_le _, Nat.zero_le _⟩ ?_
          refine W.eq (g2 := F0 m 47 ls [.float (al_fg (σ.2.1 6) x)]) rfl ?_
          exact W.fret S.1 S.2.1 hr (fun t9 ht9 _ => ⟨(congrArg (fun z => Outcome.returned (some (Value.float z))) (by simp only [al_real, if_neg (c1), if_neg (c2), if_pos (c3), if_neg (c4)])), ht9⟩) (fun q hq => absurd hq List.not_mem_nil) dX8_real_47
        · refine lv_aload_n S.1 S.2.1 dX8_real_28 rfl (lv_at hl 0 rfl) ?_
          refine al_g_RX8_10 S hK hW dX8_real_29 ?_
          refine lv_iload_n S.1 S.2.1 dX8_real_32 rfl (lv_at hl 1 rfl) ?_
          refine al_cP (rest := []) S hK hW (al_X6_lengthOf l D cy ad σ 0 (by omega) x) al_mi_X6_lengthOf al_ml_RX8_191 rfl (al_rc_T D cy ad _ (t := 0) (by omega)) rfl hl.1 rfl (Nat.le_of_ble_eq_true rfl) dX8_real_33 ⟨Nat.le_of_ble_eq_true rfl, Nat.le_of_ble_eq_true rfl⟩ ⟨Nat.zero_le _, Nat.zero_le _⟩ ?_
          refine W.eq (g2 := F0 m 36 ls [.float (al_fg (σ.2.1 0) x)]) rfl ?_
          refine lv_goto (tgt := 47) S.1 S.2.1 dX8_real_36 (by decide) ?_
          exact W.fret S.1 S.2.1 hr (fun t9 ht9 _ => ⟨(congrArg (fun z => Outcome.returned (some (Value.float z))) (by simp only [al_real, if_neg (c1), if_neg (c2), if_pos (c3), if_pos (c4)])), ht9⟩) (fun q hq => absurd hq List.not_mem_nil) dX8_real_47
      · refine al_cPs (rest := []) S hK hW (al_X8_noFloat l D cy ad σ ) al_ms_X8_noFloat al_ml_RX8_187 rfl hl.1 rfl (Nat.le_of_ble_eq_true rfl) dX8_real_20 ⟨Nat.le_of_ble_eq_true rfl, Nat.le_of_ble_eq_true rfl⟩ ⟨Nat.zero_le _, Nat.zero_le _⟩ ?_
        refine W.eq (g2 := F0 m 23 ls [.float 2143289344]) rfl ?_
        exact W.fret S.1 S.2.1 hr (fun t9 ht9 _ => ⟨(congrArg (fun z => Outcome.returned (some (Value.float z))) (by simp only [al_real, if_neg (c1), if_neg (c2), if_neg (c3)])), ht9⟩) (fun q hq => absurd hq List.not_mem_nil) dX8_real_23
theorem al_mv_X8_distance : al_mv yX8_distance cX8_distance 3 (some .float) 2 := ⟨al_c_X8_distance, al_ini_RX8, ⟨by decide +kernel, by decide +kernel, by decide +kernel⟩, by decide +kernel⟩
theorem al_mi_X8_distance : al_mi yX8_distance cX8_distance 3 (some .float) 2 := ⟨al_mv_X8_distance, al_in_X8_distance, al_se_X8_distance⟩
set_option maxHeartbeats 4000000 in
set_option maxRecDepth 100000 in
theorem al_X8_distance (l : Launch) (D : va_G) (cy : al_CY) (ad : Nat → Nat) (σ : al_St) (x : Int32) (y : Int32) (hB : al_FB σ) : al_MP l yX8_distance cX8_distance 3 (some .float) 5 113 D cy ad σ [.ref (ad (0)), .int x, .int y] (some (.float (al_dist σ x y))) := by
  refine al_met al_mv_X8_distance (Nat.le_of_ble_eq_true rfl) ?_
  intro p e s m args below meth c ls S hr hlocks hK hW hS hl
  have hl : lv_has ls 3 [(0, .ref (ad (0))), (1, .int x), (2, .int y)] := hl
  refine lv_aload_n S.1 S.2.1 dX8_distance_0 rfl (lv_at hl 0 rfl) ?_
  refine al_g_RX8_10 S hK hW dX8_distance_1 ?_
  refine lv_iload_n S.1 S.2.1 dX8_distance_4 rfl (lv_at hl 1 rfl) ?_
  refine al_cP (rest := []) S hK hW (al_X6_isNode l D cy ad σ 0 (by omega) x) al_mi_X6_isNode al_ml_RX8_58 rfl (al_rc_T D cy ad _ (t := 0) (by omega)) rfl hl.1 rfl (Nat.le_of_ble_eq_true rfl) dX8_distance_5 ⟨Nat.le_of_ble_eq_true rfl, Nat.le_of_ble_eq_true rfl⟩ ⟨Nat.zero_le _, Nat.zero_le _⟩ ?_
  refine W.eq (g2 := F0 m 8 ls [.int (al_isN σ 0 x)]) rfl ?_
  refine lv_if_eq (tgt := 22) S.1 S.2.1 dX8_distance_8 (by decide) (fun c1 => ?_) (fun c1 => ?_)
  · refine al_cPs (rest := []) S hK hW (al_X8_noFloat l D cy ad σ ) al_ms_X8_noFloat al_ml_RX8_187 rfl hl.1 rfl (Nat.le_of_ble_eq_true rfl) dX8_distance_22 ⟨Nat.le_of_ble_eq_true rfl, Nat.le_of_ble_eq_true rfl⟩ ⟨Nat.zero_le _, Nat.zero_le _⟩ ?_
    refine W.eq (g2 := F0 m 25 ls [.float 2143289344]) rfl ?_
    exact W.fret S.1 S.2.1 hr (fun t9 ht9 _ => ⟨(congrArg (fun z => Outcome.returned (some (Value.float z))) (by simp only [al_dist, if_pos (c1)])), ht9⟩) (fun q hq => absurd hq List.not_mem_nil) dX8_distance_25
  · refine lv_aload_n S.1 S.2.1 dX8_distance_11 rfl (lv_at hl 0 rfl) ?_
    refine al_g_RX8_10 S hK hW dX8_distance_12 ?_
    refine lv_iload_n S.1 S.2.1 dX8_distance_15 rfl (lv_at hl 2 rfl) ?_
    refine al_cP (rest := []) S hK hW (al_X6_isNode l D cy ad σ 0 (by omega) y) al_mi_X6_isNode al_ml_RX8_58 rfl (al_rc_T D cy ad _ (t := 0) (by omega)) rfl hl.1 rfl (Nat.le_of_ble_eq_true rfl) dX8_distance_16 ⟨Nat.le_of_ble_eq_true rfl, Nat.le_of_ble_eq_true rfl⟩ ⟨Nat.zero_le _, Nat.zero_le _⟩ ?_
    refine W.eq (g2 := F0 m 19 ls [.int (al_isN σ 0 y)]) rfl ?_
    refine lv_if_ne (tgt := 26) S.1 S.2.1 dX8_distance_19 (by decide) (fun c2 => ?_) (fun c2 => ?_)
    · refine lv_aload_n S.1 S.2.1 dX8_distance_26 rfl (lv_at hl 0 rfl) ?_
      refine al_g_RX8_44 S hK hW dX8_distance_27 ?_
      refine lv_iload_n S.1 S.2.1 dX8_distance_30 rfl (lv_at hl 1 rfl) ?_
      refine lv_iload_n S.1 S.2.1 dX8_distance_31 rfl (lv_at hl 2 rfl) ?_
      refine al_cP (rest := []) S hK hW (al_X7_between l D cy ad σ x y hB) al_mi_X7_between al_ml_RX8_197 rfl (al_rc_7 D cy ad _) rfl hl.1 rfl (Nat.le_of_ble_eq_true rfl) dX8_distance_32 ⟨Nat.le_of_ble_eq_true rfl, Nat.le_of_ble_eq_true rfl⟩ ⟨Nat.zero_le _, Nat.zero_le _⟩ ?_
      refine W.eq (g2 := F0 m 35 ls [.float (al_sum (al_fg (σ.2.1 6) x) (al_fg (σ.2.1 6) y) (al_fg (σ.2.1 6) (al_meet σ x y)))]) rfl ?_
      exact W.fret S.1 S.2.1 hr (fun t9 ht9 _ => ⟨(congrArg (fun z => Outcome.returned (some (Value.float z))) (by simp only [al_dist, if_neg (c1), if_neg (c2)])), ht9⟩) (fun q hq => absurd hq List.not_mem_nil) dX8_distance_35
    · refine al_cPs (rest := []) S hK hW (al_X8_noFloat l D cy ad σ ) al_ms_X8_noFloat al_ml_RX8_187 rfl hl.1 rfl (Nat.le_of_ble_eq_true rfl) dX8_distance_22 ⟨Nat.le_of_ble_eq_true rfl, Nat.le_of_ble_eq_true rfl⟩ ⟨Nat.zero_le _, Nat.zero_le _⟩ ?_
      refine W.eq (g2 := F0 m 25 ls [.float 2143289344]) rfl ?_
      exact W.fret S.1 S.2.1 hr (fun t9 ht9 _ => ⟨(congrArg (fun z => Outcome.returned (some (Value.float z))) (by simp only [al_dist, if_neg (c1), if_pos (c2)])), ht9⟩) (fun q hq => absurd hq List.not_mem_nil) dX8_distance_25
theorem al_mv_X8_reach : al_mv yX8_reach cX8_reach 3 (some .int) 2 := ⟨al_c_X8_reach, al_ini_RX8, ⟨by decide +kernel, by decide +kernel, by decide +kernel⟩, by decide +kernel⟩
theorem al_mi_X8_reach : al_mi yX8_reach cX8_reach 3 (some .int) 2 := ⟨al_mv_X8_reach, al_in_X8_reach, al_se_X8_reach⟩
set_option maxHeartbeats 4000000 in
set_option maxRecDepth 100000 in
theorem al_X8_reach (l : Launch) (D : va_G) (cy : al_CY) (ad : Nat → Nat) (σ : al_St) (x : Int32) (b : Int32) (hB : al_FB σ) : al_MP l yX8_reach cX8_reach 3 (some .int) 3 68 D cy ad σ [.ref (ad (0)), .int x, .int b] (some (.int (al_reach σ x b))) := by
  refine al_met al_mv_X8_reach (Nat.le_of_ble_eq_true rfl) ?_
  intro p e s m args below meth c ls S hr hlocks hK hW hS hl
  have hl : lv_has ls 3 [(0, .ref (ad (0))), (1, .int x), (2, .int b)] := hl
  refine lv_aload_n S.1 S.2.1 dX8_reach_0 rfl (lv_at hl 0 rfl) ?_
  refine al_g_RX8_10 S hK hW dX8_reach_1 ?_
  refine lv_iload_n S.1 S.2.1 dX8_reach_4 rfl (lv_at hl 1 rfl) ?_
  refine al_cP (rest := []) S hK hW (al_X6_isNode l D cy ad σ 0 (by omega) x) al_mi_X6_isNode al_ml_RX8_58 rfl (al_rc_T D cy ad _ (t := 0) (by omega)) rfl hl.1 rfl (Nat.le_of_ble_eq_true rfl) dX8_reach_5 ⟨Nat.le_of_ble_eq_true rfl, Nat.le_of_ble_eq_true rfl⟩ ⟨Nat.zero_le _, Nat.zero_le _⟩ ?_
  refine W.eq (g2 := F0 m 8 ls [.int (al_isN σ 0 x)]) rfl ?_
  refine lv_if_ne (tgt := 13) S.1 S.2.1 dX8_reach_8 (by decide) (fun c1 => ?_) (fun c1 => ?_)
  · refine lv_iload_n S.1 S.2.1 dX8_reach_13 rfl (lv_at hl 2 rfl) ?_
    refine al_cPs (rest := []) S hK hW (al_X8_isLength l D cy ad σ b) al_ms_X8_isLength al_ml_RX8_62 rfl hl.1 rfl (Nat.le_of_ble_eq_true rfl) dX8_reach_14 ⟨Nat.le_of_ble_eq_true rfl, Nat.le_of_ble_eq_true rfl⟩ ⟨Nat.zero_le _, Nat.zero_le _⟩ ?_
    refine W.eq (g2 := F0 m 17 ls [.int (al_isLen b)]) rfl ?_
    refine lv_if_ne (tgt := 23) S.1 S.2.1 dX8_reach_17 (by decide) (fun c2 => ?_) (fun c2 => ?_)
    · refine lv_aload_n S.1 S.2.1 dX8_reach_23 rfl (lv_at hl 0 rfl) ?_
      refine al_g_RX8_44 S hK hW dX8_reach_24 ?_
      refine lv_iload_n S.1 S.2.1 dX8_reach_27 rfl (lv_at hl 1 rfl) ?_
      refine lv_iload_n S.1 S.2.1 dX8_reach_28 rfl (lv_at hl 2 rfl) ?_
      refine al_cPs (rest := [.int x, .ref (ad (6))]) S hK hW (al_X8_toFloat l D cy ad σ b c2) al_ms_X8_toFloat al_ml_RX8_71 rfl hl.1 rfl (Nat.le_of_ble_eq_true rfl) dX8_reach_29 ⟨Nat.le_of_ble_eq_true rfl, Nat.le_of_ble_eq_true rfl⟩ ⟨Nat.zero_le _, Nat.zero_le _⟩ ?_
      refine W.eq (g2 := F0 m 32 ls [.float (al_toF b), .int x, .ref (ad (6))]) rfl ?_
      refine al_cP (rest := []) S hK hW (al_X7_highestWithin l D cy ad σ x (al_toF b) hB) al_mi_X7_highestWithin al_ml_RX8_201 rfl (al_rc_7 D cy ad _) rfl hl.1 rfl (Nat.le_of_ble_eq_true rfl) dX8_reach_32 ⟨Nat.le_of_ble_eq_true rfl, Nat.le_of_ble_eq_true rfl⟩ ⟨Nat.zero_le _, Nat.zero_le _⟩ ?_
      refine W.eq (g2 := F0 m 35 ls [.int (al_hwL σ (al_toF b) (al_fg (σ.2.1 6) x) 90 x)]) rfl ?_
      exact W.iret S.1 S.2.1 hr (fun t9 ht9 _ => ⟨(congrArg (fun z => Outcome.returned (some (Value.int z))) (by simp only [al_reach, if_neg (c1), if_neg (c2)])), ht9⟩) (fun q hq => absurd hq List.not_mem_nil) dX8_reach_35
    · refine lv_bipush (v := -2) S.1 S.2.1 dX8_reach_20 (by decide) ?_
      exact W.iret S.1 S.2.1 hr (fun t9 ht9 _ => ⟨(congrArg (fun z => Outcome.returned (some (Value.int z))) (by simp only [al_reach, if_neg (c1), if_pos (c2)])), ht9⟩) (fun q hq => absurd hq List.not_mem_nil) dX8_reach_22
  · refine lv_iconst (v := -1) S.1 S.2.1 dX8_reach_11 (by decide) ?_
    exact W.iret S.1 S.2.1 hr (fun t9 ht9 _ => ⟨(congrArg (fun z => Outcome.returned (some (Value.int z))) (by simp only [al_reach, if_pos (c1)])), ht9⟩) (fun q hq => absurd hq List.not_mem_nil) dX8_reach_12
theorem al_mv_X8_farthest : al_mv yX8_farthest cX8_farthest 2 (some .int) 1 := ⟨al_c_X8_farthest, al_ini_RX8, ⟨by decide +kernel, by decide +kernel, by decide +kernel⟩, by decide +kernel⟩
theorem al_mi_X8_farthest : al_mi yX8_farthest cX8_farthest 2 (some .int) 1 := ⟨al_mv_X8_farthest, al_in_X8_farthest, al_se_X8_farthest⟩
set_option maxHeartbeats 4000000 in
set_option maxRecDepth 100000 in
theorem al_X8_farthest (l : Launch) (D : va_G) (cy : al_CY) (ad : Nat → Nat) (σ : al_St) (x : Int32) (hB : al_FB σ) : al_MS l yX8_farthest cX8_farthest 2 (some .int) 4 90 D cy ad σ [.ref (ad (0)), .int x] (some (.int ((al_far σ x).1))) ((al_far σ x).2) := by
  refine al_met al_mv_X8_farthest (Nat.le_of_ble_eq_true rfl) ?_
  intro p e s m args below meth c ls S hr hlocks hK hW hS hl
  have hl : lv_has ls 2 [(0, .ref (ad (0))), (1, .int x)] := hl
  refine lv_aload_n S.1 S.2.1 dX8_farthest_0 rfl (lv_at hl 0 rfl) ?_
  refine al_g_RX8_10 S hK hW dX8_farthest_1 ?_
  refine lv_iload_n S.1 S.2.1 dX8_farthest_4 rfl (lv_at hl 1 rfl) ?_
  refine al_cP (rest := []) S hK hW (al_X6_isNode l D cy ad σ 0 (by omega) x) al_mi_X6_isNode al_ml_RX8_58 rfl (al_rc_T D cy ad _ (t := 0) (by omega)) rfl hl.1 rfl (Nat.le_of_ble_eq_true rfl) dX8_farthest_5 ⟨Nat.le_of_ble_eq_true rfl, Nat.le_of_ble_eq_true rfl⟩ ⟨Nat.zero_le _, Nat.zero_le _⟩ ?_
  refine W.eq (g2 := F0 m 8 ls [.int (al_isN σ 0 x)]) rfl ?_
  refine lv_if_ne (tgt := 13) S.1 S.2.1 dX8_farthest_8 (by decide) (fun c1 => ?_) (fun c1 => ?_)
  · refine lv_aload_n S.1 S.2.1 dX8_farthest_13 rfl (lv_at hl 0 rfl) ?_
    refine al_g_RX8_44 S hK hW dX8_farthest_14 ?_
    refine lv_iload_n S.1 S.2.1 dX8_farthest_17 rfl (lv_at hl 1 rfl) ?_
    refine al_cS (rest := []) S hK hW hS (al_X7_farthestFrom l D cy ad σ x hB) al_mi_X7_farthestFrom al_ml_RX8_205 rfl (al_rc_7 D cy ad _) rfl hl.1 rfl (Nat.le_of_ble_eq_true rfl) dX8_farthest_18 ⟨Nat.le_of_ble_eq_true rfl, Nat.le_of_ble_eq_true rfl⟩ ⟨Nat.zero_le _, Nat.zero_le _⟩ (fun H locs hW hS => ?_)
    refine W.eq (g2 := F0 m 21 ls [.int (al_farOn (al_meets σ x) x 0)]) rfl ?_
    exact W.iret S.1 S.2.1 hr (fun t9 ht9 _ => ⟨(congrArg (fun z => Outcome.returned (some (Value.int z))) (by simp only [al_far, if_neg (c1)])), by rw [ht9]; exact (al_He hW (by simp only [al_far, if_neg (c1)])), hS.F ht9⟩) hS.2.2 dX8_farthest_21
  · refine lv_iconst (v := -1) S.1 S.2.1 dX8_farthest_11 (by decide) ?_
    exact W.iret S.1 S.2.1 hr (fun t9 ht9 _ => ⟨(congrArg (fun z => Outcome.returned (some (Value.int z))) (by simp only [al_far, if_pos (c1)])), by rw [ht9]; exact (al_He hW (by simp only [al_far, if_pos (c1)])), hS.F ht9⟩) hS.2.2 dX8_farthest_12
theorem al_mv_X8_apart : al_mv yX8_apart cX8_apart 2 (some .int) 1 := ⟨al_c_X8_apart, al_ini_RX8, ⟨by decide +kernel, by decide +kernel, by decide +kernel⟩, by decide +kernel⟩
theorem al_mi_X8_apart : al_mi yX8_apart cX8_apart 2 (some .int) 1 := ⟨al_mv_X8_apart, al_in_X8_apart, al_se_X8_apart⟩
set_option maxHeartbeats 4000000 in
set_option maxRecDepth 100000 in
theorem al_X8_apart (l : Launch) (D : va_G) (cy : al_CY) (ad : Nat → Nat) (σ : al_St) (w : Int32) (hB : al_FB σ) : al_MS l yX8_apart cX8_apart 2 (some .int) 4 92 D cy ad σ [.ref (ad (0)), .int w] (some (.int ((al_apart σ w).1))) ((al_apart σ w).2) := by
  refine al_met al_mv_X8_apart (Nat.le_of_ble_eq_true rfl) ?_
  intro p e s m args below meth c ls S hr hlocks hK hW hS hl
  have hl : lv_has ls 2 [(0, .ref (ad (0))), (1, .int w)] := hl
  refine lv_iload_n S.1 S.2.1 dX8_apart_0 rfl (lv_at hl 1 rfl) ?_
  refine lv_if_lt (tgt := 9) S.1 S.2.1 dX8_apart_1 (by decide) (fun c1 => ?_) (fun c1 => ?_)
  · refine lv_bipush (v := -2) S.1 S.2.1 dX8_apart_9 (by decide) ?_
    exact W.iret S.1 S.2.1 hr (fun t9 ht9 _ => ⟨(congrArg (fun z => Outcome.returned (some (Value.int z))) (by simp only [al_apart, if_pos (c1)])), by rw [ht9]; exact (al_He hW (by simp only [al_apart, if_pos (c1)])), hS.F ht9⟩) hS.2.2 dX8_apart_11
  · refine lv_iload_n S.1 S.2.1 dX8_apart_4 rfl (lv_at hl 1 rfl) ?_
    refine lv_iconst (v := 1) S.1 S.2.1 dX8_apart_5 (by decide) ?_
    refine lv_icmp_le (tgt := 12) S.1 S.2.1 dX8_apart_6 (by decide) (fun c2 => ?_) (fun c2 => ?_)
    · refine lv_aload_n S.1 S.2.1 dX8_apart_12 rfl (lv_at hl 0 rfl) ?_
      refine al_g_RX8_44 S hK hW dX8_apart_13 ?_
      refine al_cS (rest := []) S hK hW hS (al_X7_findPair l D cy ad σ hB) al_mi_X7_findPair al_ml_RX8_208 rfl (al_rc_7 D cy ad _) rfl hl.1 rfl (Nat.le_of_ble_eq_true rfl) dX8_apart_16 ⟨Nat.le_of_ble_eq_true rfl, Nat.le_of_ble_eq_true rfl⟩ ⟨Nat.zero_le _, Nat.zero_le _⟩ (fun H locs hW hS => ?_)
      refine W.eq (g2 := F0 m 19 ls []) rfl ?_
      refine lv_iload_n S.1 S.2.1 dX8_apart_19 rfl (lv_at hl 1 rfl) ?_
      refine lv_if_ne (tgt := 33) S.1 S.2.1 dX8_apart_20 (by decide) (fun c3 => ?_) (fun c3 => ?_)
      · refine lv_aload_n S.1 S.2.1 dX8_apart_33 rfl (lv_at hl 0 rfl) ?_
        refine al_g_RX8_44 S hK hW dX8_apart_34 ?_
        refine al_cP (rest := []) S hK hW (al_X7_pairSecond l D cy ad (al_findPair σ) ) al_mi_X7_pairSecond al_ml_RX8_214 rfl (al_rc_7 D cy ad _) rfl hl.1 rfl (Nat.le_of_ble_eq_true rfl) dX8_apart_37 ⟨Nat.le_of_ble_eq_true rfl, Nat.le_of_ble_eq_true rfl⟩ ⟨Nat.zero_le _, Nat.zero_le _⟩ ?_
        refine W.eq (g2 := F0 m 40 ls [.int ((al_findPair σ).2.2.1 11)]) rfl ?_
        exact W.iret S.1 S.2.1 hr (fun t9 ht9 _ => ⟨(congrArg (fun z => Outcome.returned (some (Value.int z))) (by simp only [al_apart, if_neg (c1), if_pos (c2), if_neg (c3)])), by rw [ht9]; exact (al_He hW (by simp only [al_apart, if_neg (c1), if_pos (c2), if_neg (c3)])), hS.F ht9⟩) hS.2.2 dX8_apart_40
      · refine lv_aload_n S.1 S.2.1 dX8_apart_23 rfl (lv_at hl 0 rfl) ?_
        refine al_g_RX8_44 S hK hW dX8_apart_24 ?_
        refine al_cP (rest := []) S hK hW (al_X7_pairFirst l D cy ad (al_findPair σ) ) al_mi_X7_pairFirst al_ml_RX8_211 rfl (al_rc_7 D cy ad _) rfl hl.1 rfl (Nat.le_of_ble_eq_true rfl) dX8_apart_27 ⟨Nat.le_of_ble_eq_true rfl, Nat.le_of_ble_eq_true rfl⟩ ⟨Nat.zero_le _, Nat.zero_le _⟩ ?_
        refine W.eq (g2 := F0 m 30 ls [.int ((al_findPair σ).2.2.1 10)]) rfl ?_
        refine lv_goto (tgt := 40) S.1 S.2.1 dX8_apart_30 (by decide) ?_
        exact W.iret S.1 S.2.1 hr (fun t9 ht9 _ => ⟨(congrArg (fun z => Outcome.returned (some (Value.int z))) (by simp only [al_apart, if_neg (c1), if_pos (c2), if_pos (c3)])), by rw [ht9]; exact (al_He hW (by simp only [al_apart, if_neg (c1), if_pos (c2), if_pos (c3)])), hS.F ht9⟩) hS.2.2 dX8_apart_40
    · refine lv_bipush (v := -2) S.1 S.2.1 dX8_apart_9 (by decide) ?_
      exact W.iret S.1 S.2.1 hr (fun t9 ht9 _ => ⟨(congrArg (fun z => Outcome.returned (some (Value.int z))) (by simp only [al_apart, if_neg (c1), if_neg (c2)])), by rw [ht9]; exact (al_He hW (by simp only [al_apart, if_neg (c1), if_neg (c2)])), hS.F ht9⟩) hS.2.2 dX8_apart_11
theorem al_mv_X8_shape : al_mv yX8_shape cX8_shape 2 (some .int) 1 := ⟨al_c_X8_shape, al_ini_RX8, ⟨by decide +kernel, by decide +kernel, by decide +kernel⟩, by decide +kernel⟩
theorem al_mi_X8_shape : al_mi yX8_shape cX8_shape 2 (some .int) 1 := ⟨al_mv_X8_shape, al_in_X8_shape, al_se_X8_shape⟩
set_option maxHeartbeats 4000000 in
set_option maxRecDepth 100000 in
theorem al_X8_shape (l : Launch) (D : va_G) (cy : al_CY) (ad : Nat → Nat) (σ : al_St) (x : Int32) (hp : al_pOK 9000 σ) : al_MS l yX8_shape cX8_shape 2 (some .int) 4 88 D cy ad σ [.ref (ad (0)), .int x] (some (.int ((al_shape σ x).1))) ((al_shape σ x).2) := by
  refine al_met al_mv_X8_shape (Nat.le_of_ble_eq_true rfl) ?_
  intro p e s m args below meth c ls S hr hlocks hK hW hS hl
  have hl : lv_has ls 2 [(0, .ref (ad (0))), (1, .int x)] := hl
  refine lv_aload_n S.1 S.2.1 dX8_shape_0 rfl (lv_at hl 0 rfl) ?_
  refine al_g_RX8_10 S hK hW dX8_shape_1 ?_
  refine lv_iload_n S.1 S.2.1 dX8_shape_4 rfl (lv_at hl 1 rfl) ?_
  refine al_cP (rest := []) S hK hW (al_X6_isNode l D cy ad σ 0 (by omega) x) al_mi_X6_isNode al_ml_RX8_58 rfl (al_rc_T D cy ad _ (t := 0) (by omega)) rfl hl.1 rfl (Nat.le_of_ble_eq_true rfl) dX8_shape_5 ⟨Nat.le_of_ble_eq_true rfl, Nat.le_of_ble_eq_true rfl⟩ ⟨Nat.zero_le _, Nat.zero_le _⟩ ?_
  refine W.eq (g2 := F0 m 8 ls [.int (al_isN σ 0 x)]) rfl ?_
  refine lv_if_ne (tgt := 13) S.1 S.2.1 dX8_shape_8 (by decide) (fun c1 => ?_) (fun c1 => ?_)
  · refine lv_aload_n S.1 S.2.1 dX8_shape_13 rfl (lv_at hl 0 rfl) ?_
    refine al_g_RX8_35 S hK hW dX8_shape_14 ?_
    refine lv_iload_n S.1 S.2.1 dX8_shape_17 rfl (lv_at hl 1 rfl) ?_
    refine al_cP (rest := []) S hK hW (al_X4_sizeOf l D cy ad σ x) al_mi_X4_sizeOf al_ml_RX8_168 rfl (al_rc_4 D cy ad _) rfl hl.1 rfl (Nat.le_of_ble_eq_true rfl) dX8_shape_18 ⟨Nat.le_of_ble_eq_true rfl, Nat.le_of_ble_eq_true rfl⟩ ⟨Nat.zero_le _, Nat.zero_le _⟩ ?_
    refine W.eq (g2 := F0 m 21 ls [.int (al_rg (σ.1 18) x)]) rfl ?_
    refine lv_bipush (v := 15) S.1 S.2.1 dX8_shape_21 (by decide) ?_
    refine lv_icmp_le (tgt := 29) S.1 S.2.1 dX8_shape_23 (by decide) (fun c2 => ?_) (fun c2 => ?_)
    · refine lv_aload_n S.1 S.2.1 dX8_shape_29 rfl (lv_at hl 0 rfl) ?_
      refine al_g_RX8_51 S hK hW dX8_shape_30 ?_
      refine al_cS (rest := []) S hK hW hS (al_X3_write l D cy ad σ (al_pOK_eq (by omega) hp).1 (al_pOK_eq (by omega) hp).2) al_mi_X3_write al_ml_RX8_217 rfl (al_rc_3 D cy ad _) rfl hl.1 rfl (Nat.le_of_ble_eq_true rfl) dX8_shape_33 ⟨Nat.le_of_ble_eq_true rfl, Nat.le_of_ble_eq_true rfl⟩ ⟨Nat.zero_le _, Nat.zero_le _⟩ (fun H locs hW hS => ?_)
      refine W.eq (g2 := F0 m 36 ls []) rfl ?_
      refine lv_aload_n S.1 S.2.1 dX8_shape_36 rfl (lv_at hl 0 rfl) ?_
      refine al_g_RX8_51 S hK hW dX8_shape_37 ?_
      refine lv_iload_n S.1 S.2.1 dX8_shape_40 rfl (lv_at hl 1 rfl) ?_
      refine al_cP (rest := []) S hK hW (al_X3_shapeOf l D cy ad (al_write σ) x) al_mi_X3_shapeOf al_ml_RX8_220 rfl (al_rc_3 D cy ad _) rfl hl.1 rfl (Nat.le_of_ble_eq_true rfl) dX8_shape_41 ⟨Nat.le_of_ble_eq_true rfl, Nat.le_of_ble_eq_true rfl⟩ ⟨Nat.zero_le _, Nat.zero_le _⟩ ?_
      refine W.eq (g2 := F0 m 44 ls [.int (al_rg ((al_write σ).1 23) x)]) rfl ?_
      exact W.iret S.1 S.2.1 hr (fun t9 ht9 _ => ⟨(congrArg (fun z => Outcome.returned (some (Value.int z))) (by simp only [al_shape, if_neg (c1), if_pos (c2)])), by rw [ht9]; exact (al_He hW (by simp only [al_shape, if_neg (c1), if_pos (c2)])), hS.F ht9⟩) hS.2.2 dX8_shape_44
    · refine lv_bipush (v := -5) S.1 S.2.1 dX8_shape_26 (by decide) ?_
      exact W.iret S.1 S.2.1 hr (fun t9 ht9 _ => ⟨(congrArg (fun z => Outcome.returned (some (Value.int z))) (by simp only [al_shape, if_neg (c1), if_neg (c2)])), by rw [ht9]; exact (al_He hW (by simp only [al_shape, if_neg (c1), if_neg (c2)])), hS.F ht9⟩) hS.2.2 dX8_shape_28
  · refine lv_iconst (v := -1) S.1 S.2.1 dX8_shape_11 (by decide) ?_
    exact W.iret S.1 S.2.1 hr (fun t9 ht9 _ => ⟨(congrArg (fun z => Outcome.returned (some (Value.int z))) (by simp only [al_shape, if_pos (c1)])), by rw [ht9]; exact (al_He hW (by simp only [al_shape, if_pos (c1)])), hS.F ht9⟩) hS.2.2 dX8_shape_12
theorem al_mv_X8_alike : al_mv yX8_alike cX8_alike 2 (some .int) 1 := ⟨al_c_X8_alike, al_ini_RX8, ⟨by decide +kernel, by decide +kernel, by decide +kernel⟩, by decide +kernel⟩
theorem al_mi_X8_alike : al_mi yX8_alike cX8_alike 2 (some .int) 1 := ⟨al_mv_X8_alike, al_in_X8_alike, al_se_X8_alike⟩
set_option maxHeartbeats 4000000 in
set_option maxRecDepth 100000 in
theorem al_X8_alike (l : Launch) (D : va_G) (cy : al_CY) (ad : Nat → Nat) (σ : al_St) (x : Int32) (hp : al_pOK 9000 σ) : al_MS l yX8_alike cX8_alike 2 (some .int) 4 88 D cy ad σ [.ref (ad (0)), .int x] (some (.int ((al_alike σ x).1))) ((al_alike σ x).2) := by
  refine al_met al_mv_X8_alike (Nat.le_of_ble_eq_true rfl) ?_
  intro p e s m args below meth c ls S hr hlocks hK hW hS hl
  have hl : lv_has ls 2 [(0, .ref (ad (0))), (1, .int x)] := hl
  refine lv_aload_n S.1 S.2.1 dX8_alike_0 rfl (lv_at hl 0 rfl) ?_
  refine al_g_RX8_10 S hK hW dX8_alike_1 ?_
  refine lv_iload_n S.1 S.2.1 dX8_alike_4 rfl (lv_at hl 1 rfl) ?_
  refine al_cP (rest := []) S hK hW (al_X6_isNode l D cy ad σ 0 (by omega) x) al_mi_X6_isNode al_ml_RX8_58 rfl (al_rc_T D cy ad _ (t := 0) (by omega)) rfl hl.1 rfl (Nat.le_of_ble_eq_true rfl) dX8_alike_5 ⟨Nat.le_of_ble_eq_true rfl, Nat.le_of_ble_eq_true rfl⟩ ⟨Nat.zero_le _, Nat.zero_le _⟩ ?_
  refine W.eq (g2 := F0 m 8 ls [.int (al_isN σ 0 x)]) rfl ?_
  refine lv_if_ne (tgt := 13) S.1 S.2.1 dX8_alike_8 (by decide) (fun c1 => ?_) (fun c1 => ?_)
  · refine lv_aload_n S.1 S.2.1 dX8_alike_13 rfl (lv_at hl 0 rfl) ?_
    refine al_g_RX8_35 S hK hW dX8_alike_14 ?_
    refine lv_iload_n S.1 S.2.1 dX8_alike_17 rfl (lv_at hl 1 rfl) ?_
    refine al_cP (rest := []) S hK hW (al_X4_sizeOf l D cy ad σ x) al_mi_X4_sizeOf al_ml_RX8_168 rfl (al_rc_4 D cy ad _) rfl hl.1 rfl (Nat.le_of_ble_eq_true rfl) dX8_alike_18 ⟨Nat.le_of_ble_eq_true rfl, Nat.le_of_ble_eq_true rfl⟩ ⟨Nat.zero_le _, Nat.zero_le _⟩ ?_
    refine W.eq (g2 := F0 m 21 ls [.int (al_rg (σ.1 18) x)]) rfl ?_
    refine lv_bipush (v := 15) S.1 S.2.1 dX8_alike_21 (by decide) ?_
    refine lv_icmp_le (tgt := 29) S.1 S.2.1 dX8_alike_23 (by decide) (fun c2 => ?_) (fun c2 => ?_)
    · refine lv_aload_n S.1 S.2.1 dX8_alike_29 rfl (lv_at hl 0 rfl) ?_
      refine al_g_RX8_51 S hK hW dX8_alike_30 ?_
      refine al_cS (rest := []) S hK hW hS (al_X3_write l D cy ad σ (al_pOK_eq (by omega) hp).1 (al_pOK_eq (by omega) hp).2) al_mi_X3_write al_ml_RX8_217 rfl (al_rc_3 D cy ad _) rfl hl.1 rfl (Nat.le_of_ble_eq_true rfl) dX8_alike_33 ⟨Nat.le_of_ble_eq_true rfl, Nat.le_of_ble_eq_true rfl⟩ ⟨Nat.zero_le _, Nat.zero_le _⟩ (fun H locs hW hS => ?_)
      refine W.eq (g2 := F0 m 36 ls []) rfl ?_
      refine lv_aload_n S.1 S.2.1 dX8_alike_36 rfl (lv_at hl 0 rfl) ?_
      refine al_g_RX8_51 S hK hW dX8_alike_37 ?_
      refine lv_iload_n S.1 S.2.1 dX8_alike_40 rfl (lv_at hl 1 rfl) ?_
      refine al_cP (rest := []) S hK hW (al_X3_countLike l D cy ad (al_write σ) x) al_mi_X3_countLike al_ml_RX8_223 rfl (al_rc_3 D cy ad _) rfl hl.1 rfl (Nat.le_of_ble_eq_true rfl) dX8_alike_41 ⟨Nat.le_of_ble_eq_true rfl, Nat.le_of_ble_eq_true rfl⟩ ⟨Nat.zero_le _, Nat.zero_le _⟩ ?_
      refine W.eq (g2 := F0 m 44 ls [.int (al_likeL (al_write σ) x 90 0 0)]) rfl ?_
      exact W.iret S.1 S.2.1 hr (fun t9 ht9 _ => ⟨(congrArg (fun z => Outcome.returned (some (Value.int z))) (by simp only [al_alike, if_neg (c1), if_pos (c2)])), by rw [ht9]; exact (al_He hW (by simp only [al_alike, if_neg (c1), if_pos (c2)])), hS.F ht9⟩) hS.2.2 dX8_alike_44
    · refine lv_bipush (v := -5) S.1 S.2.1 dX8_alike_26 (by decide) ?_
      exact W.iret S.1 S.2.1 hr (fun t9 ht9 _ => ⟨(congrArg (fun z => Outcome.returned (some (Value.int z))) (by simp only [al_alike, if_neg (c1), if_neg (c2)])), by rw [ht9]; exact (al_He hW (by simp only [al_alike, if_neg (c1), if_neg (c2)])), hS.F ht9⟩) hS.2.2 dX8_alike_28
  · refine lv_iconst (v := -1) S.1 S.2.1 dX8_alike_11 (by decide) ?_
    exact W.iret S.1 S.2.1 hr (fun t9 ht9 _ => ⟨(congrArg (fun z => Outcome.returned (some (Value.int z))) (by simp only [al_alike, if_pos (c1)])), by rw [ht9]; exact (al_He hW (by simp only [al_alike, if_pos (c1)])), hS.F ht9⟩) hS.2.2 dX8_alike_12
theorem al_mv_X8_count : al_mv yX8_count cX8_count 2 (some .int) 1 := ⟨al_c_X8_count, al_ini_RX8, ⟨by decide +kernel, by decide +kernel, by decide +kernel⟩, by decide +kernel⟩
theorem al_mi_X8_count : al_mi yX8_count cX8_count 2 (some .int) 1 := ⟨al_mv_X8_count, al_in_X8_count, al_se_X8_count⟩
set_option maxHeartbeats 4000000 in
set_option maxRecDepth 100000 in
theorem al_X8_count (l : Launch) (D : va_G) (cy : al_CY) (ad : Nat → Nat) (σ : al_St) (w : Int32) (hp : al_pOK 9000 σ) : al_MS l yX8_count cX8_count 2 (some .int) 4 88 D cy ad σ [.ref (ad (0)), .int w] (some (.int ((al_count σ w).1))) ((al_count σ w).2) := by
  refine al_met al_mv_X8_count (Nat.le_of_ble_eq_true rfl) ?_
  intro p e s m args below meth c ls S hr hlocks hK hW hS hl
  have hl : lv_has ls 2 [(0, .ref (ad (0))), (1, .int w)] := hl
  refine lv_iload_n S.1 S.2.1 dX8_count_0 rfl (lv_at hl 1 rfl) ?_
  by_cases g1 : w = 0
  · refine lv_tableIn (off := 55) (tgt := 56) S.1 S.2.1 dX8_count_1 (by rw [g1]; decide) (by rw [g1]; decide) (by rw [g1]; rfl) (by decide) ?_
    refine lv_aload_n S.1 S.2.1 dX8_count_56 rfl (lv_at hl 0 rfl) ?_
    refine al_g_RX8_35 S hK hW dX8_count_57 ?_
    refine al_cP (rest := []) S hK hW (al_X4_present l D cy ad σ ) al_mi_X4_present al_ml_RX8_136 rfl (al_rc_4 D cy ad _) rfl hl.1 rfl (Nat.le_of_ble_eq_true rfl) dX8_count_60 ⟨Nat.le_of_ble_eq_true rfl, Nat.le_of_ble_eq_true rfl⟩ ⟨Nat.zero_le _, Nat.zero_le _⟩ ?_
    refine W.eq (g2 := F0 m 63 ls [.int (σ.2.2.1 9)]) rfl ?_
    exact W.iret S.1 S.2.1 hr (fun t9 ht9 _ => ⟨(congrArg (fun z => Outcome.returned (some (Value.int z))) (by simp only [al_count, if_pos (g1)])), by rw [ht9]; exact (al_He hW (by simp only [al_count, if_pos (g1)])), hS.F ht9⟩) hS.2.2 dX8_count_63
  by_cases g2 : w = 1
  · refine lv_tableIn (off := 63) (tgt := 64) S.1 S.2.1 dX8_count_1 (by rw [g2]; decide) (by rw [g2]; decide) (by rw [g2]; rfl) (by decide) ?_
    refine lv_aload_n S.1 S.2.1 dX8_count_64 rfl (lv_at hl 0 rfl) ?_
    refine al_g_RX8_10 S hK hW dX8_count_65 ?_
    refine al_cP (rest := []) S hK hW (al_X6_ever l D cy ad σ 0 (by omega)) al_mi_X6_ever al_ml_RX8_235 rfl (al_rc_T D cy ad _ (t := 0) (by omega)) rfl hl.1 rfl (Nat.le_of_ble_eq_true rfl) dX8_count_68 ⟨Nat.le_of_ble_eq_true rfl, Nat.le_of_ble_eq_true rfl⟩ ⟨Nat.zero_le _, Nat.zero_le _⟩ ?_
    refine W.eq (g2 := F0 m 71 ls [.int (σ.2.2.1 0)]) rfl ?_
    exact W.iret S.1 S.2.1 hr (fun t9 ht9 _ => ⟨(congrArg (fun z => Outcome.returned (some (Value.int z))) (by simp only [al_count, if_neg (g1), if_pos (g2)])), by rw [ht9]; exact (al_He hW (by simp only [al_count, if_neg (g1), if_pos (g2)])), hS.F ht9⟩) hS.2.2 dX8_count_71
  by_cases g3 : w = 2
  · refine lv_tableIn (off := 71) (tgt := 72) S.1 S.2.1 dX8_count_1 (by rw [g3]; decide) (by rw [g3]; decide) (by rw [g3]; rfl) (by decide) ?_
    refine lv_aload_n S.1 S.2.1 dX8_count_72 rfl (lv_at hl 0 rfl) ?_
    refine al_g_RX8_35 S hK hW dX8_count_73 ?_
    refine al_cP (rest := []) S hK hW (al_X4_countLeaves l D cy ad σ ) al_mi_X4_countLeaves al_ml_RX8_238 rfl (al_rc_4 D cy ad _) rfl hl.1 rfl (Nat.le_of_ble_eq_true rfl) dX8_count_76 ⟨Nat.le_of_ble_eq_true rfl, Nat.le_of_ble_eq_true rfl⟩ ⟨Nat.zero_le _, Nat.zero_le _⟩ ?_
    refine W.eq (g2 := F0 m 79 ls [.int (al_cLv σ 90 0 0)]) rfl ?_
    exact W.iret S.1 S.2.1 hr (fun t9 ht9 _ => ⟨(congrArg (fun z => Outcome.returned (some (Value.int z))) (by simp only [al_count, if_neg (g1), if_neg (g2), if_pos (g3)])), by rw [ht9]; exact (al_He hW (by simp only [al_count, if_neg (g1), if_neg (g2), if_pos (g3)])), hS.F ht9⟩) hS.2.2 dX8_count_79
  by_cases g4 : w = 3
  · refine lv_tableIn (off := 71) (tgt := 72) S.1 S.2.1 dX8_count_1 (by rw [g4]; decide) (by rw [g4]; decide) (by rw [g4]; rfl) (by decide) ?_
    refine lv_aload_n S.1 S.2.1 dX8_count_72 rfl (lv_at hl 0 rfl) ?_
    refine al_g_RX8_35 S hK hW dX8_count_73 ?_
    refine al_cP (rest := []) S hK hW (al_X4_countLeaves l D cy ad σ ) al_mi_X4_countLeaves al_ml_RX8_238 rfl (al_rc_4 D cy ad _) rfl hl.1 rfl (Nat.le_of_ble_eq_true rfl) dX8_count_76 ⟨Nat.le_of_ble_eq_true rfl, Nat.le_of_ble_eq_true rfl⟩ ⟨Nat.zero_le _, Nat.zero_le _⟩ ?_
    refine W.eq (g2 := F0 m 79 ls [.int (al_cLv σ 90 0 0)]) rfl ?_
    exact W.iret S.1 S.2.1 hr (fun t9 ht9 _ => ⟨(congrArg (fun z => Outcome.returned (some (Value.int z))) (by simp only [al_count, if_neg (g1), if_neg (g2), if_neg (g3), if_pos (g4)])), by rw [ht9]; exact (al_He hW (by simp only [al_count, if_neg (g1), if_neg (g2), if_neg (g3), if_pos (g4)])), hS.F ht9⟩) hS.2.2 dX8_count_79
  by_cases g5 : w = 4
  · refine lv_tableIn (off := 79) (tgt := 80) S.1 S.2.1 dX8_count_1 (by rw [g5]; decide) (by rw [g5]; decide) (by rw [g5]; rfl) (by decide) ?_
    refine lv_aload_n S.1 S.2.1 dX8_count_80 rfl (lv_at hl 0 rfl) ?_
    refine al_g_RX8_35 S hK hW dX8_count_81 ?_
    refine al_cP (rest := []) S hK hW (al_X4_countLadders l D cy ad σ ) al_mi_X4_countLadders al_ml_RX8_241 rfl (al_rc_4 D cy ad _) rfl hl.1 rfl (Nat.le_of_ble_eq_true rfl) dX8_count_84 ⟨Nat.le_of_ble_eq_true rfl, Nat.le_of_ble_eq_true rfl⟩ ⟨Nat.zero_le _, Nat.zero_le _⟩ ?_
    refine W.eq (g2 := F0 m 87 ls [.int (al_cLd σ 90 0 0)]) rfl ?_
    exact W.iret S.1 S.2.1 hr (fun t9 ht9 _ => ⟨(congrArg (fun z => Outcome.returned (some (Value.int z))) (by simp only [al_count, if_neg (g1), if_neg (g2), if_neg (g3), if_neg (g4), if_pos (g5)])), by rw [ht9]; exact (al_He hW (by simp only [al_count, if_neg (g1), if_neg (g2), if_neg (g3), if_neg (g4), if_pos (g5)])), hS.F ht9⟩) hS.2.2 dX8_count_87
  by_cases g6 : w = 5
  · refine lv_tableIn (off := 87) (tgt := 88) S.1 S.2.1 dX8_count_1 (by rw [g6]; decide) (by rw [g6]; decide) (by rw [g6]; rfl) (by decide) ?_
    refine lv_aload_n S.1 S.2.1 dX8_count_88 rfl (lv_at hl 0 rfl) ?_
    refine al_g_RX8_35 S hK hW dX8_count_89 ?_
    refine al_cP (rest := []) S hK hW (al_X4_countJumps l D cy ad σ ) al_mi_X4_countJumps al_ml_RX8_244 rfl (al_rc_4 D cy ad _) rfl hl.1 rfl (Nat.le_of_ble_eq_true rfl) dX8_count_92 ⟨Nat.le_of_ble_eq_true rfl, Nat.le_of_ble_eq_true rfl⟩ ⟨Nat.zero_le _, Nat.zero_le _⟩ ?_
    refine W.eq (g2 := F0 m 95 ls [.int (al_cJm σ 90 0 0)]) rfl ?_
    exact W.iret S.1 S.2.1 hr (fun t9 ht9 _ => ⟨(congrArg (fun z => Outcome.returned (some (Value.int z))) (by simp only [al_count, if_neg (g1), if_neg (g2), if_neg (g3), if_neg (g4), if_neg (g5), if_pos (g6)])), by rw [ht9]; exact (al_He hW (by simp only [al_count, if_neg (g1), if_neg (g2), if_neg (g3), if_neg (g4), if_neg (g5), if_pos (g6)])), hS.F ht9⟩) hS.2.2 dX8_count_95
  by_cases g7 : w = 6
  · refine lv_tableIn (off := 95) (tgt := 96) S.1 S.2.1 dX8_count_1 (by rw [g7]; decide) (by rw [g7]; decide) (by rw [g7]; rfl) (by decide) ?_
    refine lv_aload_n S.1 S.2.1 dX8_count_96 rfl (lv_at hl 0 rfl) ?_
    refine al_g_RX8_35 S hK hW dX8_count_97 ?_
    refine lv_iconst (v := 0) S.1 S.2.1 dX8_count_100 (by decide) ?_
    refine al_cP (rest := []) S hK hW (al_X4_heightOf l D cy ad σ 0) al_mi_X4_heightOf al_ml_RX8_165 rfl (al_rc_4 D cy ad _) rfl hl.1 rfl (Nat.le_of_ble_eq_true rfl) dX8_count_101 ⟨Nat.le_of_ble_eq_true rfl, Nat.le_of_ble_eq_true rfl⟩ ⟨Nat.zero_le _, Nat.zero_le _⟩ ?_
    refine W.eq (g2 := F0 m 104 ls [.int (al_rg (σ.1 16) 0)]) rfl ?_
    exact W.iret S.1 S.2.1 hr (fun t9 ht9 _ => ⟨(congrArg (fun z => Outcome.returned (some (Value.int z))) (by simp only [al_count, if_neg (g1), if_neg (g2), if_neg (g3), if_neg (g4), if_neg (g5), if_neg (g6), if_pos (g7)])), by rw [ht9]; exact (al_He hW (by simp only [al_count, if_neg (g1), if_neg (g2), if_neg (g3), if_neg (g4), if_neg (g5), if_neg (g6), if_pos (g7)])), hS.F ht9⟩) hS.2.2 dX8_count_104
  by_cases g8 : w = 7
  · refine lv_tableIn (off := 104) (tgt := 105) S.1 S.2.1 dX8_count_1 (by rw [g8]; decide) (by rw [g8]; decide) (by rw [g8]; rfl) (by decide) ?_
    refine lv_aload_n S.1 S.2.1 dX8_count_105 rfl (lv_at hl 0 rfl) ?_
    refine al_g_RX8_51 S hK hW dX8_count_106 ?_
    refine al_cS (rest := []) S hK hW hS (al_X3_write l D cy ad σ (al_pOK_eq (by omega) hp).1 (al_pOK_eq (by omega) hp).2) al_mi_X3_write al_ml_RX8_217 rfl (al_rc_3 D cy ad _) rfl hl.1 rfl (Nat.le_of_ble_eq_true rfl) dX8_count_109 ⟨Nat.le_of_ble_eq_true rfl, Nat.le_of_ble_eq_true rfl⟩ ⟨Nat.zero_le _, Nat.zero_le _⟩ (fun H locs hW hS => ?_)
    refine W.eq (g2 := F0 m 112 ls []) rfl ?_
    refine lv_aload_n S.1 S.2.1 dX8_count_112 rfl (lv_at hl 0 rfl) ?_
    refine al_g_RX8_51 S hK hW dX8_count_113 ?_
    refine al_cS (rest := []) S hK hW hS (al_X3_sort l D cy ad (al_write σ) ) al_mi_X3_sort al_ml_RX8_226 rfl (al_rc_3 D cy ad _) rfl hl.1 rfl (Nat.le_of_ble_eq_true rfl) dX8_count_116 ⟨Nat.le_of_ble_eq_true rfl, Nat.le_of_ble_eq_true rfl⟩ ⟨Nat.zero_le _, Nat.zero_le _⟩ (fun H locs hW hS => ?_)
    refine W.eq (g2 := F0 m 119 ls []) rfl ?_
    refine lv_aload_n S.1 S.2.1 dX8_count_119 rfl (lv_at hl 0 rfl) ?_
    refine al_g_RX8_51 S hK hW dX8_count_120 ?_
    refine al_cP (rest := []) S hK hW (al_X3_kinds l D cy ad (al_sort (al_write σ)) ) al_mi_X3_kinds al_ml_RX8_229 rfl (al_rc_3 D cy ad _) rfl hl.1 rfl (Nat.le_of_ble_eq_true rfl) dX8_count_123 ⟨Nat.le_of_ble_eq_true rfl, Nat.le_of_ble_eq_true rfl⟩ ⟨Nat.zero_le _, Nat.zero_le _⟩ ?_
    refine W.eq (g2 := F0 m 126 ls [.int ((al_sort (al_write σ)).2.2.1 12)]) rfl ?_
    exact W.iret S.1 S.2.1 hr (fun t9 ht9 _ => ⟨(congrArg (fun z => Outcome.returned (some (Value.int z))) (by simp only [al_count, if_neg (g1), if_neg (g2), if_neg (g3), if_neg (g4), if_neg (g5), if_neg (g6), if_neg (g7), if_pos (g8)])), by rw [ht9]; exact (al_He hW (by simp only [al_count, if_neg (g1), if_neg (g2), if_neg (g3), if_neg (g4), if_neg (g5), if_neg (g6), if_neg (g7), if_pos (g8)])), hS.F ht9⟩) hS.2.2 dX8_count_126
  by_cases g9 : w = 8
  · refine lv_tableIn (off := 126) (tgt := 127) S.1 S.2.1 dX8_count_1 (by rw [g9]; decide) (by rw [g9]; decide) (by rw [g9]; rfl) (by decide) ?_
    refine lv_aload_n S.1 S.2.1 dX8_count_127 rfl (lv_at hl 0 rfl) ?_
    refine al_g_RX8_26 S hK hW dX8_count_128 ?_
    refine al_cP (rest := []) S hK hW (al_X1_length l D cy ad σ ) al_mi_X1_length al_ml_RX8_129 rfl (al_rc_1 D cy ad _) rfl hl.1 rfl (Nat.le_of_ble_eq_true rfl) dX8_count_131 ⟨Nat.le_of_ble_eq_true rfl, Nat.le_of_ble_eq_true rfl⟩ ⟨Nat.zero_le _, Nat.zero_le _⟩ ?_
    refine W.eq (g2 := F0 m 134 ls [.int (σ.2.2.1 7)]) rfl ?_
    exact W.iret S.1 S.2.1 hr (fun t9 ht9 _ => ⟨(congrArg (fun z => Outcome.returned (some (Value.int z))) (by simp only [al_count, if_neg (g1), if_neg (g2), if_neg (g3), if_neg (g4), if_neg (g5), if_neg (g6), if_neg (g7), if_neg (g8), if_pos (g9)])), by rw [ht9]; exact (al_He hW (by simp only [al_count, if_neg (g1), if_neg (g2), if_neg (g3), if_neg (g4), if_neg (g5), if_neg (g6), if_neg (g7), if_neg (g8), if_pos (g9)])), hS.F ht9⟩) hS.2.2 dX8_count_134
  by_cases g10 : w = 9
  · refine lv_tableIn (off := 134) (tgt := 135) S.1 S.2.1 dX8_count_1 (by rw [g10]; decide) (by rw [g10]; decide) (by rw [g10]; rfl) (by decide) ?_
    refine lv_aload_n S.1 S.2.1 dX8_count_135 rfl (lv_at hl 0 rfl) ?_
    refine al_g_RX8_19 S hK hW dX8_count_136 ?_
    refine al_cP (rest := []) S hK hW (al_X5_length l D cy ad σ ) al_mi_X5_length al_ml_RX8_112 rfl (al_rc_5 D cy ad _) rfl hl.1 rfl (Nat.le_of_ble_eq_true rfl) dX8_count_139 ⟨Nat.le_of_ble_eq_true rfl, Nat.le_of_ble_eq_true rfl⟩ ⟨Nat.zero_le _, Nat.zero_le _⟩ ?_
    refine W.eq (g2 := F0 m 142 ls [.int (σ.2.2.1 6)]) rfl ?_
    exact W.iret S.1 S.2.1 hr (fun t9 ht9 _ => ⟨(congrArg (fun z => Outcome.returned (some (Value.int z))) (by simp only [al_count, if_neg (g1), if_neg (g2), if_neg (g3), if_neg (g4), if_neg (g5), if_neg (g6), if_neg (g7), if_neg (g8), if_neg (g9), if_pos (g10)])), by rw [ht9]; exact (al_He hW (by simp only [al_count, if_neg (g1), if_neg (g2), if_neg (g3), if_neg (g4), if_neg (g5), if_neg (g6), if_neg (g7), if_neg (g8), if_neg (g9), if_pos (g10)])), hS.F ht9⟩) hS.2.2 dX8_count_142
  refine lv_tableOut (tgt := 143) S.1 S.2.1 dX8_count_1 (al_out9 g1 g2 g3 g4 g5 g6 g7 g8 g9 g10) (by decide) ?_
  refine lv_bipush (v := -2) S.1 S.2.1 dX8_count_143 (by decide) ?_
  exact W.iret S.1 S.2.1 hr (fun t9 ht9 _ => ⟨(congrArg (fun z => Outcome.returned (some (Value.int z))) (by simp only [al_count, if_neg (g1), if_neg (g2), if_neg (g3), if_neg (g4), if_neg (g5), if_neg (g6), if_neg (g7), if_neg (g8), if_neg (g9), if_neg (g10)])), by rw [ht9]; exact (al_He hW (by simp only [al_count, if_neg (g1), if_neg (g2), if_neg (g3), if_neg (g4), if_neg (g5), if_neg (g6), if_neg (g7), if_neg (g8), if_neg (g9), if_neg (g10)])), hS.F ht9⟩) hS.2.2 dX8_count_145
