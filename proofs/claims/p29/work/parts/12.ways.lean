/-! ways and distances: no sum of theirs is a NaN while all paths are below 2 ^ 113 -/
def al_B (r : UInt32) : Prop := r.toNat < 2013265920
def al_sum (a b m : UInt32) : UInt32 := FP.fadd (FP.fsub a m) (FP.fsub b m)
theorem al_n32 {r : UInt32} (h : r.toNat % 2 ^ 31 < 255 * 2 ^ 23) : vf_n32 r := by
  show r &&& 0x7fffffff ≤ 0x7f800000
  rw [UInt32.le_iff_toNat_le, FP.Core.mask_toNat32]
  show r.toNat % 2 ^ 31 ≤ 2139095040
  omega
theorem al_B_mag {r : UInt32} (h : al_B r) : r.toNat % 2 ^ 31 < 240 * 2 ^ 23 := by
  have h1 : r.toNat < 2013265920 := h
  omega
theorem al_B0 : al_B FP.fconst0 := by
  show FP.fconst0.toNat < 2013265920
  decide
theorem al_sub_mag {a b : UInt32} (ha : al_B a) (hb : al_B b) : (FP.fsub a b).toNat % 2 ^ 31 < 242 * 2 ^ 23 := FP.Core.fsub_mag (al_B_mag ha) (al_B_mag hb) (by omega)
theorem al_sub_n32 {a b : UInt32} (ha : al_B a) (hb : al_B b) : vf_n32 (FP.fsub a b) := al_n32 (by have := al_sub_mag ha hb; omega)
theorem al_sum_n32 {a b m : UInt32} (ha : al_B a) (hb : al_B b) (hm : al_B m) : vf_n32 (al_sum a b m) := al_n32 (by have := FP.Core.fadd_mag (al_sub_mag ha hm) (al_sub_mag hb hm) (by omega); exact Nat.lt_of_lt_of_le this (by omega))
def al_FB (σ : al_St) : Prop := ∀ j : Int32, al_B (al_fg (σ.2.1 6) j) ∧ al_B (al_fg (σ.2.1 7) j)
theorem al_fg_fs (f : Nat → UInt32) (x : Int32) (v : UInt32) (j : Int32) : al_fg (al_fs f x v) j = v ∨ al_fg (al_fs f x v) j = al_fg f j := by
  simp only [al_fs, al_fg]
  split
  · exact Or.inr rfl
  · split
    · exact Or.inr rfl
    · split
      · exact Or.inr rfl
      · split
        · exact Or.inr rfl
        · simp only [vf_upd]
          split
          · exact Or.inl rfl
          · exact Or.inr rfl
theorem al_FB_fset {σ : al_St} {x : Int32} {v : UInt32} (h : al_FB σ) (hv : al_B v) : al_FB (al_fset σ 7 x v) := by
  intro j
  refine ⟨(h j).1, ?_⟩
  show al_B (al_fg (al_fs (σ.2.1 7) x v) j)
  rcases al_fg_fs (σ.2.1 7) x v j with e | e <;> rw [e]
  · exact hv
  · exact (h j).2
def al_wt1 (σ : al_St) (x : Int32) : al_St := al_fset σ 6 x (FP.fadd (al_fg (σ.2.1 6) (al_rg (σ.1 (2 * 0)) x)) (al_fg (σ.2.1 0) x))
def al_wtL : Nat → Nat → al_St → al_St
  | 0, _, σ => σ
  | n + 1, k, σ => if σ.2.2.1 9 ≤ nI k then σ else al_wtL n (k + 1) (al_wt1 σ (al_rg (σ.1 14) (nI k)))
def al_wtOK : Nat → Nat → al_St → Prop
  | 0, _, _ => True
  | n + 1, k, σ => ¬ σ.2.2.1 9 ≤ nI k → vf_n32 (FP.fadd (al_fg (σ.2.1 6) (al_rg (σ.1 (2 * 0)) (al_rg (σ.1 14) (nI k)))) (al_fg (σ.2.1 0) (al_rg (σ.1 14) (nI k)))) ∧ al_wtOK n (k + 1) (al_wt1 σ (al_rg (σ.1 14) (nI k)))
def al_wtake (σ : al_St) : al_St := al_wtL 89 1 (al_fset σ 6 0 FP.fconst0)
def al_wOK (σ : al_St) : Prop := al_wtOK 89 1 (al_fset σ 6 0 FP.fconst0)
def al_mkL : Nat → Int32 → al_St → al_St
  | 0, _, σ => σ
  | n + 1, a, σ => if a = -1 then σ else al_mkL n (al_rg ((al_set σ 22 a 1).1 (2 * 0)) a) (al_set σ 22 a 1)
def al_mp1 (σ : al_St) (x : Int32) : al_St := if al_rg (σ.1 22) x = 1 then al_fset σ 7 x (al_fg (σ.2.1 6) x) else al_fset σ 7 x (al_fg (σ.2.1 7) (al_rg (σ.1 (2 * 0)) x))
def al_mpL : Nat → Nat → al_St → al_St
  | 0, _, σ => σ
  | n + 1, k, σ => if σ.2.2.1 9 ≤ nI k then σ else al_mpL n (k + 1) (al_mp1 σ (al_rg (σ.1 14) (nI k)))
def al_meets (σ : al_St) (x : Int32) : al_St := al_mpL 90 0 (al_mkL 90 x (al_fillR σ 22 0))
theorem al_mkL_2 : ∀ (n : Nat) (a : Int32) (σ : al_St), (al_mkL n a σ).2 = σ.2
  | 0, _, _ => rfl
  | n + 1, a, σ => by
    rw [al_mkL]
    split
    · rfl
    · rw [al_mkL_2 n]
      rfl
theorem al_FB_mp1 {σ : al_St} {x : Int32} (h : al_FB σ) : al_FB (al_mp1 σ x) := by
  rw [al_mp1]
  split
  · exact al_FB_fset h (h _).1
  · exact al_FB_fset h (h _).2
theorem al_FB_mpL : ∀ (n k : Nat) (σ : al_St), al_FB σ → al_FB (al_mpL n k σ)
  | 0, _, _, h => h
  | n + 1, k, σ, h => by
    rw [al_mpL]
    split
    · exact h
    · exact al_FB_mpL n (k + 1) _ (al_FB_mp1 h)
theorem al_FB_meets {σ : al_St} {x : Int32} (h : al_FB σ) : al_FB (al_meets σ x) := by
  refine al_FB_mpL 90 0 _ (fun j => ?_)
  rw [al_mkL_2]
  exact h j
def al_meas (σ : al_St) (x y : Int32) : UInt32 := al_sum (al_fg (σ.2.1 6) x) (al_fg (σ.2.1 6) y) (al_fg (σ.2.1 7) y)
def al_farL (σ : al_St) (x : Int32) : Nat → Nat → UInt32 → Int32 → Int32
  | 0, _, _, r => r
  | n + 1, k, g, r => if al_isN σ 0 (nI k) = 0 then al_farL σ x n (k + 1) g r else if Op.cmpValue (FP.fcmp (al_meas σ x (nI k)) g) .l ≤ 0 then al_farL σ x n (k + 1) g r else al_farL σ x n (k + 1) (al_meas σ x (nI k)) (nI k)
def al_farOn (σ : al_St) (x : Int32) (K : Nat) : Int32 := al_farL σ x (90 - K) K 3212836864 x
def al_fpL : Nat → Nat → UInt32 → al_St → al_St
  | 0, _, _, σ => σ
  | n + 1, k, g, σ => if al_isN σ 0 (nI k) = 0 then al_fpL n (k + 1) g σ else if Op.cmpValue (FP.fcmp (al_meas (al_meets σ (nI k)) (nI k) (al_farOn (al_meets σ (nI k)) (nI k) k)) g) .l ≤ 0 then al_fpL n (k + 1) g (al_meets σ (nI k)) else al_fpL n (k + 1) (al_meas (al_meets σ (nI k)) (nI k) (al_farOn (al_meets σ (nI k)) (nI k) k)) (al_sV (al_sV (al_meets σ (nI k)) 10 (nI k)) 11 (al_farOn (al_meets σ (nI k)) (nI k) k))
def al_findPair (σ : al_St) : al_St := al_fpL 90 0 3212836864 σ
def al_onWay (σ : al_St) (x y z : Int32) : Int32 :=
  if z ≤ al_rg (σ.1 15) x - al_rg (σ.1 15) (al_meet σ x y) + (al_rg (σ.1 15) y - al_rg (σ.1 15) (al_meet σ x y)) then
    (if al_rg (σ.1 15) x - al_rg (σ.1 15) (al_meet σ x y) < z then al_cl σ y (al_rg (σ.1 15) x - al_rg (σ.1 15) (al_meet σ x y) + (al_rg (σ.1 15) y - al_rg (σ.1 15) (al_meet σ x y)) - z)
    else al_cl σ x z)
  else -1
def al_hwL (σ : al_St) (w g : UInt32) : Nat → Int32 → Int32
  | 0, a => a
  | n + 1, a => if al_rg (σ.1 (2 * 0)) a = -1 then a else if Op.cmpValue (FP.fcmp (FP.fsub g (al_fg (σ.2.1 6) (al_rg (σ.1 (2 * 0)) a))) w) .l ≤ 0 then al_hwL σ w g n (al_rg (σ.1 (2 * 0)) a) else a
set_option maxHeartbeats 4000000 in
set_option maxRecDepth 100000 in
theorem al_lp_X7_take {p : Program} {e : Env} {s : State} {m : MethodId} {args : Array Value} {below : List Frame} {meth : Method} {c : Code} {Q : State → Prop} (l : Launch) (D : va_G) (cy : al_CY) (ad : Nat → Nat) (S : CallFix p m c cX7_take 3 s args al_G RX7) (hK : va_K D vwCl (al_tys cy) s) {H0 : Heap} : ∀ (n : Nat) (σ : al_St) (k : Nat) (H : Heap) (locs : List Loc) (ls : Array Slot), (k + n = 90) → (al_wtOK n k σ) → al_H D cy ad σ H → va_S (al_A ad) H0 H locs → lv_has ls 3 [(0, .ref (ad (6))), (1, .int (nI k))] → (∀ (σ' : al_St) (H : Heap) (locs : List Loc) (ls : Array Slot), al_wtL n k σ = σ' → al_H D cy ad σ' H → va_S (al_A ad) H0 H locs → lv_has ls 3 [(0, .ref (ad (6)))] → W p l e (al_rm 2 42) s m args below meth c H locs 0 0 Q (F0 m 75 ls [])) → W p l e (al_rm 2 42) s m args below meth c H locs 0 0 Q (F0 m 11 ls []) := by
  intro n
  induction n with
  | zero =>
    intro σ k H locs ls hk hO hW hS hl K
    refine lv_iload_n S.1 S.2.1 dX7_take_11 rfl (lv_at hl 1 rfl) ?_
    refine lv_aload_n S.1 S.2.1 dX7_take_12 rfl (lv_at hl 0 rfl) ?_
    refine al_g_RX7_15 S hK hW dX7_take_13 ?_
    refine al_cP (rest := [.int (nI k)]) S hK hW (al_X4_present l D cy ad σ ) al_mi_X4_present al_ml_RX7_47 rfl (al_rc_4 D cy ad _) rfl hl.1 rfl (Nat.le_of_ble_eq_true rfl) dX7_take_16 ⟨Nat.le_of_ble_eq_true rfl, Nat.le_of_ble_eq_true rfl⟩ ⟨Nat.zero_le _, Nat.zero_le _⟩ ?_
    refine W.eq (g2 := F0 m 19 ls [.int (σ.2.2.1 9), .int (nI k)]) rfl ?_
    refine lv_icmp_ge (tgt := 75) S.1 S.2.1 dX7_take_19 (by decide) (fun c1 => ?_) (fun c1 => ?_)
    · exact K σ  _ _ _ (by simp only [al_wtL, al_wt1, if_pos (c1)]) hW hS (lv_sub hl [0] rfl)
    · refine lv_iload_n S.1 S.2.1 dX7_take_22 rfl (lv_at hl 1 rfl) ?_
      refine lv_bipush (v := 90) S.1 S.2.1 dX7_take_23 (by decide) ?_
      refine lv_icmp_ge (tgt := 75) S.1 S.2.1 dX7_take_25 (by decide) (fun c2 => ?_) (fun c2 => ?_)
      · exact K σ  _ _ _ (by simp only [al_wtL, al_wt1, if_neg (c1), if_pos (c2)]) hW hS (lv_sub hl [0] rfl)
      · exact absurd (al_90' (by omega)) c2
  | succ n ih =>
    intro σ k H locs ls hk hO hW hS hl K
    refine lv_iload_n S.1 S.2.1 dX7_take_11 rfl (lv_at hl 1 rfl) ?_
    refine lv_aload_n S.1 S.2.1 dX7_take_12 rfl (lv_at hl 0 rfl) ?_
    refine al_g_RX7_15 S hK hW dX7_take_13 ?_
    refine al_cP (rest := [.int (nI k)]) S hK hW (al_X4_present l D cy ad σ ) al_mi_X4_present al_ml_RX7_47 rfl (al_rc_4 D cy ad _) rfl hl.1 rfl (Nat.le_of_ble_eq_true rfl) dX7_take_16 ⟨Nat.le_of_ble_eq_true rfl, Nat.le_of_ble_eq_true rfl⟩ ⟨Nat.zero_le _, Nat.zero_le _⟩ ?_
    refine W.eq (g2 := F0 m 19 ls [.int (σ.2.2.1 9), .int (nI k)]) rfl ?_
    refine lv_icmp_ge (tgt := 75) S.1 S.2.1 dX7_take_19 (by decide) (fun c1 => ?_) (fun c1 => ?_)
    · exact K σ  _ _ _ (by simp only [al_wtL, al_wt1, if_pos (c1)]) hW hS (lv_sub hl [0] rfl)
    · refine lv_iload_n S.1 S.2.1 dX7_take_22 rfl (lv_at hl 1 rfl) ?_
      refine lv_bipush (v := 90) S.1 S.2.1 dX7_take_23 (by decide) ?_
      refine lv_icmp_ge (tgt := 75) S.1 S.2.1 dX7_take_25 (by decide) (fun c2 => ?_) (fun c2 => ?_)
      · exact absurd c2 (al_90 (by omega))
      · refine lv_aload_n S.1 S.2.1 dX7_take_28 rfl (lv_at hl 0 rfl) ?_
        refine al_g_RX7_15 S hK hW dX7_take_29 ?_
        refine lv_iload_n S.1 S.2.1 dX7_take_32 rfl (lv_at hl 1 rfl) ?_
        refine al_cP (rest := []) S hK hW (al_X4_downwardAt l D cy ad σ (nI k)) al_mi_X4_downwardAt al_ml_RX7_53 rfl (al_rc_4 D cy ad _) rfl hl.1 rfl (Nat.le_of_ble_eq_true rfl) dX7_take_33 ⟨Nat.le_of_ble_eq_true rfl, Nat.le_of_ble_eq_true rfl⟩ ⟨Nat.zero_le _, Nat.zero_le _⟩ ?_
        refine W.eq (g2 := F0 m 36 ls [.int (al_rg (σ.1 14) (nI k))]) rfl ?_
        refine lv_istore_n (lv' := [(2, .int (al_rg (σ.1 14) (nI k))), (0, .ref (ad (6))), (1, .int (nI k))]) S.1 S.2.1 dX7_take_36 rfl hl (by decide) rfl (fun ls hl => ?_)
        refine lv_aload_n S.1 S.2.1 dX7_take_37 rfl (lv_at hl 1 rfl) ?_
        refine al_g_RX7_22 S hK hW dX7_take_38 ?_
        refine lv_iload_n S.1 S.2.1 dX7_take_41 rfl (lv_at hl 0 rfl) ?_
        refine lv_aload_n S.1 S.2.1 dX7_take_42 rfl (lv_at hl 1 rfl) ?_
        refine al_g_RX7_22 S hK hW dX7_take_43 ?_
        refine lv_aload_n S.1 S.2.1 dX7_take_46 rfl (lv_at hl 1 rfl) ?_
        refine al_g_RX7_9 S hK hW dX7_take_47 ?_
        refine lv_iload_n S.1 S.2.1 dX7_take_50 rfl (lv_at hl 0 rfl) ?_
        refine al_cP (rest := [.ref (ad (64 + 2 * 6)), .int (al_rg (σ.1 14) (nI k)), .ref (ad (64 + 2 * 6))]) S hK hW (al_X6_parentOf l D cy ad σ 0 (by omega) (al_rg (σ.1 14) (nI k))) al_mi_X6_parentOf al_ml_RX7_57 rfl (al_rc_T D cy ad _ (t := 0) (by omega)) rfl hl.1 rfl (Nat.le_of_ble_eq_true rfl) dX7_take_51 ⟨Nat.le_of_ble_eq_true rfl, Nat.le_of_ble_eq_true rfl⟩ ⟨Nat.zero_le _, Nat.zero_le _⟩ ?_
        refine W.eq (g2 := F0 m 54 ls [.int (al_rg (σ.1 (2 * 0)) (al_rg (σ.1 14) (nI k))), .ref (ad (64 + 2 * 6)), .int (al_rg (σ.1 14) (nI k)), .ref (ad (64 + 2 * 6))]) rfl ?_
        refine al_cP (rest := [.int (al_rg (σ.1 14) (nI k)), .ref (ad (64 + 2 * 6))]) S hK hW (al_X0_get l D cy ad σ 6 (by omega) (al_rg (σ.1 (2 * 0)) (al_rg (σ.1 14) (nI k)))) al_mi_X0_get al_ml_RX7_62 rfl (al_rc_F D cy ad _ (i := 6) (by omega)) rfl hl.1 rfl (Nat.le_of_ble_eq_true rfl) dX7_take_54 ⟨Nat.le_of_ble_eq_true rfl, Nat.le_of_ble_eq_true rfl⟩ ⟨Nat.zero_le _, Nat.zero_le _⟩ ?_
        refine W.eq (g2 := F0 m 57 ls [.float (al_fg (σ.2.1 6) (al_rg (σ.1 (2 * 0)) (al_rg (σ.1 14) (nI k)))), .int (al_rg (σ.1 14) (nI k)), .ref (ad (64 + 2 * 6))]) rfl ?_
        refine lv_aload_n S.1 S.2.1 dX7_take_57 rfl (lv_at hl 1 rfl) ?_
        refine al_g_RX7_9 S hK hW dX7_take_58 ?_
        refine lv_iload_n S.1 S.2.1 dX7_take_61 rfl (lv_at hl 0 rfl) ?_
        refine al_cP (rest := [.float (al_fg (σ.2.1 6) (al_rg (σ.1 (2 * 0)) (al_rg (σ.1 14) (nI k)))), .int (al_rg (σ.1 14) (nI k)), .ref (ad (64 + 2 * 6))]) S hK hW (al_X6_lengthOf l D cy ad σ 0 (by omega) (al_rg (σ.1 14) (nI k))) al_mi_X6_lengthOf al_ml_RX7_66 rfl (al_rc_T D cy ad _ (t := 0) (by omega)) rfl hl.1 rfl (Nat.le_of_ble_eq_true rfl) dX7_take_62 ⟨Nat.le_of_ble_eq_true rfl, Nat.le_of_ble_eq_true rfl⟩ ⟨Nat.zero_le _, Nat.zero_le _⟩ ?_
        refine W.eq (g2 := F0 m 65 ls [.float (al_fg (σ.2.1 0) (al_rg (σ.1 14) (nI k))), .float (al_fg (σ.2.1 6) (al_rg (σ.1 (2 * 0)) (al_rg (σ.1 14) (nI k)))), .int (al_rg (σ.1 14) (nI k)), .ref (ad (64 + 2 * 6))]) rfl ?_
        refine lv_fadd S.1 S.2.1 dX7_take_65 (hO c1).1 ?_
        refine al_cS (rest := []) S hK hW hS (al_X0_set l D cy ad σ 6 (by omega) (al_rg (σ.1 14) (nI k)) (FP.fadd (al_fg (σ.2.1 6) (al_rg (σ.1 (2 * 0)) (al_rg (σ.1 14) (nI k)))) (al_fg (σ.2.1 0) (al_rg (σ.1 14) (nI k))))) al_mi_X0_set al_ml_RX7_43 rfl (al_rc_F D cy ad _ (i := 6) (by omega)) rfl hl.1 rfl (Nat.le_of_ble_eq_true rfl) dX7_take_66 ⟨Nat.le_of_ble_eq_true rfl, Nat.le_of_ble_eq_true rfl⟩ ⟨Nat.zero_le _, Nat.zero_le _⟩ (fun H locs hW hS => ?_)
        refine W.eq (g2 := F0 m 69 ls []) rfl ?_
        refine lv_iinc (k := 2) (v := nI (k + 1)) (lv' := [(1, .int (nI (k + 1))), (2, .int (al_rg (σ.1 14) (nI k))), (0, .ref (ad (6)))]) S.1 S.2.1 dX7_take_69 hl rfl (al_inc k) (by decide) rfl (fun ls hl => ?_)
        refine lv_goto (tgt := 11) S.1 S.2.1 dX7_take_72 (by decide) ?_
        exact ih (al_fset σ 6 (al_rg (σ.1 14) (nI k)) (FP.fadd (al_fg (σ.2.1 6) (al_rg (σ.1 (2 * 0)) (al_rg (σ.1 14) (nI k)))) (al_fg (σ.2.1 0) (al_rg (σ.1 14) (nI k))))) (k + 1) _ _ _ (by omega) (hO c1).2 hW hS (lv_sub hl [2, 0] rfl) (fun σ'  H locs ls e9 hW hS hl => K σ'  H locs ls (by simp only [al_wtL, al_wt1, if_neg (c1), if_neg (c2)]; exact e9) hW hS hl)
theorem al_mv_X7_take : al_mv yX7_take cX7_take 3 none 0 := ⟨al_c_X7_take, al_ini_RX7, ⟨by decide +kernel, by decide +kernel, by decide +kernel⟩, by decide +kernel⟩
theorem al_mi_X7_take : al_mi yX7_take cX7_take 3 none 0 := ⟨al_mv_X7_take, al_in_X7_take, al_se_X7_take⟩
set_option maxHeartbeats 4000000 in
set_option maxRecDepth 100000 in
theorem al_X7_take (l : Launch) (D : va_G) (cy : al_CY) (ad : Nat → Nat) (σ : al_St) (hO : al_wOK σ) : al_MS l yX7_take cX7_take 3 none 2 42 D cy ad σ [.ref (ad (6))] none (al_wtake σ) := by
  refine al_met al_mv_X7_take (Nat.le_of_ble_eq_true rfl) ?_
  intro p e s m args below meth c ls S hr hlocks hK hW hS hl
  have hl : lv_has ls 3 [(0, .ref (ad (6)))] := hl
  refine lv_aload_n S.1 S.2.1 dX7_take_0 rfl (lv_at hl 0 rfl) ?_
  refine al_g_RX7_22 S hK hW dX7_take_1 ?_
  refine lv_iconst (v := 0) S.1 S.2.1 dX7_take_4 (by decide) ?_
  refine lv_fconst0 S.1 S.2.1 dX7_take_5 ?_
  refine al_cS (rest := []) S hK hW hS (al_X0_set l D cy ad σ 6 (by omega) 0 FP.fconst0) al_mi_X0_set al_ml_RX7_43 rfl (al_rc_F D cy ad _ (i := 6) (by omega)) rfl hl.1 rfl (Nat.le_of_ble_eq_true rfl) dX7_take_6 ⟨Nat.le_of_ble_eq_true rfl, Nat.le_of_ble_eq_true rfl⟩ ⟨Nat.zero_le _, Nat.zero_le _⟩ (fun H locs hW hS => ?_)
  refine W.eq (g2 := F0 m 9 ls []) rfl ?_
  refine lv_iconst (v := 1) S.1 S.2.1 dX7_take_9 (by decide) ?_
  refine lv_istore_n (lv' := [(1, .int 1), (0, .ref (ad (6)))]) S.1 S.2.1 dX7_take_10 rfl hl (by decide) rfl (fun ls hl => ?_)
  refine al_lp_X7_take l D cy ad  S hK 89 (al_fset σ 6 0 FP.fconst0) 1 _ _ _ (by omega) hO hW hS (lv_sub hl [1, 0] rfl) (fun σ1 H locs ls e2 hW hS hl => ?_)
  exact W.vret S.1 S.2.1 hr (fun t9 ht9 _ => ⟨rfl, by rw [ht9]; exact (al_He hW (by simp only [al_wtake, e2])), hS.F ht9⟩) hS.2.2 dX7_take_75
theorem al_mv_X7_pathOf : al_mv yX7_pathOf cX7_pathOf 2 (some .float) 1 := ⟨al_c_X7_pathOf, al_ini_RX7, ⟨by decide +kernel, by decide +kernel, by decide +kernel⟩, by decide +kernel⟩
theorem al_mi_X7_pathOf : al_mi yX7_pathOf cX7_pathOf 2 (some .float) 1 := ⟨al_mv_X7_pathOf, al_in_X7_pathOf, al_se_X7_pathOf⟩
set_option maxHeartbeats 4000000 in
set_option maxRecDepth 100000 in
theorem al_X7_pathOf (l : Launch) (D : va_G) (cy : al_CY) (ad : Nat → Nat) (σ : al_St) (x : Int32) : al_MP l yX7_pathOf cX7_pathOf 2 (some .float) 1 21 D cy ad σ [.ref (ad (6)), .int x] (some (.float (al_fg (σ.2.1 6) x))) := by
  refine al_met al_mv_X7_pathOf (Nat.le_of_ble_eq_true rfl) ?_
  intro p e s m args below meth c ls S hr hlocks hK hW hS hl
  have hl : lv_has ls 2 [(0, .ref (ad (6))), (1, .int x)] := hl
  refine lv_aload_n S.1 S.2.1 dX7_pathOf_0 rfl (lv_at hl 0 rfl) ?_
  refine al_g_RX7_22 S hK hW dX7_pathOf_1 ?_
  refine lv_iload_n S.1 S.2.1 dX7_pathOf_4 rfl (lv_at hl 1 rfl) ?_
  refine al_cP (rest := []) S hK hW (al_X0_get l D cy ad σ 6 (by omega) x) al_mi_X0_get al_ml_RX7_62 rfl (al_rc_F D cy ad _ (i := 6) (by omega)) rfl hl.1 rfl (Nat.le_of_ble_eq_true rfl) dX7_pathOf_5 ⟨Nat.le_of_ble_eq_true rfl, Nat.le_of_ble_eq_true rfl⟩ ⟨Nat.zero_le _, Nat.zero_le _⟩ ?_
  refine W.eq (g2 := F0 m 8 ls [.float (al_fg (σ.2.1 6) x)]) rfl ?_
  exact W.fret S.1 S.2.1 hr (fun t9 ht9 _ => ⟨(congrArg (fun z => Outcome.returned (some (Value.float z))) rfl), ht9⟩) (fun q hq => absurd hq List.not_mem_nil) dX7_pathOf_8
theorem al_mv_X7_sum : al_mv yX7_sum cX7_sum 3 (some .float) 3 := ⟨al_c_X7_sum, al_ini_RX7, ⟨by decide +kernel, by decide +kernel, by decide +kernel⟩, by decide +kernel⟩
theorem al_ms_X7_sum : al_mst yX7_sum cX7_sum 3 (some .float) 3 := ⟨al_mv_X7_sum, al_st_X7_sum⟩
set_option maxHeartbeats 4000000 in
set_option maxRecDepth 100000 in
theorem al_X7_sum (l : Launch) (D : va_G) (cy : al_CY) (ad : Nat → Nat) (σ : al_St) (a : UInt32) (b : UInt32) (mm : UInt32) (ha : al_B a) (hb : al_B b) (hm : al_B mm) : al_MP l yX7_sum cX7_sum 3 (some .float) 0 0 D cy ad σ [.float a, .float b, .float mm] (some (.float (al_sum a b mm))) := by
  refine al_met al_mv_X7_sum (Nat.le_of_ble_eq_true rfl) ?_
  intro p e s m args below meth c ls S hr hlocks hK hW hS hl
  have hl : lv_has ls 3 [(0, .float a), (1, .float b), (2, .float mm)] := hl
  refine lv_fload_n S.1 S.2.1 dX7_sum_0 rfl (lv_at hl 0 rfl) ?_
  refine lv_fload_n S.1 S.2.1 dX7_sum_1 rfl (lv_at hl 2 rfl) ?_
  refine lv_fsub S.1 S.2.1 dX7_sum_2 (al_sub_n32 ha hm) ?_
  refine lv_fload_n S.1 S.2.1 dX7_sum_3 rfl (lv_at hl 1 rfl) ?_
  refine lv_fload_n S.1 S.2.1 dX7_sum_4 rfl (lv_at hl 2 rfl) ?_
  refine lv_fsub S.1 S.2.1 dX7_sum_5 (al_sub_n32 hb hm) ?_
  refine lv_fadd S.1 S.2.1 dX7_sum_6 (al_sum_n32 ha hb hm) ?_
  exact W.fret S.1 S.2.1 hr (fun t9 ht9 _ => ⟨(congrArg (fun z => Outcome.returned (some (Value.float z))) (by simp only [al_sum])), ht9⟩) (fun q hq => absurd hq List.not_mem_nil) dX7_sum_7
theorem al_mv_X7_between : al_mv yX7_between cX7_between 3 (some .float) 2 := ⟨al_c_X7_between, al_ini_RX7, ⟨by decide +kernel, by decide +kernel, by decide +kernel⟩, by decide +kernel⟩
theorem al_mi_X7_between : al_mi yX7_between cX7_between 3 (some .float) 2 := ⟨al_mv_X7_between, al_in_X7_between, al_se_X7_between⟩
set_option maxHeartbeats 4000000 in
set_option maxRecDepth 100000 in
theorem al_X7_between (l : Launch) (D : va_G) (cy : al_CY) (ad : Nat → Nat) (σ : al_St) (x : Int32) (y : Int32) (hB : al_FB σ) : al_MP l yX7_between cX7_between 3 (some .float) 4 91 D cy ad σ [.ref (ad (6)), .int x, .int y] (some (.float (al_sum (al_fg (σ.2.1 6) x) (al_fg (σ.2.1 6) y) (al_fg (σ.2.1 6) (al_meet σ x y))))) := by
  refine al_met al_mv_X7_between (Nat.le_of_ble_eq_true rfl) ?_
  intro p e s m args below meth c ls S hr hlocks hK hW hS hl
  have hl : lv_has ls 3 [(0, .ref (ad (6))), (1, .int x), (2, .int y)] := hl
  refine lv_aload_n S.1 S.2.1 dX7_between_0 rfl (lv_at hl 0 rfl) ?_
  refine al_g_RX7_22 S hK hW dX7_between_1 ?_
  refine lv_iload_n S.1 S.2.1 dX7_between_4 rfl (lv_at hl 1 rfl) ?_
  refine al_cP (rest := []) S hK hW (al_X0_get l D cy ad σ 6 (by omega) x) al_mi_X0_get al_ml_RX7_62 rfl (al_rc_F D cy ad _ (i := 6) (by omega)) rfl hl.1 rfl (Nat.le_of_ble_eq_true rfl) dX7_between_5 ⟨Nat.le_of_ble_eq_true rfl, Nat.le_of_ble_eq_true rfl⟩ ⟨Nat.zero_le _, Nat.zero_le _⟩ ?_
  refine W.eq (g2 := F0 m 8 ls [.float (al_fg (σ.2.1 6) x)]) rfl ?_
  refine lv_aload_n S.1 S.2.1 dX7_between_8 rfl (lv_at hl 0 rfl) ?_
  refine al_g_RX7_22 S hK hW dX7_between_9 ?_
  refine lv_iload_n S.1 S.2.1 dX7_between_12 rfl (lv_at hl 2 rfl) ?_
  refine al_cP (rest := [.float (al_fg (σ.2.1 6) x)]) S hK hW (al_X0_get l D cy ad σ 6 (by omega) y) al_mi_X0_get al_ml_RX7_62 rfl (al_rc_F D cy ad _ (i := 6) (by omega)) rfl hl.1 rfl (Nat.le_of_ble_eq_true rfl) dX7_between_13 ⟨Nat.le_of_ble_eq_true rfl, Nat.le_of_ble_eq_true rfl⟩ ⟨Nat.zero_le _, Nat.zero_le _⟩ ?_
  refine W.eq (g2 := F0 m 16 ls [.float (al_fg (σ.2.1 6) y), .float (al_fg (σ.2.1 6) x)]) rfl ?_
  refine lv_aload_n S.1 S.2.1 dX7_between_16 rfl (lv_at hl 0 rfl) ?_
  refine al_g_RX7_22 S hK hW dX7_between_17 ?_
  refine lv_aload_n S.1 S.2.1 dX7_between_20 rfl (lv_at hl 0 rfl) ?_
  refine al_g_RX7_15 S hK hW dX7_between_21 ?_
  refine lv_iload_n S.1 S.2.1 dX7_between_24 rfl (lv_at hl 1 rfl) ?_
  refine lv_iload_n S.1 S.2.1 dX7_between_25 rfl (lv_at hl 2 rfl) ?_
  refine al_cP (rest := [.ref (ad (64 + 2 * 6)), .float (al_fg (σ.2.1 6) y), .float (al_fg (σ.2.1 6) x)]) S hK hW (al_X4_meetingOf l D cy ad σ x y) al_mi_X4_meetingOf al_ml_RX7_69 rfl (al_rc_4 D cy ad _) rfl hl.1 rfl (Nat.le_of_ble_eq_true rfl) dX7_between_26 ⟨Nat.le_of_ble_eq_true rfl, Nat.le_of_ble_eq_true rfl⟩ ⟨Nat.zero_le _, Nat.zero_le _⟩ ?_
  refine W.eq (g2 := F0 m 29 ls [.int (al_meet σ x y), .ref (ad (64 + 2 * 6)), .float (al_fg (σ.2.1 6) y), .float (al_fg (σ.2.1 6) x)]) rfl ?_
  refine al_cP (rest := [.float (al_fg (σ.2.1 6) y), .float (al_fg (σ.2.1 6) x)]) S hK hW (al_X0_get l D cy ad σ 6 (by omega) (al_meet σ x y)) al_mi_X0_get al_ml_RX7_62 rfl (al_rc_F D cy ad _ (i := 6) (by omega)) rfl hl.1 rfl (Nat.le_of_ble_eq_true rfl) dX7_between_29 ⟨Nat.le_of_ble_eq_true rfl, Nat.le_of_ble_eq_true rfl⟩ ⟨Nat.zero_le _, Nat.zero_le _⟩ ?_
  refine W.eq (g2 := F0 m 32 ls [.float (al_fg (σ.2.1 6) (al_meet σ x y)), .float (al_fg (σ.2.1 6) y), .float (al_fg (σ.2.1 6) x)]) rfl ?_
  refine al_cPs (rest := []) S hK hW (al_X7_sum l D cy ad σ (al_fg (σ.2.1 6) x) (al_fg (σ.2.1 6) y) (al_fg (σ.2.1 6) (al_meet σ x y)) (hB _).1 (hB _).1 (hB _).1) al_ms_X7_sum al_ml_RX7_73 rfl hl.1 rfl (Nat.le_of_ble_eq_true rfl) dX7_between_32 ⟨Nat.le_of_ble_eq_true rfl, Nat.le_of_ble_eq_true rfl⟩ ⟨Nat.zero_le _, Nat.zero_le _⟩ ?_
  refine W.eq (g2 := F0 m 35 ls [.float (al_sum (al_fg (σ.2.1 6) x) (al_fg (σ.2.1 6) y) (al_fg (σ.2.1 6) (al_meet σ x y)))]) rfl ?_
  exact W.fret S.1 S.2.1 hr (fun t9 ht9 _ => ⟨(congrArg (fun z => Outcome.returned (some (Value.float z))) rfl), ht9⟩) (fun q hq => absurd hq List.not_mem_nil) dX7_between_35
theorem al_mv_X7_measured : al_mv yX7_measured cX7_measured 3 (some .float) 2 := ⟨al_c_X7_measured, al_ini_RX7, ⟨by decide +kernel, by decide +kernel, by decide +kernel⟩, by decide +kernel⟩
theorem al_mi_X7_measured : al_mi yX7_measured cX7_measured 3 (some .float) 2 := ⟨al_mv_X7_measured, al_in_X7_measured, al_se_X7_measured⟩
set_option maxHeartbeats 4000000 in
set_option maxRecDepth 100000 in
theorem al_X7_measured (l : Launch) (D : va_G) (cy : al_CY) (ad : Nat → Nat) (σ : al_St) (x : Int32) (y : Int32) (hB : al_FB σ) : al_MP l yX7_measured cX7_measured 3 (some .float) 1 22 D cy ad σ [.ref (ad (6)), .int x, .int y] (some (.float (al_meas σ x y))) := by
  refine al_met al_mv_X7_measured (Nat.le_of_ble_eq_true rfl) ?_
  intro p e s m args below meth c ls S hr hlocks hK hW hS hl
  have hl : lv_has ls 3 [(0, .ref (ad (6))), (1, .int x), (2, .int y)] := hl
  refine lv_aload_n S.1 S.2.1 dX7_measured_0 rfl (lv_at hl 0 rfl) ?_
  refine al_g_RX7_22 S hK hW dX7_measured_1 ?_
  refine lv_iload_n S.1 S.2.1 dX7_measured_4 rfl (lv_at hl 1 rfl) ?_
  refine al_cP (rest := []) S hK hW (al_X0_get l D cy ad σ 6 (by omega) x) al_mi_X0_get al_ml_RX7_62 rfl (al_rc_F D cy ad _ (i := 6) (by omega)) rfl hl.1 rfl (Nat.le_of_ble_eq_true rfl) dX7_measured_5 ⟨Nat.le_of_ble_eq_true rfl, Nat.le_of_ble_eq_true rfl⟩ ⟨Nat.zero_le _, Nat.zero_le _⟩ ?_
  refine W.eq (g2 := F0 m 8 ls [.float (al_fg (σ.2.1 6) x)]) rfl ?_
  refine lv_aload_n S.1 S.2.1 dX7_measured_8 rfl (lv_at hl 0 rfl) ?_
  refine al_g_RX7_22 S hK hW dX7_measured_9 ?_
  refine lv_iload_n S.1 S.2.1 dX7_measured_12 rfl (lv_at hl 2 rfl) ?_
  refine al_cP (rest := [.float (al_fg (σ.2.1 6) x)]) S hK hW (al_X0_get l D cy ad σ 6 (by omega) y) al_mi_X0_get al_ml_RX7_62 rfl (al_rc_F D cy ad _ (i := 6) (by omega)) rfl hl.1 rfl (Nat.le_of_ble_eq_true rfl) dX7_measured_13 ⟨Nat.le_of_ble_eq_true rfl, Nat.le_of_ble_eq_true rfl⟩ ⟨Nat.zero_le _, Nat.zero_le _⟩ ?_
  refine W.eq (g2 := F0 m 16 ls [.float (al_fg (σ.2.1 6) y), .float (al_fg (σ.2.1 6) x)]) rfl ?_
  refine lv_aload_n S.1 S.2.1 dX7_measured_16 rfl (lv_at hl 0 rfl) ?_
  refine al_g_RX7_26 S hK hW dX7_measured_17 ?_
  refine lv_iload_n S.1 S.2.1 dX7_measured_20 rfl (lv_at hl 2 rfl) ?_
  refine al_cP (rest := [.float (al_fg (σ.2.1 6) y), .float (al_fg (σ.2.1 6) x)]) S hK hW (al_X0_get l D cy ad σ 7 (by omega) y) al_mi_X0_get al_ml_RX7_62 rfl (al_rc_F D cy ad _ (i := 7) (by omega)) rfl hl.1 rfl (Nat.le_of_ble_eq_true rfl) dX7_measured_21 ⟨Nat.le_of_ble_eq_true rfl, Nat.le_of_ble_eq_true rfl⟩ ⟨Nat.zero_le _, Nat.zero_le _⟩ ?_
  refine W.eq (g2 := F0 m 24 ls [.float (al_fg (σ.2.1 7) y), .float (al_fg (σ.2.1 6) y), .float (al_fg (σ.2.1 6) x)]) rfl ?_
  refine al_cPs (rest := []) S hK hW (al_X7_sum l D cy ad σ (al_fg (σ.2.1 6) x) (al_fg (σ.2.1 6) y) (al_fg (σ.2.1 7) y) (hB _).1 (hB _).1 (hB _).2) al_ms_X7_sum al_ml_RX7_73 rfl hl.1 rfl (Nat.le_of_ble_eq_true rfl) dX7_measured_24 ⟨Nat.le_of_ble_eq_true rfl, Nat.le_of_ble_eq_true rfl⟩ ⟨Nat.zero_le _, Nat.zero_le _⟩ ?_
  refine W.eq (g2 := F0 m 27 ls [.float (al_sum (al_fg (σ.2.1 6) x) (al_fg (σ.2.1 6) y) (al_fg (σ.2.1 7) y))]) rfl ?_
  exact W.fret S.1 S.2.1 hr (fun t9 ht9 _ => ⟨(congrArg (fun z => Outcome.returned (some (Value.float z))) (by simp only [al_meas])), ht9⟩) (fun q hq => absurd hq List.not_mem_nil) dX7_measured_27
theorem al_mv_X7_onWay : al_mv yX7_onWay cX7_onWay 7 (some .int) 3 := ⟨al_c_X7_onWay, al_ini_RX7, ⟨by decide +kernel, by decide +kernel, by decide +kernel⟩, by decide +kernel⟩
theorem al_mi_X7_onWay : al_mi yX7_onWay cX7_onWay 7 (some .int) 3 := ⟨al_mv_X7_onWay, al_in_X7_onWay, al_se_X7_onWay⟩
set_option maxHeartbeats 4000000 in
set_option maxRecDepth 100000 in
theorem al_X7_onWay (l : Launch) (D : va_G) (cy : al_CY) (ad : Nat → Nat) (σ : al_St) (x : Int32) (y : Int32) (z : Int32) : al_MP l yX7_onWay cX7_onWay 7 (some .int) 4 91 D cy ad σ [.ref (ad (6)), .int x, .int y, .int z] (some (.int (al_onWay σ x y z))) := by
  refine al_met al_mv_X7_onWay (Nat.le_of_ble_eq_true rfl) ?_
  intro p e s m args below meth c ls S hr hlocks hK hW hS hl
  have hl : lv_has ls 7 [(0, .ref (ad (6))), (1, .int x), (2, .int y), (3, .int z)] := hl
  refine lv_aload_n S.1 S.2.1 dX7_onWay_0 rfl (lv_at hl 0 rfl) ?_
  refine al_g_RX7_15 S hK hW dX7_onWay_1 ?_
  refine lv_aload_n S.1 S.2.1 dX7_onWay_4 rfl (lv_at hl 0 rfl) ?_
  refine al_g_RX7_15 S hK hW dX7_onWay_5 ?_
  refine lv_iload_n S.1 S.2.1 dX7_onWay_8 rfl (lv_at hl 1 rfl) ?_
  refine lv_iload_n S.1 S.2.1 dX7_onWay_9 rfl (lv_at hl 2 rfl) ?_
  refine al_cP (rest := [.ref (ad (5))]) S hK hW (al_X4_meetingOf l D cy ad σ x y) al_mi_X4_meetingOf al_ml_RX7_69 rfl (al_rc_4 D cy ad _) rfl hl.1 rfl (Nat.le_of_ble_eq_true rfl) dX7_onWay_10 ⟨Nat.le_of_ble_eq_true rfl, Nat.le_of_ble_eq_true rfl⟩ ⟨Nat.zero_le _, Nat.zero_le _⟩ ?_
  refine W.eq (g2 := F0 m 13 ls [.int (al_meet σ x y), .ref (ad (5))]) rfl ?_
  refine al_cP (rest := []) S hK hW (al_X4_depthOf l D cy ad σ (al_meet σ x y)) al_mi_X4_depthOf al_ml_RX7_77 rfl (al_rc_4 D cy ad _) rfl hl.1 rfl (Nat.le_of_ble_eq_true rfl) dX7_onWay_13 ⟨Nat.le_of_ble_eq_true rfl, Nat.le_of_ble_eq_true rfl⟩ ⟨Nat.zero_le _, Nat.zero_le _⟩ ?_
  refine W.eq (g2 := F0 m 16 ls [.int (al_rg (σ.1 15) (al_meet σ x y))]) rfl ?_
  refine lv_istore (lv' := [(4, .int (al_rg (σ.1 15) (al_meet σ x y))), (0, .ref (ad (6))), (1, .int x), (2, .int y), (3, .int z)]) S.1 S.2.1 dX7_onWay_16 hl (by decide) rfl (fun ls hl => ?_)
  refine lv_aload_n S.1 S.2.1 dX7_onWay_18 rfl (lv_at hl 1 rfl) ?_
  refine al_g_RX7_15 S hK hW dX7_onWay_19 ?_
  refine lv_iload_n S.1 S.2.1 dX7_onWay_22 rfl (lv_at hl 2 rfl) ?_
  refine al_cP (rest := []) S hK hW (al_X4_depthOf l D cy ad σ x) al_mi_X4_depthOf al_ml_RX7_77 rfl (al_rc_4 D cy ad _) rfl hl.1 rfl (Nat.le_of_ble_eq_true rfl) dX7_onWay_23 ⟨Nat.le_of_ble_eq_true rfl, Nat.le_of_ble_eq_true rfl⟩ ⟨Nat.zero_le _, Nat.zero_le _⟩ ?_
  refine W.eq (g2 := F0 m 26 ls [.int (al_rg (σ.1 15) x)]) rfl ?_
  refine lv_iload S.1 S.2.1 dX7_onWay_26 (lv_at hl 0 rfl) ?_
  refine lv_isub S.1 S.2.1 dX7_onWay_28 ?_
  refine lv_istore (lv' := [(5, .int ((al_rg (σ.1 15) x) - (al_rg (σ.1 15) (al_meet σ x y)))), (4, .int (al_rg (σ.1 15) (al_meet σ x y))), (0, .ref (ad (6))), (1, .int x), (2, .int y), (3, .int z)]) S.1 S.2.1 dX7_onWay_29 hl (by decide) rfl (fun ls hl => ?_)
  refine lv_aload_n S.1 S.2.1 dX7_onWay_31 rfl (lv_at hl 2 rfl) ?_
  refine al_g_RX7_15 S hK hW dX7_onWay_32 ?_
  refine lv_iload_n S.1 S.2.1 dX7_onWay_35 rfl (lv_at hl 4 rfl) ?_
  refine al_cP (rest := []) S hK hW (al_X4_depthOf l D cy ad σ y) al_mi_X4_depthOf al_ml_RX7_77 rfl (al_rc_4 D cy ad _) rfl hl.1 rfl (Nat.le_of_ble_eq_true rfl) dX7_onWay_36 ⟨Nat.le_of_ble_eq_true rfl, Nat.le_of_ble_eq_true rfl⟩ ⟨Nat.zero_le _, Nat.zero_le _⟩ ?_
  refine W.eq (g2 := F0 m 39 ls [.int (al_rg (σ.1 15) y)]) rfl ?_
  refine lv_iload S.1 S.2.1 dX7_onWay_39 (lv_at hl 1 rfl) ?_
  refine lv_isub S.1 S.2.1 dX7_onWay_41 ?_
  refine lv_istore (lv' := [(6, .int ((al_rg (σ.1 15) y) - (al_rg (σ.1 15) (al_meet σ x y)))), (5, .int ((al_rg (σ.1 15) x) - (al_rg (σ.1 15) (al_meet σ x y)))), (4, .int (al_rg (σ.1 15) (al_meet σ x y))), (0, .ref (ad (6))), (1, .int x), (2, .int y), (3, .int z)]) S.1 S.2.1 dX7_onWay_42 hl (by decide) rfl (fun ls hl => ?_)
  refine lv_iload_n S.1 S.2.1 dX7_onWay_44 rfl (lv_at hl 6 rfl) ?_
  refine lv_iload S.1 S.2.1 dX7_onWay_45 (lv_at hl 1 rfl) ?_
  refine lv_iload S.1 S.2.1 dX7_onWay_47 (lv_at hl 0 rfl) ?_
  refine lv_iadd S.1 S.2.1 dX7_onWay_49 ?_
  refine lv_icmp_le (tgt := 55) S.1 S.2.1 dX7_onWay_50 (by decide) (fun c1 => ?_) (fun c1 => ?_)
  · refine lv_iload_n S.1 S.2.1 dX7_onWay_55 rfl (lv_at hl 6 rfl) ?_
    refine lv_iload S.1 S.2.1 dX7_onWay_56 (lv_at hl 1 rfl) ?_
    refine lv_icmp_gt (tgt := 73) S.1 S.2.1 dX7_onWay_58 (by decide) (fun c2 => ?_) (fun c2 => ?_)
    · refine lv_aload_n S.1 S.2.1 dX7_onWay_73 rfl (lv_at hl 3 rfl) ?_
      refine al_g_RX7_15 S hK hW dX7_onWay_74 ?_
      refine lv_iload_n S.1 S.2.1 dX7_onWay_77 rfl (lv_at hl 5 rfl) ?_
      refine lv_iload S.1 S.2.1 dX7_onWay_78 (lv_at hl 1 rfl) ?_
      refine lv_iload S.1 S.2.1 dX7_onWay_80 (lv_at hl 0 rfl) ?_
      refine lv_iadd S.1 S.2.1 dX7_onWay_82 ?_
      refine lv_iload_n S.1 S.2.1 dX7_onWay_83 rfl (lv_at hl 6 rfl) ?_
      refine lv_isub S.1 S.2.1 dX7_onWay_84 ?_
      refine al_cP (rest := []) S hK hW (al_X4_climb l D cy ad σ y ((((al_rg (σ.1 15) x) - (al_rg (σ.1 15) (al_meet σ x y))) + ((al_rg (σ.1 15) y) - (al_rg (σ.1 15) (al_meet σ x y)))) - z)) al_mi_X4_climb al_ml_RX7_80 rfl (al_rc_4 D cy ad _) rfl hl.1 rfl (Nat.le_of_ble_eq_true rfl) dX7_onWay_85 ⟨Nat.le_of_ble_eq_true rfl, Nat.le_of_ble_eq_true rfl⟩ ⟨Nat.zero_le _, Nat.zero_le _⟩ ?_
      refine W.eq (g2 := F0 m 88 ls [.int (al_cl σ y ((((al_rg (σ.1 15) x) - (al_rg (σ.1 15) (al_meet σ x y))) + ((al_rg (σ.1 15) y) - (al_rg (σ.1 15) (al_meet σ x y)))) - z))]) rfl ?_
      exact W.iret S.1 S.2.1 hr (fun t9 ht9 _ => ⟨(congrArg (fun z => Outcome.returned (some (Value.int z))) (by simp only [al_onWay, if_pos (c1), if_pos (c2)])), ht9⟩) (fun q hq => absurd hq List.not_mem_nil) dX7_onWay_88
    · refine lv_aload_n S.1 S.2.1 dX7_onWay_61 rfl (lv_at hl 3 rfl) ?_
      refine al_g_RX7_15 S hK hW dX7_onWay_62 ?_
      refine lv_iload_n S.1 S.2.1 dX7_onWay_65 rfl (lv_at hl 4 rfl) ?_
      refine lv_iload_n S.1 S.2.1 dX7_onWay_66 rfl (lv_at hl 6 rfl) ?_
      refine al_cP (rest := []) S hK hW (al_X4_climb l D cy ad σ x z) al_mi_X4_climb al_ml_RX7_80 rfl (al_rc_4 D cy ad _) rfl hl.1 rfl (Nat.le_of_ble_eq_true rfl) dX7_onWay_67 ⟨Nat.le_of_ble_eq_true rfl, Nat.le_of_ble_eq_true rfl⟩ ⟨Nat.zero_le _, Nat.zero_le _⟩ ?_
      refine W.eq (g2 := F0 m 70 ls [.int (al_cl σ x z)]) rfl ?_
      refine lv_goto (tgt := 88) S.1 S.2.1 dX7_onWay_70 (by decide) ?_
      exact W.iret S.1 S.2.1 hr (fun t9 ht9 _ => ⟨(congrArg (fun z => Outcome.returned (some (Value.int z))) (by simp only [al_onWay, if_pos (c1), if_neg (c2)])), ht9⟩) (fun q hq => absurd hq List.not_mem_nil) dX7_onWay_88
  · refine lv_iconst (v := -1) S.1 S.2.1 dX7_onWay_53 (by decide) ?_
    exact W.iret S.1 S.2.1 hr (fun t9 ht9 _ => ⟨(congrArg (fun z => Outcome.returned (some (Value.int z))) (by simp only [al_onWay, if_neg (c1)])), ht9⟩) (fun q hq => absurd hq List.not_mem_nil) dX7_onWay_54
set_option maxHeartbeats 4000000 in
set_option maxRecDepth 100000 in
theorem al_tl_X7_hw {p : Program} {e : Env} {s : State} {m : MethodId} {args : Array Value} {below : List Frame} {meth : Method} {c : Code} (l : Launch) (D : va_G) (cy : al_CY) (ad : Nat → Nat) (w : UInt32) (g : UInt32) (S : CallFix p m c cX7_highestWithin 7 s args al_G RX7) (hr : meth.sig.returnType = (some .int)) (hlocks : meth.locks = false) (hK : va_K D vwCl (al_tys cy) s) {H : Heap} {σ : al_St} (hh : H = s.heap) (hW : al_H D cy ad σ H) : ∀ (n : Nat) (k : Nat) (a : Int32) (ls : Array Slot), (k + n = 90) → (al_FB σ) → (al_B g) → lv_has ls 7 [(0, .ref (ad (6))), (2, .float w), (3, .float g), (4, .int a), (5, .int (nI k))] → W p l e (al_rm 2 42) s m args below meth c H [] 0 0 (MQ below (al_Qp (some (.int (al_hwL σ w g n a)))) args s 0 0 (fun _ => False)) (F0 m 15 ls []) := by
  intro n
  induction n with
  | zero =>
    intro k a ls hk hB hg hl
    subst hh
    refine lv_iload S.1 S.2.1 dX7_highestWithin_15 (lv_at hl 4 rfl) ?_
    refine lv_bipush (v := 90) S.1 S.2.1 dX7_highestWithin_17 (by decide) ?_
    refine lv_icmp_ge (tgt := 68) S.1 S.2.1 dX7_highestWithin_19 (by decide) (fun c1 => ?_) (fun c1 => ?_)
    · refine lv_iload S.1 S.2.1 dX7_highestWithin_68 (lv_at hl 3 rfl) ?_
      exact W.iret S.1 S.2.1 hr (fun t9 ht9 _ => ⟨(congrArg (fun z => Outcome.returned (some (Value.int z))) (by simp only [al_hwL, if_pos (c1)])), ht9⟩) (fun q hq => absurd hq List.not_mem_nil) dX7_highestWithin_70
    · exact absurd (al_90' (by omega)) c1
  | succ n ih =>
    intro k a ls hk hB hg hl
    subst hh
    refine lv_iload S.1 S.2.1 dX7_highestWithin_15 (lv_at hl 4 rfl) ?_
    refine lv_bipush (v := 90) S.1 S.2.1 dX7_highestWithin_17 (by decide) ?_
    refine lv_icmp_ge (tgt := 68) S.1 S.2.1 dX7_highestWithin_19 (by decide) (fun c1 => ?_) (fun c1 => ?_)
    · exact absurd c1 (al_90 (by omega))
    · refine lv_aload_n S.1 S.2.1 dX7_highestWithin_22 rfl (lv_at hl 0 rfl) ?_
      refine al_g_RX7_9 S hK hW dX7_highestWithin_23 ?_
      refine lv_iload S.1 S.2.1 dX7_highestWithin_26 (lv_at hl 3 rfl) ?_
      refine al_cP (rest := []) S hK hW (al_X6_parentOf l D cy ad σ 0 (by omega) a) al_mi_X6_parentOf al_ml_RX7_57 rfl (al_rc_T D cy ad _ (t := 0) (by omega)) rfl hl.1 rfl (Nat.le_of_ble_eq_true rfl) dX7_highestWithin_28 ⟨Nat.le_of_ble_eq_true rfl, Nat.le_of_ble_eq_true rfl⟩ ⟨Nat.zero_le _, Nat.zero_le _⟩ ?_
      refine W.eq (g2 := F0 m 31 ls [.int (al_rg (σ.1 (2 * 0)) a)]) rfl ?_
      refine lv_istore (lv' := [(6, .int (al_rg (σ.1 (2 * 0)) a)), (0, .ref (ad (6))), (2, .float w), (3, .float g), (4, .int a), (5, .int (nI k))]) S.1 S.2.1 dX7_highestWithin_31 hl (by decide) rfl (fun ls hl => ?_)
      refine lv_iload S.1 S.2.1 dX7_highestWithin_33 (lv_at hl 0 rfl) ?_
      refine lv_iconst (v := -1) S.1 S.2.1 dX7_highestWithin_35 (by decide) ?_
      refine lv_icmp_eq (tgt := 55) S.1 S.2.1 dX7_highestWithin_36 (by decide) (fun c2 => ?_) (fun c2 => ?_)
      · refine lv_iload S.1 S.2.1 dX7_highestWithin_55 (lv_at hl 4 rfl) ?_
        exact W.iret S.1 S.2.1 hr (fun t9 ht9 _ => ⟨(congrArg (fun z => Outcome.returned (some (Value.int z))) (by simp only [al_hwL, if_neg (c1), if_pos (c2)])), ht9⟩) (fun q hq => absurd hq List.not_mem_nil) dX7_highestWithin_57
      · refine lv_fload_n S.1 S.2.1 dX7_highestWithin_39 rfl (lv_at hl 3 rfl) ?_
        refine lv_aload_n S.1 S.2.1 dX7_highestWithin_40 rfl (lv_at hl 1 rfl) ?_
        refine al_g_RX7_22 S hK hW dX7_highestWithin_41 ?_
        refine lv_iload S.1 S.2.1 dX7_highestWithin_44 (lv_at hl 0 rfl) ?_
        refine al_cP (rest := [.float g]) S hK hW (al_X0_get l D cy ad σ 6 (by omega) (al_rg (σ.1 (2 * 0)) a)) al_mi_X0_get al_ml_RX7_62 rfl (al_rc_F D cy ad _ (i := 6) (by omega)) rfl hl.1 rfl (Nat.le_of_ble_eq_true rfl) dX7_highestWithin_46 ⟨Nat.le_of_ble_eq_true rfl, Nat.le_of_ble_eq_true rfl⟩ ⟨Nat.zero_le _, Nat.zero_le _⟩ ?_
        refine W.eq (g2 := F0 m 49 ls [.float (al_fg (σ.2.1 6) (al_rg (σ.1 (2 * 0)) a)), .float g]) rfl ?_
        refine lv_fsub S.1 S.2.1 dX7_highestWithin_49 (al_sub_n32 hg (hB _).1) ?_
        refine lv_fload_n S.1 S.2.1 dX7_highestWithin_50 rfl (lv_at hl 2 rfl) ?_
        refine lv_fcmp S.1 S.2.1 dX7_highestWithin_51 ?_
        refine lv_if_le (tgt := 58) S.1 S.2.1 dX7_highestWithin_52 (by decide) (fun c3 => ?_) (fun c3 => ?_)
        · refine lv_iload S.1 S.2.1 dX7_highestWithin_58 (lv_at hl 0 rfl) ?_
          refine lv_istore (lv' := [(4, .int (al_rg (σ.1 (2 * 0)) a)), (6, .int (al_rg (σ.1 (2 * 0)) a)), (0, .ref (ad (6))), (2, .float w), (3, .float g), (5, .int (nI k))]) S.1 S.2.1 dX7_highestWithin_60 hl (by decide) rfl (fun ls hl => ?_)
          refine lv_iinc (k := 5) (v := nI (k + 1)) (lv' := [(5, .int (nI (k + 1))), (4, .int (al_rg (σ.1 (2 * 0)) a)), (6, .int (al_rg (σ.1 (2 * 0)) a)), (0, .ref (ad (6))), (2, .float w), (3, .float g)]) S.1 S.2.1 dX7_highestWithin_62 hl rfl (al_inc k) (by decide) rfl (fun ls hl => ?_)
          refine lv_goto (tgt := 15) S.1 S.2.1 dX7_highestWithin_65 (by decide) ?_
          rw [show al_hwL σ w g (n + 1) a = al_hwL σ w g n (al_rg (σ.1 (2 * 0)) a) from by simp only [al_hwL, if_neg (c1), if_neg (c2), if_pos (c3)]]
          exact ih (k + 1) (al_rg (σ.1 (2 * 0)) a) _ (by omega) hB hg (lv_sub hl [3, 4, 5, 1, 0] rfl)
        · refine lv_iload S.1 S.2.1 dX7_highestWithin_55 (lv_at hl 4 rfl) ?_
          exact W.iret S.1 S.2.1 hr (fun t9 ht9 _ => ⟨(congrArg (fun z => Outcome.returned (some (Value.int z))) (by simp only [al_hwL, if_neg (c1), if_neg (c2), if_neg (c3)])), ht9⟩) (fun q hq => absurd hq List.not_mem_nil) dX7_highestWithin_57
theorem al_mv_X7_highestWithin : al_mv yX7_highestWithin cX7_highestWithin 7 (some .int) 2 := ⟨al_c_X7_highestWithin, al_ini_RX7, ⟨by decide +kernel, by decide +kernel, by decide +kernel⟩, by decide +kernel⟩
theorem al_mi_X7_highestWithin : al_mi yX7_highestWithin cX7_highestWithin 7 (some .int) 2 := ⟨al_mv_X7_highestWithin, al_in_X7_highestWithin, al_se_X7_highestWithin⟩
set_option maxHeartbeats 4000000 in
set_option maxRecDepth 100000 in
theorem al_X7_highestWithin (l : Launch) (D : va_G) (cy : al_CY) (ad : Nat → Nat) (σ : al_St) (x : Int32) (w : UInt32) (hB : al_FB σ) : al_MP l yX7_highestWithin cX7_highestWithin 7 (some .int) 2 42 D cy ad σ [.ref (ad (6)), .int x, .float w] (some (.int (al_hwL σ w (al_fg (σ.2.1 6) x) 90 x))) := by
  refine al_met al_mv_X7_highestWithin (Nat.le_of_ble_eq_true rfl) ?_
  intro p e s m args below meth c ls S hr hlocks hK hW hS hl
  have hl : lv_has ls 7 [(0, .ref (ad (6))), (1, .int x), (2, .float w)] := hl
  refine lv_aload_n S.1 S.2.1 dX7_highestWithin_0 rfl (lv_at hl 0 rfl) ?_
  refine al_g_RX7_22 S hK hW dX7_highestWithin_1 ?_
  refine lv_iload_n S.1 S.2.1 dX7_highestWithin_4 rfl (lv_at hl 1 rfl) ?_
  refine al_cP (rest := []) S hK hW (al_X0_get l D cy ad σ 6 (by omega) x) al_mi_X0_get al_ml_RX7_62 rfl (al_rc_F D cy ad _ (i := 6) (by omega)) rfl hl.1 rfl (Nat.le_of_ble_eq_true rfl) dX7_highestWithin_5 ⟨Nat.le_of_ble_eq_true rfl, Nat.le_of_ble_eq_true rfl⟩ ⟨Nat.zero_le _, Nat.zero_le _⟩ ?_
  refine W.eq (g2 := F0 m 8 ls [.float (al_fg (σ.2.1 6) x)]) rfl ?_
  refine lv_fstore_n (lv' := [(3, .float (al_fg (σ.2.1 6) x)), (0, .ref (ad (6))), (1, .int x), (2, .float w)]) S.1 S.2.1 dX7_highestWithin_8 rfl hl (by decide) rfl (fun ls hl => ?_)
  refine lv_iload_n S.1 S.2.1 dX7_highestWithin_9 rfl (lv_at hl 2 rfl) ?_
  refine lv_istore (lv' := [(4, .int x), (3, .float (al_fg (σ.2.1 6) x)), (0, .ref (ad (6))), (1, .int x), (2, .float w)]) S.1 S.2.1 dX7_highestWithin_10 hl (by decide) rfl (fun ls hl => ?_)
  refine lv_iconst (v := 0) S.1 S.2.1 dX7_highestWithin_12 (by decide) ?_
  refine lv_istore (lv' := [(5, .int 0), (4, .int x), (3, .float (al_fg (σ.2.1 6) x)), (0, .ref (ad (6))), (1, .int x), (2, .float w)]) S.1 S.2.1 dX7_highestWithin_13 hl (by decide) rfl (fun ls hl => ?_)
  exact al_tl_X7_hw l D cy ad w (al_fg (σ.2.1 6) x) S hr hlocks hK rfl hW 90 0 x _ (by omega) hB (hB _).1 (lv_sub hl [3, 5, 2, 1, 0] rfl)
set_option maxHeartbeats 4000000 in
set_option maxRecDepth 100000 in
theorem al_lp_X7_mk {p : Program} {e : Env} {s : State} {m : MethodId} {args : Array Value} {below : List Frame} {meth : Method} {c : Code} {Q : State → Prop} (l : Launch) (D : va_G) (cy : al_CY) (ad : Nat → Nat) (S : CallFix p m c cX7_findMeetings 6 s args al_G RX7) (hK : va_K D vwCl (al_tys cy) s) {H0 : Heap} : ∀ (n : Nat) (σ : al_St) (k : Nat) (a : Int32) (H : Heap) (locs : List Loc) (ls : Array Slot), (k + n = 90) → al_H D cy ad σ H → va_S (al_A ad) H0 H locs → lv_has ls 6 [(0, .ref (ad (6))), (2, .int a), (3, .int (nI k))] → (∀ (σ' : al_St) (H : Heap) (locs : List Loc) (ls : Array Slot), al_mkL n a σ = σ' → al_H D cy ad σ' H → va_S (al_A ad) H0 H locs → lv_has ls 6 [(0, .ref (ad (6)))] → W p l e (al_rm 2 42) s m args below meth c H locs 0 0 Q (F0 m 47 ls [])) → W p l e (al_rm 2 42) s m args below meth c H locs 0 0 Q (F0 m 12 ls []) := by
  intro n
  induction n with
  | zero =>
    intro σ k a H locs ls hk hW hS hl K
    refine lv_iload_n S.1 S.2.1 dX7_findMeetings_12 rfl (lv_at hl 2 rfl) ?_
    refine lv_bipush (v := 90) S.1 S.2.1 dX7_findMeetings_13 (by decide) ?_
    refine lv_icmp_ge (tgt := 47) S.1 S.2.1 dX7_findMeetings_15 (by decide) (fun c1 => ?_) (fun c1 => ?_)
    · exact K σ  _ _ _ (by simp only [al_mkL, if_pos (c1)]) hW hS (lv_sub hl [0] rfl)
    · exact absurd (al_90' (by omega)) c1
  | succ n ih =>
    intro σ k a H locs ls hk hW hS hl K
    refine lv_iload_n S.1 S.2.1 dX7_findMeetings_12 rfl (lv_at hl 2 rfl) ?_
    refine lv_bipush (v := 90) S.1 S.2.1 dX7_findMeetings_13 (by decide) ?_
    refine lv_icmp_ge (tgt := 47) S.1 S.2.1 dX7_findMeetings_15 (by decide) (fun c1 => ?_) (fun c1 => ?_)
    · exact absurd c1 (al_90 (by omega))
    · refine lv_iload_n S.1 S.2.1 dX7_findMeetings_18 rfl (lv_at hl 1 rfl) ?_
      refine lv_iconst (v := -1) S.1 S.2.1 dX7_findMeetings_19 (by decide) ?_
      refine lv_icmp_eq (tgt := 47) S.1 S.2.1 dX7_findMeetings_20 (by decide) (fun c2 => ?_) (fun c2 => ?_)
      · exact K σ  _ _ _ (by simp only [al_mkL, if_neg (c1), if_pos (c2)]) hW hS (lv_sub hl [0] rfl)
      · refine lv_aload_n S.1 S.2.1 dX7_findMeetings_23 rfl (lv_at hl 0 rfl) ?_
        refine al_g_RX7_32 S hK hW dX7_findMeetings_24 ?_
        refine lv_iload_n S.1 S.2.1 dX7_findMeetings_27 rfl (lv_at hl 1 rfl) ?_
        refine lv_iconst (v := 1) S.1 S.2.1 dX7_findMeetings_28 (by decide) ?_
        refine al_cS (rest := []) S hK hW hS (al_X2_set l D cy ad σ 22 (by omega) a 1) al_mi_X2_set al_ml_RX7_102 rfl (al_rc_R D cy ad _ (i := 22) (by omega)) rfl hl.1 rfl (Nat.le_of_ble_eq_true rfl) dX7_findMeetings_29 ⟨Nat.le_of_ble_eq_true rfl, Nat.le_of_ble_eq_true rfl⟩ ⟨Nat.zero_le _, Nat.zero_le _⟩ (fun H locs hW hS => ?_)
        refine W.eq (g2 := F0 m 32 ls []) rfl ?_
        refine lv_aload_n S.1 S.2.1 dX7_findMeetings_32 rfl (lv_at hl 0 rfl) ?_
        refine al_g_RX7_9 S hK hW dX7_findMeetings_33 ?_
        refine lv_iload_n S.1 S.2.1 dX7_findMeetings_36 rfl (lv_at hl 1 rfl) ?_
        refine al_cP (rest := []) S hK hW (al_X6_parentOf l D cy ad (al_set σ 22 a 1) 0 (by omega) a) al_mi_X6_parentOf al_ml_RX7_57 rfl (al_rc_T D cy ad _ (t := 0) (by omega)) rfl hl.1 rfl (Nat.le_of_ble_eq_true rfl) dX7_findMeetings_37 ⟨Nat.le_of_ble_eq_true rfl, Nat.le_of_ble_eq_true rfl⟩ ⟨Nat.zero_le _, Nat.zero_le _⟩ ?_
        refine W.eq (g2 := F0 m 40 ls [.int (al_rg ((al_set σ 22 a 1).1 (2 * 0)) a)]) rfl ?_
        refine lv_istore_n (lv' := [(2, .int (al_rg ((al_set σ 22 a 1).1 (2 * 0)) a)), (0, .ref (ad (6))), (3, .int (nI k))]) S.1 S.2.1 dX7_findMeetings_40 rfl hl (by decide) rfl (fun ls hl => ?_)
        refine lv_iinc (k := 2) (v := nI (k + 1)) (lv' := [(3, .int (nI (k + 1))), (2, .int (al_rg ((al_set σ 22 a 1).1 (2 * 0)) a)), (0, .ref (ad (6)))]) S.1 S.2.1 dX7_findMeetings_41 hl rfl (al_inc k) (by decide) rfl (fun ls hl => ?_)
        refine lv_goto (tgt := 12) S.1 S.2.1 dX7_findMeetings_44 (by decide) ?_
        exact ih (al_set σ 22 a 1) (k + 1) (al_rg ((al_set σ 22 a 1).1 (2 * 0)) a) _ _ _ (by omega) hW hS (lv_sub hl [2, 1, 0] rfl) (fun σ'  H locs ls e9 hW hS hl => K σ'  H locs ls (by simp only [al_mkL, if_neg (c1), if_neg (c2)]; exact e9) hW hS hl)
set_option maxHeartbeats 4000000 in
set_option maxRecDepth 100000 in
theorem al_lp_X7_mp {p : Program} {e : Env} {s : State} {m : MethodId} {args : Array Value} {below : List Frame} {meth : Method} {c : Code} {Q : State → Prop} (l : Launch) (D : va_G) (cy : al_CY) (ad : Nat → Nat) (S : CallFix p m c cX7_findMeetings 6 s args al_G RX7) (hK : va_K D vwCl (al_tys cy) s) {H0 : Heap} : ∀ (n : Nat) (σ : al_St) (k : Nat) (H : Heap) (locs : List Loc) (ls : Array Slot), (k + n = 90) → al_H D cy ad σ H → va_S (al_A ad) H0 H locs → lv_has ls 6 [(0, .ref (ad (6))), (3, .int (nI k))] → (∀ (σ' : al_St) (H : Heap) (locs : List Loc) (ls : Array Slot), al_mpL n k σ = σ' → al_H D cy ad σ' H → va_S (al_A ad) H0 H locs → lv_has ls 6 [(0, .ref (ad (6)))] → W p l e (al_rm 2 42) s m args below meth c H locs 0 0 Q (F0 m 144 ls [])) → W p l e (al_rm 2 42) s m args below meth c H locs 0 0 Q (F0 m 49 ls []) := by
  intro n
  induction n with
  | zero =>
    intro σ k H locs ls hk hW hS hl K
    refine lv_iload_n S.1 S.2.1 dX7_findMeetings_49 rfl (lv_at hl 1 rfl) ?_
    refine lv_aload_n S.1 S.2.1 dX7_findMeetings_50 rfl (lv_at hl 0 rfl) ?_
    refine al_g_RX7_15 S hK hW dX7_findMeetings_51 ?_
    refine al_cP (rest := [.int (nI k)]) S hK hW (al_X4_present l D cy ad σ ) al_mi_X4_present al_ml_RX7_47 rfl (al_rc_4 D cy ad _) rfl hl.1 rfl (Nat.le_of_ble_eq_true rfl) dX7_findMeetings_54 ⟨Nat.le_of_ble_eq_true rfl, Nat.le_of_ble_eq_true rfl⟩ ⟨Nat.zero_le _, Nat.zero_le _⟩ ?_
    refine W.eq (g2 := F0 m 57 ls [.int (σ.2.2.1 9), .int (nI k)]) rfl ?_
    refine lv_icmp_ge (tgt := 144) S.1 S.2.1 dX7_findMeetings_57 (by decide) (fun c1 => ?_) (fun c1 => ?_)
    · exact K σ  _ _ _ (by simp only [al_mpL, al_mp1, if_pos (c1)]) hW hS (lv_sub hl [0] rfl)
    · refine lv_iload_n S.1 S.2.1 dX7_findMeetings_60 rfl (lv_at hl 1 rfl) ?_
      refine lv_bipush (v := 90) S.1 S.2.1 dX7_findMeetings_61 (by decide) ?_
      refine lv_icmp_ge (tgt := 144) S.1 S.2.1 dX7_findMeetings_63 (by decide) (fun c2 => ?_) (fun c2 => ?_)
      · exact K σ  _ _ _ (by simp only [al_mpL, al_mp1, if_neg (c1), if_pos (c2)]) hW hS (lv_sub hl [0] rfl)
      · exact absurd (al_90' (by omega)) c2
  | succ n ih =>
    intro σ k H locs ls hk hW hS hl K
    refine lv_iload_n S.1 S.2.1 dX7_findMeetings_49 rfl (lv_at hl 1 rfl) ?_
    refine lv_aload_n S.1 S.2.1 dX7_findMeetings_50 rfl (lv_at hl 0 rfl) ?_
    refine al_g_RX7_15 S hK hW dX7_findMeetings_51 ?_
    refine al_cP (rest := [.int (nI k)]) S hK hW (al_X4_present l D cy ad σ ) al_mi_X4_present al_ml_RX7_47 rfl (al_rc_4 D cy ad _) rfl hl.1 rfl (Nat.le_of_ble_eq_true rfl) dX7_findMeetings_54 ⟨Nat.le_of_ble_eq_true rfl, Nat.le_of_ble_eq_true rfl⟩ ⟨Nat.zero_le _, Nat.zero_le _⟩ ?_
    refine W.eq (g2 := F0 m 57 ls [.int (σ.2.2.1 9), .int (nI k)]) rfl ?_
    refine lv_icmp_ge (tgt := 144) S.1 S.2.1 dX7_findMeetings_57 (by decide) (fun c1 => ?_) (fun c1 => ?_)
    · exact K σ  _ _ _ (by simp only [al_mpL, al_mp1, if_pos (c1)]) hW hS (lv_sub hl [0] rfl)
    · refine lv_iload_n S.1 S.2.1 dX7_findMeetings_60 rfl (lv_at hl 1 rfl) ?_
      refine lv_bipush (v := 90) S.1 S.2.1 dX7_findMeetings_61 (by decide) ?_
      refine lv_icmp_ge (tgt := 144) S.1 S.2.1 dX7_findMeetings_63 (by decide) (fun c2 => ?_) (fun c2 => ?_)
      · exact absurd c2 (al_90 (by omega))
      · refine lv_aload_n S.1 S.2.1 dX7_findMeetings_66 rfl (lv_at hl 0 rfl) ?_
        refine al_g_RX7_15 S hK hW dX7_findMeetings_67 ?_
        refine lv_iload_n S.1 S.2.1 dX7_findMeetings_70 rfl (lv_at hl 1 rfl) ?_
        refine al_cP (rest := []) S hK hW (al_X4_downwardAt l D cy ad σ (nI k)) al_mi_X4_downwardAt al_ml_RX7_53 rfl (al_rc_4 D cy ad _) rfl hl.1 rfl (Nat.le_of_ble_eq_true rfl) dX7_findMeetings_71 ⟨Nat.le_of_ble_eq_true rfl, Nat.le_of_ble_eq_true rfl⟩ ⟨Nat.zero_le _, Nat.zero_le _⟩ ?_
        refine W.eq (g2 := F0 m 74 ls [.int (al_rg (σ.1 14) (nI k))]) rfl ?_
        refine lv_istore (lv' := [(4, .int (al_rg (σ.1 14) (nI k))), (0, .ref (ad (6))), (3, .int (nI k))]) S.1 S.2.1 dX7_findMeetings_74 hl (by decide) rfl (fun ls hl => ?_)
        refine lv_aload_n S.1 S.2.1 dX7_findMeetings_76 rfl (lv_at hl 1 rfl) ?_
        refine al_g_RX7_32 S hK hW dX7_findMeetings_77 ?_
        refine lv_iload S.1 S.2.1 dX7_findMeetings_80 (lv_at hl 0 rfl) ?_
        refine al_cP (rest := []) S hK hW (al_X2_get l D cy ad σ 22 (by omega) (al_rg (σ.1 14) (nI k))) al_mi_X2_get al_ml_RX7_105 rfl (al_rc_R D cy ad _ (i := 22) (by omega)) rfl hl.1 rfl (Nat.le_of_ble_eq_true rfl) dX7_findMeetings_82 ⟨Nat.le_of_ble_eq_true rfl, Nat.le_of_ble_eq_true rfl⟩ ⟨Nat.zero_le _, Nat.zero_le _⟩ ?_
        refine W.eq (g2 := F0 m 85 ls [.int (al_rg (σ.1 22) (al_rg (σ.1 14) (nI k)))]) rfl ?_
        refine lv_iconst (v := 1) S.1 S.2.1 dX7_findMeetings_85 (by decide) ?_
        refine lv_icmp_ne (tgt := 93) S.1 S.2.1 dX7_findMeetings_86 (by decide) (fun c3 => ?_) (fun c3 => ?_)
        · refine lv_iconst (v := 0) S.1 S.2.1 dX7_findMeetings_93 (by decide) ?_
          refine lv_istore (lv' := [(5, .int 0), (4, .int (al_rg (σ.1 14) (nI k))), (0, .ref (ad (6))), (3, .int (nI k))]) S.1 S.2.1 dX7_findMeetings_94 hl (by decide) rfl (fun ls hl => ?_)
          refine lv_aload_n S.1 S.2.1 dX7_findMeetings_96 rfl (lv_at hl 2 rfl) ?_
          refine al_g_RX7_26 S hK hW dX7_findMeetings_97 ?_
          refine lv_iload S.1 S.2.1 dX7_findMeetings_100 (lv_at hl 1 rfl) ?_
          refine lv_iload S.1 S.2.1 dX7_findMeetings_102 (lv_at hl 0 rfl) ?_
          refine lv_if_eq (tgt := 119) S.1 S.2.1 dX7_findMeetings_104 (by decide) (fun c4 => ?_) (fun c4 => ?_)
          · refine lv_aload_n S.1 S.2.1 dX7_findMeetings_119 rfl (lv_at hl 2 rfl) ?_
            refine al_g_RX7_26 S hK hW dX7_findMeetings_120 ?_
            refine lv_aload_n S.1 S.2.1 dX7_findMeetings_123 rfl (lv_at hl 2 rfl) ?_
            refine al_g_RX7_9 S hK hW dX7_findMeetings_124 ?_
            refine lv_iload S.1 S.2.1 dX7_findMeetings_127 (lv_at hl 1 rfl) ?_
            refine al_cP (rest := [.ref (ad (64 + 2 * 7)), .int (al_rg (σ.1 14) (nI k)), .ref (ad (64 + 2 * 7))]) S hK hW (al_X6_parentOf l D cy ad σ 0 (by omega) (al_rg (σ.1 14) (nI k))) al_mi_X6_parentOf al_ml_RX7_57 rfl (al_rc_T D cy ad _ (t := 0) (by omega)) rfl hl.1 rfl (Nat.le_of_ble_eq_true rfl) dX7_findMeetings_129 ⟨Nat.le_of_ble_eq_true rfl, Nat.le_of_ble_eq_true rfl⟩ ⟨Nat.zero_le _, Nat.zero_le _⟩ ?_
            refine W.eq (g2 := F0 m 132 ls [.int (al_rg (σ.1 (2 * 0)) (al_rg (σ.1 14) (nI k))), .ref (ad (64 + 2 * 7)), .int (al_rg (σ.1 14) (nI k)), .ref (ad (64 + 2 * 7))]) rfl ?_
            refine al_cP (rest := [.int (al_rg (σ.1 14) (nI k)), .ref (ad (64 + 2 * 7))]) S hK hW (al_X0_get l D cy ad σ 7 (by omega) (al_rg (σ.1 (2 * 0)) (al_rg (σ.1 14) (nI k)))) al_mi_X0_get al_ml_RX7_62 rfl (al_rc_F D cy ad _ (i := 7) (by omega)) rfl hl.1 rfl (Nat.le_of_ble_eq_true rfl) dX7_findMeetings_132 ⟨Nat.le_of_ble_eq_true rfl, Nat.le_of_ble_eq_true rfl⟩ ⟨Nat.zero_le _, Nat.zero_le _⟩ ?_
            refine W.eq (g2 := F0 m 135 ls [.float (al_fg (σ.2.1 7) (al_rg (σ.1 (2 * 0)) (al_rg (σ.1 14) (nI k)))), .int (al_rg (σ.1 14) (nI k)), .ref (ad (64 + 2 * 7))]) rfl ?_
            refine al_cS (rest := []) S hK hW hS (al_X0_set l D cy ad σ 7 (by omega) (al_rg (σ.1 14) (nI k)) (al_fg (σ.2.1 7) (al_rg (σ.1 (2 * 0)) (al_rg (σ.1 14) (nI k))))) al_mi_X0_set al_ml_RX7_43 rfl (al_rc_F D cy ad _ (i := 7) (by omega)) rfl hl.1 rfl (Nat.le_of_ble_eq_true rfl) dX7_findMeetings_135 ⟨Nat.le_of_ble_eq_true rfl, Nat.le_of_ble_eq_true rfl⟩ ⟨Nat.zero_le _, Nat.zero_le _⟩ (fun H locs hW hS => ?_)
            refine W.eq (g2 := F0 m 138 ls []) rfl ?_
            refine lv_iinc (k := 3) (v := nI (k + 1)) (lv' := [(3, .int (nI (k + 1))), (5, .int 0), (4, .int (al_rg (σ.1 14) (nI k))), (0, .ref (ad (6)))]) S.1 S.2.1 dX7_findMeetings_138 hl rfl (al_inc k) (by decide) rfl (fun ls hl => ?_)
            refine lv_goto (tgt := 49) S.1 S.2.1 dX7_findMeetings_141 (by decide) ?_
            exact ih (al_fset σ 7 (al_rg (σ.1 14) (nI k)) (al_fg (σ.2.1 7) (al_rg (σ.1 (2 * 0)) (al_rg (σ.1 14) (nI k))))) (k + 1) _ _ _ (by omega) hW hS (lv_sub hl [3, 0] rfl) (fun σ'  H locs ls e9 hW hS hl => K σ'  H locs ls (by simp only [al_mpL, al_mp1, if_neg (c1), if_neg (c2), if_neg (c3), if_pos (c4)]; exact e9) hW hS hl)
          · exact absurd (by decide) c4
        · refine lv_iconst (v := 1) S.1 S.2.1 dX7_findMeetings_89 (by decide) ?_
          refine lv_goto (tgt := 94) S.1 S.2.1 dX7_findMeetings_90 (by decide) ?_
          refine lv_istore (lv' := [(5, .int 1), (4, .int (al_rg (σ.1 14) (nI k))), (0, .ref (ad (6))), (3, .int (nI k))]) S.1 S.2.1 dX7_findMeetings_94 hl (by decide) rfl (fun ls hl => ?_)
          refine lv_aload_n S.1 S.2.1 dX7_findMeetings_96 rfl (lv_at hl 2 rfl) ?_
          refine al_g_RX7_26 S hK hW dX7_findMeetings_97 ?_
          refine lv_iload S.1 S.2.1 dX7_findMeetings_100 (lv_at hl 1 rfl) ?_
          refine lv_iload S.1 S.2.1 dX7_findMeetings_102 (lv_at hl 0 rfl) ?_
          refine lv_if_eq (tgt := 119) S.1 S.2.1 dX7_findMeetings_104 (by decide) (fun c5 => ?_) (fun c5 => ?_)
          · exact absurd c5 (by decide)
          · refine lv_aload_n S.1 S.2.1 dX7_findMeetings_107 rfl (lv_at hl 2 rfl) ?_
            refine al_g_RX7_22 S hK hW dX7_findMeetings_108 ?_
            refine lv_iload S.1 S.2.1 dX7_findMeetings_111 (lv_at hl 1 rfl) ?_
            refine al_cP (rest := [.int (al_rg (σ.1 14) (nI k)), .ref (ad (64 + 2 * 7))]) S hK hW (al_X0_get l D cy ad σ 6 (by omega) (al_rg (σ.1 14) (nI k))) al_mi_X0_get al_ml_RX7_62 rfl (al_rc_F D cy ad _ (i := 6) (by omega)) rfl hl.1 rfl (Nat.le_of_ble_eq_true rfl) dX7_findMeetings_113 ⟨Nat.le_of_ble_eq_true rfl, Nat.le_of_ble_eq_true rfl⟩ ⟨Nat.zero_le _, Nat.zero_le _⟩ ?_
            refine W.eq (g2 := F0 m 116 ls [.float (al_fg (σ.2.1 6) (al_rg (σ.1 14) (nI k))), .int (al_rg (σ.1 14) (nI k)), .ref (ad (64 + 2 * 7))]) rfl ?_
            refine lv_goto (tgt := 135) S.1 S.2.1 dX7_findMeetings_116 (by decide) ?_
            refine al_cS (rest := []) S hK hW hS (al_X0_set l D cy ad σ 7 (by omega) (al_rg (σ.1 14) (nI k)) (al_fg (σ.2.1 6) (al_rg (σ.1 14) (nI k)))) al_mi_X0_set al_ml_RX7_43 rfl (al_rc_F D cy ad _ (i := 7) (by omega)) rfl hl.1 rfl (Nat.le_of_ble_eq_true rfl) dX7_findMeetings_135 ⟨Nat.le_of_ble_eq_true rfl, Nat.le_of_ble_eq_true rfl⟩ ⟨Nat.zero_le _, Nat.zero_le _⟩ (fun H locs hW hS => ?_)
            refine W.eq (g2 := F0 m 138 ls []) rfl ?_
            refine lv_iinc (k := 3) (v := nI (k + 1)) (lv' := [(3, .int (nI (k + 1))), (5, .int 1), (4, .int (al_rg (σ.1 14) (nI k))), (0, .ref (ad (6)))]) S.1 S.2.1 dX7_findMeetings_138 hl rfl (al_inc k) (by decide) rfl (fun ls hl => ?_)
            refine lv_goto (tgt := 49) S.1 S.2.1 dX7_findMeetings_141 (by decide) ?_
            exact ih (al_fset σ 7 (al_rg (σ.1 14) (nI k)) (al_fg (σ.2.1 6) (al_rg (σ.1 14) (nI k)))) (k + 1) _ _ _ (by omega) hW hS (lv_sub hl [3, 0] rfl) (fun σ'  H locs ls e9 hW hS hl => K σ'  H locs ls (by simp only [al_mpL, al_mp1, if_neg (c1), if_neg (c2), if_pos (c3), if_neg (c5)]; exact e9) hW hS hl)
theorem al_mv_X7_findMeetings : al_mv yX7_findMeetings cX7_findMeetings 6 none 1 := ⟨al_c_X7_findMeetings, al_ini_RX7, ⟨by decide +kernel, by decide +kernel, by decide +kernel⟩, by decide +kernel⟩
theorem al_mi_X7_findMeetings : al_mi yX7_findMeetings cX7_findMeetings 6 none 1 := ⟨al_mv_X7_findMeetings, al_in_X7_findMeetings, al_se_X7_findMeetings⟩
set_option maxHeartbeats 4000000 in
set_option maxRecDepth 100000 in
theorem al_X7_findMeetings (l : Launch) (D : va_G) (cy : al_CY) (ad : Nat → Nat) (σ : al_St) (x : Int32) : al_MS l yX7_findMeetings cX7_findMeetings 6 none 2 42 D cy ad σ [.ref (ad (6)), .int x] none (al_meets σ x) := by
  refine al_met al_mv_X7_findMeetings (Nat.le_of_ble_eq_true rfl) ?_
  intro p e s m args below meth c ls S hr hlocks hK hW hS hl
  have hl : lv_has ls 6 [(0, .ref (ad (6))), (1, .int x)] := hl
  refine lv_aload_n S.1 S.2.1 dX7_findMeetings_0 rfl (lv_at hl 0 rfl) ?_
  refine al_g_RX7_32 S hK hW dX7_findMeetings_1 ?_
  refine lv_iconst (v := 0) S.1 S.2.1 dX7_findMeetings_4 (by decide) ?_
  refine al_cS (rest := []) S hK hW hS (al_X2_fill l D cy ad σ 22 (by omega) 0) al_mi_X2_fill al_ml_RX7_99 rfl (al_rc_R D cy ad _ (i := 22) (by omega)) rfl hl.1 rfl (Nat.le_of_ble_eq_true rfl) dX7_findMeetings_5 ⟨Nat.le_of_ble_eq_true rfl, Nat.le_of_ble_eq_true rfl⟩ ⟨Nat.zero_le _, Nat.zero_le _⟩ (fun H locs hW hS => ?_)
  refine W.eq (g2 := F0 m 8 ls []) rfl ?_
  refine lv_iload_n S.1 S.2.1 dX7_findMeetings_8 rfl (lv_at hl 1 rfl) ?_
  refine lv_istore_n (lv' := [(2, .int x), (0, .ref (ad (6))), (1, .int x)]) S.1 S.2.1 dX7_findMeetings_9 rfl hl (by decide) rfl (fun ls hl => ?_)
  refine lv_iconst (v := 0) S.1 S.2.1 dX7_findMeetings_10 (by decide) ?_
  refine lv_istore_n (lv' := [(3, .int 0), (2, .int x), (0, .ref (ad (6))), (1, .int x)]) S.1 S.2.1 dX7_findMeetings_11 rfl hl (by decide) rfl (fun ls hl => ?_)
  refine al_lp_X7_mk l D cy ad  S hK 90 (al_sR σ 22 (al_fill 90 0 (σ.1 22))) 0 x _ _ _ (by omega) hW hS (lv_sub hl [2, 1, 0] rfl) (fun σ1 H locs ls e2 hW hS hl => ?_)
  refine lv_iconst (v := 0) S.1 S.2.1 dX7_findMeetings_47 (by decide) ?_
  refine lv_istore_n (lv' := [(3, .int 0), (0, .ref (ad (6)))]) S.1 S.2.1 dX7_findMeetings_48 rfl hl (by decide) rfl (fun ls hl => ?_)
  refine al_lp_X7_mp l D cy ad  S hK 90 σ1 0 _ _ _ (by omega) hW hS (lv_sub hl [1, 0] rfl) (fun σ3 H locs ls e4 hW hS hl => ?_)
  exact W.vret S.1 S.2.1 hr (fun t9 ht9 _ => ⟨rfl, by rw [ht9]; exact (al_He hW (by simp only [al_meets, al_fillR, e2, e4])), hS.F ht9⟩) hS.2.2 dX7_findMeetings_144
set_option maxHeartbeats 4000000 in
set_option maxRecDepth 100000 in
theorem al_lp_X7_far {p : Program} {e : Env} {s : State} {m : MethodId} {args : Array Value} {below : List Frame} {meth : Method} {c : Code} {Q : State → Prop} (l : Launch) (D : va_G) (cy : al_CY) (ad : Nat → Nat) (x : Int32) (S : CallFix p m c cX7_farthestFromOn 6 s args al_G RX7) (hK : va_K D vwCl (al_tys cy) s) {H : Heap} {locs : List Loc} {σ : al_St} (hW : al_H D cy ad σ H) : ∀ (n : Nat) (k : Nat) (g : UInt32) (r : Int32) (ls : Array Slot), (k + n = 90) → (al_FB σ) → lv_has ls 6 [(0, .ref (ad (6))), (1, .int x), (3, .int r), (4, .float g), (5, .int (nI k))] → (∀ (r' : Int32) (ls : Array Slot), al_farL σ x n k g r = r' → lv_has ls 6 [(3, .int r')] → W p l e (al_rm 2 44) s m args below meth c H locs 0 0 Q (F0 m 59 ls [])) → W p l e (al_rm 2 44) s m args below meth c H locs 0 0 Q (F0 m 9 ls []) := by
  intro n
  induction n with
  | zero =>
    intro k g r ls hk hB hl K
    refine lv_iload S.1 S.2.1 dX7_farthestFromOn_9 (lv_at hl 4 rfl) ?_
    refine lv_bipush (v := 90) S.1 S.2.1 dX7_farthestFromOn_11 (by decide) ?_
    refine lv_icmp_ge (tgt := 59) S.1 S.2.1 dX7_farthestFromOn_13 (by decide) (fun c1 => ?_) (fun c1 => ?_)
    · exact K r _ (by simp only [al_farL, if_pos (c1)]) (lv_sub hl [2] rfl)
    · exact absurd (al_90' (by omega)) c1
  | succ n ih =>
    intro k g r ls hk hB hl K
    refine lv_iload S.1 S.2.1 dX7_farthestFromOn_9 (lv_at hl 4 rfl) ?_
    refine lv_bipush (v := 90) S.1 S.2.1 dX7_farthestFromOn_11 (by decide) ?_
    refine lv_icmp_ge (tgt := 59) S.1 S.2.1 dX7_farthestFromOn_13 (by decide) (fun c1 => ?_) (fun c1 => ?_)
    · exact absurd c1 (al_90 (by omega))
    · refine lv_aload_n S.1 S.2.1 dX7_farthestFromOn_16 rfl (lv_at hl 0 rfl) ?_
      refine al_g_RX7_9 S hK hW dX7_farthestFromOn_17 ?_
      refine lv_iload S.1 S.2.1 dX7_farthestFromOn_20 (lv_at hl 4 rfl) ?_
      refine al_cP (rest := []) S hK hW (al_X6_isNode l D cy ad σ 0 (by omega) (nI k)) al_mi_X6_isNode al_ml_RX7_91 rfl (al_rc_T D cy ad _ (t := 0) (by omega)) rfl hl.1 rfl (Nat.le_of_ble_eq_true rfl) dX7_farthestFromOn_22 ⟨Nat.le_of_ble_eq_true rfl, Nat.le_of_ble_eq_true rfl⟩ ⟨Nat.zero_le _, Nat.zero_le _⟩ ?_
      refine W.eq (g2 := F0 m 25 ls [.int (al_isN σ 0 (nI k))]) rfl ?_
      refine lv_if_eq (tgt := 53) S.1 S.2.1 dX7_farthestFromOn_25 (by decide) (fun c2 => ?_) (fun c2 => ?_)
      · refine lv_iinc (k := 4) (v := nI (k + 1)) (lv' := [(5, .int (nI (k + 1))), (0, .ref (ad (6))), (1, .int x), (3, .int r), (4, .float g)]) S.1 S.2.1 dX7_farthestFromOn_53 hl rfl (al_inc k) (by decide) rfl (fun ls hl => ?_)
        refine lv_goto (tgt := 9) S.1 S.2.1 dX7_farthestFromOn_56 (by decide) ?_
        exact ih (k + 1) g r _ (by omega) hB (lv_sub hl [1, 2, 3, 4, 0] rfl) (fun r' ls e9 hl => K r' ls (by simp only [al_farL, if_neg (c1), if_pos (c2)]; exact e9) hl)
      · refine lv_aload_n S.1 S.2.1 dX7_farthestFromOn_28 rfl (lv_at hl 0 rfl) ?_
        refine lv_iload_n S.1 S.2.1 dX7_farthestFromOn_29 rfl (lv_at hl 1 rfl) ?_
        refine lv_iload S.1 S.2.1 dX7_farthestFromOn_30 (lv_at hl 4 rfl) ?_
        refine al_cP (rest := []) S hK hW (al_X7_measured l D cy ad σ x (nI k) hB) al_mi_X7_measured al_ml_RX7_95 rfl (al_rc_7 D cy ad _) rfl hl.1 rfl (Nat.le_of_ble_eq_true rfl) dX7_farthestFromOn_32 ⟨Nat.le_of_ble_eq_true rfl, Nat.le_of_ble_eq_true rfl⟩ ⟨Nat.zero_le _, Nat.zero_le _⟩ ?_
        refine W.eq (g2 := F0 m 35 ls [.float (al_meas σ x (nI k))]) rfl ?_
        refine lv_fload S.1 S.2.1 dX7_farthestFromOn_35 (lv_at hl 3 rfl) ?_
        refine lv_fcmp S.1 S.2.1 dX7_farthestFromOn_37 ?_
        refine lv_if_le (tgt := 53) S.1 S.2.1 dX7_farthestFromOn_38 (by decide) (fun c3 => ?_) (fun c3 => ?_)
        · refine lv_iinc (k := 4) (v := nI (k + 1)) (lv' := [(5, .int (nI (k + 1))), (0, .ref (ad (6))), (1, .int x), (3, .int r), (4, .float g)]) S.1 S.2.1 dX7_farthestFromOn_53 hl rfl (al_inc k) (by decide) rfl (fun ls hl => ?_)
          refine lv_goto (tgt := 9) S.1 S.2.1 dX7_farthestFromOn_56 (by decide) ?_
          exact ih (k + 1) g r _ (by omega) hB (lv_sub hl [1, 2, 3, 4, 0] rfl) (fun r' ls e9 hl => K r' ls (by simp only [al_farL, if_neg (c1), if_neg (c2), if_pos (c3)]; exact e9) hl)
        · refine lv_aload_n S.1 S.2.1 dX7_farthestFromOn_41 rfl (lv_at hl 0 rfl) ?_
          refine lv_iload_n S.1 S.2.1 dX7_farthestFromOn_42 rfl (lv_at hl 1 rfl) ?_
          refine lv_iload S.1 S.2.1 dX7_farthestFromOn_43 (lv_at hl 4 rfl) ?_
          refine al_cP (rest := []) S hK hW (al_X7_measured l D cy ad σ x (nI k) hB) al_mi_X7_measured al_ml_RX7_95 rfl (al_rc_7 D cy ad _) rfl hl.1 rfl (Nat.le_of_ble_eq_true rfl) dX7_farthestFromOn_45 ⟨Nat.le_of_ble_eq_true rfl, Nat.le_of_ble_eq_true rfl⟩ ⟨Nat.zero_le _, Nat.zero_le _⟩ ?_
          refine W.eq (g2 := F0 m 48 ls [.float (al_meas σ x (nI k))]) rfl ?_
          refine lv_fstore (lv' := [(4, .float (al_meas σ x (nI k))), (0, .ref (ad (6))), (1, .int x), (3, .int r), (5, .int (nI k))]) S.1 S.2.1 dX7_farthestFromOn_48 hl (by decide) rfl (fun ls hl => ?_)
          refine lv_iload S.1 S.2.1 dX7_farthestFromOn_50 (lv_at hl 4 rfl) ?_
          refine lv_istore_n (lv' := [(3, .int (nI k)), (4, .float (al_meas σ x (nI k))), (0, .ref (ad (6))), (1, .int x), (5, .int (nI k))]) S.1 S.2.1 dX7_farthestFromOn_52 rfl hl (by decide) rfl (fun ls hl => ?_)
          refine lv_iinc (k := 4) (v := nI (k + 1)) (lv' := [(5, .int (nI (k + 1))), (3, .int (nI k)), (4, .float (al_meas σ x (nI k))), (0, .ref (ad (6))), (1, .int x)]) S.1 S.2.1 dX7_farthestFromOn_53 hl rfl (al_inc k) (by decide) rfl (fun ls hl => ?_)
          refine lv_goto (tgt := 9) S.1 S.2.1 dX7_farthestFromOn_56 (by decide) ?_
          exact ih (k + 1) (al_meas σ x (nI k)) (nI k) _ (by omega) hB (lv_sub hl [3, 4, 1, 2, 0] rfl) (fun r' ls e9 hl => K r' ls (by simp only [al_farL, if_neg (c1), if_neg (c2), if_neg (c3)]; exact e9) hl)
theorem al_mv_X7_farthestFromOn : al_mv yX7_farthestFromOn cX7_farthestFromOn 6 (some .int) 2 := ⟨al_c_X7_farthestFromOn, al_ini_RX7, ⟨by decide +kernel, by decide +kernel, by decide +kernel⟩, by decide +kernel⟩
theorem al_mi_X7_farthestFromOn : al_mi yX7_farthestFromOn cX7_farthestFromOn 6 (some .int) 2 := ⟨al_mv_X7_farthestFromOn, al_in_X7_farthestFromOn, al_se_X7_farthestFromOn⟩
set_option maxHeartbeats 4000000 in
set_option maxRecDepth 100000 in
theorem al_X7_farthestFromOn (l : Launch) (D : va_G) (cy : al_CY) (ad : Nat → Nat) (σ : al_St) (x : Int32) (K : Nat) (hB : al_FB σ) (hK9 : K ≤ 90) : al_MP l yX7_farthestFromOn cX7_farthestFromOn 6 (some .int) 2 44 D cy ad σ [.ref (ad (6)), .int x, .int (nI K)] (some (.int (al_farOn σ x K))) := by
  refine al_met al_mv_X7_farthestFromOn (Nat.le_of_ble_eq_true rfl) ?_
  intro p e s m args below meth c ls S hr hlocks hK hW hS hl
  have hl : lv_has ls 6 [(0, .ref (ad (6))), (1, .int x), (2, .int (nI K))] := hl
  refine lv_iload_n S.1 S.2.1 dX7_farthestFromOn_0 rfl (lv_at hl 1 rfl) ?_
  refine lv_istore_n (lv' := [(3, .int x), (0, .ref (ad (6))), (1, .int x), (2, .int (nI K))]) S.1 S.2.1 dX7_farthestFromOn_1 rfl hl (by decide) rfl (fun ls hl => ?_)
  refine lv_ldcf S.1 S.2.1 S.2.2.2.1 (S.2.2.2.2 _ al_k_RX7_90) dX7_farthestFromOn_2 ?_
  refine lv_fstore (lv' := [(4, .float 3212836864), (3, .int x), (0, .ref (ad (6))), (1, .int x), (2, .int (nI K))]) S.1 S.2.1 dX7_farthestFromOn_4 hl (by decide) rfl (fun ls hl => ?_)
  refine lv_iload_n S.1 S.2.1 dX7_farthestFromOn_6 rfl (lv_at hl 4 rfl) ?_
  refine lv_istore (lv' := [(5, .int (nI K)), (4, .float 3212836864), (3, .int x), (0, .ref (ad (6))), (1, .int x), (2, .int (nI K))]) S.1 S.2.1 dX7_farthestFromOn_7 hl (by decide) rfl (fun ls hl => ?_)
  refine al_lp_X7_far l D cy ad x S hK hW (90 - K) K 3212836864 x _ (by omega) hB (lv_sub hl [3, 4, 2, 1, 0] rfl) (fun r1 ls e2 hl => ?_)
  refine lv_iload_n S.1 S.2.1 dX7_farthestFromOn_59 rfl (lv_at hl 0 rfl) ?_
  exact W.iret S.1 S.2.1 hr (fun t9 ht9 _ => ⟨(congrArg (fun z => Outcome.returned (some (Value.int z))) (by simp only [al_farOn, e2])), ht9⟩) (fun q hq => absurd hq List.not_mem_nil) dX7_farthestFromOn_60
theorem al_mv_X7_farthestFrom : al_mv yX7_farthestFrom cX7_farthestFrom 2 (some .int) 1 := ⟨al_c_X7_farthestFrom, al_ini_RX7, ⟨by decide +kernel, by decide +kernel, by decide +kernel⟩, by decide +kernel⟩
theorem al_mi_X7_farthestFrom : al_mi yX7_farthestFrom cX7_farthestFrom 2 (some .int) 1 := ⟨al_mv_X7_farthestFrom, al_in_X7_farthestFrom, al_se_X7_farthestFrom⟩
set_option maxHeartbeats 4000000 in
set_option maxRecDepth 100000 in
theorem al_X7_farthestFrom (l : Launch) (D : va_G) (cy : al_CY) (ad : Nat → Nat) (σ : al_St) (x : Int32) (hB : al_FB σ) : al_MS l yX7_farthestFrom cX7_farthestFrom 2 (some .int) 3 69 D cy ad σ [.ref (ad (6)), .int x] (some (.int (al_farOn (al_meets σ x) x 0))) (al_meets σ x) := by
  refine al_met al_mv_X7_farthestFrom (Nat.le_of_ble_eq_true rfl) ?_
  intro p e s m args below meth c ls S hr hlocks hK hW hS hl
  have hl : lv_has ls 2 [(0, .ref (ad (6))), (1, .int x)] := hl
  refine lv_aload_n S.1 S.2.1 dX7_farthestFrom_0 rfl (lv_at hl 0 rfl) ?_
  refine lv_iload_n S.1 S.2.1 dX7_farthestFrom_1 rfl (lv_at hl 1 rfl) ?_
  refine al_cS (rest := []) S hK hW hS (al_X7_findMeetings l D cy ad σ x) al_mi_X7_findMeetings al_ml_RX7_83 rfl (al_rc_7 D cy ad _) rfl hl.1 rfl (Nat.le_of_ble_eq_true rfl) dX7_farthestFrom_2 ⟨Nat.le_of_ble_eq_true rfl, Nat.le_of_ble_eq_true rfl⟩ ⟨Nat.zero_le _, Nat.zero_le _⟩ (fun H locs hW hS => ?_)
  refine W.eq (g2 := F0 m 5 ls []) rfl ?_
  refine lv_aload_n S.1 S.2.1 dX7_farthestFrom_5 rfl (lv_at hl 0 rfl) ?_
  refine lv_iload_n S.1 S.2.1 dX7_farthestFrom_6 rfl (lv_at hl 1 rfl) ?_
  refine lv_iconst (v := 0) S.1 S.2.1 dX7_farthestFrom_7 (by decide) ?_
  refine al_cP (rest := []) S hK hW (al_X7_farthestFromOn l D cy ad (al_meets σ x) x 0 (al_FB_meets hB) (by omega)) al_mi_X7_farthestFromOn al_ml_RX7_87 rfl (al_rc_7 D cy ad _) rfl hl.1 rfl (Nat.le_of_ble_eq_true rfl) dX7_farthestFrom_8 ⟨Nat.le_of_ble_eq_true rfl, Nat.le_of_ble_eq_true rfl⟩ ⟨Nat.zero_le _, Nat.zero_le _⟩ ?_
  refine W.eq (g2 := F0 m 11 ls [.int (al_farOn (al_meets σ x) x 0)]) rfl ?_
  exact W.iret S.1 S.2.1 hr (fun t9 ht9 _ => ⟨(congrArg (fun z => Outcome.returned (some (Value.int z))) rfl), by rw [ht9]; exact hW, hS.F ht9⟩) hS.2.2 dX7_farthestFrom_11
set_option maxHeartbeats 4000000 in
set_option maxRecDepth 100000 in
theorem al_lp_X7_fp {p : Program} {e : Env} {s : State} {m : MethodId} {args : Array Value} {below : List Frame} {meth : Method} {c : Code} {Q : State → Prop} (l : Launch) (D : va_G) (cy : al_CY) (ad : Nat → Nat) (S : CallFix p m c cX7_findPair 4 s args al_G RX7) (hK : va_K D vwCl (al_tys cy) s) {H0 : Heap} : ∀ (n : Nat) (σ : al_St) (k : Nat) (g : UInt32) (H : Heap) (locs : List Loc) (ls : Array Slot), (k + n = 90) → (al_FB σ) → al_H D cy ad σ H → va_S (al_A ad) H0 H locs → lv_has ls 4 [(0, .ref (ad (6))), (1, .float g), (2, .int (nI k))] → (∀ (σ' : al_St) (H : Heap) (locs : List Loc) (ls : Array Slot), al_fpL n k g σ = σ' → al_H D cy ad σ' H → va_S (al_A ad) H0 H locs → lv_has ls 4 [(0, .ref (ad (6)))] → W p l e (al_rm 3 69) s m args below meth c H locs 0 0 Q (F0 m 68 ls [])) → W p l e (al_rm 3 69) s m args below meth c H locs 0 0 Q (F0 m 5 ls []) := by
  intro n
  induction n with
  | zero =>
    intro σ k g H locs ls hk hB hW hS hl K
    refine lv_iload_n S.1 S.2.1 dX7_findPair_5 rfl (lv_at hl 2 rfl) ?_
    refine lv_bipush (v := 90) S.1 S.2.1 dX7_findPair_6 (by decide) ?_
    refine lv_icmp_ge (tgt := 68) S.1 S.2.1 dX7_findPair_8 (by decide) (fun c1 => ?_) (fun c1 => ?_)
    · exact K σ  _ _ _ (by simp only [al_fpL, if_pos (c1)]) hW hS (lv_sub hl [0] rfl)
    · exact absurd (al_90' (by omega)) c1
  | succ n ih =>
    intro σ k g H locs ls hk hB hW hS hl K
    refine lv_iload_n S.1 S.2.1 dX7_findPair_5 rfl (lv_at hl 2 rfl) ?_
    refine lv_bipush (v := 90) S.1 S.2.1 dX7_findPair_6 (by decide) ?_
    refine lv_icmp_ge (tgt := 68) S.1 S.2.1 dX7_findPair_8 (by decide) (fun c1 => ?_) (fun c1 => ?_)
    · exact absurd c1 (al_90 (by omega))
    · refine lv_aload_n S.1 S.2.1 dX7_findPair_11 rfl (lv_at hl 0 rfl) ?_
      refine al_g_RX7_9 S hK hW dX7_findPair_12 ?_
      refine lv_iload_n S.1 S.2.1 dX7_findPair_15 rfl (lv_at hl 2 rfl) ?_
      refine al_cP (rest := []) S hK hW (al_X6_isNode l D cy ad σ 0 (by omega) (nI k)) al_mi_X6_isNode al_ml_RX7_91 rfl (al_rc_T D cy ad _ (t := 0) (by omega)) rfl hl.1 rfl (Nat.le_of_ble_eq_true rfl) dX7_findPair_16 ⟨Nat.le_of_ble_eq_true rfl, Nat.le_of_ble_eq_true rfl⟩ ⟨Nat.zero_le _, Nat.zero_le _⟩ ?_
      refine W.eq (g2 := F0 m 19 ls [.int (al_isN σ 0 (nI k))]) rfl ?_
      refine lv_if_eq (tgt := 62) S.1 S.2.1 dX7_findPair_19 (by decide) (fun c2 => ?_) (fun c2 => ?_)
      · refine lv_iinc (k := 2) (v := nI (k + 1)) (lv' := [(2, .int (nI (k + 1))), (0, .ref (ad (6))), (1, .float g)]) S.1 S.2.1 dX7_findPair_62 hl rfl (al_inc k) (by decide) rfl (fun ls hl => ?_)
        refine lv_goto (tgt := 5) S.1 S.2.1 dX7_findPair_65 (by decide) ?_
        exact ih σ (k + 1) g _ _ _ (by omega) (by first | exact hB | exact al_FB_meets hB) hW hS (lv_sub hl [1, 2, 0] rfl) (fun σ'  H locs ls e9 hW hS hl => K σ'  H locs ls (by simp only [al_fpL, if_neg (c1), if_pos (c2)]; exact e9) hW hS hl)
      · refine lv_aload_n S.1 S.2.1 dX7_findPair_22 rfl (lv_at hl 0 rfl) ?_
        refine lv_iload_n S.1 S.2.1 dX7_findPair_23 rfl (lv_at hl 2 rfl) ?_
        refine al_cS (rest := []) S hK hW hS (al_X7_findMeetings l D cy ad σ (nI k)) al_mi_X7_findMeetings al_ml_RX7_83 rfl (al_rc_7 D cy ad _) rfl hl.1 rfl (Nat.le_of_ble_eq_true rfl) dX7_findPair_24 ⟨Nat.le_of_ble_eq_true rfl, Nat.le_of_ble_eq_true rfl⟩ ⟨Nat.zero_le _, Nat.zero_le _⟩ (fun H locs hW hS => ?_)
        refine W.eq (g2 := F0 m 27 ls []) rfl ?_
        refine lv_aload_n S.1 S.2.1 dX7_findPair_27 rfl (lv_at hl 0 rfl) ?_
        refine lv_iload_n S.1 S.2.1 dX7_findPair_28 rfl (lv_at hl 2 rfl) ?_
        refine lv_iload_n S.1 S.2.1 dX7_findPair_29 rfl (lv_at hl 2 rfl) ?_
        refine al_cP (rest := []) S hK hW (al_X7_farthestFromOn l D cy ad (al_meets σ (nI k)) (nI k) k (al_FB_meets hB) (by omega)) al_mi_X7_farthestFromOn al_ml_RX7_87 rfl (al_rc_7 D cy ad _) rfl hl.1 rfl (Nat.le_of_ble_eq_true rfl) dX7_findPair_30 ⟨Nat.le_of_ble_eq_true rfl, Nat.le_of_ble_eq_true rfl⟩ ⟨Nat.zero_le _, Nat.zero_le _⟩ ?_
        refine W.eq (g2 := F0 m 33 ls [.int (al_farOn (al_meets σ (nI k)) (nI k) k)]) rfl ?_
        refine lv_istore_n (lv' := [(3, .int (al_farOn (al_meets σ (nI k)) (nI k) k)), (0, .ref (ad (6))), (1, .float g), (2, .int (nI k))]) S.1 S.2.1 dX7_findPair_33 rfl hl (by decide) rfl (fun ls hl => ?_)
        refine lv_aload_n S.1 S.2.1 dX7_findPair_34 rfl (lv_at hl 1 rfl) ?_
        refine lv_iload_n S.1 S.2.1 dX7_findPair_35 rfl (lv_at hl 3 rfl) ?_
        refine lv_iload_n S.1 S.2.1 dX7_findPair_36 rfl (lv_at hl 0 rfl) ?_
        refine al_cP (rest := []) S hK hW (al_X7_measured l D cy ad (al_meets σ (nI k)) (nI k) (al_farOn (al_meets σ (nI k)) (nI k) k) (al_FB_meets hB)) al_mi_X7_measured al_ml_RX7_95 rfl (al_rc_7 D cy ad _) rfl hl.1 rfl (Nat.le_of_ble_eq_true rfl) dX7_findPair_37 ⟨Nat.le_of_ble_eq_true rfl, Nat.le_of_ble_eq_true rfl⟩ ⟨Nat.zero_le _, Nat.zero_le _⟩ ?_
        refine W.eq (g2 := F0 m 40 ls [.float (al_meas (al_meets σ (nI k)) (nI k) (al_farOn (al_meets σ (nI k)) (nI k) k))]) rfl ?_
        refine lv_fload_n S.1 S.2.1 dX7_findPair_40 rfl (lv_at hl 2 rfl) ?_
        refine lv_fcmp S.1 S.2.1 dX7_findPair_41 ?_
        refine lv_if_le (tgt := 62) S.1 S.2.1 dX7_findPair_42 (by decide) (fun c3 => ?_) (fun c3 => ?_)
        · refine lv_iinc (k := 3) (v := nI (k + 1)) (lv' := [(2, .int (nI (k + 1))), (3, .int (al_farOn (al_meets σ (nI k)) (nI k) k)), (0, .ref (ad (6))), (1, .float g)]) S.1 S.2.1 dX7_findPair_62 hl rfl (al_inc k) (by decide) rfl (fun ls hl => ?_)
          refine lv_goto (tgt := 5) S.1 S.2.1 dX7_findPair_65 (by decide) ?_
          exact ih (al_meets σ (nI k)) (k + 1) g _ _ _ (by omega) (by first | exact hB | exact al_FB_meets hB) hW hS (lv_sub hl [2, 3, 0] rfl) (fun σ'  H locs ls e9 hW hS hl => K σ'  H locs ls (by simp only [al_fpL, if_neg (c1), if_neg (c2), if_pos (c3)]; exact e9) hW hS hl)
        · refine lv_aload_n S.1 S.2.1 dX7_findPair_45 rfl (lv_at hl 1 rfl) ?_
          refine lv_iload_n S.1 S.2.1 dX7_findPair_46 rfl (lv_at hl 3 rfl) ?_
          refine lv_iload_n S.1 S.2.1 dX7_findPair_47 rfl (lv_at hl 0 rfl) ?_
          refine al_cP (rest := []) S hK hW (al_X7_measured l D cy ad (al_meets σ (nI k)) (nI k) (al_farOn (al_meets σ (nI k)) (nI k) k) (al_FB_meets hB)) al_mi_X7_measured al_ml_RX7_95 rfl (al_rc_7 D cy ad _) rfl hl.1 rfl (Nat.le_of_ble_eq_true rfl) dX7_findPair_48 ⟨Nat.le_of_ble_eq_true rfl, Nat.le_of_ble_eq_true rfl⟩ ⟨Nat.zero_le _, Nat.zero_le _⟩ ?_
          refine W.eq (g2 := F0 m 51 ls [.float (al_meas (al_meets σ (nI k)) (nI k) (al_farOn (al_meets σ (nI k)) (nI k) k))]) rfl ?_
          refine lv_fstore_n (lv' := [(1, .float (al_meas (al_meets σ (nI k)) (nI k) (al_farOn (al_meets σ (nI k)) (nI k) k))), (3, .int (al_farOn (al_meets σ (nI k)) (nI k) k)), (0, .ref (ad (6))), (2, .int (nI k))]) S.1 S.2.1 dX7_findPair_51 rfl hl (by decide) rfl (fun ls hl => ?_)
          refine lv_aload_n S.1 S.2.1 dX7_findPair_52 rfl (lv_at hl 2 rfl) ?_
          refine lv_iload_n S.1 S.2.1 dX7_findPair_53 rfl (lv_at hl 3 rfl) ?_
          refine al_p_RX7_36 S hK hW hS dX7_findPair_54 (fun H locs hW hS => ?_)
          refine lv_aload_n S.1 S.2.1 dX7_findPair_57 rfl (lv_at hl 2 rfl) ?_
          refine lv_iload_n S.1 S.2.1 dX7_findPair_58 rfl (lv_at hl 1 rfl) ?_
          refine al_p_RX7_40 S hK hW hS dX7_findPair_59 (fun H locs hW hS => ?_)
          refine lv_iinc (k := 3) (v := nI (k + 1)) (lv' := [(2, .int (nI (k + 1))), (1, .float (al_meas (al_meets σ (nI k)) (nI k) (al_farOn (al_meets σ (nI k)) (nI k) k))), (3, .int (al_farOn (al_meets σ (nI k)) (nI k) k)), (0, .ref (ad (6)))]) S.1 S.2.1 dX7_findPair_62 hl rfl (al_inc k) (by decide) rfl (fun ls hl => ?_)
          refine lv_goto (tgt := 5) S.1 S.2.1 dX7_findPair_65 (by decide) ?_
          exact ih (al_sV (al_sV (al_meets σ (nI k)) 10 (nI k)) 11 (al_farOn (al_meets σ (nI k)) (nI k) k)) (k + 1) (al_meas (al_meets σ (nI k)) (nI k) (al_farOn (al_meets σ (nI k)) (nI k) k)) _ _ _ (by omega) (by first | exact hB | exact al_FB_meets hB) hW hS (lv_sub hl [3, 1, 0] rfl) (fun σ'  H locs ls e9 hW hS hl => K σ'  H locs ls (by simp only [al_fpL, if_neg (c1), if_neg (c2), if_neg (c3)]; exact e9) hW hS hl)
theorem al_mv_X7_findPair : al_mv yX7_findPair cX7_findPair 4 none 0 := ⟨al_c_X7_findPair, al_ini_RX7, ⟨by decide +kernel, by decide +kernel, by decide +kernel⟩, by decide +kernel⟩
theorem al_mi_X7_findPair : al_mi yX7_findPair cX7_findPair 4 none 0 := ⟨al_mv_X7_findPair, al_in_X7_findPair, al_se_X7_findPair⟩
set_option maxHeartbeats 4000000 in
set_option maxRecDepth 100000 in
theorem al_X7_findPair (l : Launch) (D : va_G) (cy : al_CY) (ad : Nat → Nat) (σ : al_St) (hB : al_FB σ) : al_MS l yX7_findPair cX7_findPair 4 none 3 69 D cy ad σ [.ref (ad (6))] none (al_findPair σ) := by
  refine al_met al_mv_X7_findPair (Nat.le_of_ble_eq_true rfl) ?_
  intro p e s m args below meth c ls S hr hlocks hK hW hS hl
  have hl : lv_has ls 4 [(0, .ref (ad (6)))] := hl
  refine lv_ldcf S.1 S.2.1 S.2.2.2.1 (S.2.2.2.2 _ al_k_RX7_90) dX7_findPair_0 ?_
  refine lv_fstore_n (lv' := [(1, .float 3212836864), (0, .ref (ad (6)))]) S.1 S.2.1 dX7_findPair_2 rfl hl (by decide) rfl (fun ls hl => ?_)
  refine lv_iconst (v := 0) S.1 S.2.1 dX7_findPair_3 (by decide) ?_
  refine lv_istore_n (lv' := [(2, .int 0), (1, .float 3212836864), (0, .ref (ad (6)))]) S.1 S.2.1 dX7_findPair_4 rfl hl (by decide) rfl (fun ls hl => ?_)
  refine al_lp_X7_fp l D cy ad  S hK 90 σ 0 3212836864 _ _ _ (by omega) hB hW hS (lv_sub hl [2, 1, 0] rfl) (fun σ1 H locs ls e2 hW hS hl => ?_)
  exact W.vret S.1 S.2.1 hr (fun t9 ht9 _ => ⟨rfl, by rw [ht9]; exact (al_He hW (by simp only [al_findPair, e2])), hS.F ht9⟩) hS.2.2 dX7_findPair_68
theorem al_mv_X7_pairFirst : al_mv yX7_pairFirst cX7_pairFirst 1 (some .int) 0 := ⟨al_c_X7_pairFirst, al_ini_RX7, ⟨by decide +kernel, by decide +kernel, by decide +kernel⟩, by decide +kernel⟩
theorem al_mi_X7_pairFirst : al_mi yX7_pairFirst cX7_pairFirst 1 (some .int) 0 := ⟨al_mv_X7_pairFirst, al_in_X7_pairFirst, al_se_X7_pairFirst⟩
set_option maxHeartbeats 4000000 in
set_option maxRecDepth 100000 in
theorem al_X7_pairFirst (l : Launch) (D : va_G) (cy : al_CY) (ad : Nat → Nat) (σ : al_St) : al_MP l yX7_pairFirst cX7_pairFirst 1 (some .int) 0 0 D cy ad σ [.ref (ad (6))] (some (.int (σ.2.2.1 10))) := by
  refine al_met al_mv_X7_pairFirst (Nat.le_of_ble_eq_true rfl) ?_
  intro p e s m args below meth c ls S hr hlocks hK hW hS hl
  have hl : lv_has ls 1 [(0, .ref (ad (6)))] := hl
  refine lv_aload_n S.1 S.2.1 dX7_pairFirst_0 rfl (lv_at hl 0 rfl) ?_
  refine al_g_RX7_36 S hK hW dX7_pairFirst_1 ?_
  exact W.iret S.1 S.2.1 hr (fun t9 ht9 _ => ⟨(congrArg (fun z => Outcome.returned (some (Value.int z))) rfl), ht9⟩) (fun q hq => absurd hq List.not_mem_nil) dX7_pairFirst_4
theorem al_mv_X7_pairSecond : al_mv yX7_pairSecond cX7_pairSecond 1 (some .int) 0 := ⟨al_c_X7_pairSecond, al_ini_RX7, ⟨by decide +kernel, by decide +kernel, by decide +kernel⟩, by decide +kernel⟩
theorem al_mi_X7_pairSecond : al_mi yX7_pairSecond cX7_pairSecond 1 (some .int) 0 := ⟨al_mv_X7_pairSecond, al_in_X7_pairSecond, al_se_X7_pairSecond⟩
set_option maxHeartbeats 4000000 in
set_option maxRecDepth 100000 in
theorem al_X7_pairSecond (l : Launch) (D : va_G) (cy : al_CY) (ad : Nat → Nat) (σ : al_St) : al_MP l yX7_pairSecond cX7_pairSecond 1 (some .int) 0 0 D cy ad σ [.ref (ad (6))] (some (.int (σ.2.2.1 11))) := by
  refine al_met al_mv_X7_pairSecond (Nat.le_of_ble_eq_true rfl) ?_
  intro p e s m args below meth c ls S hr hlocks hK hW hS hl
  have hl : lv_has ls 1 [(0, .ref (ad (6)))] := hl
  refine lv_aload_n S.1 S.2.1 dX7_pairSecond_0 rfl (lv_at hl 0 rfl) ?_
  refine al_g_RX7_40 S hK hW dX7_pairSecond_1 ?_
  exact W.iret S.1 S.2.1 hr (fun t9 ht9 _ => ⟨(congrArg (fun z => Outcome.returned (some (Value.int z))) rfl), ht9⟩) (fun q hq => absurd hq List.not_mem_nil) dX7_pairSecond_4
