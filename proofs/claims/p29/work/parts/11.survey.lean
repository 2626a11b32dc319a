/-! the survey's own walks -/
theorem al_decm (n : Nat) : nI (n + 1) - 1 + Int32.ofInt (-1) = nI n - 1 := by
  rw [nI_pred, Int32.sub_eq_add_neg]
  rfl
def al_link1 (σ : al_St) (x : Int32) : al_St :=
  if al_isN σ 0 x = 0 then σ
  else al_set (al_set (al_set σ 13 x (al_rg (σ.1 12) (al_rg (σ.1 (2 * 0)) x))) 12 (al_rg (σ.1 (2 * 0)) x) x) 17 (al_rg (σ.1 (2 * 0)) x) (al_rg ((al_set (al_set σ 13 x (al_rg (σ.1 12) (al_rg (σ.1 (2 * 0)) x))) 12 (al_rg (σ.1 (2 * 0)) x) x).1 17) (al_rg (σ.1 (2 * 0)) x) + 1)
def al_linkL : Nat → al_St → al_St
  | 0, σ => σ
  | n + 1, σ => al_linkL n (al_link1 σ (nI (n + 1)))
def al_fillR (σ : al_St) (i : Nat) (v : Int32) : al_St := al_sR σ i (al_fill 90 v (σ.1 i))
def al_linkC (σ : al_St) : al_St := al_linkL 89 (al_fillR (al_fillR (al_fillR σ 12 (-1)) 13 (-1)) 17 0)
def al_dn1 (σ : al_St) (x c : Int32) : al_St := al_set (al_sV (al_set σ 14 (σ.2.2.1 9) c) 9 ((al_set σ 14 (σ.2.2.1 9) c).2.2.1 9 + 1)) 15 c (al_rg ((al_sV (al_set σ 14 (σ.2.2.1 9) c) 9 ((al_set σ 14 (σ.2.2.1 9) c).2.2.1 9 + 1)).1 15) x + 1)
def al_dnI (x : Int32) : Nat → Int32 → al_St → al_St
  | 0, _, σ => σ
  | n + 1, c, σ => if c = -1 then σ else al_dnI x n (al_rg ((al_dn1 σ x c).1 13) c) (al_dn1 σ x c)
def al_dnO : Nat → Nat → al_St → al_St
  | 0, _, σ => σ
  | n + 1, k, σ => if σ.2.2.1 9 ≤ nI k then σ else al_dnO n (k + 1) (al_dnI (al_rg (σ.1 14) (nI k)) 90 (al_rg (σ.1 12) (al_rg (σ.1 14) (nI k))) σ)
def al_goDown (σ : al_St) : al_St := al_dnO 90 0 (al_sV (al_set (al_set σ 14 0 0) 15 0 0) 9 1)
def al_meaL (σ : al_St) : Nat → Int32 → Int32 → Int32 → Int32 → Int32 × Int32 × Int32
  | 0, _, a, b, d => (a, b, d)
  | n + 1, c, a, b, d => if c = -1 then (a, b, d) else if al_rg (σ.1 16) c + 1 ≤ b then al_meaL σ n (al_rg (σ.1 13) c) (a + al_rg (σ.1 18) c) b d else al_meaL σ n (al_rg (σ.1 13) c) (a + al_rg (σ.1 18) c) (al_rg (σ.1 16) c + 1) c
def al_mea1 (σ : al_St) (x a b d : Int32) : al_St :=
  if d = -1 then al_set (al_set (al_set (al_set σ 18 x a) 16 x b) 19 x d) 21 x x
  else al_set (al_set (al_set (al_set σ 18 x a) 16 x b) 19 x d) 21 x (al_rg ((al_set (al_set (al_set σ 18 x a) 16 x b) 19 x d).1 21) d)
def al_measure (σ : al_St) (x : Int32) : al_St := al_mea1 σ x (al_meaL σ 90 (al_rg (σ.1 12) x) 1 0 (-1)).1 (al_meaL σ 90 (al_rg (σ.1 12) x) 1 0 (-1)).2.1 (al_meaL σ 90 (al_rg (σ.1 12) x) 1 0 (-1)).2.2
def al_upL : Nat → al_St → al_St
  | 0, σ => σ
  | n + 1, σ => al_upL n (al_measure σ (al_rg (σ.1 14) (nI (n + 1) - 1)))
def al_goUp (σ : al_St) : al_St := al_upL (σ.2.2.1 9).toNatClampNeg σ
def al_top1 (σ : al_St) (x : Int32) : al_St :=
  if x = 0 then al_set σ 20 x x
  else if al_rg (σ.1 19) (al_rg (σ.1 (2 * 0)) x) = x then al_set σ 20 x (al_rg (σ.1 20) (al_rg (σ.1 (2 * 0)) x)) else al_set σ 20 x x
def al_topL : Nat → Nat → al_St → al_St
  | 0, _, σ => σ
  | n + 1, k, σ => if σ.2.2.1 9 ≤ nI k then σ else al_topL n (k + 1) (al_top1 σ (al_rg (σ.1 14) (nI k)))
def al_findTops (σ : al_St) : al_St := al_topL 90 0 σ
def al_take (σ : al_St) : al_St := al_findTops (al_goUp (al_goDown (al_linkC σ)))
/-- the count of nodes that were seen is a small number -/
def al_pOK (N : Nat) (σ : al_St) : Prop := ∃ P : Nat, P ≤ N ∧ σ.2.2.1 9 = nI P
theorem al_dnI_P (x : Int32) : ∀ (n : Nat) (c : Int32) (σ : al_St) (N : Nat), al_pOK N σ → al_pOK (N + n) (al_dnI x n c σ)
  | 0, _, σ, N, h => h
  | n + 1, c, σ, N, h => by
    rw [al_dnI]
    split
    · obtain ⟨P, h1, h2⟩ := h
      exact ⟨P, by omega, h2⟩
    · have h3 : al_pOK (N + 1) (al_dn1 σ x c) := by
        obtain ⟨P, h1, h2⟩ := h
        refine ⟨P + 1, by omega, ?_⟩
        show σ.2.2.1 9 + 1 = nI (P + 1)
        rw [h2, nI_1]
      have h4 := al_dnI_P x n (al_rg ((al_dn1 σ x c).1 13) c) _ (N + 1) h3
      obtain ⟨P, h5, h6⟩ := h4
      exact ⟨P, by omega, h6⟩
theorem al_dnO_P : ∀ (n k : Nat) (σ : al_St) (N : Nat), al_pOK N σ → al_pOK (N + 90 * n) (al_dnO n k σ)
  | 0, _, σ, N, h => h
  | n + 1, k, σ, N, h => by
    rw [al_dnO]
    split
    · obtain ⟨P, h1, h2⟩ := h
      exact ⟨P, by omega, h2⟩
    · obtain ⟨P, h5, h6⟩ := al_dnO_P n (k + 1) _ (N + 90) (al_dnI_P (al_rg (σ.1 14) (nI k)) 90 (al_rg (σ.1 12) (al_rg (σ.1 14) (nI k))) σ N h)
      exact ⟨P, by omega, h6⟩
theorem al_goDown_P (σ : al_St) : al_pOK 9000 (al_goDown σ) := by
  obtain ⟨P, h5, h6⟩ := al_dnO_P 90 0 (al_sV (al_set (al_set σ 14 0 0) 15 0 0) 9 1) 1 ⟨1, by omega, rfl⟩
  exact ⟨P, by omega, h6⟩
theorem al_pOK_eq {N : Nat} {σ : al_St} (hN : N < 2 ^ 31) (h : al_pOK N σ) : σ.2.2.1 9 = nI (σ.2.2.1 9).toNatClampNeg ∧ (σ.2.2.1 9).toNatClampNeg ≤ N := by
  obtain ⟨P, h1, h2⟩ := h
  rw [h2, nI_clamp (by omega)]
  exact ⟨rfl, h1⟩
set_option maxHeartbeats 4000000 in
set_option maxRecDepth 100000 in
theorem al_lp_X4_link {p : Program} {e : Env} {s : State} {m : MethodId} {args : Array Value} {below : List Frame} {meth : Method} {c : Code} {Q : State → Prop} (l : Launch) (D : va_G) (cy : al_CY) (ad : Nat → Nat) (S : CallFix p m c cX4_linkChildren 3 s args al_G RX4) (hK : va_K D vwCl (al_tys cy) s) {H0 : Heap} : ∀ (n : Nat) (σ : al_St)  (H : Heap) (locs : List Loc) (ls : Array Slot), n < 90 → al_H D cy ad σ H → va_S (al_A ad) H0 H locs → lv_has ls 3 [(0, .ref (ad (5))), (1, .int (nI n))] → (∀ (σ' : al_St) (H : Heap) (locs : List Loc) (ls : Array Slot), al_linkL n σ = σ' → al_H D cy ad σ' H → va_S (al_A ad) H0 H locs → lv_has ls 3 [(0, .ref (ad (5)))] → W p l e (al_rm 2 42) s m args below meth c H locs 0 0 Q (F0 m 100 ls [])) → W p l e (al_rm 2 42) s m args below meth c H locs 0 0 Q (F0 m 27 ls []) := by
  intro n
  induction n with
  | zero =>
    intro σ  H locs ls hn hW hS hl K
    refine lv_iload_n S.1 S.2.1 dX4_linkChildren_27 rfl (lv_at hl 1 rfl) ?_
    refine lv_if_le (tgt := 100) S.1 S.2.1 dX4_linkChildren_28 (by decide) (fun c1 => ?_) (fun c1 => ?_)
    · exact K σ  _ _ _ (by simp only [al_linkL, al_link1, if_pos (c1)]) hW hS (lv_sub hl [0] rfl)
    · exact absurd (by decide) c1
  | succ n ih =>
    intro σ  H locs ls hn hW hS hl K
    refine lv_iload_n S.1 S.2.1 dX4_linkChildren_27 rfl (lv_at hl 1 rfl) ?_
    refine lv_if_le (tgt := 100) S.1 S.2.1 dX4_linkChildren_28 (by decide) (fun c1 => ?_) (fun c1 => ?_)
    · exact absurd c1 (nI_nle (Nat.succ_pos _) (by omega))
    · refine lv_aload_n S.1 S.2.1 dX4_linkChildren_31 rfl (lv_at hl 0 rfl) ?_
      refine al_g_RX4_9 S hK hW dX4_linkChildren_32 ?_
      refine lv_iload_n S.1 S.2.1 dX4_linkChildren_35 rfl (lv_at hl 1 rfl) ?_
      refine al_cP (rest := []) S hK hW (al_X6_isNode l D cy ad σ 0 (by omega) (nI (n + 1))) al_mi_X6_isNode al_ml_RX4_69 rfl (al_rc_T D cy ad _ (t := 0) (by omega)) rfl hl.1 rfl (Nat.le_of_ble_eq_true rfl) dX4_linkChildren_36 ⟨Nat.le_of_ble_eq_true rfl, Nat.le_of_ble_eq_true rfl⟩ ⟨Nat.zero_le _, Nat.zero_le _⟩ ?_
      refine W.eq (g2 := F0 m 39 ls [.int (al_isN σ 0 (nI (n + 1)))]) rfl ?_
      refine lv_if_eq (tgt := 94) S.1 S.2.1 dX4_linkChildren_39 (by decide) (fun c2 => ?_) (fun c2 => ?_)
      · refine lv_iinc (k := 1) (v := nI n) (lv' := [(1, .int (nI n)), (0, .ref (ad (5)))]) S.1 S.2.1 dX4_linkChildren_94 hl rfl (pk_m1 n) (by decide) rfl (fun ls hl => ?_)
        refine lv_goto (tgt := 27) S.1 S.2.1 dX4_linkChildren_97 (by decide) ?_
        exact ih σ  _ _ _ (by omega) hW hS (lv_sub hl [1, 0] rfl) (fun σ'  H locs ls e9 hW hS hl => K σ'  H locs ls (by simp only [al_linkL, al_link1, if_neg (c1), if_pos (c2)]; exact e9) hW hS hl)
      · refine lv_aload_n S.1 S.2.1 dX4_linkChildren_42 rfl (lv_at hl 0 rfl) ?_
        refine al_g_RX4_9 S hK hW dX4_linkChildren_43 ?_
        refine lv_iload_n S.1 S.2.1 dX4_linkChildren_46 rfl (lv_at hl 1 rfl) ?_
        refine al_cP (rest := []) S hK hW (al_X6_parentOf l D cy ad σ 0 (by omega) (nI (n + 1))) al_mi_X6_parentOf al_ml_RX4_75 rfl (al_rc_T D cy ad _ (t := 0) (by omega)) rfl hl.1 rfl (Nat.le_of_ble_eq_true rfl) dX4_linkChildren_47 ⟨Nat.le_of_ble_eq_true rfl, Nat.le_of_ble_eq_true rfl⟩ ⟨Nat.zero_le _, Nat.zero_le _⟩ ?_
        refine W.eq (g2 := F0 m 50 ls [.int (al_rg (σ.1 (2 * 0)) (nI (n + 1)))]) rfl ?_
        refine lv_istore_n (lv' := [(2, .int (al_rg (σ.1 (2 * 0)) (nI (n + 1)))), (0, .ref (ad (5))), (1, .int (nI (n + 1)))]) S.1 S.2.1 dX4_linkChildren_50 rfl hl (by decide) rfl (fun ls hl => ?_)
        refine lv_aload_n S.1 S.2.1 dX4_linkChildren_51 rfl (lv_at hl 1 rfl) ?_
        refine al_g_RX4_22 S hK hW dX4_linkChildren_52 ?_
        refine lv_iload_n S.1 S.2.1 dX4_linkChildren_55 rfl (lv_at hl 2 rfl) ?_
        refine lv_aload_n S.1 S.2.1 dX4_linkChildren_56 rfl (lv_at hl 1 rfl) ?_
        refine al_g_RX4_18 S hK hW dX4_linkChildren_57 ?_
        refine lv_iload_n S.1 S.2.1 dX4_linkChildren_60 rfl (lv_at hl 0 rfl) ?_
        refine al_cP (rest := [.int (nI (n + 1)), .ref (ad (14 + 2 * 13))]) S hK hW (al_X2_get l D cy ad σ 12 (by omega) (al_rg (σ.1 (2 * 0)) (nI (n + 1)))) al_mi_X2_get al_ml_RX4_79 rfl (al_rc_R D cy ad _ (i := 12) (by omega)) rfl hl.1 rfl (Nat.le_of_ble_eq_true rfl) dX4_linkChildren_61 ⟨Nat.le_of_ble_eq_true rfl, Nat.le_of_ble_eq_true rfl⟩ ⟨Nat.zero_le _, Nat.zero_le _⟩ ?_
        refine W.eq (g2 := F0 m 64 ls [.int (al_rg (σ.1 12) (al_rg (σ.1 (2 * 0)) (nI (n + 1)))), .int (nI (n + 1)), .ref (ad (14 + 2 * 13))]) rfl ?_
        refine al_cS (rest := []) S hK hW hS (al_X2_set l D cy ad σ 13 (by omega) (nI (n + 1)) (al_rg (σ.1 12) (al_rg (σ.1 (2 * 0)) (nI (n + 1))))) al_mi_X2_set al_ml_RX4_82 rfl (al_rc_R D cy ad _ (i := 13) (by omega)) rfl hl.1 rfl (Nat.le_of_ble_eq_true rfl) dX4_linkChildren_64 ⟨Nat.le_of_ble_eq_true rfl, Nat.le_of_ble_eq_true rfl⟩ ⟨Nat.zero_le _, Nat.zero_le _⟩ (fun H locs hW hS => ?_)
        refine W.eq (g2 := F0 m 67 ls []) rfl ?_
        refine lv_aload_n S.1 S.2.1 dX4_linkChildren_67 rfl (lv_at hl 1 rfl) ?_
        refine al_g_RX4_18 S hK hW dX4_linkChildren_68 ?_
        refine lv_iload_n S.1 S.2.1 dX4_linkChildren_71 rfl (lv_at hl 0 rfl) ?_
        refine lv_iload_n S.1 S.2.1 dX4_linkChildren_72 rfl (lv_at hl 2 rfl) ?_
        refine al_cS (rest := []) S hK hW hS (al_X2_set l D cy ad (al_set σ 13 (nI (n + 1)) (al_rg (σ.1 12) (al_rg (σ.1 (2 * 0)) (nI (n + 1))))) 12 (by omega) (al_rg (σ.1 (2 * 0)) (nI (n + 1))) (nI (n + 1))) al_mi_X2_set al_ml_RX4_82 rfl (al_rc_R D cy ad _ (i := 12) (by omega)) rfl hl.1 rfl (Nat.le_of_ble_eq_true rfl) dX4_linkChildren_73 ⟨Nat.le_of_ble_eq_true rfl, Nat.le_of_ble_eq_true rfl⟩ ⟨Nat.zero_le _, Nat.zero_le _⟩ (fun H locs hW hS => ?_)
        refine W.eq (g2 := F0 m 76 ls []) rfl ?_
        refine lv_aload_n S.1 S.2.1 dX4_linkChildren_76 rfl (lv_at hl 1 rfl) ?_
        refine al_g_RX4_34 S hK hW dX4_linkChildren_77 ?_
        refine lv_iload_n S.1 S.2.1 dX4_linkChildren_80 rfl (lv_at hl 0 rfl) ?_
        refine lv_aload_n S.1 S.2.1 dX4_linkChildren_81 rfl (lv_at hl 1 rfl) ?_
        refine al_g_RX4_34 S hK hW dX4_linkChildren_82 ?_
        refine lv_iload_n S.1 S.2.1 dX4_linkChildren_85 rfl (lv_at hl 0 rfl) ?_
        refine al_cP (rest := [.int (al_rg (σ.1 (2 * 0)) (nI (n + 1))), .ref (ad (14 + 2 * 17))]) S hK hW (al_X2_get l D cy ad (al_set (al_set σ 13 (nI (n + 1)) (al_rg (σ.1 12) (al_rg (σ.1 (2 * 0)) (nI (n + 1))))) 12 (al_rg (σ.1 (2 * 0)) (nI (n + 1))) (nI (n + 1))) 17 (by omega) (al_rg (σ.1 (2 * 0)) (nI (n + 1)))) al_mi_X2_get al_ml_RX4_79 rfl (al_rc_R D cy ad _ (i := 17) (by omega)) rfl hl.1 rfl (Nat.le_of_ble_eq_true rfl) dX4_linkChildren_86 ⟨Nat.le_of_ble_eq_true rfl, Nat.le_of_ble_eq_true rfl⟩ ⟨Nat.zero_le _, Nat.zero_le _⟩ ?_
        refine W.eq (g2 := F0 m 89 ls [.int (al_rg ((al_set (al_set σ 13 (nI (n + 1)) (al_rg (σ.1 12) (al_rg (σ.1 (2 * 0)) (nI (n + 1))))) 12 (al_rg (σ.1 (2 * 0)) (nI (n + 1))) (nI (n + 1))).1 17) (al_rg (σ.1 (2 * 0)) (nI (n + 1)))), .int (al_rg (σ.1 (2 * 0)) (nI (n + 1))), .ref (ad (14 + 2 * 17))]) rfl ?_
        refine lv_iconst (v := 1) S.1 S.2.1 dX4_linkChildren_89 (by decide) ?_
        refine lv_iadd S.1 S.2.1 dX4_linkChildren_90 ?_
        refine al_cS (rest := []) S hK hW hS (al_X2_set l D cy ad (al_set (al_set σ 13 (nI (n + 1)) (al_rg (σ.1 12) (al_rg (σ.1 (2 * 0)) (nI (n + 1))))) 12 (al_rg (σ.1 (2 * 0)) (nI (n + 1))) (nI (n + 1))) 17 (by omega) (al_rg (σ.1 (2 * 0)) (nI (n + 1))) ((al_rg ((al_set (al_set σ 13 (nI (n + 1)) (al_rg (σ.1 12) (al_rg (σ.1 (2 * 0)) (nI (n + 1))))) 12 (al_rg (σ.1 (2 * 0)) (nI (n + 1))) (nI (n + 1))).1 17) (al_rg (σ.1 (2 * 0)) (nI (n + 1)))) + 1)) al_mi_X2_set al_ml_RX4_82 rfl (al_rc_R D cy ad _ (i := 17) (by omega)) rfl hl.1 rfl (Nat.le_of_ble_eq_true rfl) dX4_linkChildren_91 ⟨Nat.le_of_ble_eq_true rfl, Nat.le_of_ble_eq_true rfl⟩ ⟨Nat.zero_le _, Nat.zero_le _⟩ (fun H locs hW hS => ?_)
        refine W.eq (g2 := F0 m 94 ls []) rfl ?_
        refine lv_iinc (k := 2) (v := nI n) (lv' := [(1, .int (nI n)), (2, .int (al_rg (σ.1 (2 * 0)) (nI (n + 1)))), (0, .ref (ad (5)))]) S.1 S.2.1 dX4_linkChildren_94 hl rfl (pk_m1 n) (by decide) rfl (fun ls hl => ?_)
        refine lv_goto (tgt := 27) S.1 S.2.1 dX4_linkChildren_97 (by decide) ?_
        exact ih (al_set (al_set (al_set σ 13 (nI (n + 1)) (al_rg (σ.1 12) (al_rg (σ.1 (2 * 0)) (nI (n + 1))))) 12 (al_rg (σ.1 (2 * 0)) (nI (n + 1))) (nI (n + 1))) 17 (al_rg (σ.1 (2 * 0)) (nI (n + 1))) ((al_rg ((al_set (al_set σ 13 (nI (n + 1)) (al_rg (σ.1 12) (al_rg (σ.1 (2 * 0)) (nI (n + 1))))) 12 (al_rg (σ.1 (2 * 0)) (nI (n + 1))) (nI (n + 1))).1 17) (al_rg (σ.1 (2 * 0)) (nI (n + 1)))) + 1))  _ _ _ (by omega) hW hS (lv_sub hl [2, 0] rfl) (fun σ'  H locs ls e9 hW hS hl => K σ'  H locs ls (by simp only [al_linkL, al_link1, if_neg (c1), if_neg (c2)]; exact e9) hW hS hl)
theorem al_mv_X4_linkChildren : al_mv yX4_linkChildren cX4_linkChildren 3 none 0 := ⟨al_c_X4_linkChildren, al_ini_RX4, ⟨by decide +kernel, by decide +kernel, by decide +kernel⟩, by decide +kernel⟩
theorem al_mi_X4_linkChildren : al_mi yX4_linkChildren cX4_linkChildren 3 none 0 := ⟨al_mv_X4_linkChildren, al_in_X4_linkChildren, al_se_X4_linkChildren⟩
set_option maxHeartbeats 4000000 in
set_option maxRecDepth 100000 in
theorem al_X4_linkChildren (l : Launch) (D : va_G) (cy : al_CY) (ad : Nat → Nat) (σ : al_St) : al_MS l yX4_linkChildren cX4_linkChildren 3 none 2 42 D cy ad σ [.ref (ad (5))] none (al_linkC σ) := by
  refine al_met al_mv_X4_linkChildren (Nat.le_of_ble_eq_true rfl) ?_
  intro p e s m args below meth c ls S hr hlocks hK hW hS hl
  have hl : lv_has ls 3 [(0, .ref (ad (5)))] := hl
  refine lv_aload_n S.1 S.2.1 dX4_linkChildren_0 rfl (lv_at hl 0 rfl) ?_
  refine al_g_RX4_18 S hK hW dX4_linkChildren_1 ?_
  refine lv_iconst (v := -1) S.1 S.2.1 dX4_linkChildren_4 (by decide) ?_
  refine al_cS (rest := []) S hK hW hS (al_X2_fill l D cy ad σ 12 (by omega) (-1)) al_mi_X2_fill al_ml_RX4_65 rfl (al_rc_R D cy ad _ (i := 12) (by omega)) rfl hl.1 rfl (Nat.le_of_ble_eq_true rfl) dX4_linkChildren_5 ⟨Nat.le_of_ble_eq_true rfl, Nat.le_of_ble_eq_true rfl⟩ ⟨Nat.zero_le _, Nat.zero_le _⟩ (fun H locs hW hS => ?_)
  refine W.eq (g2 := F0 m 8 ls []) rfl ?_
  refine lv_aload_n S.1 S.2.1 dX4_linkChildren_8 rfl (lv_at hl 0 rfl) ?_
  refine al_g_RX4_22 S hK hW dX4_linkChildren_9 ?_
  refine lv_iconst (v := -1) S.1 S.2.1 dX4_linkChildren_12 (by decide) ?_
  refine al_cS (rest := []) S hK hW hS (al_X2_fill l D cy ad (al_sR σ 12 (al_fill 90 (-1) (σ.1 12))) 13 (by omega) (-1)) al_mi_X2_fill al_ml_RX4_65 rfl (al_rc_R D cy ad _ (i := 13) (by omega)) rfl hl.1 rfl (Nat.le_of_ble_eq_true rfl) dX4_linkChildren_13 ⟨Nat.le_of_ble_eq_true rfl, Nat.le_of_ble_eq_true rfl⟩ ⟨Nat.zero_le _, Nat.zero_le _⟩ (fun H locs hW hS => ?_)
  refine W.eq (g2 := F0 m 16 ls []) rfl ?_
  refine lv_aload_n S.1 S.2.1 dX4_linkChildren_16 rfl (lv_at hl 0 rfl) ?_
  refine al_g_RX4_34 S hK hW dX4_linkChildren_17 ?_
  refine lv_iconst (v := 0) S.1 S.2.1 dX4_linkChildren_20 (by decide) ?_
  refine al_cS (rest := []) S hK hW hS (al_X2_fill l D cy ad (al_sR (al_sR σ 12 (al_fill 90 (-1) (σ.1 12))) 13 (al_fill 90 (-1) ((al_sR σ 12 (al_fill 90 (-1) (σ.1 12))).1 13))) 17 (by omega) 0) al_mi_X2_fill al_ml_RX4_65 rfl (al_rc_R D cy ad _ (i := 17) (by omega)) rfl hl.1 rfl (Nat.le_of_ble_eq_true rfl) dX4_linkChildren_21 ⟨Nat.le_of_ble_eq_true rfl, Nat.le_of_ble_eq_true rfl⟩ ⟨Nat.zero_le _, Nat.zero_le _⟩ (fun H locs hW hS => ?_)
  refine W.eq (g2 := F0 m 24 ls []) rfl ?_
  refine lv_bipush (v := 89) S.1 S.2.1 dX4_linkChildren_24 (by decide) ?_
  refine lv_istore_n (lv' := [(1, .int 89), (0, .ref (ad (5)))]) S.1 S.2.1 dX4_linkChildren_26 rfl hl (by decide) rfl (fun ls hl => ?_)
  refine al_lp_X4_link l D cy ad  S hK 89 (al_sR (al_sR (al_sR σ 12 (al_fill 90 (-1) (σ.1 12))) 13 (al_fill 90 (-1) ((al_sR σ 12 (al_fill 90 (-1) (σ.1 12))).1 13))) 17 (al_fill 90 0 ((al_sR (al_sR σ 12 (al_fill 90 (-1) (σ.1 12))) 13 (al_fill 90 (-1) ((al_sR σ 12 (al_fill 90 (-1) (σ.1 12))).1 13))).1 17)))  _ _ _ (by omega) hW hS (lv_sub hl [1, 0] rfl) (fun σ1 H locs ls e2 hW hS hl => ?_)
  exact W.vret S.1 S.2.1 hr (fun t9 ht9 _ => ⟨rfl, by rw [ht9]; exact (al_He hW (by simp only [al_linkC, al_fillR, e2])), hS.F ht9⟩) hS.2.2 dX4_linkChildren_100
set_option maxHeartbeats 4000000 in
set_option maxRecDepth 100000 in
theorem al_lp_X4_dnI {p : Program} {e : Env} {s : State} {m : MethodId} {args : Array Value} {below : List Frame} {meth : Method} {c : Code} {Q : State → Prop} (l : Launch) (D : va_G) (cy : al_CY) (ad : Nat → Nat) (k : Nat) (x : Int32) (S : CallFix p m c cX4_goDown 5 s args al_G RX4) (hK : va_K D vwCl (al_tys cy) s) {H0 : Heap} : ∀ (n : Nat) (σ : al_St) (j : Nat) (ch : Int32) (H : Heap) (locs : List Loc) (ls : Array Slot), j + n = 90 → al_H D cy ad σ H → va_S (al_A ad) H0 H locs → lv_has ls 5 [(0, .ref (ad (5))), (1, .int (nI k)), (2, .int x), (3, .int ch), (4, .int (nI j))] → (∀ (σ' : al_St) (H : Heap) (locs : List Loc) (ls : Array Slot), al_dnI x n ch σ = σ' → al_H D cy ad σ' H → va_S (al_A ad) H0 H locs → lv_has ls 5 [(0, .ref (ad (5))), (1, .int (nI k))] → W p l e (al_rm 1 22) s m args below meth c H locs 0 0 Q (F0 m 127 ls [])) → W p l e (al_rm 1 22) s m args below meth c H locs 0 0 Q (F0 m 60 ls []) := by
  intro n
  induction n with
  | zero =>
    intro σ j ch H locs ls hj hW hS hl K
    refine lv_iload S.1 S.2.1 dX4_goDown_60 (lv_at hl 4 rfl) ?_
    refine lv_bipush (v := 90) S.1 S.2.1 dX4_goDown_62 (by decide) ?_
    refine lv_icmp_ge (tgt := 127) S.1 S.2.1 dX4_goDown_64 (by decide) (fun c1 => ?_) (fun c1 => ?_)
    · exact K σ  _ _ _ (by simp only [al_dnI, al_dn1, if_pos (c1)]) hW hS (lv_sub hl [0, 1] rfl)
    · exact absurd (al_90' (by omega)) c1
  | succ n ih =>
    intro σ j ch H locs ls hj hW hS hl K
    refine lv_iload S.1 S.2.1 dX4_goDown_60 (lv_at hl 4 rfl) ?_
    refine lv_bipush (v := 90) S.1 S.2.1 dX4_goDown_62 (by decide) ?_
    refine lv_icmp_ge (tgt := 127) S.1 S.2.1 dX4_goDown_64 (by decide) (fun c1 => ?_) (fun c1 => ?_)
    · exact absurd c1 (al_90 (by omega))
    · refine lv_iload_n S.1 S.2.1 dX4_goDown_67 rfl (lv_at hl 3 rfl) ?_
      refine lv_iconst (v := -1) S.1 S.2.1 dX4_goDown_68 (by decide) ?_
      refine lv_icmp_eq (tgt := 127) S.1 S.2.1 dX4_goDown_69 (by decide) (fun c2 => ?_) (fun c2 => ?_)
      · exact K σ  _ _ _ (by simp only [al_dnI, al_dn1, if_neg (c1), if_pos (c2)]) hW hS (lv_sub hl [0, 1] rfl)
      · refine lv_aload_n S.1 S.2.1 dX4_goDown_72 rfl (lv_at hl 0 rfl) ?_
        refine al_g_RX4_25 S hK hW dX4_goDown_73 ?_
        refine lv_aload_n S.1 S.2.1 dX4_goDown_76 rfl (lv_at hl 0 rfl) ?_
        refine al_g_RX4_49 S hK hW dX4_goDown_77 ?_
        refine lv_iload_n S.1 S.2.1 dX4_goDown_80 rfl (lv_at hl 3 rfl) ?_
        refine al_cS (rest := []) S hK hW hS (al_X2_set l D cy ad σ 14 (by omega) (σ.2.2.1 9) ch) al_mi_X2_set al_ml_RX4_82 rfl (al_rc_R D cy ad _ (i := 14) (by omega)) rfl hl.1 rfl (Nat.le_of_ble_eq_true rfl) dX4_goDown_81 ⟨Nat.le_of_ble_eq_true rfl, Nat.le_of_ble_eq_true rfl⟩ ⟨Nat.zero_le _, Nat.zero_le _⟩ (fun H locs hW hS => ?_)
        refine W.eq (g2 := F0 m 84 ls []) rfl ?_
        refine lv_aload_n S.1 S.2.1 dX4_goDown_84 rfl (lv_at hl 0 rfl) ?_
        refine lv_dup S.1 S.2.1 dX4_goDown_85 rfl ?_
        refine al_g_RX4_49 S hK hW dX4_goDown_86 ?_
        refine lv_iconst (v := 1) S.1 S.2.1 dX4_goDown_89 (by decide) ?_
        refine lv_iadd S.1 S.2.1 dX4_goDown_90 ?_
        refine al_p_RX4_49 S hK hW hS dX4_goDown_91 (fun H locs hW hS => ?_)
        refine lv_aload_n S.1 S.2.1 dX4_goDown_94 rfl (lv_at hl 0 rfl) ?_
        refine al_g_RX4_28 S hK hW dX4_goDown_95 ?_
        refine lv_iload_n S.1 S.2.1 dX4_goDown_98 rfl (lv_at hl 3 rfl) ?_
        refine lv_aload_n S.1 S.2.1 dX4_goDown_99 rfl (lv_at hl 0 rfl) ?_
        refine al_g_RX4_28 S hK hW dX4_goDown_100 ?_
        refine lv_iload_n S.1 S.2.1 dX4_goDown_103 rfl (lv_at hl 2 rfl) ?_
        refine al_cP (rest := [.int ch, .ref (ad (14 + 2 * 15))]) S hK hW (al_X2_get l D cy ad (al_sV (al_set σ 14 (σ.2.2.1 9) ch) 9 (((al_set σ 14 (σ.2.2.1 9) ch).2.2.1 9) + 1)) 15 (by omega) x) al_mi_X2_get al_ml_RX4_79 rfl (al_rc_R D cy ad _ (i := 15) (by omega)) rfl hl.1 rfl (Nat.le_of_ble_eq_true rfl) dX4_goDown_104 ⟨Nat.le_of_ble_eq_true rfl, Nat.le_of_ble_eq_true rfl⟩ ⟨Nat.zero_le _, Nat.zero_le _⟩ ?_
        refine W.eq (g2 := F0 m 107 ls [.int (al_rg ((al_sV (al_set σ 14 (σ.2.2.1 9) ch) 9 (((al_set σ 14 (σ.2.2.1 9) ch).2.2.1 9) + 1)).1 15) x), .int ch, .ref (ad (14 + 2 * 15))]) rfl ?_
        refine lv_iconst (v := 1) S.1 S.2.1 dX4_goDown_107 (by decide) ?_
        refine lv_iadd S.1 S.2.1 dX4_goDown_108 ?_
        refine al_cS (rest := []) S hK hW hS (al_X2_set l D cy ad (al_sV (al_set σ 14 (σ.2.2.1 9) ch) 9 (((al_set σ 14 (σ.2.2.1 9) ch).2.2.1 9) + 1)) 15 (by omega) ch ((al_rg ((al_sV (al_set σ 14 (σ.2.2.1 9) ch) 9 (((al_set σ 14 (σ.2.2.1 9) ch).2.2.1 9) + 1)).1 15) x) + 1)) al_mi_X2_set al_ml_RX4_82 rfl (al_rc_R D cy ad _ (i := 15) (by omega)) rfl hl.1 rfl (Nat.le_of_ble_eq_true rfl) dX4_goDown_109 ⟨Nat.le_of_ble_eq_true rfl, Nat.le_of_ble_eq_true rfl⟩ ⟨Nat.zero_le _, Nat.zero_le _⟩ (fun H locs hW hS => ?_)
        refine W.eq (g2 := F0 m 112 ls []) rfl ?_
        refine lv_aload_n S.1 S.2.1 dX4_goDown_112 rfl (lv_at hl 0 rfl) ?_
        refine al_g_RX4_22 S hK hW dX4_goDown_113 ?_
        refine lv_iload_n S.1 S.2.1 dX4_goDown_116 rfl (lv_at hl 3 rfl) ?_
        refine al_cP (rest := []) S hK hW (al_X2_get l D cy ad (al_set (al_sV (al_set σ 14 (σ.2.2.1 9) ch) 9 (((al_set σ 14 (σ.2.2.1 9) ch).2.2.1 9) + 1)) 15 ch ((al_rg ((al_sV (al_set σ 14 (σ.2.2.1 9) ch) 9 (((al_set σ 14 (σ.2.2.1 9) ch).2.2.1 9) + 1)).1 15) x) + 1)) 13 (by omega) ch) al_mi_X2_get al_ml_RX4_79 rfl (al_rc_R D cy ad _ (i := 13) (by omega)) rfl hl.1 rfl (Nat.le_of_ble_eq_true rfl) dX4_goDown_117 ⟨Nat.le_of_ble_eq_true rfl, Nat.le_of_ble_eq_true rfl⟩ ⟨Nat.zero_le _, Nat.zero_le _⟩ ?_
        refine W.eq (g2 := F0 m 120 ls [.int (al_rg ((al_set (al_sV (al_set σ 14 (σ.2.2.1 9) ch) 9 (((al_set σ 14 (σ.2.2.1 9) ch).2.2.1 9) + 1)) 15 ch ((al_rg ((al_sV (al_set σ 14 (σ.2.2.1 9) ch) 9 (((al_set σ 14 (σ.2.2.1 9) ch).2.2.1 9) + 1)).1 15) x) + 1)).1 13) ch)]) rfl ?_
        refine lv_istore_n (lv' := [(3, .int (al_rg ((al_set (al_sV (al_set σ 14 (σ.2.2.1 9) ch) 9 (((al_set σ 14 (σ.2.2.1 9) ch).2.2.1 9) + 1)) 15 ch ((al_rg ((al_sV (al_set σ 14 (σ.2.2.1 9) ch) 9 (((al_set σ 14 (σ.2.2.1 9) ch).2.2.1 9) + 1)).1 15) x) + 1)).1 13) ch)), (0, .ref (ad (5))), (1, .int (nI k)), (2, .int x), (4, .int (nI j))]) S.1 S.2.1 dX4_goDown_120 rfl hl (by decide) rfl (fun ls hl => ?_)
        refine lv_iinc (k := 4) (v := nI (j + 1)) (lv' := [(4, .int (nI (j + 1))), (3, .int (al_rg ((al_set (al_sV (al_set σ 14 (σ.2.2.1 9) ch) 9 (((al_set σ 14 (σ.2.2.1 9) ch).2.2.1 9) + 1)) 15 ch ((al_rg ((al_sV (al_set σ 14 (σ.2.2.1 9) ch) 9 (((al_set σ 14 (σ.2.2.1 9) ch).2.2.1 9) + 1)).1 15) x) + 1)).1 13) ch)), (0, .ref (ad (5))), (1, .int (nI k)), (2, .int x)]) S.1 S.2.1 dX4_goDown_121 hl rfl (al_inc j) (by decide) rfl (fun ls hl => ?_)
        refine lv_goto (tgt := 60) S.1 S.2.1 dX4_goDown_124 (by decide) ?_
        exact ih (al_set (al_sV (al_set σ 14 (σ.2.2.1 9) ch) 9 (((al_set σ 14 (σ.2.2.1 9) ch).2.2.1 9) + 1)) 15 ch ((al_rg ((al_sV (al_set σ 14 (σ.2.2.1 9) ch) 9 (((al_set σ 14 (σ.2.2.1 9) ch).2.2.1 9) + 1)).1 15) x) + 1)) (j + 1) (al_rg ((al_set (al_sV (al_set σ 14 (σ.2.2.1 9) ch) 9 (((al_set σ 14 (σ.2.2.1 9) ch).2.2.1 9) + 1)) 15 ch ((al_rg ((al_sV (al_set σ 14 (σ.2.2.1 9) ch) 9 (((al_set σ 14 (σ.2.2.1 9) ch).2.2.1 9) + 1)).1 15) x) + 1)).1 13) ch) _ _ _ (by omega) hW hS (lv_sub hl [2, 3, 4, 1, 0] rfl) (fun σ'  H locs ls e9 hW hS hl => K σ'  H locs ls (by simp only [al_dnI, al_dn1, if_neg (c1), if_neg (c2)]; exact e9) hW hS hl)
set_option maxHeartbeats 4000000 in
set_option maxRecDepth 100000 in
theorem al_lp_X4_dnO {p : Program} {e : Env} {s : State} {m : MethodId} {args : Array Value} {below : List Frame} {meth : Method} {c : Code} {Q : State → Prop} (l : Launch) (D : va_G) (cy : al_CY) (ad : Nat → Nat) (S : CallFix p m c cX4_goDown 5 s args al_G RX4) (hK : va_K D vwCl (al_tys cy) s) {H0 : Heap} : ∀ (n : Nat) (σ : al_St) (k : Nat) (H : Heap) (locs : List Loc) (ls : Array Slot), k + n = 90 → al_H D cy ad σ H → va_S (al_A ad) H0 H locs → lv_has ls 5 [(0, .ref (ad (5))), (1, .int (nI k))] → (∀ (σ' : al_St) (H : Heap) (locs : List Loc) (ls : Array Slot), al_dnO n k σ = σ' → al_H D cy ad σ' H → va_S (al_A ad) H0 H locs → lv_has ls 5 [(0, .ref (ad (5)))] → W p l e (al_rm 1 22) s m args below meth c H locs 0 0 Q (F0 m 133 ls [])) → W p l e (al_rm 1 22) s m args below meth c H locs 0 0 Q (F0 m 25 ls []) := by
  intro n
  induction n with
  | zero =>
    intro σ k H locs ls hk hW hS hl K
    refine lv_iload_n S.1 S.2.1 dX4_goDown_25 rfl (lv_at hl 1 rfl) ?_
    refine lv_aload_n S.1 S.2.1 dX4_goDown_26 rfl (lv_at hl 0 rfl) ?_
    refine al_g_RX4_49 S hK hW dX4_goDown_27 ?_
    refine lv_icmp_ge (tgt := 133) S.1 S.2.1 dX4_goDown_30 (by decide) (fun c1 => ?_) (fun c1 => ?_)
    · exact K σ  _ _ _ (by simp only [al_dnO, if_pos (c1)]) hW hS (lv_sub hl [0] rfl)
    · refine lv_iload_n S.1 S.2.1 dX4_goDown_33 rfl (lv_at hl 1 rfl) ?_
      refine lv_bipush (v := 90) S.1 S.2.1 dX4_goDown_34 (by decide) ?_
      refine lv_icmp_ge (tgt := 133) S.1 S.2.1 dX4_goDown_36 (by decide) (fun c2 => ?_) (fun c2 => ?_)
      · exact K σ  _ _ _ (by simp only [al_dnO, if_neg (c1), if_pos (c2)]) hW hS (lv_sub hl [0] rfl)
      · exact absurd (al_90' (by omega)) c2
  | succ n ih =>
    intro σ k H locs ls hk hW hS hl K
    refine lv_iload_n S.1 S.2.1 dX4_goDown_25 rfl (lv_at hl 1 rfl) ?_
    refine lv_aload_n S.1 S.2.1 dX4_goDown_26 rfl (lv_at hl 0 rfl) ?_
    refine al_g_RX4_49 S hK hW dX4_goDown_27 ?_
    refine lv_icmp_ge (tgt := 133) S.1 S.2.1 dX4_goDown_30 (by decide) (fun c1 => ?_) (fun c1 => ?_)
    · exact K σ  _ _ _ (by simp only [al_dnO, if_pos (c1)]) hW hS (lv_sub hl [0] rfl)
    · refine lv_iload_n S.1 S.2.1 dX4_goDown_33 rfl (lv_at hl 1 rfl) ?_
      refine lv_bipush (v := 90) S.1 S.2.1 dX4_goDown_34 (by decide) ?_
      refine lv_icmp_ge (tgt := 133) S.1 S.2.1 dX4_goDown_36 (by decide) (fun c2 => ?_) (fun c2 => ?_)
      · exact absurd c2 (al_90 (by omega))
      · refine lv_aload_n S.1 S.2.1 dX4_goDown_39 rfl (lv_at hl 0 rfl) ?_
        refine al_g_RX4_25 S hK hW dX4_goDown_40 ?_
        refine lv_iload_n S.1 S.2.1 dX4_goDown_43 rfl (lv_at hl 1 rfl) ?_
        refine al_cP (rest := []) S hK hW (al_X2_get l D cy ad σ 14 (by omega) (nI k)) al_mi_X2_get al_ml_RX4_79 rfl (al_rc_R D cy ad _ (i := 14) (by omega)) rfl hl.1 rfl (Nat.le_of_ble_eq_true rfl) dX4_goDown_44 ⟨Nat.le_of_ble_eq_true rfl, Nat.le_of_ble_eq_true rfl⟩ ⟨Nat.zero_le _, Nat.zero_le _⟩ ?_
        refine W.eq (g2 := F0 m 47 ls [.int (al_rg (σ.1 14) (nI k))]) rfl ?_
        refine lv_istore_n (lv' := [(2, .int (al_rg (σ.1 14) (nI k))), (0, .ref (ad (5))), (1, .int (nI k))]) S.1 S.2.1 dX4_goDown_47 rfl hl (by decide) rfl (fun ls hl => ?_)
        refine lv_aload_n S.1 S.2.1 dX4_goDown_48 rfl (lv_at hl 1 rfl) ?_
        refine al_g_RX4_18 S hK hW dX4_goDown_49 ?_
        refine lv_iload_n S.1 S.2.1 dX4_goDown_52 rfl (lv_at hl 0 rfl) ?_
        refine al_cP (rest := []) S hK hW (al_X2_get l D cy ad σ 12 (by omega) (al_rg (σ.1 14) (nI k))) al_mi_X2_get al_ml_RX4_79 rfl (al_rc_R D cy ad _ (i := 12) (by omega)) rfl hl.1 rfl (Nat.le_of_ble_eq_true rfl) dX4_goDown_53 ⟨Nat.le_of_ble_eq_true rfl, Nat.le_of_ble_eq_true rfl⟩ ⟨Nat.zero_le _, Nat.zero_le _⟩ ?_
        refine W.eq (g2 := F0 m 56 ls [.int (al_rg (σ.1 12) (al_rg (σ.1 14) (nI k)))]) rfl ?_
        refine lv_istore_n (lv' := [(3, .int (al_rg (σ.1 12) (al_rg (σ.1 14) (nI k)))), (2, .int (al_rg (σ.1 14) (nI k))), (0, .ref (ad (5))), (1, .int (nI k))]) S.1 S.2.1 dX4_goDown_56 rfl hl (by decide) rfl (fun ls hl => ?_)
        refine lv_iconst (v := 0) S.1 S.2.1 dX4_goDown_57 (by decide) ?_
        refine lv_istore (lv' := [(4, .int 0), (3, .int (al_rg (σ.1 12) (al_rg (σ.1 14) (nI k)))), (2, .int (al_rg (σ.1 14) (nI k))), (0, .ref (ad (5))), (1, .int (nI k))]) S.1 S.2.1 dX4_goDown_58 hl (by decide) rfl (fun ls hl => ?_)
        refine al_lp_X4_dnI l D cy ad k (al_rg (σ.1 14) (nI k)) S hK 90 σ 0 (al_rg (σ.1 12) (al_rg (σ.1 14) (nI k))) _ _ _ (by omega) hW hS (lv_sub hl [3, 4, 2, 1, 0] rfl) (fun σ3 H locs ls e4 hW hS hl => ?_)
        refine lv_iinc (k := 1) (v := nI (k + 1)) (lv' := [(1, .int (nI (k + 1))), (0, .ref (ad (5)))]) S.1 S.2.1 dX4_goDown_127 hl rfl (al_inc k) (by decide) rfl (fun ls hl => ?_)
        refine lv_goto (tgt := 25) S.1 S.2.1 dX4_goDown_130 (by decide) ?_
        exact ih σ3 (k + 1) _ _ _ (by omega) hW hS (lv_sub hl [1, 0] rfl) (fun σ'  H locs ls e9 hW hS hl => K σ'  H locs ls (by simp only [al_dnO, if_neg (c1), if_neg (c2), e4]; exact e9) hW hS hl)
theorem al_mv_X4_goDown : al_mv yX4_goDown cX4_goDown 5 none 0 := ⟨al_c_X4_goDown, al_ini_RX4, ⟨by decide +kernel, by decide +kernel, by decide +kernel⟩, by decide +kernel⟩
theorem al_mi_X4_goDown : al_mi yX4_goDown cX4_goDown 5 none 0 := ⟨al_mv_X4_goDown, al_in_X4_goDown, al_se_X4_goDown⟩
set_option maxHeartbeats 4000000 in
set_option maxRecDepth 100000 in
theorem al_X4_goDown (l : Launch) (D : va_G) (cy : al_CY) (ad : Nat → Nat) (σ : al_St) : al_MS l yX4_goDown cX4_goDown 5 none 1 22 D cy ad σ [.ref (ad (5))] none (al_goDown σ) := by
  refine al_met al_mv_X4_goDown (Nat.le_of_ble_eq_true rfl) ?_
  intro p e s m args below meth c ls S hr hlocks hK hW hS hl
  have hl : lv_has ls 5 [(0, .ref (ad (5)))] := hl
  refine lv_aload_n S.1 S.2.1 dX4_goDown_0 rfl (lv_at hl 0 rfl) ?_
  refine al_g_RX4_25 S hK hW dX4_goDown_1 ?_
  refine lv_iconst (v := 0) S.1 S.2.1 dX4_goDown_4 (by decide) ?_
  refine lv_iconst (v := 0) S.1 S.2.1 dX4_goDown_5 (by decide) ?_
  refine al_cS (rest := []) S hK hW hS (al_X2_set l D cy ad σ 14 (by omega) 0 0) al_mi_X2_set al_ml_RX4_82 rfl (al_rc_R D cy ad _ (i := 14) (by omega)) rfl hl.1 rfl (Nat.le_of_ble_eq_true rfl) dX4_goDown_6 ⟨Nat.le_of_ble_eq_true rfl, Nat.le_of_ble_eq_true rfl⟩ ⟨Nat.zero_le _, Nat.zero_le _⟩ (fun H locs hW hS => ?_)
  refine W.eq (g2 := F0 m 9 ls []) rfl ?_
  refine lv_aload_n S.1 S.2.1 dX4_goDown_9 rfl (lv_at hl 0 rfl) ?_
  refine al_g_RX4_28 S hK hW dX4_goDown_10 ?_
  refine lv_iconst (v := 0) S.1 S.2.1 dX4_goDown_13 (by decide) ?_
  refine lv_iconst (v := 0) S.1 S.2.1 dX4_goDown_14 (by decide) ?_
  refine al_cS (rest := []) S hK hW hS (al_X2_set l D cy ad (al_set σ 14 0 0) 15 (by omega) 0 0) al_mi_X2_set al_ml_RX4_82 rfl (al_rc_R D cy ad _ (i := 15) (by omega)) rfl hl.1 rfl (Nat.le_of_ble_eq_true rfl) dX4_goDown_15 ⟨Nat.le_of_ble_eq_true rfl, Nat.le_of_ble_eq_true rfl⟩ ⟨Nat.zero_le _, Nat.zero_le _⟩ (fun H locs hW hS => ?_)
  refine W.eq (g2 := F0 m 18 ls []) rfl ?_
  refine lv_aload_n S.1 S.2.1 dX4_goDown_18 rfl (lv_at hl 0 rfl) ?_
  refine lv_iconst (v := 1) S.1 S.2.1 dX4_goDown_19 (by decide) ?_
  refine al_p_RX4_49 S hK hW hS dX4_goDown_20 (fun H locs hW hS => ?_)
  refine lv_iconst (v := 0) S.1 S.2.1 dX4_goDown_23 (by decide) ?_
  refine lv_istore_n (lv' := [(1, .int 0), (0, .ref (ad (5)))]) S.1 S.2.1 dX4_goDown_24 rfl hl (by decide) rfl (fun ls hl => ?_)
  refine al_lp_X4_dnO l D cy ad  S hK 90 (al_sV (al_set (al_set σ 14 0 0) 15 0 0) 9 1) 0 _ _ _ (by omega) hW hS (lv_sub hl [1, 0] rfl) (fun σ1 H locs ls e2 hW hS hl => ?_)
  exact W.vret S.1 S.2.1 hr (fun t9 ht9 _ => ⟨rfl, by rw [ht9]; exact (al_He hW (by simp only [al_goDown, e2])), hS.F ht9⟩) hS.2.2 dX4_goDown_133
set_option maxHeartbeats 4000000 in
set_option maxRecDepth 100000 in
theorem al_lp_X4_mea {p : Program} {e : Env} {s : State} {m : MethodId} {args : Array Value} {below : List Frame} {meth : Method} {c : Code} {Q : State → Prop} (l : Launch) (D : va_G) (cy : al_CY) (ad : Nat → Nat) (x : Int32) (S : CallFix p m c cX4_measure 7 s args al_G RX4) (hK : va_K D vwCl (al_tys cy) s) {H : Heap} {locs : List Loc} {σ : al_St} (hW : al_H D cy ad σ H) : ∀ (n : Nat) (j : Nat) (ch : Int32) (a : Int32) (b : Int32) (d : Int32) (ls : Array Slot), j + n = 90 → lv_has ls 7 [(0, .ref (ad (5))), (1, .int x), (2, .int a), (3, .int b), (4, .int d), (5, .int ch), (6, .int (nI j))] → (∀ (a' : Int32) (b' : Int32) (d' : Int32) (ls : Array Slot), al_meaL σ n ch a b d = (a', b', d') → lv_has ls 7 [(0, .ref (ad (5))), (1, .int x), (2, .int a'), (3, .int b'), (4, .int d')] → W p l e (al_rm 1 22) s m args below meth c H locs 0 0 Q (F0 m 93 ls [])) → W p l e (al_rm 1 22) s m args below meth c H locs 0 0 Q (F0 m 20 ls []) := by
  intro n
  induction n with
  | zero =>
    intro j ch a b d ls hj hl K
    refine lv_iload S.1 S.2.1 dX4_measure_20 (lv_at hl 6 rfl) ?_
    refine lv_bipush (v := 90) S.1 S.2.1 dX4_measure_22 (by decide) ?_
    refine lv_icmp_ge (tgt := 93) S.1 S.2.1 dX4_measure_24 (by decide) (fun c1 => ?_) (fun c1 => ?_)
    · exact K a b d _ (by simp only [al_meaL, if_pos (c1)]) (lv_sub hl [0, 1, 2, 3, 4] rfl)
    · exact absurd (al_90' (by omega)) c1
  | succ n ih =>
    intro j ch a b d ls hj hl K
    refine lv_iload S.1 S.2.1 dX4_measure_20 (lv_at hl 6 rfl) ?_
    refine lv_bipush (v := 90) S.1 S.2.1 dX4_measure_22 (by decide) ?_
    refine lv_icmp_ge (tgt := 93) S.1 S.2.1 dX4_measure_24 (by decide) (fun c1 => ?_) (fun c1 => ?_)
    · exact absurd c1 (al_90 (by omega))
    · refine lv_iload S.1 S.2.1 dX4_measure_27 (lv_at hl 5 rfl) ?_
      refine lv_iconst (v := -1) S.1 S.2.1 dX4_measure_29 (by decide) ?_
      refine lv_icmp_eq (tgt := 93) S.1 S.2.1 dX4_measure_30 (by decide) (fun c2 => ?_) (fun c2 => ?_)
      · exact K a b d _ (by simp only [al_meaL, if_neg (c1), if_pos (c2)]) (lv_sub hl [0, 1, 2, 3, 4] rfl)
      · refine lv_iload_n S.1 S.2.1 dX4_measure_33 rfl (lv_at hl 2 rfl) ?_
        refine lv_aload_n S.1 S.2.1 dX4_measure_34 rfl (lv_at hl 0 rfl) ?_
        refine al_g_RX4_37 S hK hW dX4_measure_35 ?_
        refine lv_iload S.1 S.2.1 dX4_measure_38 (lv_at hl 5 rfl) ?_
        refine al_cP (rest := [.int a]) S hK hW (al_X2_get l D cy ad σ 18 (by omega) ch) al_mi_X2_get al_ml_RX4_79 rfl (al_rc_R D cy ad _ (i := 18) (by omega)) rfl hl.1 rfl (Nat.le_of_ble_eq_true rfl) dX4_measure_40 ⟨Nat.le_of_ble_eq_true rfl, Nat.le_of_ble_eq_true rfl⟩ ⟨Nat.zero_le _, Nat.zero_le _⟩ ?_
        refine W.eq (g2 := F0 m 43 ls [.int (al_rg (σ.1 18) ch), .int a]) rfl ?_
        refine lv_iadd S.1 S.2.1 dX4_measure_43 ?_
        refine lv_istore_n (lv' := [(2, .int (a + (al_rg (σ.1 18) ch))), (0, .ref (ad (5))), (1, .int x), (3, .int b), (4, .int d), (5, .int ch), (6, .int (nI j))]) S.1 S.2.1 dX4_measure_44 rfl hl (by decide) rfl (fun ls hl => ?_)
        refine lv_aload_n S.1 S.2.1 dX4_measure_45 rfl (lv_at hl 1 rfl) ?_
        refine al_g_RX4_31 S hK hW dX4_measure_46 ?_
        refine lv_iload S.1 S.2.1 dX4_measure_49 (lv_at hl 5 rfl) ?_
        refine al_cP (rest := []) S hK hW (al_X2_get l D cy ad σ 16 (by omega) ch) al_mi_X2_get al_ml_RX4_79 rfl (al_rc_R D cy ad _ (i := 16) (by omega)) rfl hl.1 rfl (Nat.le_of_ble_eq_true rfl) dX4_measure_51 ⟨Nat.le_of_ble_eq_true rfl, Nat.le_of_ble_eq_true rfl⟩ ⟨Nat.zero_le _, Nat.zero_le _⟩ ?_
        refine W.eq (g2 := F0 m 54 ls [.int (al_rg (σ.1 16) ch)]) rfl ?_
        refine lv_iconst (v := 1) S.1 S.2.1 dX4_measure_54 (by decide) ?_
        refine lv_iadd S.1 S.2.1 dX4_measure_55 ?_
        refine lv_iload_n S.1 S.2.1 dX4_measure_56 rfl (lv_at hl 3 rfl) ?_
        refine lv_icmp_le (tgt := 76) S.1 S.2.1 dX4_measure_57 (by decide) (fun c3 => ?_) (fun c3 => ?_)
        · refine lv_aload_n S.1 S.2.1 dX4_measure_76 rfl (lv_at hl 1 rfl) ?_
          refine al_g_RX4_22 S hK hW dX4_measure_77 ?_
          refine lv_iload S.1 S.2.1 dX4_measure_80 (lv_at hl 5 rfl) ?_
          refine al_cP (rest := []) S hK hW (al_X2_get l D cy ad σ 13 (by omega) ch) al_mi_X2_get al_ml_RX4_79 rfl (al_rc_R D cy ad _ (i := 13) (by omega)) rfl hl.1 rfl (Nat.le_of_ble_eq_true rfl) dX4_measure_82 ⟨Nat.le_of_ble_eq_true rfl, Nat.le_of_ble_eq_true rfl⟩ ⟨Nat.zero_le _, Nat.zero_le _⟩ ?_
          refine W.eq (g2 := F0 m 85 ls [.int (al_rg (σ.1 13) ch)]) rfl ?_
          refine lv_istore (lv' := [(5, .int (al_rg (σ.1 13) ch)), (2, .int (a + (al_rg (σ.1 18) ch))), (0, .ref (ad (5))), (1, .int x), (3, .int b), (4, .int d), (6, .int (nI j))]) S.1 S.2.1 dX4_measure_85 hl (by decide) rfl (fun ls hl => ?_)
          refine lv_iinc (k := 6) (v := nI (j + 1)) (lv' := [(6, .int (nI (j + 1))), (5, .int (al_rg (σ.1 13) ch)), (2, .int (a + (al_rg (σ.1 18) ch))), (0, .ref (ad (5))), (1, .int x), (3, .int b), (4, .int d)]) S.1 S.2.1 dX4_measure_87 hl rfl (al_inc j) (by decide) rfl (fun ls hl => ?_)
          refine lv_goto (tgt := 20) S.1 S.2.1 dX4_measure_90 (by decide) ?_
          exact ih (j + 1) (al_rg (σ.1 13) ch) (a + (al_rg (σ.1 18) ch)) b d _ (by omega) (lv_sub hl [3, 4, 2, 5, 6, 1, 0] rfl) (fun a' b' d' ls e9 hl => K a' b' d' ls (by simp only [al_meaL, if_neg (c1), if_neg (c2), if_pos (c3)]; exact e9) hl)
        · refine lv_aload_n S.1 S.2.1 dX4_measure_60 rfl (lv_at hl 1 rfl) ?_
          refine al_g_RX4_31 S hK hW dX4_measure_61 ?_
          refine lv_iload S.1 S.2.1 dX4_measure_64 (lv_at hl 5 rfl) ?_
          refine al_cP (rest := []) S hK hW (al_X2_get l D cy ad σ 16 (by omega) ch) al_mi_X2_get al_ml_RX4_79 rfl (al_rc_R D cy ad _ (i := 16) (by omega)) rfl hl.1 rfl (Nat.le_of_ble_eq_true rfl) dX4_measure_66 ⟨Nat.le_of_ble_eq_true rfl, Nat.le_of_ble_eq_true rfl⟩ ⟨Nat.zero_le _, Nat.zero_le _⟩ ?_
          refine W.eq (g2 := F0 m 69 ls [.int (al_rg (σ.1 16) ch)]) rfl ?_
          refine lv_iconst (v := 1) S.1 S.2.1 dX4_measure_69 (by decide) ?_
          refine lv_iadd S.1 S.2.1 dX4_measure_70 ?_
          refine lv_istore_n (lv' := [(3, .int ((al_rg (σ.1 16) ch) + 1)), (2, .int (a + (al_rg (σ.1 18) ch))), (0, .ref (ad (5))), (1, .int x), (4, .int d), (5, .int ch), (6, .int (nI j))]) S.1 S.2.1 dX4_measure_71 rfl hl (by decide) rfl (fun ls hl => ?_)
          refine lv_iload S.1 S.2.1 dX4_measure_72 (lv_at hl 5 rfl) ?_
          refine lv_istore (lv' := [(4, .int ch), (3, .int ((al_rg (σ.1 16) ch) + 1)), (2, .int (a + (al_rg (σ.1 18) ch))), (0, .ref (ad (5))), (1, .int x), (5, .int ch), (6, .int (nI j))]) S.1 S.2.1 dX4_measure_74 hl (by decide) rfl (fun ls hl => ?_)
          refine lv_aload_n S.1 S.2.1 dX4_measure_76 rfl (lv_at hl 3 rfl) ?_
          refine al_g_RX4_22 S hK hW dX4_measure_77 ?_
          refine lv_iload S.1 S.2.1 dX4_measure_80 (lv_at hl 5 rfl) ?_
          refine al_cP (rest := []) S hK hW (al_X2_get l D cy ad σ 13 (by omega) ch) al_mi_X2_get al_ml_RX4_79 rfl (al_rc_R D cy ad _ (i := 13) (by omega)) rfl hl.1 rfl (Nat.le_of_ble_eq_true rfl) dX4_measure_82 ⟨Nat.le_of_ble_eq_true rfl, Nat.le_of_ble_eq_true rfl⟩ ⟨Nat.zero_le _, Nat.zero_le _⟩ ?_
          refine W.eq (g2 := F0 m 85 ls [.int (al_rg (σ.1 13) ch)]) rfl ?_
          refine lv_istore (lv' := [(5, .int (al_rg (σ.1 13) ch)), (4, .int ch), (3, .int ((al_rg (σ.1 16) ch) + 1)), (2, .int (a + (al_rg (σ.1 18) ch))), (0, .ref (ad (5))), (1, .int x), (6, .int (nI j))]) S.1 S.2.1 dX4_measure_85 hl (by decide) rfl (fun ls hl => ?_)
          refine lv_iinc (k := 6) (v := nI (j + 1)) (lv' := [(6, .int (nI (j + 1))), (5, .int (al_rg (σ.1 13) ch)), (4, .int ch), (3, .int ((al_rg (σ.1 16) ch) + 1)), (2, .int (a + (al_rg (σ.1 18) ch))), (0, .ref (ad (5))), (1, .int x)]) S.1 S.2.1 dX4_measure_87 hl rfl (al_inc j) (by decide) rfl (fun ls hl => ?_)
          refine lv_goto (tgt := 20) S.1 S.2.1 dX4_measure_90 (by decide) ?_
          exact ih (j + 1) (al_rg (σ.1 13) ch) (a + (al_rg (σ.1 18) ch)) ((al_rg (σ.1 16) ch) + 1) ch _ (by omega) (lv_sub hl [5, 6, 4, 3, 2, 1, 0] rfl) (fun a' b' d' ls e9 hl => K a' b' d' ls (by simp only [al_meaL, if_neg (c1), if_neg (c2), if_neg (c3)]; exact e9) hl)
theorem al_mv_X4_measure : al_mv yX4_measure cX4_measure 7 none 1 := ⟨al_c_X4_measure, al_ini_RX4, ⟨by decide +kernel, by decide +kernel, by decide +kernel⟩, by decide +kernel⟩
theorem al_mi_X4_measure : al_mi yX4_measure cX4_measure 7 none 1 := ⟨al_mv_X4_measure, al_in_X4_measure, al_se_X4_measure⟩
set_option maxHeartbeats 4000000 in
set_option maxRecDepth 100000 in
theorem al_X4_measure (l : Launch) (D : va_G) (cy : al_CY) (ad : Nat → Nat) (σ : al_St) (x : Int32) : al_MS l yX4_measure cX4_measure 7 none 1 22 D cy ad σ [.ref (ad (5)), .int x] none (al_measure σ x) := by
  refine al_met al_mv_X4_measure (Nat.le_of_ble_eq_true rfl) ?_
  intro p e s m args below meth c ls S hr hlocks hK hW hS hl
  have hl : lv_has ls 7 [(0, .ref (ad (5))), (1, .int x)] := hl
  refine lv_iconst (v := 1) S.1 S.2.1 dX4_measure_0 (by decide) ?_
  refine lv_istore_n (lv' := [(2, .int 1), (0, .ref (ad (5))), (1, .int x)]) S.1 S.2.1 dX4_measure_1 rfl hl (by decide) rfl (fun ls hl => ?_)
  refine lv_iconst (v := 0) S.1 S.2.1 dX4_measure_2 (by decide) ?_
  refine lv_istore_n (lv' := [(3, .int 0), (2, .int 1), (0, .ref (ad (5))), (1, .int x)]) S.1 S.2.1 dX4_measure_3 rfl hl (by decide) rfl (fun ls hl => ?_)
  refine lv_iconst (v := -1) S.1 S.2.1 dX4_measure_4 (by decide) ?_
  refine lv_istore (lv' := [(4, .int (-1)), (3, .int 0), (2, .int 1), (0, .ref (ad (5))), (1, .int x)]) S.1 S.2.1 dX4_measure_5 hl (by decide) rfl (fun ls hl => ?_)
  refine lv_aload_n S.1 S.2.1 dX4_measure_7 rfl (lv_at hl 3 rfl) ?_
  refine al_g_RX4_18 S hK hW dX4_measure_8 ?_
  refine lv_iload_n S.1 S.2.1 dX4_measure_11 rfl (lv_at hl 4 rfl) ?_
  refine al_cP (rest := []) S hK hW (al_X2_get l D cy ad σ 12 (by omega) x) al_mi_X2_get al_ml_RX4_79 rfl (al_rc_R D cy ad _ (i := 12) (by omega)) rfl hl.1 rfl (Nat.le_of_ble_eq_true rfl) dX4_measure_12 ⟨Nat.le_of_ble_eq_true rfl, Nat.le_of_ble_eq_true rfl⟩ ⟨Nat.zero_le _, Nat.zero_le _⟩ ?_
  refine W.eq (g2 := F0 m 15 ls [.int (al_rg (σ.1 12) x)]) rfl ?_
  refine lv_istore (lv' := [(5, .int (al_rg (σ.1 12) x)), (4, .int (-1)), (3, .int 0), (2, .int 1), (0, .ref (ad (5))), (1, .int x)]) S.1 S.2.1 dX4_measure_15 hl (by decide) rfl (fun ls hl => ?_)
  refine lv_iconst (v := 0) S.1 S.2.1 dX4_measure_17 (by decide) ?_
  refine lv_istore (lv' := [(6, .int 0), (5, .int (al_rg (σ.1 12) x)), (4, .int (-1)), (3, .int 0), (2, .int 1), (0, .ref (ad (5))), (1, .int x)]) S.1 S.2.1 dX4_measure_18 hl (by decide) rfl (fun ls hl => ?_)
  refine al_lp_X4_mea l D cy ad x S hK hW 90 0 (al_rg (σ.1 12) x) 1 0 (-1) _ (by omega) (lv_sub hl [5, 6, 4, 3, 2, 1, 0] rfl) (fun a1 b2 d3 ls e4 hl => ?_)
  refine lv_aload_n S.1 S.2.1 dX4_measure_93 rfl (lv_at hl 0 rfl) ?_
  refine al_g_RX4_37 S hK hW dX4_measure_94 ?_
  refine lv_iload_n S.1 S.2.1 dX4_measure_97 rfl (lv_at hl 1 rfl) ?_
  refine lv_iload_n S.1 S.2.1 dX4_measure_98 rfl (lv_at hl 2 rfl) ?_
  refine al_cS (rest := []) S hK hW hS (al_X2_set l D cy ad σ 18 (by omega) x a1) al_mi_X2_set al_ml_RX4_82 rfl (al_rc_R D cy ad _ (i := 18) (by omega)) rfl hl.1 rfl (Nat.le_of_ble_eq_true rfl) dX4_measure_99 ⟨Nat.le_of_ble_eq_true rfl, Nat.le_of_ble_eq_true rfl⟩ ⟨Nat.zero_le _, Nat.zero_le _⟩ (fun H locs hW hS => ?_)
  refine W.eq (g2 := F0 m 102 ls []) rfl ?_
  refine lv_aload_n S.1 S.2.1 dX4_measure_102 rfl (lv_at hl 0 rfl) ?_
  refine al_g_RX4_31 S hK hW dX4_measure_103 ?_
  refine lv_iload_n S.1 S.2.1 dX4_measure_106 rfl (lv_at hl 1 rfl) ?_
  refine lv_iload_n S.1 S.2.1 dX4_measure_107 rfl (lv_at hl 3 rfl) ?_
  refine al_cS (rest := []) S hK hW hS (al_X2_set l D cy ad (al_set σ 18 x a1) 16 (by omega) x b2) al_mi_X2_set al_ml_RX4_82 rfl (al_rc_R D cy ad _ (i := 16) (by omega)) rfl hl.1 rfl (Nat.le_of_ble_eq_true rfl) dX4_measure_108 ⟨Nat.le_of_ble_eq_true rfl, Nat.le_of_ble_eq_true rfl⟩ ⟨Nat.zero_le _, Nat.zero_le _⟩ (fun H locs hW hS => ?_)
  refine W.eq (g2 := F0 m 111 ls []) rfl ?_
  refine lv_aload_n S.1 S.2.1 dX4_measure_111 rfl (lv_at hl 0 rfl) ?_
  refine al_g_RX4_40 S hK hW dX4_measure_112 ?_
  refine lv_iload_n S.1 S.2.1 dX4_measure_115 rfl (lv_at hl 1 rfl) ?_
  refine lv_iload S.1 S.2.1 dX4_measure_116 (lv_at hl 4 rfl) ?_
  refine al_cS (rest := []) S hK hW hS (al_X2_set l D cy ad (al_set (al_set σ 18 x a1) 16 x b2) 19 (by omega) x d3) al_mi_X2_set al_ml_RX4_82 rfl (al_rc_R D cy ad _ (i := 19) (by omega)) rfl hl.1 rfl (Nat.le_of_ble_eq_true rfl) dX4_measure_118 ⟨Nat.le_of_ble_eq_true rfl, Nat.le_of_ble_eq_true rfl⟩ ⟨Nat.zero_le _, Nat.zero_le _⟩ (fun H locs hW hS => ?_)
  refine W.eq (g2 := F0 m 121 ls []) rfl ?_
  refine lv_aload_n S.1 S.2.1 dX4_measure_121 rfl (lv_at hl 0 rfl) ?_
  refine al_g_RX4_46 S hK hW dX4_measure_122 ?_
  refine lv_iload_n S.1 S.2.1 dX4_measure_125 rfl (lv_at hl 1 rfl) ?_
  refine lv_iload S.1 S.2.1 dX4_measure_126 (lv_at hl 4 rfl) ?_
  refine lv_iconst (v := -1) S.1 S.2.1 dX4_measure_128 (by decide) ?_
  refine lv_icmp_ne (tgt := 136) S.1 S.2.1 dX4_measure_129 (by decide) (fun c5 => ?_) (fun c5 => ?_)
  · refine lv_aload_n S.1 S.2.1 dX4_measure_136 rfl (lv_at hl 0 rfl) ?_
    refine al_g_RX4_46 S hK hW dX4_measure_137 ?_
    refine lv_iload S.1 S.2.1 dX4_measure_140 (lv_at hl 4 rfl) ?_
    refine al_cP (rest := [.int x, .ref (ad (14 + 2 * 21))]) S hK hW (al_X2_get l D cy ad (al_set (al_set (al_set σ 18 x a1) 16 x b2) 19 x d3) 21 (by omega) d3) al_mi_X2_get al_ml_RX4_79 rfl (al_rc_R D cy ad _ (i := 21) (by omega)) rfl hl.1 rfl (Nat.le_of_ble_eq_true rfl) dX4_measure_142 ⟨Nat.le_of_ble_eq_true rfl, Nat.le_of_ble_eq_true rfl⟩ ⟨Nat.zero_le _, Nat.zero_le _⟩ ?_
    refine W.eq (g2 := F0 m 145 ls [.int (al_rg ((al_set (al_set (al_set σ 18 x a1) 16 x b2) 19 x d3).1 21) d3), .int x, .ref (ad (14 + 2 * 21))]) rfl ?_
    refine al_cS (rest := []) S hK hW hS (al_X2_set l D cy ad (al_set (al_set (al_set σ 18 x a1) 16 x b2) 19 x d3) 21 (by omega) x (al_rg ((al_set (al_set (al_set σ 18 x a1) 16 x b2) 19 x d3).1 21) d3)) al_mi_X2_set al_ml_RX4_82 rfl (al_rc_R D cy ad _ (i := 21) (by omega)) rfl hl.1 rfl (Nat.le_of_ble_eq_true rfl) dX4_measure_145 ⟨Nat.le_of_ble_eq_true rfl, Nat.le_of_ble_eq_true rfl⟩ ⟨Nat.zero_le _, Nat.zero_le _⟩ (fun H locs hW hS => ?_)
    refine W.eq (g2 := F0 m 148 ls []) rfl ?_
    exact W.vret S.1 S.2.1 hr (fun t9 ht9 _ => ⟨rfl, by rw [ht9]; exact (al_He hW (by simp only [al_measure, al_mea1, if_neg (c5), e4])), hS.F ht9⟩) hS.2.2 dX4_measure_148
  · refine lv_iload_n S.1 S.2.1 dX4_measure_132 rfl (lv_at hl 1 rfl) ?_
    refine lv_goto (tgt := 145) S.1 S.2.1 dX4_measure_133 (by decide) ?_
    refine al_cS (rest := []) S hK hW hS (al_X2_set l D cy ad (al_set (al_set (al_set σ 18 x a1) 16 x b2) 19 x d3) 21 (by omega) x x) al_mi_X2_set al_ml_RX4_82 rfl (al_rc_R D cy ad _ (i := 21) (by omega)) rfl hl.1 rfl (Nat.le_of_ble_eq_true rfl) dX4_measure_145 ⟨Nat.le_of_ble_eq_true rfl, Nat.le_of_ble_eq_true rfl⟩ ⟨Nat.zero_le _, Nat.zero_le _⟩ (fun H locs hW hS => ?_)
    refine W.eq (g2 := F0 m 148 ls []) rfl ?_
    exact W.vret S.1 S.2.1 hr (fun t9 ht9 _ => ⟨rfl, by rw [ht9]; exact (al_He hW (by simp only [al_measure, al_mea1, if_pos (c5), e4])), hS.F ht9⟩) hS.2.2 dX4_measure_148
set_option maxHeartbeats 4000000 in
set_option maxRecDepth 100000 in
theorem al_lp_X4_up {p : Program} {e : Env} {s : State} {m : MethodId} {args : Array Value} {below : List Frame} {meth : Method} {c : Code} {Q : State → Prop} (l : Launch) (D : va_G) (cy : al_CY) (ad : Nat → Nat) (S : CallFix p m c cX4_goUp 2 s args al_G RX4) (hK : va_K D vwCl (al_tys cy) s) {H0 : Heap} : ∀ (n : Nat) (σ : al_St)  (H : Heap) (locs : List Loc) (ls : Array Slot), n ≤ 9000 → al_H D cy ad σ H → va_S (al_A ad) H0 H locs → lv_has ls 2 [(0, .ref (ad (5))), (1, .int (nI n - 1))] → (∀ (σ' : al_St) (H : Heap) (locs : List Loc) (ls : Array Slot), al_upL n σ = σ' → al_H D cy ad σ' H → va_S (al_A ad) H0 H locs → lv_has ls 2 [(0, .ref (ad (5)))] → W p l e (al_rm 2 48) s m args below meth c H locs 0 0 Q (F0 m 29 ls [])) → W p l e (al_rm 2 48) s m args below meth c H locs 0 0 Q (F0 m 7 ls []) := by
  intro n
  induction n with
  | zero =>
    intro σ  H locs ls hn hW hS hl K
    refine lv_iload_n S.1 S.2.1 dX4_goUp_7 rfl (lv_at hl 1 rfl) ?_
    refine lv_if_lt (tgt := 29) S.1 S.2.1 dX4_goUp_8 (by decide) (fun c1 => ?_) (fun c1 => ?_)
    · exact K σ  _ _ _ (by simp only [al_upL, if_pos (c1)]) hW hS (lv_sub hl [0] rfl)
    · exact absurd (by decide) c1
  | succ n ih =>
    intro σ  H locs ls hn hW hS hl K
    refine lv_iload_n S.1 S.2.1 dX4_goUp_7 rfl (lv_at hl 1 rfl) ?_
    refine lv_if_lt (tgt := 29) S.1 S.2.1 dX4_goUp_8 (by decide) (fun c1 => ?_) (fun c1 => ?_)
    · exact absurd c1 (by rw [nI_pred]; exact nI_pos (by omega))
    · refine lv_aload_n S.1 S.2.1 dX4_goUp_11 rfl (lv_at hl 0 rfl) ?_
      refine lv_aload_n S.1 S.2.1 dX4_goUp_12 rfl (lv_at hl 0 rfl) ?_
      refine al_g_RX4_25 S hK hW dX4_goUp_13 ?_
      refine lv_iload_n S.1 S.2.1 dX4_goUp_16 rfl (lv_at hl 1 rfl) ?_
      refine al_cP (rest := [.ref (ad (5))]) S hK hW (al_X2_get l D cy ad σ 14 (by omega) (nI (n + 1) - 1)) al_mi_X2_get al_ml_RX4_79 rfl (al_rc_R D cy ad _ (i := 14) (by omega)) rfl hl.1 rfl (Nat.le_of_ble_eq_true rfl) dX4_goUp_17 ⟨Nat.le_of_ble_eq_true rfl, Nat.le_of_ble_eq_true rfl⟩ ⟨Nat.zero_le _, Nat.zero_le _⟩ ?_
      refine W.eq (g2 := F0 m 20 ls [.int (al_rg (σ.1 14) (nI (n + 1) - 1)), .ref (ad (5))]) rfl ?_
      refine al_cS (rest := []) S hK hW hS (al_X4_measure l D cy ad σ (al_rg (σ.1 14) (nI (n + 1) - 1))) al_mi_X4_measure al_ml_RX4_86 rfl (al_rc_4 D cy ad _) rfl hl.1 rfl (Nat.le_of_ble_eq_true rfl) dX4_goUp_20 ⟨Nat.le_of_ble_eq_true rfl, Nat.le_of_ble_eq_true rfl⟩ ⟨Nat.zero_le _, Nat.zero_le _⟩ (fun H locs hW hS => ?_)
      refine W.eq (g2 := F0 m 23 ls []) rfl ?_
      refine lv_iinc (k := 1) (v := nI n - 1) (lv' := [(1, .int (nI n - 1)), (0, .ref (ad (5)))]) S.1 S.2.1 dX4_goUp_23 hl rfl (al_decm n) (by decide) rfl (fun ls hl => ?_)
      refine lv_goto (tgt := 7) S.1 S.2.1 dX4_goUp_26 (by decide) ?_
      exact ih (al_measure σ (al_rg (σ.1 14) (nI (n + 1) - 1)))  _ _ _ (by omega) hW hS (lv_sub hl [1, 0] rfl) (fun σ'  H locs ls e9 hW hS hl => K σ'  H locs ls (by simp only [al_upL, if_neg (c1)]; exact e9) hW hS hl)
theorem al_mv_X4_goUp : al_mv yX4_goUp cX4_goUp 2 none 0 := ⟨al_c_X4_goUp, al_ini_RX4, ⟨by decide +kernel, by decide +kernel, by decide +kernel⟩, by decide +kernel⟩
theorem al_mi_X4_goUp : al_mi yX4_goUp cX4_goUp 2 none 0 := ⟨al_mv_X4_goUp, al_in_X4_goUp, al_se_X4_goUp⟩
set_option maxHeartbeats 4000000 in
set_option maxRecDepth 100000 in
theorem al_X4_goUp (l : Launch) (D : va_G) (cy : al_CY) (ad : Nat → Nat) (σ : al_St) (hP : σ.2.2.1 9 = nI (σ.2.2.1 9).toNatClampNeg) (h9 : (σ.2.2.1 9).toNatClampNeg ≤ 9000) : al_MS l yX4_goUp cX4_goUp 2 none 2 48 D cy ad σ [.ref (ad (5))] none (al_goUp σ) := by
  refine al_met al_mv_X4_goUp (Nat.le_of_ble_eq_true rfl) ?_
  intro p e s m args below meth c ls S hr hlocks hK hW hS hl
  have hl : lv_has ls 2 [(0, .ref (ad (5)))] := hl
  refine lv_aload_n S.1 S.2.1 dX4_goUp_0 rfl (lv_at hl 0 rfl) ?_
  refine al_g_RX4_49 S hK hW dX4_goUp_1 ?_
  refine lv_iconst (v := 1) S.1 S.2.1 dX4_goUp_4 (by decide) ?_
  refine lv_isub S.1 S.2.1 dX4_goUp_5 ?_
  refine lv_istore_n (lv' := [(1, .int ((σ.2.2.1 9) - 1)), (0, .ref (ad (5)))]) S.1 S.2.1 dX4_goUp_6 rfl hl (by decide) rfl (fun ls hl => ?_)
  rw [hP] at hl
  refine al_lp_X4_up l D cy ad  S hK ((σ.2.2.1 9).toNatClampNeg) σ  _ _ _ h9 hW hS (lv_sub hl [1, 0] rfl) (fun σ1 H locs ls e2 hW hS hl => ?_)
  exact W.vret S.1 S.2.1 hr (fun t9 ht9 _ => ⟨rfl, by rw [ht9]; exact (al_He hW (by simp only [al_goUp, e2])), hS.F ht9⟩) hS.2.2 dX4_goUp_29
set_option maxHeartbeats 4000000 in
set_option maxRecDepth 100000 in
theorem al_lp_X4_top {p : Program} {e : Env} {s : State} {m : MethodId} {args : Array Value} {below : List Frame} {meth : Method} {c : Code} {Q : State → Prop} (l : Launch) (D : va_G) (cy : al_CY) (ad : Nat → Nat) (S : CallFix p m c cX4_findTops 5 s args al_G RX4) (hK : va_K D vwCl (al_tys cy) s) {H0 : Heap} : ∀ (n : Nat) (σ : al_St) (k : Nat) (H : Heap) (locs : List Loc) (ls : Array Slot), k + n = 90 → al_H D cy ad σ H → va_S (al_A ad) H0 H locs → lv_has ls 5 [(0, .ref (ad (5))), (1, .int (nI k))] → (∀ (σ' : al_St) (H : Heap) (locs : List Loc) (ls : Array Slot), al_topL n k σ = σ' → al_H D cy ad σ' H → va_S (al_A ad) H0 H locs → lv_has ls 5 [(0, .ref (ad (5)))] → W p l e (al_rm 2 42) s m args below meth c H locs 0 0 Q (F0 m 88 ls [])) → W p l e (al_rm 2 42) s m args below meth c H locs 0 0 Q (F0 m 2 ls []) := by
  intro n
  induction n with
  | zero =>
    intro σ k H locs ls hk hW hS hl K
    refine lv_iload_n S.1 S.2.1 dX4_findTops_2 rfl (lv_at hl 1 rfl) ?_
    refine lv_aload_n S.1 S.2.1 dX4_findTops_3 rfl (lv_at hl 0 rfl) ?_
    refine al_g_RX4_49 S hK hW dX4_findTops_4 ?_
    refine lv_icmp_ge (tgt := 88) S.1 S.2.1 dX4_findTops_7 (by decide) (fun c1 => ?_) (fun c1 => ?_)
    · exact K σ  _ _ _ (by simp only [al_topL, al_top1, if_pos (c1)]) hW hS (lv_sub hl [0] rfl)
    · refine lv_iload_n S.1 S.2.1 dX4_findTops_10 rfl (lv_at hl 1 rfl) ?_
      refine lv_bipush (v := 90) S.1 S.2.1 dX4_findTops_11 (by decide) ?_
      refine lv_icmp_ge (tgt := 88) S.1 S.2.1 dX4_findTops_13 (by decide) (fun c2 => ?_) (fun c2 => ?_)
      · exact K σ  _ _ _ (by simp only [al_topL, al_top1, if_neg (c1), if_pos (c2)]) hW hS (lv_sub hl [0] rfl)
      · exact absurd (al_90' (by omega)) c2
  | succ n ih =>
    intro σ k H locs ls hk hW hS hl K
    refine lv_iload_n S.1 S.2.1 dX4_findTops_2 rfl (lv_at hl 1 rfl) ?_
    refine lv_aload_n S.1 S.2.1 dX4_findTops_3 rfl (lv_at hl 0 rfl) ?_
    refine al_g_RX4_49 S hK hW dX4_findTops_4 ?_
    refine lv_icmp_ge (tgt := 88) S.1 S.2.1 dX4_findTops_7 (by decide) (fun c1 => ?_) (fun c1 => ?_)
    · exact K σ  _ _ _ (by simp only [al_topL, al_top1, if_pos (c1)]) hW hS (lv_sub hl [0] rfl)
    · refine lv_iload_n S.1 S.2.1 dX4_findTops_10 rfl (lv_at hl 1 rfl) ?_
      refine lv_bipush (v := 90) S.1 S.2.1 dX4_findTops_11 (by decide) ?_
      refine lv_icmp_ge (tgt := 88) S.1 S.2.1 dX4_findTops_13 (by decide) (fun c2 => ?_) (fun c2 => ?_)
      · exact absurd c2 (al_90 (by omega))
      · refine lv_aload_n S.1 S.2.1 dX4_findTops_16 rfl (lv_at hl 0 rfl) ?_
        refine al_g_RX4_25 S hK hW dX4_findTops_17 ?_
        refine lv_iload_n S.1 S.2.1 dX4_findTops_20 rfl (lv_at hl 1 rfl) ?_
        refine al_cP (rest := []) S hK hW (al_X2_get l D cy ad σ 14 (by omega) (nI k)) al_mi_X2_get al_ml_RX4_79 rfl (al_rc_R D cy ad _ (i := 14) (by omega)) rfl hl.1 rfl (Nat.le_of_ble_eq_true rfl) dX4_findTops_21 ⟨Nat.le_of_ble_eq_true rfl, Nat.le_of_ble_eq_true rfl⟩ ⟨Nat.zero_le _, Nat.zero_le _⟩ ?_
        refine W.eq (g2 := F0 m 24 ls [.int (al_rg (σ.1 14) (nI k))]) rfl ?_
        refine lv_istore_n (lv' := [(2, .int (al_rg (σ.1 14) (nI k))), (0, .ref (ad (5))), (1, .int (nI k))]) S.1 S.2.1 dX4_findTops_24 rfl hl (by decide) rfl (fun ls hl => ?_)
        refine lv_aload_n S.1 S.2.1 dX4_findTops_25 rfl (lv_at hl 1 rfl) ?_
        refine al_g_RX4_9 S hK hW dX4_findTops_26 ?_
        refine lv_iload_n S.1 S.2.1 dX4_findTops_29 rfl (lv_at hl 0 rfl) ?_
        refine al_cP (rest := []) S hK hW (al_X6_parentOf l D cy ad σ 0 (by omega) (al_rg (σ.1 14) (nI k))) al_mi_X6_parentOf al_ml_RX4_75 rfl (al_rc_T D cy ad _ (t := 0) (by omega)) rfl hl.1 rfl (Nat.le_of_ble_eq_true rfl) dX4_findTops_30 ⟨Nat.le_of_ble_eq_true rfl, Nat.le_of_ble_eq_true rfl⟩ ⟨Nat.zero_le _, Nat.zero_le _⟩ ?_
        refine W.eq (g2 := F0 m 33 ls [.int (al_rg (σ.1 (2 * 0)) (al_rg (σ.1 14) (nI k)))]) rfl ?_
        refine lv_istore_n (lv' := [(3, .int (al_rg (σ.1 (2 * 0)) (al_rg (σ.1 14) (nI k)))), (2, .int (al_rg (σ.1 14) (nI k))), (0, .ref (ad (5))), (1, .int (nI k))]) S.1 S.2.1 dX4_findTops_33 rfl hl (by decide) rfl (fun ls hl => ?_)
        refine lv_iload_n S.1 S.2.1 dX4_findTops_34 rfl (lv_at hl 1 rfl) ?_
        refine lv_if_eq (tgt := 54) S.1 S.2.1 dX4_findTops_35 (by decide) (fun c3 => ?_) (fun c3 => ?_)
        · refine lv_iconst (v := 0) S.1 S.2.1 dX4_findTops_54 (by decide) ?_
          refine lv_istore (lv' := [(4, .int 0), (3, .int (al_rg (σ.1 (2 * 0)) (al_rg (σ.1 14) (nI k)))), (2, .int (al_rg (σ.1 14) (nI k))), (0, .ref (ad (5))), (1, .int (nI k))]) S.1 S.2.1 dX4_findTops_55 hl (by decide) rfl (fun ls hl => ?_)
          refine lv_aload_n S.1 S.2.1 dX4_findTops_57 rfl (lv_at hl 3 rfl) ?_
          refine al_g_RX4_43 S hK hW dX4_findTops_58 ?_
          refine lv_iload_n S.1 S.2.1 dX4_findTops_61 rfl (lv_at hl 2 rfl) ?_
          refine lv_iload S.1 S.2.1 dX4_findTops_62 (lv_at hl 0 rfl) ?_
          refine lv_if_eq (tgt := 78) S.1 S.2.1 dX4_findTops_64 (by decide) (fun c4 => ?_) (fun c4 => ?_)
          · refine lv_iload_n S.1 S.2.1 dX4_findTops_78 rfl (lv_at hl 2 rfl) ?_
            refine al_cS (rest := []) S hK hW hS (al_X2_set l D cy ad σ 20 (by omega) (al_rg (σ.1 14) (nI k)) (al_rg (σ.1 14) (nI k))) al_mi_X2_set al_ml_RX4_82 rfl (al_rc_R D cy ad _ (i := 20) (by omega)) rfl hl.1 rfl (Nat.le_of_ble_eq_true rfl) dX4_findTops_79 ⟨Nat.le_of_ble_eq_true rfl, Nat.le_of_ble_eq_true rfl⟩ ⟨Nat.zero_le _, Nat.zero_le _⟩ (fun H locs hW hS => ?_)
            refine W.eq (g2 := F0 m 82 ls []) rfl ?_
            refine lv_iinc (k := 4) (v := nI (k + 1)) (lv' := [(1, .int (nI (k + 1))), (4, .int 0), (3, .int (al_rg (σ.1 (2 * 0)) (al_rg (σ.1 14) (nI k)))), (2, .int (al_rg (σ.1 14) (nI k))), (0, .ref (ad (5)))]) S.1 S.2.1 dX4_findTops_82 hl rfl (al_inc k) (by decide) rfl (fun ls hl => ?_)
            refine lv_goto (tgt := 2) S.1 S.2.1 dX4_findTops_85 (by decide) ?_
            exact ih (al_set σ 20 (al_rg (σ.1 14) (nI k)) (al_rg (σ.1 14) (nI k))) (k + 1) _ _ _ (by omega) hW hS (lv_sub hl [4, 0] rfl) (fun σ'  H locs ls e9 hW hS hl => K σ'  H locs ls (by simp only [al_topL, al_top1, if_neg (c1), if_neg (c2), if_pos (c3), if_pos (c4)]; exact e9) hW hS hl)
          · exact absurd (by decide) c4
        · refine lv_aload_n S.1 S.2.1 dX4_findTops_38 rfl (lv_at hl 2 rfl) ?_
          refine al_g_RX4_40 S hK hW dX4_findTops_39 ?_
          refine lv_iload_n S.1 S.2.1 dX4_findTops_42 rfl (lv_at hl 0 rfl) ?_
          refine al_cP (rest := []) S hK hW (al_X2_get l D cy ad σ 19 (by omega) (al_rg (σ.1 (2 * 0)) (al_rg (σ.1 14) (nI k)))) al_mi_X2_get al_ml_RX4_79 rfl (al_rc_R D cy ad _ (i := 19) (by omega)) rfl hl.1 rfl (Nat.le_of_ble_eq_true rfl) dX4_findTops_43 ⟨Nat.le_of_ble_eq_true rfl, Nat.le_of_ble_eq_true rfl⟩ ⟨Nat.zero_le _, Nat.zero_le _⟩ ?_
          refine W.eq (g2 := F0 m 46 ls [.int (al_rg (σ.1 19) (al_rg (σ.1 (2 * 0)) (al_rg (σ.1 14) (nI k))))]) rfl ?_
          refine lv_iload_n S.1 S.2.1 dX4_findTops_46 rfl (lv_at hl 1 rfl) ?_
          refine lv_icmp_ne (tgt := 54) S.1 S.2.1 dX4_findTops_47 (by decide) (fun c5 => ?_) (fun c5 => ?_)
          · refine lv_iconst (v := 0) S.1 S.2.1 dX4_findTops_54 (by decide) ?_
            refine lv_istore (lv' := [(4, .int 0), (3, .int (al_rg (σ.1 (2 * 0)) (al_rg (σ.1 14) (nI k)))), (2, .int (al_rg (σ.1 14) (nI k))), (0, .ref (ad (5))), (1, .int (nI k))]) S.1 S.2.1 dX4_findTops_55 hl (by decide) rfl (fun ls hl => ?_)
            refine lv_aload_n S.1 S.2.1 dX4_findTops_57 rfl (lv_at hl 3 rfl) ?_
            refine al_g_RX4_43 S hK hW dX4_findTops_58 ?_
            refine lv_iload_n S.1 S.2.1 dX4_findTops_61 rfl (lv_at hl 2 rfl) ?_
            refine lv_iload S.1 S.2.1 dX4_findTops_62 (lv_at hl 0 rfl) ?_
            refine lv_if_eq (tgt := 78) S.1 S.2.1 dX4_findTops_64 (by decide) (fun c6 => ?_) (fun c6 => ?_)
            · refine lv_iload_n S.1 S.2.1 dX4_findTops_78 rfl (lv_at hl 2 rfl) ?_
              refine al_cS (rest := []) S hK hW hS (al_X2_set l D cy ad σ 20 (by omega) (al_rg (σ.1 14) (nI k)) (al_rg (σ.1 14) (nI k))) al_mi_X2_set al_ml_RX4_82 rfl (al_rc_R D cy ad _ (i := 20) (by omega)) rfl hl.1 rfl (Nat.le_of_ble_eq_true rfl) dX4_findTops_79 ⟨Nat.le_of_ble_eq_true rfl, Nat.le_of_ble_eq_true rfl⟩ ⟨Nat.zero_le _, Nat.zero_le _⟩ (fun H locs hW hS => ?_)
              refine W.eq (g2 := F0 m 82 ls []) rfl ?_
              refine lv_iinc (k := 4) (v := nI (k + 1)) (lv' := [(1, .int (nI (k + 1))), (4, .int 0), (3, .int (al_rg (σ.1 (2 * 0)) (al_rg (σ.1 14) (nI k)))), (2, .int (al_rg (σ.1 14) (nI k))), (0, .ref (ad (5)))]) S.1 S.2.1 dX4_findTops_82 hl rfl (al_inc k) (by decide) rfl (fun ls hl => ?_)
              refine lv_goto (tgt := 2) S.1 S.2.1 dX4_findTops_85 (by decide) ?_
              exact ih (al_set σ 20 (al_rg (σ.1 14) (nI k)) (al_rg (σ.1 14) (nI k))) (k + 1) _ _ _ (by omega) hW hS (lv_sub hl [4, 0] rfl) (fun σ'  H locs ls e9 hW hS hl => K σ'  H locs ls (by simp only [al_topL, al_top1, if_neg (c1), if_neg (c2), if_neg (c3), if_neg (c5), if_pos (c6)]; exact e9) hW hS hl)
            · exact absurd (by decide) c6
          · refine lv_iconst (v := 1) S.1 S.2.1 dX4_findTops_50 (by decide) ?_
            refine lv_goto (tgt := 55) S.1 S.2.1 dX4_findTops_51 (by decide) ?_
            refine lv_istore (lv' := [(4, .int 1), (3, .int (al_rg (σ.1 (2 * 0)) (al_rg (σ.1 14) (nI k)))), (2, .int (al_rg (σ.1 14) (nI k))), (0, .ref (ad (5))), (1, .int (nI k))]) S.1 S.2.1 dX4_findTops_55 hl (by decide) rfl (fun ls hl => ?_)
            refine lv_aload_n S.1 S.2.1 dX4_findTops_57 rfl (lv_at hl 3 rfl) ?_
            refine al_g_RX4_43 S hK hW dX4_findTops_58 ?_
            refine lv_iload_n S.1 S.2.1 dX4_findTops_61 rfl (lv_at hl 2 rfl) ?_
            refine lv_iload S.1 S.2.1 dX4_findTops_62 (lv_at hl 0 rfl) ?_
            refine lv_if_eq (tgt := 78) S.1 S.2.1 dX4_findTops_64 (by decide) (fun c7 => ?_) (fun c7 => ?_)
            · exact absurd c7 (by decide)
            · refine lv_aload_n S.1 S.2.1 dX4_findTops_67 rfl (lv_at hl 3 rfl) ?_
              refine al_g_RX4_43 S hK hW dX4_findTops_68 ?_
              refine lv_iload_n S.1 S.2.1 dX4_findTops_71 rfl (lv_at hl 1 rfl) ?_
              refine al_cP (rest := [.int (al_rg (σ.1 14) (nI k)), .ref (ad (14 + 2 * 20))]) S hK hW (al_X2_get l D cy ad σ 20 (by omega) (al_rg (σ.1 (2 * 0)) (al_rg (σ.1 14) (nI k)))) al_mi_X2_get al_ml_RX4_79 rfl (al_rc_R D cy ad _ (i := 20) (by omega)) rfl hl.1 rfl (Nat.le_of_ble_eq_true rfl) dX4_findTops_72 ⟨Nat.le_of_ble_eq_true rfl, Nat.le_of_ble_eq_true rfl⟩ ⟨Nat.zero_le _, Nat.zero_le _⟩ ?_
              refine W.eq (g2 := F0 m 75 ls [.int (al_rg (σ.1 20) (al_rg (σ.1 (2 * 0)) (al_rg (σ.1 14) (nI k)))), .int (al_rg (σ.1 14) (nI k)), .ref (ad (14 + 2 * 20))]) rfl ?_
              refine lv_goto (tgt := 79) S.1 S.2.1 dX4_findTops_75 (by decide) ?_
              refine al_cS (rest := []) S hK hW hS (al_X2_set l D cy ad σ 20 (by omega) (al_rg (σ.1 14) (nI k)) (al_rg (σ.1 20) (al_rg (σ.1 (2 * 0)) (al_rg (σ.1 14) (nI k))))) al_mi_X2_set al_ml_RX4_82 rfl (al_rc_R D cy ad _ (i := 20) (by omega)) rfl hl.1 rfl (Nat.le_of_ble_eq_true rfl) dX4_findTops_79 ⟨Nat.le_of_ble_eq_true rfl, Nat.le_of_ble_eq_true rfl⟩ ⟨Nat.zero_le _, Nat.zero_le _⟩ (fun H locs hW hS => ?_)
              refine W.eq (g2 := F0 m 82 ls []) rfl ?_
              refine lv_iinc (k := 4) (v := nI (k + 1)) (lv' := [(1, .int (nI (k + 1))), (4, .int 1), (3, .int (al_rg (σ.1 (2 * 0)) (al_rg (σ.1 14) (nI k)))), (2, .int (al_rg (σ.1 14) (nI k))), (0, .ref (ad (5)))]) S.1 S.2.1 dX4_findTops_82 hl rfl (al_inc k) (by decide) rfl (fun ls hl => ?_)
              refine lv_goto (tgt := 2) S.1 S.2.1 dX4_findTops_85 (by decide) ?_
              exact ih (al_set σ 20 (al_rg (σ.1 14) (nI k)) (al_rg (σ.1 20) (al_rg (σ.1 (2 * 0)) (al_rg (σ.1 14) (nI k))))) (k + 1) _ _ _ (by omega) hW hS (lv_sub hl [4, 0] rfl) (fun σ'  H locs ls e9 hW hS hl => K σ'  H locs ls (by simp only [al_topL, al_top1, if_neg (c1), if_neg (c2), if_neg (c3), if_pos (c5), if_neg (c7)]; exact e9) hW hS hl)
theorem al_mv_X4_findTops : al_mv yX4_findTops cX4_findTops 5 none 0 := ⟨al_c_X4_findTops, al_ini_RX4, ⟨by decide +kernel, by decide +kernel, by decide +kernel⟩, by decide +kernel⟩
theorem al_mi_X4_findTops : al_mi yX4_findTops cX4_findTops 5 none 0 := ⟨al_mv_X4_findTops, al_in_X4_findTops, al_se_X4_findTops⟩
set_option maxHeartbeats 4000000 in
set_option maxRecDepth 100000 in
theorem al_X4_findTops (l : Launch) (D : va_G) (cy : al_CY) (ad : Nat → Nat) (σ : al_St) : al_MS l yX4_findTops cX4_findTops 5 none 2 42 D cy ad σ [.ref (ad (5))] none (al_findTops σ) := by
  refine al_met al_mv_X4_findTops (Nat.le_of_ble_eq_true rfl) ?_
  intro p e s m args below meth c ls S hr hlocks hK hW hS hl
  have hl : lv_has ls 5 [(0, .ref (ad (5)))] := hl
  refine lv_iconst (v := 0) S.1 S.2.1 dX4_findTops_0 (by decide) ?_
  refine lv_istore_n (lv' := [(1, .int 0), (0, .ref (ad (5)))]) S.1 S.2.1 dX4_findTops_1 rfl hl (by decide) rfl (fun ls hl => ?_)
  refine al_lp_X4_top l D cy ad  S hK 90 σ 0 _ _ _ (by omega) hW hS (lv_sub hl [1, 0] rfl) (fun σ1 H locs ls e2 hW hS hl => ?_)
  exact W.vret S.1 S.2.1 hr (fun t9 ht9 _ => ⟨rfl, by rw [ht9]; exact (al_He hW (by simp only [al_findTops, e2])), hS.F ht9⟩) hS.2.2 dX4_findTops_88
theorem al_mv_X4_take : al_mv yX4_take cX4_take 1 none 0 := ⟨al_c_X4_take, al_ini_RX4, ⟨by decide +kernel, by decide +kernel, by decide +kernel⟩, by decide +kernel⟩
theorem al_mi_X4_take : al_mi yX4_take cX4_take 1 none 0 := ⟨al_mv_X4_take, al_in_X4_take, al_se_X4_take⟩
set_option maxHeartbeats 4000000 in
set_option maxRecDepth 100000 in
theorem al_X4_take (l : Launch) (D : va_G) (cy : al_CY) (ad : Nat → Nat) (σ : al_St) : al_MS l yX4_take cX4_take 1 none 3 69 D cy ad σ [.ref (ad (5))] none (al_take σ) := by
  refine al_met al_mv_X4_take (Nat.le_of_ble_eq_true rfl) ?_
  intro p e s m args below meth c ls S hr hlocks hK hW hS hl
  have hl : lv_has ls 1 [(0, .ref (ad (5)))] := hl
  refine lv_aload_n S.1 S.2.1 dX4_take_0 rfl (lv_at hl 0 rfl) ?_
  refine al_cS (rest := []) S hK hW hS (al_X4_linkChildren l D cy ad σ ) al_mi_X4_linkChildren al_ml_RX4_53 rfl (al_rc_4 D cy ad _) rfl hl.1 rfl (Nat.le_of_ble_eq_true rfl) dX4_take_1 ⟨Nat.le_of_ble_eq_true rfl, Nat.le_of_ble_eq_true rfl⟩ ⟨Nat.zero_le _, Nat.zero_le _⟩ (fun H locs hW hS => ?_)
  refine W.eq (g2 := F0 m 4 ls []) rfl ?_
  refine lv_aload_n S.1 S.2.1 dX4_take_4 rfl (lv_at hl 0 rfl) ?_
  refine al_cS (rest := []) S hK hW hS (al_X4_goDown l D cy ad (al_linkC σ) ) al_mi_X4_goDown al_ml_RX4_56 rfl (al_rc_4 D cy ad _) rfl hl.1 rfl (Nat.le_of_ble_eq_true rfl) dX4_take_5 ⟨Nat.le_of_ble_eq_true rfl, Nat.le_of_ble_eq_true rfl⟩ ⟨Nat.zero_le _, Nat.zero_le _⟩ (fun H locs hW hS => ?_)
  refine W.eq (g2 := F0 m 8 ls []) rfl ?_
  refine lv_aload_n S.1 S.2.1 dX4_take_8 rfl (lv_at hl 0 rfl) ?_
  refine al_cS (rest := []) S hK hW hS (al_X4_goUp l D cy ad (al_goDown (al_linkC σ)) (al_pOK_eq (by omega) (al_goDown_P _)).1 (al_pOK_eq (by omega) (al_goDown_P _)).2) al_mi_X4_goUp al_ml_RX4_59 rfl (al_rc_4 D cy ad _) rfl hl.1 rfl (Nat.le_of_ble_eq_true rfl) dX4_take_9 ⟨Nat.le_of_ble_eq_true rfl, Nat.le_of_ble_eq_true rfl⟩ ⟨Nat.zero_le _, Nat.zero_le _⟩ (fun H locs hW hS => ?_)
  refine W.eq (g2 := F0 m 12 ls []) rfl ?_
  refine lv_aload_n S.1 S.2.1 dX4_take_12 rfl (lv_at hl 0 rfl) ?_
  refine al_cS (rest := []) S hK hW hS (al_X4_findTops l D cy ad (al_goUp (al_goDown (al_linkC σ))) ) al_mi_X4_findTops al_ml_RX4_62 rfl (al_rc_4 D cy ad _) rfl hl.1 rfl (Nat.le_of_ble_eq_true rfl) dX4_take_13 ⟨Nat.le_of_ble_eq_true rfl, Nat.le_of_ble_eq_true rfl⟩ ⟨Nat.zero_le _, Nat.zero_le _⟩ (fun H locs hW hS => ?_)
  refine W.eq (g2 := F0 m 16 ls []) rfl ?_
  exact W.vret S.1 S.2.1 hr (fun t9 ht9 _ => ⟨rfl, by rw [ht9]; exact (al_He hW (by simp only [al_take])), hS.F ht9⟩) hS.2.2 dX4_take_16

def al_isLf (σ : al_St) (x : Int32) : Int32 := if al_rg (σ.1 17) x = 0 then 1 else 0
def al_way (σ : al_St) (x : Int32) : Int32 := al_rg (σ.1 16) (al_rg (σ.1 20) x) + 1
def al_lad (σ : al_St) (x : Int32) : Int32 := al_way σ x + al_min (al_way σ x) (al_rg (σ.1 15) (al_rg (σ.1 20) x))
def al_climb (σ : al_St) : Nat → Int32 → Int32
  | 0, a => a
  | n + 1, a => if a = -1 then a else al_climb σ n (al_rg (σ.1 (2 * 0)) a)
def al_cl (σ : al_St) (a x : Int32) : Int32 := al_climb σ x.toNatClampNeg a
theorem al_tn_lt (x : Int32) : x.toNatClampNeg < 2 ^ 31 := by
  have h1 := Int32.toInt_lt x
  have h2 : x.toNatClampNeg = x.toInt.toNat := rfl
  omega
theorem al_le_nI {x : Int32} {k : Nat} (hk : k < 2 ^ 31) : x ≤ nI k ↔ x.toNatClampNeg ≤ k := by
  rw [Int32.le_iff_toInt_le, nI_toInt hk]
  have h2 : x.toNatClampNeg = x.toInt.toNat := rfl
  omega
def al_inB (σ : al_St) (x y : Int32) : Int32 := if al_rg (σ.1 15) x - al_rg (σ.1 15) y < 0 then 0 else if al_cl σ x (al_rg (σ.1 15) x - al_rg (σ.1 15) y) = y then 1 else 0
def al_meetL (σ : al_St) : Nat → Int32 → Int32 → Int32
  | 0, a, _ => a
  | n + 1, a, b => if a = b then a else al_meetL σ n (al_rg (σ.1 (2 * 0)) a) (al_rg (σ.1 (2 * 0)) b)
def al_meet (σ : al_St) (x y : Int32) : Int32 := al_meetL σ 90 (al_cl σ x (al_rg (σ.1 15) x - al_rg (σ.1 15) y)) (al_cl σ y (al_rg (σ.1 15) y - al_rg (σ.1 15) x))
def al_bc (x : Int32) : Int32 :=
  let a := x - ((x.toUInt32 >>> ((1 : Int32).toUInt32 &&& Int32.toUInt32 31)).toInt32 &&& 1431655765)
  let b := (a &&& 858993459) + ((a.toUInt32 >>> ((2 : Int32).toUInt32 &&& Int32.toUInt32 31)).toInt32 &&& 858993459)
  let c := (b + (b.toUInt32 >>> ((4 : Int32).toUInt32 &&& Int32.toUInt32 31)).toInt32) &&& 252645135
  let d := c + (c.toUInt32 >>> ((8 : Int32).toUInt32 &&& Int32.toUInt32 31)).toInt32
  let f := d + (d.toUInt32 >>> ((16 : Int32).toUInt32 &&& Int32.toUInt32 31)).toInt32
  f &&& 63
def al_looks (σ : al_St) (x y : Int32) : Int32 := if y = 0 then 0 else if al_lad σ x ≤ al_rg (σ.1 16) x + y then (if al_bc (al_rg (σ.1 16) x + y) = 1 then 2 else 3) else 1
def al_cLv (σ : al_St) : Nat → Nat → Int32 → Int32
  | 0, _, a => a
  | n + 1, k, a => if σ.2.2.1 9 ≤ nI k then a else if al_isLf σ (al_rg (σ.1 14) (nI k)) = 0 then al_cLv σ n (k + 1) a else al_cLv σ n (k + 1) (a + 1)
def al_cLd (σ : al_St) : Nat → Nat → Int32 → Int32
  | 0, _, a => a
  | n + 1, k, a => if σ.2.2.1 9 ≤ nI k then a else if al_isLf σ (al_rg (σ.1 14) (nI k)) = 0 then al_cLd σ n (k + 1) a else al_cLd σ n (k + 1) (a + al_lad σ (al_rg (σ.1 14) (nI k)))
def al_jmpL (x : Int32) : Nat → Nat → Int32 → Int32
  | 0, _, a => a
  | n + 1, k, a => if x < (1 : Int32) <<< (nI k &&& 31) then a else al_jmpL x n (k + 1) (a + 1)
def al_cJm (σ : al_St) : Nat → Nat → Int32 → Int32
  | 0, _, a => a
  | n + 1, k, a => if σ.2.2.1 9 ≤ nI k then a else if al_isLf σ (al_rg (σ.1 14) (nI k)) = 0 then al_cJm σ n (k + 1) a else al_cJm σ n (k + 1) (a + al_jmpL (al_rg (σ.1 15) (al_rg (σ.1 14) (nI k))) 7 0 0)
theorem al_6 {n : Nat} (h : n < 7) : ¬ (6 : Int32) < nI n := nI_nlt (a := 6) (b := n) (by omega) (by omega)
theorem al_6' {n : Nat} (h : n = 7) : (6 : Int32) < nI n := by rw [h]; decide
section ALM
variable {p : Program} {l : Launch} {e : Env} {R : Room} {s : State} {m : MethodId} {args : Array Value} {below : List Frame} {meth : Method} {c : Code} {H : Heap} {locs : List Loc} {cells slots : Nat} {Q : State → Prop}
theorem al_mmin {cc : ByteArray} {nL index pc : Nat} {own : String} {ls : Array Slot} {a b : Int32} {rest : List Value} (S : CallFix p m c cc nL s args al_G own) (hsz : ls.size = nL) (hl : Cond.methodLink own index yJ9_min_7cf53 ∈ al_G) (hR : 1 ≤ R.frames) (h2 : (rest.map fun v => v.category).sum + 13 ≤ R.locals) (hc : cells ≤ R.cells) (hs : slots ≤ R.slots) (hdg : decode cc pc = .ok (.invokestatic index, 3)) (kk : W p l e R s m args below meth c H locs cells slots Q (F0 m (pc + 3) ls (.int (al_min a b) :: rest))) : W p l e R s m args below meth c H locs cells slots Q (F0 m pc ls (.int b :: .int a :: rest)) := by
  refine va_mmin S.1 S.2.1 (S.2.2.1.trans hsz.symm) S.2.2.2.1 (S.2.2.2.2 _ hl) (S.2.2.2.2 _ al_st_J9_min_7cf53) (S.2.2.2.2 _ al_ini_RJ9) (S.2.2.2.2 _ al_c_J9_min_7cf53) hR h2 hc hs hdg ?_
  exact kk
end ALM
theorem al_mv_X4_downwardAt : al_mv yX4_downwardAt cX4_downwardAt 2 (some .int) 1 := ⟨al_c_X4_downwardAt, al_ini_RX4, ⟨by decide +kernel, by decide +kernel, by decide +kernel⟩, by decide +kernel⟩
theorem al_mi_X4_downwardAt : al_mi yX4_downwardAt cX4_downwardAt 2 (some .int) 1 := ⟨al_mv_X4_downwardAt, al_in_X4_downwardAt, al_se_X4_downwardAt⟩
set_option maxHeartbeats 4000000 in
set_option maxRecDepth 100000 in
theorem al_X4_downwardAt (l : Launch) (D : va_G) (cy : al_CY) (ad : Nat → Nat) (σ : al_St) (x : Int32) : al_MP l yX4_downwardAt cX4_downwardAt 2 (some .int) 1 21 D cy ad σ [.ref (ad (5)), .int x] (some (.int (al_rg (σ.1 14) x))) := by
  refine al_met al_mv_X4_downwardAt (Nat.le_of_ble_eq_true rfl) ?_
  intro p e s m args below meth c ls S hr hlocks hK hW hS hl
  have hl : lv_has ls 2 [(0, .ref (ad (5))), (1, .int x)] := hl
  refine lv_aload_n S.1 S.2.1 dX4_downwardAt_0 rfl (lv_at hl 0 rfl) ?_
  refine al_g_RX4_25 S hK hW dX4_downwardAt_1 ?_
  refine lv_iload_n S.1 S.2.1 dX4_downwardAt_4 rfl (lv_at hl 1 rfl) ?_
  refine al_cP (rest := []) S hK hW (al_X2_get l D cy ad σ 14 (by omega) x) al_mi_X2_get al_ml_RX4_79 rfl (al_rc_R D cy ad _ (i := 14) (by omega)) rfl hl.1 rfl (Nat.le_of_ble_eq_true rfl) dX4_downwardAt_5 ⟨Nat.le_of_ble_eq_true rfl, Nat.le_of_ble_eq_true rfl⟩ ⟨Nat.zero_le _, Nat.zero_le _⟩ ?_
  refine W.eq (g2 := F0 m 8 ls [.int (al_rg (σ.1 14) x)]) rfl ?_
  exact W.iret S.1 S.2.1 hr (fun t9 ht9 _ => ⟨(congrArg (fun z => Outcome.returned (some (Value.int z))) rfl), ht9⟩) (fun q hq => absurd hq List.not_mem_nil) dX4_downwardAt_8
theorem al_mv_X4_firstChildOf : al_mv yX4_firstChildOf cX4_firstChildOf 2 (some .int) 1 := ⟨al_c_X4_firstChildOf, al_ini_RX4, ⟨by decide +kernel, by decide +kernel, by decide +kernel⟩, by decide +kernel⟩
theorem al_mi_X4_firstChildOf : al_mi yX4_firstChildOf cX4_firstChildOf 2 (some .int) 1 := ⟨al_mv_X4_firstChildOf, al_in_X4_firstChildOf, al_se_X4_firstChildOf⟩
set_option maxHeartbeats 4000000 in
set_option maxRecDepth 100000 in
theorem al_X4_firstChildOf (l : Launch) (D : va_G) (cy : al_CY) (ad : Nat → Nat) (σ : al_St) (x : Int32) : al_MP l yX4_firstChildOf cX4_firstChildOf 2 (some .int) 1 21 D cy ad σ [.ref (ad (5)), .int x] (some (.int (al_rg (σ.1 12) x))) := by
  refine al_met al_mv_X4_firstChildOf (Nat.le_of_ble_eq_true rfl) ?_
  intro p e s m args below meth c ls S hr hlocks hK hW hS hl
  have hl : lv_has ls 2 [(0, .ref (ad (5))), (1, .int x)] := hl
  refine lv_aload_n S.1 S.2.1 dX4_firstChildOf_0 rfl (lv_at hl 0 rfl) ?_
  refine al_g_RX4_18 S hK hW dX4_firstChildOf_1 ?_
  refine lv_iload_n S.1 S.2.1 dX4_firstChildOf_4 rfl (lv_at hl 1 rfl) ?_
  refine al_cP (rest := []) S hK hW (al_X2_get l D cy ad σ 12 (by omega) x) al_mi_X2_get al_ml_RX4_79 rfl (al_rc_R D cy ad _ (i := 12) (by omega)) rfl hl.1 rfl (Nat.le_of_ble_eq_true rfl) dX4_firstChildOf_5 ⟨Nat.le_of_ble_eq_true rfl, Nat.le_of_ble_eq_true rfl⟩ ⟨Nat.zero_le _, Nat.zero_le _⟩ ?_
  refine W.eq (g2 := F0 m 8 ls [.int (al_rg (σ.1 12) x)]) rfl ?_
  exact W.iret S.1 S.2.1 hr (fun t9 ht9 _ => ⟨(congrArg (fun z => Outcome.returned (some (Value.int z))) rfl), ht9⟩) (fun q hq => absurd hq List.not_mem_nil) dX4_firstChildOf_8
theorem al_mv_X4_nextChildOf : al_mv yX4_nextChildOf cX4_nextChildOf 2 (some .int) 1 := ⟨al_c_X4_nextChildOf, al_ini_RX4, ⟨by decide +kernel, by decide +kernel, by decide +kernel⟩, by decide +kernel⟩
theorem al_mi_X4_nextChildOf : al_mi yX4_nextChildOf cX4_nextChildOf 2 (some .int) 1 := ⟨al_mv_X4_nextChildOf, al_in_X4_nextChildOf, al_se_X4_nextChildOf⟩
set_option maxHeartbeats 4000000 in
set_option maxRecDepth 100000 in
theorem al_X4_nextChildOf (l : Launch) (D : va_G) (cy : al_CY) (ad : Nat → Nat) (σ : al_St) (x : Int32) : al_MP l yX4_nextChildOf cX4_nextChildOf 2 (some .int) 1 21 D cy ad σ [.ref (ad (5)), .int x] (some (.int (al_rg (σ.1 13) x))) := by
  refine al_met al_mv_X4_nextChildOf (Nat.le_of_ble_eq_true rfl) ?_
  intro p e s m args below meth c ls S hr hlocks hK hW hS hl
  have hl : lv_has ls 2 [(0, .ref (ad (5))), (1, .int x)] := hl
  refine lv_aload_n S.1 S.2.1 dX4_nextChildOf_0 rfl (lv_at hl 0 rfl) ?_
  refine al_g_RX4_22 S hK hW dX4_nextChildOf_1 ?_
  refine lv_iload_n S.1 S.2.1 dX4_nextChildOf_4 rfl (lv_at hl 1 rfl) ?_
  refine al_cP (rest := []) S hK hW (al_X2_get l D cy ad σ 13 (by omega) x) al_mi_X2_get al_ml_RX4_79 rfl (al_rc_R D cy ad _ (i := 13) (by omega)) rfl hl.1 rfl (Nat.le_of_ble_eq_true rfl) dX4_nextChildOf_5 ⟨Nat.le_of_ble_eq_true rfl, Nat.le_of_ble_eq_true rfl⟩ ⟨Nat.zero_le _, Nat.zero_le _⟩ ?_
  refine W.eq (g2 := F0 m 8 ls [.int (al_rg (σ.1 13) x)]) rfl ?_
  exact W.iret S.1 S.2.1 hr (fun t9 ht9 _ => ⟨(congrArg (fun z => Outcome.returned (some (Value.int z))) rfl), ht9⟩) (fun q hq => absurd hq List.not_mem_nil) dX4_nextChildOf_8
theorem al_mv_X4_depthOf : al_mv yX4_depthOf cX4_depthOf 2 (some .int) 1 := ⟨al_c_X4_depthOf, al_ini_RX4, ⟨by decide +kernel, by decide +kernel, by decide +kernel⟩, by decide +kernel⟩
theorem al_mi_X4_depthOf : al_mi yX4_depthOf cX4_depthOf 2 (some .int) 1 := ⟨al_mv_X4_depthOf, al_in_X4_depthOf, al_se_X4_depthOf⟩
set_option maxHeartbeats 4000000 in
set_option maxRecDepth 100000 in
theorem al_X4_depthOf (l : Launch) (D : va_G) (cy : al_CY) (ad : Nat → Nat) (σ : al_St) (x : Int32) : al_MP l yX4_depthOf cX4_depthOf 2 (some .int) 1 21 D cy ad σ [.ref (ad (5)), .int x] (some (.int (al_rg (σ.1 15) x))) := by
  refine al_met al_mv_X4_depthOf (Nat.le_of_ble_eq_true rfl) ?_
  intro p e s m args below meth c ls S hr hlocks hK hW hS hl
  have hl : lv_has ls 2 [(0, .ref (ad (5))), (1, .int x)] := hl
  refine lv_aload_n S.1 S.2.1 dX4_depthOf_0 rfl (lv_at hl 0 rfl) ?_
  refine al_g_RX4_28 S hK hW dX4_depthOf_1 ?_
  refine lv_iload_n S.1 S.2.1 dX4_depthOf_4 rfl (lv_at hl 1 rfl) ?_
  refine al_cP (rest := []) S hK hW (al_X2_get l D cy ad σ 15 (by omega) x) al_mi_X2_get al_ml_RX4_79 rfl (al_rc_R D cy ad _ (i := 15) (by omega)) rfl hl.1 rfl (Nat.le_of_ble_eq_true rfl) dX4_depthOf_5 ⟨Nat.le_of_ble_eq_true rfl, Nat.le_of_ble_eq_true rfl⟩ ⟨Nat.zero_le _, Nat.zero_le _⟩ ?_
  refine W.eq (g2 := F0 m 8 ls [.int (al_rg (σ.1 15) x)]) rfl ?_
  exact W.iret S.1 S.2.1 hr (fun t9 ht9 _ => ⟨(congrArg (fun z => Outcome.returned (some (Value.int z))) rfl), ht9⟩) (fun q hq => absurd hq List.not_mem_nil) dX4_depthOf_8
theorem al_mv_X4_heightOf : al_mv yX4_heightOf cX4_heightOf 2 (some .int) 1 := ⟨al_c_X4_heightOf, al_ini_RX4, ⟨by decide +kernel, by decide +kernel, by decide +kernel⟩, by decide +kernel⟩
theorem al_mi_X4_heightOf : al_mi yX4_heightOf cX4_heightOf 2 (some .int) 1 := ⟨al_mv_X4_heightOf, al_in_X4_heightOf, al_se_X4_heightOf⟩
set_option maxHeartbeats 4000000 in
set_option maxRecDepth 100000 in
theorem al_X4_heightOf (l : Launch) (D : va_G) (cy : al_CY) (ad : Nat → Nat) (σ : al_St) (x : Int32) : al_MP l yX4_heightOf cX4_heightOf 2 (some .int) 1 21 D cy ad σ [.ref (ad (5)), .int x] (some (.int (al_rg (σ.1 16) x))) := by
  refine al_met al_mv_X4_heightOf (Nat.le_of_ble_eq_true rfl) ?_
  intro p e s m args below meth c ls S hr hlocks hK hW hS hl
  have hl : lv_has ls 2 [(0, .ref (ad (5))), (1, .int x)] := hl
  refine lv_aload_n S.1 S.2.1 dX4_heightOf_0 rfl (lv_at hl 0 rfl) ?_
  refine al_g_RX4_31 S hK hW dX4_heightOf_1 ?_
  refine lv_iload_n S.1 S.2.1 dX4_heightOf_4 rfl (lv_at hl 1 rfl) ?_
  refine al_cP (rest := []) S hK hW (al_X2_get l D cy ad σ 16 (by omega) x) al_mi_X2_get al_ml_RX4_79 rfl (al_rc_R D cy ad _ (i := 16) (by omega)) rfl hl.1 rfl (Nat.le_of_ble_eq_true rfl) dX4_heightOf_5 ⟨Nat.le_of_ble_eq_true rfl, Nat.le_of_ble_eq_true rfl⟩ ⟨Nat.zero_le _, Nat.zero_le _⟩ ?_
  refine W.eq (g2 := F0 m 8 ls [.int (al_rg (σ.1 16) x)]) rfl ?_
  exact W.iret S.1 S.2.1 hr (fun t9 ht9 _ => ⟨(congrArg (fun z => Outcome.returned (some (Value.int z))) rfl), ht9⟩) (fun q hq => absurd hq List.not_mem_nil) dX4_heightOf_8
theorem al_mv_X4_childrenOf : al_mv yX4_childrenOf cX4_childrenOf 2 (some .int) 1 := ⟨al_c_X4_childrenOf, al_ini_RX4, ⟨by decide +kernel, by decide +kernel, by decide +kernel⟩, by decide +kernel⟩
theorem al_mi_X4_childrenOf : al_mi yX4_childrenOf cX4_childrenOf 2 (some .int) 1 := ⟨al_mv_X4_childrenOf, al_in_X4_childrenOf, al_se_X4_childrenOf⟩
set_option maxHeartbeats 4000000 in
set_option maxRecDepth 100000 in
theorem al_X4_childrenOf (l : Launch) (D : va_G) (cy : al_CY) (ad : Nat → Nat) (σ : al_St) (x : Int32) : al_MP l yX4_childrenOf cX4_childrenOf 2 (some .int) 1 21 D cy ad σ [.ref (ad (5)), .int x] (some (.int (al_rg (σ.1 17) x))) := by
  refine al_met al_mv_X4_childrenOf (Nat.le_of_ble_eq_true rfl) ?_
  intro p e s m args below meth c ls S hr hlocks hK hW hS hl
  have hl : lv_has ls 2 [(0, .ref (ad (5))), (1, .int x)] := hl
  refine lv_aload_n S.1 S.2.1 dX4_childrenOf_0 rfl (lv_at hl 0 rfl) ?_
  refine al_g_RX4_34 S hK hW dX4_childrenOf_1 ?_
  refine lv_iload_n S.1 S.2.1 dX4_childrenOf_4 rfl (lv_at hl 1 rfl) ?_
  refine al_cP (rest := []) S hK hW (al_X2_get l D cy ad σ 17 (by omega) x) al_mi_X2_get al_ml_RX4_79 rfl (al_rc_R D cy ad _ (i := 17) (by omega)) rfl hl.1 rfl (Nat.le_of_ble_eq_true rfl) dX4_childrenOf_5 ⟨Nat.le_of_ble_eq_true rfl, Nat.le_of_ble_eq_true rfl⟩ ⟨Nat.zero_le _, Nat.zero_le _⟩ ?_
  refine W.eq (g2 := F0 m 8 ls [.int (al_rg (σ.1 17) x)]) rfl ?_
  exact W.iret S.1 S.2.1 hr (fun t9 ht9 _ => ⟨(congrArg (fun z => Outcome.returned (some (Value.int z))) rfl), ht9⟩) (fun q hq => absurd hq List.not_mem_nil) dX4_childrenOf_8
theorem al_mv_X4_sizeOf : al_mv yX4_sizeOf cX4_sizeOf 2 (some .int) 1 := ⟨al_c_X4_sizeOf, al_ini_RX4, ⟨by decide +kernel, by decide +kernel, by decide +kernel⟩, by decide +kernel⟩
theorem al_mi_X4_sizeOf : al_mi yX4_sizeOf cX4_sizeOf 2 (some .int) 1 := ⟨al_mv_X4_sizeOf, al_in_X4_sizeOf, al_se_X4_sizeOf⟩
set_option maxHeartbeats 4000000 in
set_option maxRecDepth 100000 in
theorem al_X4_sizeOf (l : Launch) (D : va_G) (cy : al_CY) (ad : Nat → Nat) (σ : al_St) (x : Int32) : al_MP l yX4_sizeOf cX4_sizeOf 2 (some .int) 1 21 D cy ad σ [.ref (ad (5)), .int x] (some (.int (al_rg (σ.1 18) x))) := by
  refine al_met al_mv_X4_sizeOf (Nat.le_of_ble_eq_true rfl) ?_
  intro p e s m args below meth c ls S hr hlocks hK hW hS hl
  have hl : lv_has ls 2 [(0, .ref (ad (5))), (1, .int x)] := hl
  refine lv_aload_n S.1 S.2.1 dX4_sizeOf_0 rfl (lv_at hl 0 rfl) ?_
  refine al_g_RX4_37 S hK hW dX4_sizeOf_1 ?_
  refine lv_iload_n S.1 S.2.1 dX4_sizeOf_4 rfl (lv_at hl 1 rfl) ?_
  refine al_cP (rest := []) S hK hW (al_X2_get l D cy ad σ 18 (by omega) x) al_mi_X2_get al_ml_RX4_79 rfl (al_rc_R D cy ad _ (i := 18) (by omega)) rfl hl.1 rfl (Nat.le_of_ble_eq_true rfl) dX4_sizeOf_5 ⟨Nat.le_of_ble_eq_true rfl, Nat.le_of_ble_eq_true rfl⟩ ⟨Nat.zero_le _, Nat.zero_le _⟩ ?_
  refine W.eq (g2 := F0 m 8 ls [.int (al_rg (σ.1 18) x)]) rfl ?_
  exact W.iret S.1 S.2.1 hr (fun t9 ht9 _ => ⟨(congrArg (fun z => Outcome.returned (some (Value.int z))) rfl), ht9⟩) (fun q hq => absurd hq List.not_mem_nil) dX4_sizeOf_8
theorem al_mv_X4_longChildOf : al_mv yX4_longChildOf cX4_longChildOf 2 (some .int) 1 := ⟨al_c_X4_longChildOf, al_ini_RX4, ⟨by decide +kernel, by decide +kernel, by decide +kernel⟩, by decide +kernel⟩
theorem al_mi_X4_longChildOf : al_mi yX4_longChildOf cX4_longChildOf 2 (some .int) 1 := ⟨al_mv_X4_longChildOf, al_in_X4_longChildOf, al_se_X4_longChildOf⟩
set_option maxHeartbeats 4000000 in
set_option maxRecDepth 100000 in
theorem al_X4_longChildOf (l : Launch) (D : va_G) (cy : al_CY) (ad : Nat → Nat) (σ : al_St) (x : Int32) : al_MP l yX4_longChildOf cX4_longChildOf 2 (some .int) 1 21 D cy ad σ [.ref (ad (5)), .int x] (some (.int (al_rg (σ.1 19) x))) := by
  refine al_met al_mv_X4_longChildOf (Nat.le_of_ble_eq_true rfl) ?_
  intro p e s m args below meth c ls S hr hlocks hK hW hS hl
  have hl : lv_has ls 2 [(0, .ref (ad (5))), (1, .int x)] := hl
  refine lv_aload_n S.1 S.2.1 dX4_longChildOf_0 rfl (lv_at hl 0 rfl) ?_
  refine al_g_RX4_40 S hK hW dX4_longChildOf_1 ?_
  refine lv_iload_n S.1 S.2.1 dX4_longChildOf_4 rfl (lv_at hl 1 rfl) ?_
  refine al_cP (rest := []) S hK hW (al_X2_get l D cy ad σ 19 (by omega) x) al_mi_X2_get al_ml_RX4_79 rfl (al_rc_R D cy ad _ (i := 19) (by omega)) rfl hl.1 rfl (Nat.le_of_ble_eq_true rfl) dX4_longChildOf_5 ⟨Nat.le_of_ble_eq_true rfl, Nat.le_of_ble_eq_true rfl⟩ ⟨Nat.zero_le _, Nat.zero_le _⟩ ?_
  refine W.eq (g2 := F0 m 8 ls [.int (al_rg (σ.1 19) x)]) rfl ?_
  exact W.iret S.1 S.2.1 hr (fun t9 ht9 _ => ⟨(congrArg (fun z => Outcome.returned (some (Value.int z))) rfl), ht9⟩) (fun q hq => absurd hq List.not_mem_nil) dX4_longChildOf_8
theorem al_mv_X4_topOf : al_mv yX4_topOf cX4_topOf 2 (some .int) 1 := ⟨al_c_X4_topOf, al_ini_RX4, ⟨by decide +kernel, by decide +kernel, by decide +kernel⟩, by decide +kernel⟩
theorem al_mi_X4_topOf : al_mi yX4_topOf cX4_topOf 2 (some .int) 1 := ⟨al_mv_X4_topOf, al_in_X4_topOf, al_se_X4_topOf⟩
set_option maxHeartbeats 4000000 in
set_option maxRecDepth 100000 in
theorem al_X4_topOf (l : Launch) (D : va_G) (cy : al_CY) (ad : Nat → Nat) (σ : al_St) (x : Int32) : al_MP l yX4_topOf cX4_topOf 2 (some .int) 1 21 D cy ad σ [.ref (ad (5)), .int x] (some (.int (al_rg (σ.1 20) x))) := by
  refine al_met al_mv_X4_topOf (Nat.le_of_ble_eq_true rfl) ?_
  intro p e s m args below meth c ls S hr hlocks hK hW hS hl
  have hl : lv_has ls 2 [(0, .ref (ad (5))), (1, .int x)] := hl
  refine lv_aload_n S.1 S.2.1 dX4_topOf_0 rfl (lv_at hl 0 rfl) ?_
  refine al_g_RX4_43 S hK hW dX4_topOf_1 ?_
  refine lv_iload_n S.1 S.2.1 dX4_topOf_4 rfl (lv_at hl 1 rfl) ?_
  refine al_cP (rest := []) S hK hW (al_X2_get l D cy ad σ 20 (by omega) x) al_mi_X2_get al_ml_RX4_79 rfl (al_rc_R D cy ad _ (i := 20) (by omega)) rfl hl.1 rfl (Nat.le_of_ble_eq_true rfl) dX4_topOf_5 ⟨Nat.le_of_ble_eq_true rfl, Nat.le_of_ble_eq_true rfl⟩ ⟨Nat.zero_le _, Nat.zero_le _⟩ ?_
  refine W.eq (g2 := F0 m 8 ls [.int (al_rg (σ.1 20) x)]) rfl ?_
  exact W.iret S.1 S.2.1 hr (fun t9 ht9 _ => ⟨(congrArg (fun z => Outcome.returned (some (Value.int z))) rfl), ht9⟩) (fun q hq => absurd hq List.not_mem_nil) dX4_topOf_8
theorem al_mv_X4_footOf : al_mv yX4_footOf cX4_footOf 2 (some .int) 1 := ⟨al_c_X4_footOf, al_ini_RX4, ⟨by decide +kernel, by decide +kernel, by decide +kernel⟩, by decide +kernel⟩
theorem al_mi_X4_footOf : al_mi yX4_footOf cX4_footOf 2 (some .int) 1 := ⟨al_mv_X4_footOf, al_in_X4_footOf, al_se_X4_footOf⟩
set_option maxHeartbeats 4000000 in
set_option maxRecDepth 100000 in
theorem al_X4_footOf (l : Launch) (D : va_G) (cy : al_CY) (ad : Nat → Nat) (σ : al_St) (x : Int32) : al_MP l yX4_footOf cX4_footOf 2 (some .int) 1 21 D cy ad σ [.ref (ad (5)), .int x] (some (.int (al_rg (σ.1 21) x))) := by
  refine al_met al_mv_X4_footOf (Nat.le_of_ble_eq_true rfl) ?_
  intro p e s m args below meth c ls S hr hlocks hK hW hS hl
  have hl : lv_has ls 2 [(0, .ref (ad (5))), (1, .int x)] := hl
  refine lv_aload_n S.1 S.2.1 dX4_footOf_0 rfl (lv_at hl 0 rfl) ?_
  refine al_g_RX4_46 S hK hW dX4_footOf_1 ?_
  refine lv_iload_n S.1 S.2.1 dX4_footOf_4 rfl (lv_at hl 1 rfl) ?_
  refine al_cP (rest := []) S hK hW (al_X2_get l D cy ad σ 21 (by omega) x) al_mi_X2_get al_ml_RX4_79 rfl (al_rc_R D cy ad _ (i := 21) (by omega)) rfl hl.1 rfl (Nat.le_of_ble_eq_true rfl) dX4_footOf_5 ⟨Nat.le_of_ble_eq_true rfl, Nat.le_of_ble_eq_true rfl⟩ ⟨Nat.zero_le _, Nat.zero_le _⟩ ?_
  refine W.eq (g2 := F0 m 8 ls [.int (al_rg (σ.1 21) x)]) rfl ?_
  exact W.iret S.1 S.2.1 hr (fun t9 ht9 _ => ⟨(congrArg (fun z => Outcome.returned (some (Value.int z))) rfl), ht9⟩) (fun q hq => absurd hq List.not_mem_nil) dX4_footOf_8
theorem al_mv_X4_present : al_mv yX4_present cX4_present 1 (some .int) 0 := ⟨al_c_X4_present, al_ini_RX4, ⟨by decide +kernel, by decide +kernel, by decide +kernel⟩, by decide +kernel⟩
theorem al_mi_X4_present : al_mi yX4_present cX4_present 1 (some .int) 0 := ⟨al_mv_X4_present, al_in_X4_present, al_se_X4_present⟩
set_option maxHeartbeats 4000000 in
set_option maxRecDepth 100000 in
theorem al_X4_present (l : Launch) (D : va_G) (cy : al_CY) (ad : Nat → Nat) (σ : al_St) : al_MP l yX4_present cX4_present 1 (some .int) 0 0 D cy ad σ [.ref (ad (5))] (some (.int (σ.2.2.1 9))) := by
  refine al_met al_mv_X4_present (Nat.le_of_ble_eq_true rfl) ?_
  intro p e s m args below meth c ls S hr hlocks hK hW hS hl
  have hl : lv_has ls 1 [(0, .ref (ad (5)))] := hl
  refine lv_aload_n S.1 S.2.1 dX4_present_0 rfl (lv_at hl 0 rfl) ?_
  refine al_g_RX4_49 S hK hW dX4_present_1 ?_
  exact W.iret S.1 S.2.1 hr (fun t9 ht9 _ => ⟨(congrArg (fun z => Outcome.returned (some (Value.int z))) rfl), ht9⟩) (fun q hq => absurd hq List.not_mem_nil) dX4_present_4
theorem al_mv_X4_isLeaf : al_mv yX4_isLeaf cX4_isLeaf 2 (some .boolean) 1 := ⟨al_c_X4_isLeaf, al_ini_RX4, ⟨by decide +kernel, by decide +kernel, by decide +kernel⟩, by decide +kernel⟩
theorem al_mi_X4_isLeaf : al_mi yX4_isLeaf cX4_isLeaf 2 (some .boolean) 1 := ⟨al_mv_X4_isLeaf, al_in_X4_isLeaf, al_se_X4_isLeaf⟩
set_option maxHeartbeats 4000000 in
set_option maxRecDepth 100000 in
theorem al_X4_isLeaf (l : Launch) (D : va_G) (cy : al_CY) (ad : Nat → Nat) (σ : al_St) (x : Int32) : al_MP l yX4_isLeaf cX4_isLeaf 2 (some .boolean) 1 21 D cy ad σ [.ref (ad (5)), .int x] (some (.int (al_isLf σ x))) := by
  refine al_met al_mv_X4_isLeaf (Nat.le_of_ble_eq_true rfl) ?_
  intro p e s m args below meth c ls S hr hlocks hK hW hS hl
  have hl : lv_has ls 2 [(0, .ref (ad (5))), (1, .int x)] := hl
  refine lv_aload_n S.1 S.2.1 dX4_isLeaf_0 rfl (lv_at hl 0 rfl) ?_
  refine al_g_RX4_34 S hK hW dX4_isLeaf_1 ?_
  refine lv_iload_n S.1 S.2.1 dX4_isLeaf_4 rfl (lv_at hl 1 rfl) ?_
  refine al_cP (rest := []) S hK hW (al_X2_get l D cy ad σ 17 (by omega) x) al_mi_X2_get al_ml_RX4_79 rfl (al_rc_R D cy ad _ (i := 17) (by omega)) rfl hl.1 rfl (Nat.le_of_ble_eq_true rfl) dX4_isLeaf_5 ⟨Nat.le_of_ble_eq_true rfl, Nat.le_of_ble_eq_true rfl⟩ ⟨Nat.zero_le _, Nat.zero_le _⟩ ?_
  refine W.eq (g2 := F0 m 8 ls [.int (al_rg (σ.1 17) x)]) rfl ?_
  refine lv_if_ne (tgt := 15) S.1 S.2.1 dX4_isLeaf_8 (by decide) (fun c1 => ?_) (fun c1 => ?_)
  · refine lv_iconst (v := 0) S.1 S.2.1 dX4_isLeaf_15 (by decide) ?_
    exact W.zret S.1 S.2.1 hr rfl (fun t9 ht9 _ => ⟨(congrArg (fun z => Outcome.returned (some (Value.int z))) (by simp only [al_isLf, if_neg (c1)])), ht9⟩) (fun q hq => absurd hq List.not_mem_nil) dX4_isLeaf_16
  · refine lv_iconst (v := 1) S.1 S.2.1 dX4_isLeaf_11 (by decide) ?_
    refine lv_goto (tgt := 16) S.1 S.2.1 dX4_isLeaf_12 (by decide) ?_
    exact W.zret S.1 S.2.1 hr rfl (fun t9 ht9 _ => ⟨(congrArg (fun z => Outcome.returned (some (Value.int z))) (by simp only [al_isLf, if_pos (c1)])), ht9⟩) (fun q hq => absurd hq List.not_mem_nil) dX4_isLeaf_16
theorem al_mv_X4_longWayOf : al_mv yX4_longWayOf cX4_longWayOf 2 (some .int) 1 := ⟨al_c_X4_longWayOf, al_ini_RX4, ⟨by decide +kernel, by decide +kernel, by decide +kernel⟩, by decide +kernel⟩
theorem al_mi_X4_longWayOf : al_mi yX4_longWayOf cX4_longWayOf 2 (some .int) 1 := ⟨al_mv_X4_longWayOf, al_in_X4_longWayOf, al_se_X4_longWayOf⟩
set_option maxHeartbeats 4000000 in
set_option maxRecDepth 100000 in
theorem al_X4_longWayOf (l : Launch) (D : va_G) (cy : al_CY) (ad : Nat → Nat) (σ : al_St) (x : Int32) : al_MP l yX4_longWayOf cX4_longWayOf 2 (some .int) 1 21 D cy ad σ [.ref (ad (5)), .int x] (some (.int (al_way σ x))) := by
  refine al_met al_mv_X4_longWayOf (Nat.le_of_ble_eq_true rfl) ?_
  intro p e s m args below meth c ls S hr hlocks hK hW hS hl
  have hl : lv_has ls 2 [(0, .ref (ad (5))), (1, .int x)] := hl
  refine lv_aload_n S.1 S.2.1 dX4_longWayOf_0 rfl (lv_at hl 0 rfl) ?_
  refine al_g_RX4_31 S hK hW dX4_longWayOf_1 ?_
  refine lv_aload_n S.1 S.2.1 dX4_longWayOf_4 rfl (lv_at hl 0 rfl) ?_
  refine al_g_RX4_43 S hK hW dX4_longWayOf_5 ?_
  refine lv_iload_n S.1 S.2.1 dX4_longWayOf_8 rfl (lv_at hl 1 rfl) ?_
  refine al_cP (rest := [.ref (ad (14 + 2 * 16))]) S hK hW (al_X2_get l D cy ad σ 20 (by omega) x) al_mi_X2_get al_ml_RX4_79 rfl (al_rc_R D cy ad _ (i := 20) (by omega)) rfl hl.1 rfl (Nat.le_of_ble_eq_true rfl) dX4_longWayOf_9 ⟨Nat.le_of_ble_eq_true rfl, Nat.le_of_ble_eq_true rfl⟩ ⟨Nat.zero_le _, Nat.zero_le _⟩ ?_
  refine W.eq (g2 := F0 m 12 ls [.int (al_rg (σ.1 20) x), .ref (ad (14 + 2 * 16))]) rfl ?_
  refine al_cP (rest := []) S hK hW (al_X2_get l D cy ad σ 16 (by omega) (al_rg (σ.1 20) x)) al_mi_X2_get al_ml_RX4_79 rfl (al_rc_R D cy ad _ (i := 16) (by omega)) rfl hl.1 rfl (Nat.le_of_ble_eq_true rfl) dX4_longWayOf_12 ⟨Nat.le_of_ble_eq_true rfl, Nat.le_of_ble_eq_true rfl⟩ ⟨Nat.zero_le _, Nat.zero_le _⟩ ?_
  refine W.eq (g2 := F0 m 15 ls [.int (al_rg (σ.1 16) (al_rg (σ.1 20) x))]) rfl ?_
  refine lv_iconst (v := 1) S.1 S.2.1 dX4_longWayOf_15 (by decide) ?_
  refine lv_iadd S.1 S.2.1 dX4_longWayOf_16 ?_
  exact W.iret S.1 S.2.1 hr (fun t9 ht9 _ => ⟨(congrArg (fun z => Outcome.returned (some (Value.int z))) (by simp only [al_way])), ht9⟩) (fun q hq => absurd hq List.not_mem_nil) dX4_longWayOf_17
theorem al_mv_X4_ladderOf : al_mv yX4_ladderOf cX4_ladderOf 2 (some .int) 1 := ⟨al_c_X4_ladderOf, al_ini_RX4, ⟨by decide +kernel, by decide +kernel, by decide +kernel⟩, by decide +kernel⟩
theorem al_mi_X4_ladderOf : al_mi yX4_ladderOf cX4_ladderOf 2 (some .int) 1 := ⟨al_mv_X4_ladderOf, al_in_X4_ladderOf, al_se_X4_ladderOf⟩
set_option maxHeartbeats 4000000 in
set_option maxRecDepth 100000 in
theorem al_X4_ladderOf (l : Launch) (D : va_G) (cy : al_CY) (ad : Nat → Nat) (σ : al_St) (x : Int32) : al_MP l yX4_ladderOf cX4_ladderOf 2 (some .int) 2 42 D cy ad σ [.ref (ad (5)), .int x] (some (.int (al_lad σ x))) := by
  refine al_met al_mv_X4_ladderOf (Nat.le_of_ble_eq_true rfl) ?_
  intro p e s m args below meth c ls S hr hlocks hK hW hS hl
  have hl : lv_has ls 2 [(0, .ref (ad (5))), (1, .int x)] := hl
  refine lv_aload_n S.1 S.2.1 dX4_ladderOf_0 rfl (lv_at hl 0 rfl) ?_
  refine lv_iload_n S.1 S.2.1 dX4_ladderOf_1 rfl (lv_at hl 1 rfl) ?_
  refine al_cP (rest := []) S hK hW (al_X4_longWayOf l D cy ad σ x) al_mi_X4_longWayOf al_ml_RX4_89 rfl (al_rc_4 D cy ad _) rfl hl.1 rfl (Nat.le_of_ble_eq_true rfl) dX4_ladderOf_2 ⟨Nat.le_of_ble_eq_true rfl, Nat.le_of_ble_eq_true rfl⟩ ⟨Nat.zero_le _, Nat.zero_le _⟩ ?_
  refine W.eq (g2 := F0 m 5 ls [.int (al_way σ x)]) rfl ?_
  refine lv_aload_n S.1 S.2.1 dX4_ladderOf_5 rfl (lv_at hl 0 rfl) ?_
  refine lv_iload_n S.1 S.2.1 dX4_ladderOf_6 rfl (lv_at hl 1 rfl) ?_
  refine al_cP (rest := [.int (al_way σ x)]) S hK hW (al_X4_longWayOf l D cy ad σ x) al_mi_X4_longWayOf al_ml_RX4_89 rfl (al_rc_4 D cy ad _) rfl hl.1 rfl (Nat.le_of_ble_eq_true rfl) dX4_ladderOf_7 ⟨Nat.le_of_ble_eq_true rfl, Nat.le_of_ble_eq_true rfl⟩ ⟨Nat.zero_le _, Nat.zero_le _⟩ ?_
  refine W.eq (g2 := F0 m 10 ls [.int (al_way σ x), .int (al_way σ x)]) rfl ?_
  refine lv_aload_n S.1 S.2.1 dX4_ladderOf_10 rfl (lv_at hl 0 rfl) ?_
  refine al_g_RX4_28 S hK hW dX4_ladderOf_11 ?_
  refine lv_aload_n S.1 S.2.1 dX4_ladderOf_14 rfl (lv_at hl 0 rfl) ?_
  refine al_g_RX4_43 S hK hW dX4_ladderOf_15 ?_
  refine lv_iload_n S.1 S.2.1 dX4_ladderOf_18 rfl (lv_at hl 1 rfl) ?_
  refine al_cP (rest := [.ref (ad (14 + 2 * 15)), .int (al_way σ x), .int (al_way σ x)]) S hK hW (al_X2_get l D cy ad σ 20 (by omega) x) al_mi_X2_get al_ml_RX4_79 rfl (al_rc_R D cy ad _ (i := 20) (by omega)) rfl hl.1 rfl (Nat.le_of_ble_eq_true rfl) dX4_ladderOf_19 ⟨Nat.le_of_ble_eq_true rfl, Nat.le_of_ble_eq_true rfl⟩ ⟨Nat.zero_le _, Nat.zero_le _⟩ ?_
  refine W.eq (g2 := F0 m 22 ls [.int (al_rg (σ.1 20) x), .ref (ad (14 + 2 * 15)), .int (al_way σ x), .int (al_way σ x)]) rfl ?_
  refine al_cP (rest := [.int (al_way σ x), .int (al_way σ x)]) S hK hW (al_X2_get l D cy ad σ 15 (by omega) (al_rg (σ.1 20) x)) al_mi_X2_get al_ml_RX4_79 rfl (al_rc_R D cy ad _ (i := 15) (by omega)) rfl hl.1 rfl (Nat.le_of_ble_eq_true rfl) dX4_ladderOf_22 ⟨Nat.le_of_ble_eq_true rfl, Nat.le_of_ble_eq_true rfl⟩ ⟨Nat.zero_le _, Nat.zero_le _⟩ ?_
  refine W.eq (g2 := F0 m 25 ls [.int (al_rg (σ.1 15) (al_rg (σ.1 20) x)), .int (al_way σ x), .int (al_way σ x)]) rfl ?_
  refine al_mmin S hl.1 al_ml_RX4_92 (rest := [.int (al_way σ x)]) (Nat.le_of_ble_eq_true rfl) (Nat.le_of_ble_eq_true rfl) (Nat.zero_le _) (Nat.zero_le _) dX4_ladderOf_25 ?_
  refine lv_iadd S.1 S.2.1 dX4_ladderOf_28 ?_
  exact W.iret S.1 S.2.1 hr (fun t9 ht9 _ => ⟨(congrArg (fun z => Outcome.returned (some (Value.int z))) (by simp only [al_lad])), ht9⟩) (fun q hq => absurd hq List.not_mem_nil) dX4_ladderOf_29
set_option maxHeartbeats 4000000 in
set_option maxRecDepth 100000 in
theorem al_lp_X4_climb {p : Program} {e : Env} {s : State} {m : MethodId} {args : Array Value} {below : List Frame} {meth : Method} {c : Code} {Q : State → Prop} (l : Launch) (D : va_G) (cy : al_CY) (ad : Nat → Nat) (y : Int32) (S : CallFix p m c cX4_climb 5 s args al_G RX4) (hK : va_K D vwCl (al_tys cy) s) {H : Heap} {locs : List Loc} {σ : al_St} (hW : al_H D cy ad σ H) : ∀ (n : Nat) (k : Nat) (a : Int32) (ls : Array Slot), n + k = y.toNatClampNeg → lv_has ls 5 [(0, .ref (ad (5))), (2, .int y), (3, .int a), (4, .int (nI k))] → (∀ (a' : Int32) (ls : Array Slot), al_climb σ n a = a' → lv_has ls 5 [(0, .ref (ad (5))), (3, .int a')] → W p l e (al_rm 2 42) s m args below meth c H locs 0 0 Q (F0 m 31 ls [])) → W p l e (al_rm 2 42) s m args below meth c H locs 0 0 Q (F0 m 5 ls []) := by
  intro n
  induction n with
  | zero =>
    intro k a ls hk hl K
    refine lv_iload S.1 S.2.1 dX4_climb_5 (lv_at hl 3 rfl) ?_
    refine lv_iload_n S.1 S.2.1 dX4_climb_7 rfl (lv_at hl 1 rfl) ?_
    refine lv_icmp_ge (tgt := 31) S.1 S.2.1 dX4_climb_8 (by decide) (fun c1 => ?_) (fun c1 => ?_)
    · exact K a _ (by simp only [al_climb, if_pos (c1)]) (lv_sub hl [0, 2] rfl)
    · exact absurd ((al_le_nI (Nat.lt_of_le_of_lt (show k ≤ y.toNatClampNeg by omega) (al_tn_lt y))).mpr (by omega)) c1
  | succ n ih =>
    intro k a ls hk hl K
    refine lv_iload S.1 S.2.1 dX4_climb_5 (lv_at hl 3 rfl) ?_
    refine lv_iload_n S.1 S.2.1 dX4_climb_7 rfl (lv_at hl 1 rfl) ?_
    refine lv_icmp_ge (tgt := 31) S.1 S.2.1 dX4_climb_8 (by decide) (fun c1 => ?_) (fun c1 => ?_)
    · exact absurd c1 (fun hc => absurd ((al_le_nI (Nat.lt_of_le_of_lt (show k ≤ y.toNatClampNeg by omega) (al_tn_lt y))).mp hc) (by omega))
    · refine lv_iload_n S.1 S.2.1 dX4_climb_11 rfl (lv_at hl 2 rfl) ?_
      refine lv_iconst (v := -1) S.1 S.2.1 dX4_climb_12 (by decide) ?_
      refine lv_icmp_eq (tgt := 31) S.1 S.2.1 dX4_climb_13 (by decide) (fun c2 => ?_) (fun c2 => ?_)
      · exact K a _ (by simp only [al_climb, if_neg (c1), if_pos (c2)]) (lv_sub hl [0, 2] rfl)
      · refine lv_aload_n S.1 S.2.1 dX4_climb_16 rfl (lv_at hl 0 rfl) ?_
        refine al_g_RX4_9 S hK hW dX4_climb_17 ?_
        refine lv_iload_n S.1 S.2.1 dX4_climb_20 rfl (lv_at hl 2 rfl) ?_
        refine al_cP (rest := []) S hK hW (al_X6_parentOf l D cy ad σ 0 (by omega) a) al_mi_X6_parentOf al_ml_RX4_75 rfl (al_rc_T D cy ad _ (t := 0) (by omega)) rfl hl.1 rfl (Nat.le_of_ble_eq_true rfl) dX4_climb_21 ⟨Nat.le_of_ble_eq_true rfl, Nat.le_of_ble_eq_true rfl⟩ ⟨Nat.zero_le _, Nat.zero_le _⟩ ?_
        refine W.eq (g2 := F0 m 24 ls [.int (al_rg (σ.1 (2 * 0)) a)]) rfl ?_
        refine lv_istore_n (lv' := [(3, .int (al_rg (σ.1 (2 * 0)) a)), (0, .ref (ad (5))), (2, .int y), (4, .int (nI k))]) S.1 S.2.1 dX4_climb_24 rfl hl (by decide) rfl (fun ls hl => ?_)
        refine lv_iinc (k := 3) (v := nI (k + 1)) (lv' := [(4, .int (nI (k + 1))), (3, .int (al_rg (σ.1 (2 * 0)) a)), (0, .ref (ad (5))), (2, .int y)]) S.1 S.2.1 dX4_climb_25 hl rfl (al_inc k) (by decide) rfl (fun ls hl => ?_)
        refine lv_goto (tgt := 5) S.1 S.2.1 dX4_climb_28 (by decide) ?_
        exact ih (k + 1) (al_rg (σ.1 (2 * 0)) a) _ (by omega) (lv_sub hl [2, 3, 1, 0] rfl) (fun a' ls e9 hl => K a' ls (by simp only [al_climb, if_neg (c1), if_neg (c2)]; exact e9) hl)
theorem al_mv_X4_climb : al_mv yX4_climb cX4_climb 5 (some .int) 2 := ⟨al_c_X4_climb, al_ini_RX4, ⟨by decide +kernel, by decide +kernel, by decide +kernel⟩, by decide +kernel⟩
theorem al_mi_X4_climb : al_mi yX4_climb cX4_climb 5 (some .int) 2 := ⟨al_mv_X4_climb, al_in_X4_climb, al_se_X4_climb⟩
set_option maxHeartbeats 4000000 in
set_option maxRecDepth 100000 in
theorem al_X4_climb (l : Launch) (D : va_G) (cy : al_CY) (ad : Nat → Nat) (σ : al_St) (x : Int32) (y : Int32) : al_MP l yX4_climb cX4_climb 5 (some .int) 2 42 D cy ad σ [.ref (ad (5)), .int x, .int y] (some (.int (al_cl σ x y))) := by
  refine al_met al_mv_X4_climb (Nat.le_of_ble_eq_true rfl) ?_
  intro p e s m args below meth c ls S hr hlocks hK hW hS hl
  have hl : lv_has ls 5 [(0, .ref (ad (5))), (1, .int x), (2, .int y)] := hl
  refine lv_iload_n S.1 S.2.1 dX4_climb_0 rfl (lv_at hl 1 rfl) ?_
  refine lv_istore_n (lv' := [(3, .int x), (0, .ref (ad (5))), (1, .int x), (2, .int y)]) S.1 S.2.1 dX4_climb_1 rfl hl (by decide) rfl (fun ls hl => ?_)
  refine lv_iconst (v := 0) S.1 S.2.1 dX4_climb_2 (by decide) ?_
  refine lv_istore (lv' := [(4, .int 0), (3, .int x), (0, .ref (ad (5))), (1, .int x), (2, .int y)]) S.1 S.2.1 dX4_climb_3 hl (by decide) rfl (fun ls hl => ?_)
  refine al_lp_X4_climb l D cy ad y S hK hW y.toNatClampNeg 0 x _ (Nat.add_zero _) (lv_sub hl [2, 4, 1, 0] rfl) (fun a1 ls e2 hl => ?_)
  refine lv_iload_n S.1 S.2.1 dX4_climb_31 rfl (lv_at hl 1 rfl) ?_
  exact W.iret S.1 S.2.1 hr (fun t9 ht9 _ => ⟨(congrArg (fun z => Outcome.returned (some (Value.int z))) (by simp only [al_cl, e2])), ht9⟩) (fun q hq => absurd hq List.not_mem_nil) dX4_climb_32
theorem al_mv_X4_isInBranch : al_mv yX4_isInBranch cX4_isInBranch 4 (some .boolean) 2 := ⟨al_c_X4_isInBranch, al_ini_RX4, ⟨by decide +kernel, by decide +kernel, by decide +kernel⟩, by decide +kernel⟩
theorem al_mi_X4_isInBranch : al_mi yX4_isInBranch cX4_isInBranch 4 (some .boolean) 2 := ⟨al_mv_X4_isInBranch, al_in_X4_isInBranch, al_se_X4_isInBranch⟩
set_option maxHeartbeats 4000000 in
set_option maxRecDepth 100000 in
theorem al_X4_isInBranch (l : Launch) (D : va_G) (cy : al_CY) (ad : Nat → Nat) (σ : al_St) (x : Int32) (y : Int32) : al_MP l yX4_isInBranch cX4_isInBranch 4 (some .boolean) 3 66 D cy ad σ [.ref (ad (5)), .int x, .int y] (some (.int (al_inB σ x y))) := by
  refine al_met al_mv_X4_isInBranch (Nat.le_of_ble_eq_true rfl) ?_
  intro p e s m args below meth c ls S hr hlocks hK hW hS hl
  have hl : lv_has ls 4 [(0, .ref (ad (5))), (1, .int x), (2, .int y)] := hl
  refine lv_aload_n S.1 S.2.1 dX4_isInBranch_0 rfl (lv_at hl 0 rfl) ?_
  refine al_g_RX4_28 S hK hW dX4_isInBranch_1 ?_
  refine lv_iload_n S.1 S.2.1 dX4_isInBranch_4 rfl (lv_at hl 1 rfl) ?_
  refine al_cP (rest := []) S hK hW (al_X2_get l D cy ad σ 15 (by omega) x) al_mi_X2_get al_ml_RX4_79 rfl (al_rc_R D cy ad _ (i := 15) (by omega)) rfl hl.1 rfl (Nat.le_of_ble_eq_true rfl) dX4_isInBranch_5 ⟨Nat.le_of_ble_eq_true rfl, Nat.le_of_ble_eq_true rfl⟩ ⟨Nat.zero_le _, Nat.zero_le _⟩ ?_
  refine W.eq (g2 := F0 m 8 ls [.int (al_rg (σ.1 15) x)]) rfl ?_
  refine lv_aload_n S.1 S.2.1 dX4_isInBranch_8 rfl (lv_at hl 0 rfl) ?_
  refine al_g_RX4_28 S hK hW dX4_isInBranch_9 ?_
  refine lv_iload_n S.1 S.2.1 dX4_isInBranch_12 rfl (lv_at hl 2 rfl) ?_
  refine al_cP (rest := [.int (al_rg (σ.1 15) x)]) S hK hW (al_X2_get l D cy ad σ 15 (by omega) y) al_mi_X2_get al_ml_RX4_79 rfl (al_rc_R D cy ad _ (i := 15) (by omega)) rfl hl.1 rfl (Nat.le_of_ble_eq_true rfl) dX4_isInBranch_13 ⟨Nat.le_of_ble_eq_true rfl, Nat.le_of_ble_eq_true rfl⟩ ⟨Nat.zero_le _, Nat.zero_le _⟩ ?_
  refine W.eq (g2 := F0 m 16 ls [.int (al_rg (σ.1 15) y), .int (al_rg (σ.1 15) x)]) rfl ?_
  refine lv_isub S.1 S.2.1 dX4_isInBranch_16 ?_
  refine lv_istore_n (lv' := [(3, .int ((al_rg (σ.1 15) x) - (al_rg (σ.1 15) y))), (0, .ref (ad (5))), (1, .int x), (2, .int y)]) S.1 S.2.1 dX4_isInBranch_17 rfl hl (by decide) rfl (fun ls hl => ?_)
  refine lv_iload_n S.1 S.2.1 dX4_isInBranch_18 rfl (lv_at hl 0 rfl) ?_
  refine lv_if_lt (tgt := 36) S.1 S.2.1 dX4_isInBranch_19 (by decide) (fun c1 => ?_) (fun c1 => ?_)
  · refine lv_iconst (v := 0) S.1 S.2.1 dX4_isInBranch_36 (by decide) ?_
    exact W.zret S.1 S.2.1 hr rfl (fun t9 ht9 _ => ⟨(congrArg (fun z => Outcome.returned (some (Value.int z))) (by simp only [al_inB, if_pos (c1)])), ht9⟩) (fun q hq => absurd hq List.not_mem_nil) dX4_isInBranch_37
  · refine lv_aload_n S.1 S.2.1 dX4_isInBranch_22 rfl (lv_at hl 1 rfl) ?_
    refine lv_iload_n S.1 S.2.1 dX4_isInBranch_23 rfl (lv_at hl 2 rfl) ?_
    refine lv_iload_n S.1 S.2.1 dX4_isInBranch_24 rfl (lv_at hl 0 rfl) ?_
    refine al_cP (rest := []) S hK hW (al_X4_climb l D cy ad σ x ((al_rg (σ.1 15) x) - (al_rg (σ.1 15) y))) al_mi_X4_climb al_ml_RX4_98 rfl (al_rc_4 D cy ad _) rfl hl.1 rfl (Nat.le_of_ble_eq_true rfl) dX4_isInBranch_25 ⟨Nat.le_of_ble_eq_true rfl, Nat.le_of_ble_eq_true rfl⟩ ⟨Nat.zero_le _, Nat.zero_le _⟩ ?_
    refine W.eq (g2 := F0 m 28 ls [.int (al_cl σ x ((al_rg (σ.1 15) x) - (al_rg (σ.1 15) y)))]) rfl ?_
    refine lv_iload_n S.1 S.2.1 dX4_isInBranch_28 rfl (lv_at hl 3 rfl) ?_
    refine lv_icmp_ne (tgt := 36) S.1 S.2.1 dX4_isInBranch_29 (by decide) (fun c2 => ?_) (fun c2 => ?_)
    · refine lv_iconst (v := 0) S.1 S.2.1 dX4_isInBranch_36 (by decide) ?_
      exact W.zret S.1 S.2.1 hr rfl (fun t9 ht9 _ => ⟨(congrArg (fun z => Outcome.returned (some (Value.int z))) (by simp only [al_inB, if_neg (c1), if_neg (c2)])), ht9⟩) (fun q hq => absurd hq List.not_mem_nil) dX4_isInBranch_37
    · refine lv_iconst (v := 1) S.1 S.2.1 dX4_isInBranch_32 (by decide) ?_
      refine lv_goto (tgt := 37) S.1 S.2.1 dX4_isInBranch_33 (by decide) ?_
      exact W.zret S.1 S.2.1 hr rfl (fun t9 ht9 _ => ⟨(congrArg (fun z => Outcome.returned (some (Value.int z))) (by simp only [al_inB, if_neg (c1), if_pos (c2)])), ht9⟩) (fun q hq => absurd hq List.not_mem_nil) dX4_isInBranch_37
set_option maxHeartbeats 4000000 in
set_option maxRecDepth 100000 in
theorem al_lp_X4_meet {p : Program} {e : Env} {s : State} {m : MethodId} {args : Array Value} {below : List Frame} {meth : Method} {c : Code} {Q : State → Prop} (l : Launch) (D : va_G) (cy : al_CY) (ad : Nat → Nat) (S : CallFix p m c cX4_meetingOf 6 s args al_G RX4) (hK : va_K D vwCl (al_tys cy) s) {H : Heap} {locs : List Loc} {σ : al_St} (hW : al_H D cy ad σ H) : ∀ (n : Nat) (k : Nat) (a : Int32) (b : Int32) (ls : Array Slot), k + n = 90 → lv_has ls 6 [(0, .ref (ad (5))), (3, .int a), (4, .int b), (5, .int (nI k))] → (∀ (a' : Int32) (ls : Array Slot), al_meetL σ n a b = a' → lv_has ls 6 [(0, .ref (ad (5))), (3, .int a')] → W p l e (al_rm 3 66) s m args below meth c H locs 0 0 Q (F0 m 89 ls [])) → W p l e (al_rm 3 66) s m args below meth c H locs 0 0 Q (F0 m 50 ls []) := by
  intro n
  induction n with
  | zero =>
    intro k a b ls hk hl K
    refine lv_iload S.1 S.2.1 dX4_meetingOf_50 (lv_at hl 3 rfl) ?_
    refine lv_bipush (v := 90) S.1 S.2.1 dX4_meetingOf_52 (by decide) ?_
    refine lv_icmp_ge (tgt := 89) S.1 S.2.1 dX4_meetingOf_54 (by decide) (fun c1 => ?_) (fun c1 => ?_)
    · exact K a _ (by simp only [al_meetL, if_pos (c1)]) (lv_sub hl [0, 1] rfl)
    · exact absurd (al_90' (by omega)) c1
  | succ n ih =>
    intro k a b ls hk hl K
    refine lv_iload S.1 S.2.1 dX4_meetingOf_50 (lv_at hl 3 rfl) ?_
    refine lv_bipush (v := 90) S.1 S.2.1 dX4_meetingOf_52 (by decide) ?_
    refine lv_icmp_ge (tgt := 89) S.1 S.2.1 dX4_meetingOf_54 (by decide) (fun c1 => ?_) (fun c1 => ?_)
    · exact absurd c1 (al_90 (by omega))
    · refine lv_iload_n S.1 S.2.1 dX4_meetingOf_57 rfl (lv_at hl 1 rfl) ?_
      refine lv_iload S.1 S.2.1 dX4_meetingOf_58 (lv_at hl 2 rfl) ?_
      refine lv_icmp_eq (tgt := 89) S.1 S.2.1 dX4_meetingOf_60 (by decide) (fun c2 => ?_) (fun c2 => ?_)
      · exact K a _ (by simp only [al_meetL, if_neg (c1), if_pos (c2)]) (lv_sub hl [0, 1] rfl)
      · refine lv_aload_n S.1 S.2.1 dX4_meetingOf_63 rfl (lv_at hl 0 rfl) ?_
        refine al_g_RX4_9 S hK hW dX4_meetingOf_64 ?_
        refine lv_iload_n S.1 S.2.1 dX4_meetingOf_67 rfl (lv_at hl 1 rfl) ?_
        refine al_cP (rest := []) S hK hW (al_X6_parentOf l D cy ad σ 0 (by omega) a) al_mi_X6_parentOf al_ml_RX4_75 rfl (al_rc_T D cy ad _ (t := 0) (by omega)) rfl hl.1 rfl (Nat.le_of_ble_eq_true rfl) dX4_meetingOf_68 ⟨Nat.le_of_ble_eq_true rfl, Nat.le_of_ble_eq_true rfl⟩ ⟨Nat.zero_le _, Nat.zero_le _⟩ ?_
        refine W.eq (g2 := F0 m 71 ls [.int (al_rg (σ.1 (2 * 0)) a)]) rfl ?_
        refine lv_istore_n (lv' := [(3, .int (al_rg (σ.1 (2 * 0)) a)), (0, .ref (ad (5))), (4, .int b), (5, .int (nI k))]) S.1 S.2.1 dX4_meetingOf_71 rfl hl (by decide) rfl (fun ls hl => ?_)
        refine lv_aload_n S.1 S.2.1 dX4_meetingOf_72 rfl (lv_at hl 1 rfl) ?_
        refine al_g_RX4_9 S hK hW dX4_meetingOf_73 ?_
        refine lv_iload S.1 S.2.1 dX4_meetingOf_76 (lv_at hl 2 rfl) ?_
        refine al_cP (rest := []) S hK hW (al_X6_parentOf l D cy ad σ 0 (by omega) b) al_mi_X6_parentOf al_ml_RX4_75 rfl (al_rc_T D cy ad _ (t := 0) (by omega)) rfl hl.1 rfl (Nat.le_of_ble_eq_true rfl) dX4_meetingOf_78 ⟨Nat.le_of_ble_eq_true rfl, Nat.le_of_ble_eq_true rfl⟩ ⟨Nat.zero_le _, Nat.zero_le _⟩ ?_
        refine W.eq (g2 := F0 m 81 ls [.int (al_rg (σ.1 (2 * 0)) b)]) rfl ?_
        refine lv_istore (lv' := [(4, .int (al_rg (σ.1 (2 * 0)) b)), (3, .int (al_rg (σ.1 (2 * 0)) a)), (0, .ref (ad (5))), (5, .int (nI k))]) S.1 S.2.1 dX4_meetingOf_81 hl (by decide) rfl (fun ls hl => ?_)
        refine lv_iinc (k := 3) (v := nI (k + 1)) (lv' := [(5, .int (nI (k + 1))), (4, .int (al_rg (σ.1 (2 * 0)) b)), (3, .int (al_rg (σ.1 (2 * 0)) a)), (0, .ref (ad (5)))]) S.1 S.2.1 dX4_meetingOf_83 hl rfl (al_inc k) (by decide) rfl (fun ls hl => ?_)
        refine lv_goto (tgt := 50) S.1 S.2.1 dX4_meetingOf_86 (by decide) ?_
        exact ih (k + 1) (al_rg (σ.1 (2 * 0)) a) (al_rg (σ.1 (2 * 0)) b) _ (by omega) (lv_sub hl [3, 2, 1, 0] rfl) (fun a' ls e9 hl => K a' ls (by simp only [al_meetL, if_neg (c1), if_neg (c2)]; exact e9) hl)
theorem al_mv_X4_meetingOf : al_mv yX4_meetingOf cX4_meetingOf 6 (some .int) 2 := ⟨al_c_X4_meetingOf, al_ini_RX4, ⟨by decide +kernel, by decide +kernel, by decide +kernel⟩, by decide +kernel⟩
theorem al_mi_X4_meetingOf : al_mi yX4_meetingOf cX4_meetingOf 6 (some .int) 2 := ⟨al_mv_X4_meetingOf, al_in_X4_meetingOf, al_se_X4_meetingOf⟩
set_option maxHeartbeats 4000000 in
set_option maxRecDepth 100000 in
theorem al_X4_meetingOf (l : Launch) (D : va_G) (cy : al_CY) (ad : Nat → Nat) (σ : al_St) (x : Int32) (y : Int32) : al_MP l yX4_meetingOf cX4_meetingOf 6 (some .int) 3 66 D cy ad σ [.ref (ad (5)), .int x, .int y] (some (.int (al_meet σ x y))) := by
  refine al_met al_mv_X4_meetingOf (Nat.le_of_ble_eq_true rfl) ?_
  intro p e s m args below meth c ls S hr hlocks hK hW hS hl
  have hl : lv_has ls 6 [(0, .ref (ad (5))), (1, .int x), (2, .int y)] := hl
  refine lv_aload_n S.1 S.2.1 dX4_meetingOf_0 rfl (lv_at hl 0 rfl) ?_
  refine lv_iload_n S.1 S.2.1 dX4_meetingOf_1 rfl (lv_at hl 1 rfl) ?_
  refine lv_aload_n S.1 S.2.1 dX4_meetingOf_2 rfl (lv_at hl 0 rfl) ?_
  refine al_g_RX4_28 S hK hW dX4_meetingOf_3 ?_
  refine lv_iload_n S.1 S.2.1 dX4_meetingOf_6 rfl (lv_at hl 1 rfl) ?_
  refine al_cP (rest := [.int x, .ref (ad (5))]) S hK hW (al_X2_get l D cy ad σ 15 (by omega) x) al_mi_X2_get al_ml_RX4_79 rfl (al_rc_R D cy ad _ (i := 15) (by omega)) rfl hl.1 rfl (Nat.le_of_ble_eq_true rfl) dX4_meetingOf_7 ⟨Nat.le_of_ble_eq_true rfl, Nat.le_of_ble_eq_true rfl⟩ ⟨Nat.zero_le _, Nat.zero_le _⟩ ?_
  refine W.eq (g2 := F0 m 10 ls [.int (al_rg (σ.1 15) x), .int x, .ref (ad (5))]) rfl ?_
  refine lv_aload_n S.1 S.2.1 dX4_meetingOf_10 rfl (lv_at hl 0 rfl) ?_
  refine al_g_RX4_28 S hK hW dX4_meetingOf_11 ?_
  refine lv_iload_n S.1 S.2.1 dX4_meetingOf_14 rfl (lv_at hl 2 rfl) ?_
  refine al_cP (rest := [.int (al_rg (σ.1 15) x), .int x, .ref (ad (5))]) S hK hW (al_X2_get l D cy ad σ 15 (by omega) y) al_mi_X2_get al_ml_RX4_79 rfl (al_rc_R D cy ad _ (i := 15) (by omega)) rfl hl.1 rfl (Nat.le_of_ble_eq_true rfl) dX4_meetingOf_15 ⟨Nat.le_of_ble_eq_true rfl, Nat.le_of_ble_eq_true rfl⟩ ⟨Nat.zero_le _, Nat.zero_le _⟩ ?_
  refine W.eq (g2 := F0 m 18 ls [.int (al_rg (σ.1 15) y), .int (al_rg (σ.1 15) x), .int x, .ref (ad (5))]) rfl ?_
  refine lv_isub S.1 S.2.1 dX4_meetingOf_18 ?_
  refine al_cP (rest := []) S hK hW (al_X4_climb l D cy ad σ x ((al_rg (σ.1 15) x) - (al_rg (σ.1 15) y))) al_mi_X4_climb al_ml_RX4_98 rfl (al_rc_4 D cy ad _) rfl hl.1 rfl (Nat.le_of_ble_eq_true rfl) dX4_meetingOf_19 ⟨Nat.le_of_ble_eq_true rfl, Nat.le_of_ble_eq_true rfl⟩ ⟨Nat.zero_le _, Nat.zero_le _⟩ ?_
  refine W.eq (g2 := F0 m 22 ls [.int (al_cl σ x ((al_rg (σ.1 15) x) - (al_rg (σ.1 15) y)))]) rfl ?_
  refine lv_istore_n (lv' := [(3, .int (al_cl σ x ((al_rg (σ.1 15) x) - (al_rg (σ.1 15) y)))), (0, .ref (ad (5))), (1, .int x), (2, .int y)]) S.1 S.2.1 dX4_meetingOf_22 rfl hl (by decide) rfl (fun ls hl => ?_)
  refine lv_aload_n S.1 S.2.1 dX4_meetingOf_23 rfl (lv_at hl 1 rfl) ?_
  refine lv_iload_n S.1 S.2.1 dX4_meetingOf_24 rfl (lv_at hl 3 rfl) ?_
  refine lv_aload_n S.1 S.2.1 dX4_meetingOf_25 rfl (lv_at hl 1 rfl) ?_
  refine al_g_RX4_28 S hK hW dX4_meetingOf_26 ?_
  refine lv_iload_n S.1 S.2.1 dX4_meetingOf_29 rfl (lv_at hl 3 rfl) ?_
  refine al_cP (rest := [.int y, .ref (ad (5))]) S hK hW (al_X2_get l D cy ad σ 15 (by omega) y) al_mi_X2_get al_ml_RX4_79 rfl (al_rc_R D cy ad _ (i := 15) (by omega)) rfl hl.1 rfl (Nat.le_of_ble_eq_true rfl) dX4_meetingOf_30 ⟨Nat.le_of_ble_eq_true rfl, Nat.le_of_ble_eq_true rfl⟩ ⟨Nat.zero_le _, Nat.zero_le _⟩ ?_
  refine W.eq (g2 := F0 m 33 ls [.int (al_rg (σ.1 15) y), .int y, .ref (ad (5))]) rfl ?_
  refine lv_aload_n S.1 S.2.1 dX4_meetingOf_33 rfl (lv_at hl 1 rfl) ?_
  refine al_g_RX4_28 S hK hW dX4_meetingOf_34 ?_
  refine lv_iload_n S.1 S.2.1 dX4_meetingOf_37 rfl (lv_at hl 2 rfl) ?_
  refine al_cP (rest := [.int (al_rg (σ.1 15) y), .int y, .ref (ad (5))]) S hK hW (al_X2_get l D cy ad σ 15 (by omega) x) al_mi_X2_get al_ml_RX4_79 rfl (al_rc_R D cy ad _ (i := 15) (by omega)) rfl hl.1 rfl (Nat.le_of_ble_eq_true rfl) dX4_meetingOf_38 ⟨Nat.le_of_ble_eq_true rfl, Nat.le_of_ble_eq_true rfl⟩ ⟨Nat.zero_le _, Nat.zero_le _⟩ ?_
  refine W.eq (g2 := F0 m 41 ls [.int (al_rg (σ.1 15) x), .int (al_rg (σ.1 15) y), .int y, .ref (ad (5))]) rfl ?_
  refine lv_isub S.1 S.2.1 dX4_meetingOf_41 ?_
  refine al_cP (rest := []) S hK hW (al_X4_climb l D cy ad σ y ((al_rg (σ.1 15) y) - (al_rg (σ.1 15) x))) al_mi_X4_climb al_ml_RX4_98 rfl (al_rc_4 D cy ad _) rfl hl.1 rfl (Nat.le_of_ble_eq_true rfl) dX4_meetingOf_42 ⟨Nat.le_of_ble_eq_true rfl, Nat.le_of_ble_eq_true rfl⟩ ⟨Nat.zero_le _, Nat.zero_le _⟩ ?_
  refine W.eq (g2 := F0 m 45 ls [.int (al_cl σ y ((al_rg (σ.1 15) y) - (al_rg (σ.1 15) x)))]) rfl ?_
  refine lv_istore (lv' := [(4, .int (al_cl σ y ((al_rg (σ.1 15) y) - (al_rg (σ.1 15) x)))), (3, .int (al_cl σ x ((al_rg (σ.1 15) x) - (al_rg (σ.1 15) y)))), (0, .ref (ad (5))), (1, .int x), (2, .int y)]) S.1 S.2.1 dX4_meetingOf_45 hl (by decide) rfl (fun ls hl => ?_)
  refine lv_iconst (v := 0) S.1 S.2.1 dX4_meetingOf_47 (by decide) ?_
  refine lv_istore (lv' := [(5, .int 0), (4, .int (al_cl σ y ((al_rg (σ.1 15) y) - (al_rg (σ.1 15) x)))), (3, .int (al_cl σ x ((al_rg (σ.1 15) x) - (al_rg (σ.1 15) y)))), (0, .ref (ad (5))), (1, .int x), (2, .int y)]) S.1 S.2.1 dX4_meetingOf_48 hl (by decide) rfl (fun ls hl => ?_)
  refine al_lp_X4_meet l D cy ad  S hK hW 90 0 (al_cl σ x ((al_rg (σ.1 15) x) - (al_rg (σ.1 15) y))) (al_cl σ y ((al_rg (σ.1 15) y) - (al_rg (σ.1 15) x))) _ (by omega) (lv_sub hl [3, 2, 1, 0] rfl) (fun a1 ls e2 hl => ?_)
  refine lv_iload_n S.1 S.2.1 dX4_meetingOf_89 rfl (lv_at hl 1 rfl) ?_
  exact W.iret S.1 S.2.1 hr (fun t9 ht9 _ => ⟨(congrArg (fun z => Outcome.returned (some (Value.int z))) (by simp only [al_meet, e2])), ht9⟩) (fun q hq => absurd hq List.not_mem_nil) dX4_meetingOf_90
theorem al_mv_J6_bitCount_0f7a4 : al_mv yJ6_bitCount_0f7a4 cJ6_bitCount_0f7a4 1 (some .int) 1 := ⟨al_c_J6_bitCount_0f7a4, al_ini_RJ6, ⟨by decide +kernel, by decide +kernel, by decide +kernel⟩, by decide +kernel⟩
theorem al_ms_J6_bitCount_0f7a4 : al_mst yJ6_bitCount_0f7a4 cJ6_bitCount_0f7a4 1 (some .int) 1 := ⟨al_mv_J6_bitCount_0f7a4, al_st_J6_bitCount_0f7a4⟩
set_option maxHeartbeats 4000000 in
set_option maxRecDepth 100000 in
theorem al_J6_bitCount_0f7a4 (l : Launch) (D : va_G) (cy : al_CY) (ad : Nat → Nat) (σ : al_St) (x : Int32) : al_MP l yJ6_bitCount_0f7a4 cJ6_bitCount_0f7a4 1 (some .int) 0 0 D cy ad σ [.int x] (some (.int (al_bc x))) := by
  refine al_met al_mv_J6_bitCount_0f7a4 (Nat.le_of_ble_eq_true rfl) ?_
  intro p e s m args below meth c ls S hr hlocks hK hW hS hl
  have hl : lv_has ls 1 [(0, .int x)] := hl
  refine lv_iload_n S.1 S.2.1 dJ6_bitCount_0f7a4_0 rfl (lv_at hl 0 rfl) ?_
  refine lv_iload_n S.1 S.2.1 dJ6_bitCount_0f7a4_1 rfl (lv_at hl 0 rfl) ?_
  refine lv_iconst (v := 1) S.1 S.2.1 dJ6_bitCount_0f7a4_2 (by decide) ?_
  refine lv_iushr S.1 S.2.1 dJ6_bitCount_0f7a4_3 rfl ?_
  refine lv_ldcw S.1 S.2.1 S.2.2.2.1 (S.2.2.2.2 _ al_k_RJ6_265) dJ6_bitCount_0f7a4_4 ?_
  refine lv_iand S.1 S.2.1 dJ6_bitCount_0f7a4_7 ?_
  refine lv_isub S.1 S.2.1 dJ6_bitCount_0f7a4_8 ?_
  refine lv_istore_n (lv' := [(0, .int (x - (((x.toUInt32 >>> ((1 : Int32).toUInt32 &&& Int32.toUInt32 31)).toInt32) &&& 1431655765)))]) S.1 S.2.1 dJ6_bitCount_0f7a4_9 rfl hl (by decide) rfl (fun ls hl => ?_)
  refine lv_iload_n S.1 S.2.1 dJ6_bitCount_0f7a4_10 rfl (lv_at hl 0 rfl) ?_
  refine lv_ldcw S.1 S.2.1 S.2.2.2.1 (S.2.2.2.2 _ al_k_RJ6_266) dJ6_bitCount_0f7a4_11 ?_
  refine lv_iand S.1 S.2.1 dJ6_bitCount_0f7a4_14 ?_
  refine lv_iload_n S.1 S.2.1 dJ6_bitCount_0f7a4_15 rfl (lv_at hl 0 rfl) ?_
  refine lv_iconst (v := 2) S.1 S.2.1 dJ6_bitCount_0f7a4_16 (by decide) ?_
  refine lv_iushr S.1 S.2.1 dJ6_bitCount_0f7a4_17 rfl ?_
  refine lv_ldcw S.1 S.2.1 S.2.2.2.1 (S.2.2.2.2 _ al_k_RJ6_266) dJ6_bitCount_0f7a4_18 ?_
  refine lv_iand S.1 S.2.1 dJ6_bitCount_0f7a4_21 ?_
  refine lv_iadd S.1 S.2.1 dJ6_bitCount_0f7a4_22 ?_
  refine lv_istore_n (lv' := [(0, .int (((x - (((x.toUInt32 >>> ((1 : Int32).toUInt32 &&& Int32.toUInt32 31)).toInt32) &&& 1431655765)) &&& 858993459) + ((((x - (((x.toUInt32 >>> ((1 : Int32).toUInt32 &&& Int32.toUInt32 31)).toInt32) &&& 1431655765)).toUInt32 >>> ((2 : Int32).toUInt32 &&& Int32.toUInt32 31)).toInt32) &&& 858993459)))]) S.1 S.2.1 dJ6_bitCount_0f7a4_23 rfl hl (by decide) rfl (fun ls hl => ?_)
  refine lv_iload_n S.1 S.2.1 dJ6_bitCount_0f7a4_24 rfl (lv_at hl 0 rfl) ?_
  refine lv_iload_n S.1 S.2.1 dJ6_bitCount_0f7a4_25 rfl (lv_at hl 0 rfl) ?_
  refine lv_iconst (v := 4) S.1 S.2.1 dJ6_bitCount_0f7a4_26 (by decide) ?_
  refine lv_iushr S.1 S.2.1 dJ6_bitCount_0f7a4_27 rfl ?_
  refine lv_iadd S.1 S.2.1 dJ6_bitCount_0f7a4_28 ?_
  refine lv_ldcw S.1 S.2.1 S.2.2.2.1 (S.2.2.2.2 _ al_k_RJ6_267) dJ6_bitCount_0f7a4_29 ?_
  refine lv_iand S.1 S.2.1 dJ6_bitCount_0f7a4_32 ?_
  refine lv_istore_n (lv' := [(0, .int (((((x - (((x.toUInt32 >>> ((1 : Int32).toUInt32 &&& Int32.toUInt32 31)).toInt32) &&& 1431655765)) &&& 858993459) + ((((x - (((x.toUInt32 >>> ((1 : Int32).toUInt32 &&& Int32.toUInt32 31)).toInt32) &&& 1431655765)).toUInt32 >>> ((2 : Int32).toUInt32 &&& Int32.toUInt32 31)).toInt32) &&& 858993459)) + (((((x - (((x.toUInt32 >>> ((1 : Int32).toUInt32 &&& Int32.toUInt32 31)).toInt32) &&& 1431655765)) &&& 858993459) + ((((x - (((x.toUInt32 >>> ((1 : Int32).toUInt32 &&& Int32.toUInt32 31)).toInt32) &&& 1431655765)).toUInt32 >>> ((2 : Int32).toUInt32 &&& Int32.toUInt32 31)).toInt32) &&& 858993459)).toUInt32 >>> ((4 : Int32).toUInt32 &&& Int32.toUInt32 31)).toInt32)) &&& 252645135))]) S.1 S.2.1 dJ6_bitCount_0f7a4_33 rfl hl (by decide) rfl (fun ls hl => ?_)
  refine lv_iload_n S.1 S.2.1 dJ6_bitCount_0f7a4_34 rfl (lv_at hl 0 rfl) ?_
  refine lv_iload_n S.1 S.2.1 dJ6_bitCount_0f7a4_35 rfl (lv_at hl 0 rfl) ?_
  refine lv_bipush (v := 8) S.1 S.2.1 dJ6_bitCount_0f7a4_36 (by decide) ?_
  refine lv_iushr S.1 S.2.1 dJ6_bitCount_0f7a4_38 rfl ?_
  refine lv_iadd S.1 S.2.1 dJ6_bitCount_0f7a4_39 ?_
  refine lv_istore_n (lv' := [(0, .int ((((((x - (((x.toUInt32 >>> ((1 : Int32).toUInt32 &&& Int32.toUInt32 31)).toInt32) &&& 1431655765)) &&& 858993459) + ((((x - (((x.toUInt32 >>> ((1 : Int32).toUInt32 &&& Int32.toUInt32 31)).toInt32) &&& 1431655765)).toUInt32 >>> ((2 : Int32).toUInt32 &&& Int32.toUInt32 31)).toInt32) &&& 858993459)) + (((((x - (((x.toUInt32 >>> ((1 : Int32).toUInt32 &&& Int32.toUInt32 31)).toInt32) &&& 1431655765)) &&& 858993459) + ((((x - (((x.toUInt32 >>> ((1 : Int32).toUInt32 &&& Int32.toUInt32 31)).toInt32) &&& 1431655765)).toUInt32 >>> ((2 : Int32).toUInt32 &&& Int32.toUInt32 31)).toInt32) &&& 858993459)).toUInt32 >>> ((4 : Int32).toUInt32 &&& Int32.toUInt32 31)).toInt32)) &&& 252645135) + (((((((x - (((x.toUInt32 >>> ((1 : Int32).toUInt32 &&& Int32.toUInt32 31)).toInt32) &&& 1431655765)) &&& 858993459) + ((((x - (((x.toUInt32 >>> ((1 : Int32).toUInt32 &&& Int32.toUInt32 31)).toInt32) &&& 1431655765)).toUInt32 >>> ((2 : Int32).toUInt32 &&& Int32.toUInt32 31)).toInt32) &&& 858993459)) + (((((x - (((x.toUInt32 >>> ((1 : Int32).toUInt32 &&& Int32.toUInt32 31)).toInt32) &&& 1431655765)) &&& 858993459) + ((((x - (((x.toUInt32 >>> ((1 : Int32).toUInt32 &&& Int32.toUInt32 31)).toInt32) &&& 1431655765)).toUInt32 >>> ((2 : Int32).toUInt32 &&& Int32.toUInt32 31)).toInt32) &&& 858993459)).toUInt32 >>> ((4 : Int32).toUInt32 &&& Int32.toUInt32 31)).toInt32)) &&& 252645135).toUInt32 >>> ((8 : Int32).toUInt32 &&& Int32.toUInt32 31)).toInt32)))]) S.1 S.2.1 dJ6_bitCount_0f7a4_40 rfl hl (by decide) rfl (fun ls hl => ?_)
  refine lv_iload_n S.1 S.2.1 dJ6_bitCount_0f7a4_41 rfl (lv_at hl 0 rfl) ?_
  refine lv_iload_n S.1 S.2.1 dJ6_bitCount_0f7a4_42 rfl (lv_at hl 0 rfl) ?_
  refine lv_bipush (v := 16) S.1 S.2.1 dJ6_bitCount_0f7a4_43 (by decide) ?_
  refine lv_iushr S.1 S.2.1 dJ6_bitCount_0f7a4_45 rfl ?_
  refine lv_iadd S.1 S.2.1 dJ6_bitCount_0f7a4_46 ?_
  refine lv_istore_n (lv' := [(0, .int (((((((x - (((x.toUInt32 >>> ((1 : Int32).toUInt32 &&& Int32.toUInt32 31)).toInt32) &&& 1431655765)) &&& 858993459) + ((((x - (((x.toUInt32 >>> ((1 : Int32).toUInt32 &&& Int32.toUInt32 31)).toInt32) &&& 1431655765)).toUInt32 >>> ((2 : Int32).toUInt32 &&& Int32.toUInt32 31)).toInt32) &&& 858993459)) + (((((x - (((x.toUInt32 >>> ((1 : Int32).toUInt32 &&& Int32.toUInt32 31)).toInt32) &&& 1431655765)) &&& 858993459) + ((((x - (((x.toUInt32 >>> ((1 : Int32).toUInt32 &&& Int32.toUInt32 31)).toInt32) &&& 1431655765)).toUInt32 >>> ((2 : Int32).toUInt32 &&& Int32.toUInt32 31)).toInt32) &&& 858993459)).toUInt32 >>> ((4 : Int32).toUInt32 &&& Int32.toUInt32 31)).toInt32)) &&& 252645135) + (((((((x - (((x.toUInt32 >>> ((1 : Int32).toUInt32 &&& Int32.toUInt32 31)).toInt32) &&& 1431655765)) &&& 858993459) + ((((x - (((x.toUInt32 >>> ((1 : Int32).toUInt32 &&& Int32.toUInt32 31)).toInt32) &&& 1431655765)).toUInt32 >>> ((2 : Int32).toUInt32 &&& Int32.toUInt32 31)).toInt32) &&& 858993459)) + (((((x - (((x.toUInt32 >>> ((1 : Int32).toUInt32 &&& Int32.toUInt32 31)).toInt32) &&& 1431655765)) &&& 858993459) + ((((x - (((x.toUInt32 >>> ((1 : Int32).toUInt32 &&& Int32.toUInt32 31)).toInt32) &&& 1431655765)).toUInt32 >>> ((2 : Int32).toUInt32 &&& Int32.toUInt32 31)).toInt32) &&& 858993459)).toUInt32 >>> ((4 : Int32).toUInt32 &&& Int32.toUInt32 31)).toInt32)) &&& 252645135).toUInt32 >>> ((8 : Int32).toUInt32 &&& Int32.toUInt32 31)).toInt32)) + ((((((((x - (((x.toUInt32 >>> ((1 : Int32).toUInt32 &&& Int32.toUInt32 31)).toInt32) &&& 1431655765)) &&& 858993459) + ((((x - (((x.toUInt32 >>> ((1 : Int32).toUInt32 &&& Int32.toUInt32 31)).toInt32) &&& 1431655765)).toUInt32 >>> ((2 : Int32).toUInt32 &&& Int32.toUInt32 31)).toInt32) &&& 858993459)) + (((((x - (((x.toUInt32 >>> ((1 : Int32).toUInt32 &&& Int32.toUInt32 31)).toInt32) &&& 1431655765)) &&& 858993459) + ((((x - (((x.toUInt32 >>> ((1 : Int32).toUInt32 &&& Int32.toUInt32 31)).toInt32) &&& 1431655765)).toUInt32 >>> ((2 : Int32).toUInt32 &&& Int32.toUInt32 31)).toInt32) &&& 858993459)).toUInt32 >>> ((4 : Int32).toUInt32 &&& Int32.toUInt32 31)).toInt32)) &&& 252645135) + (((((((x - (((x.toUInt32 >>> ((1 : Int32).toUInt32 &&& Int32.toUInt32 31)).toInt32) &&& 1431655765)) &&& 858993459) + ((((x - (((x.toUInt32 >>> ((1 : Int32).toUInt32 &&& Int32.toUInt32 31)).toInt32) &&& 1431655765)).toUInt32 >>> ((2 : Int32).toUInt32 &&& Int32.toUInt32 31)).toInt32) &&& 858993459)) + (((((x - (((x.toUInt32 >>> ((1 : Int32).toUInt32 &&& Int32.toUInt32 31)).toInt32) &&& 1431655765)) &&& 858993459) + ((((x - (((x.toUInt32 >>> ((1 : Int32).toUInt32 &&& Int32.toUInt32 31)).toInt32) &&& 1431655765)).toUInt32 >>> ((2 : Int32).toUInt32 &&& Int32.toUInt32 31)).toInt32) &&& 858993459)).toUInt32 >>> ((4 : Int32).toUInt32 &&& Int32.toUInt32 31)).toInt32)) &&& 252645135).toUInt32 >>> ((8 : Int32).toUInt32 &&& Int32.toUInt32 31)).toInt32)).toUInt32 >>> ((16 : Int32).toUInt32 &&& Int32.toUInt32 31)).toInt32)))]) S.1 S.2.1 dJ6_bitCount_0f7a4_47 rfl hl (by decide) rfl (fun ls hl => ?_)
  refine lv_iload_n S.1 S.2.1 dJ6_bitCount_0f7a4_48 rfl (lv_at hl 0 rfl) ?_
  refine lv_bipush (v := 63) S.1 S.2.1 dJ6_bitCount_0f7a4_49 (by decide) ?_
  refine lv_iand S.1 S.2.1 dJ6_bitCount_0f7a4_51 ?_
  exact W.iret S.1 S.2.1 hr (fun t9 ht9 _ => ⟨(congrArg (fun z => Outcome.returned (some (Value.int z))) rfl), ht9⟩) (fun q hq => absurd hq List.not_mem_nil) dJ6_bitCount_0f7a4_52
theorem al_mv_X4_looksFor : al_mv yX4_looksFor cX4_looksFor 4 (some .int) 2 := ⟨al_c_X4_looksFor, al_ini_RX4, ⟨by decide +kernel, by decide +kernel, by decide +kernel⟩, by decide +kernel⟩
theorem al_mi_X4_looksFor : al_mi yX4_looksFor cX4_looksFor 4 (some .int) 2 := ⟨al_mv_X4_looksFor, al_in_X4_looksFor, al_se_X4_looksFor⟩
set_option maxHeartbeats 4000000 in
set_option maxRecDepth 100000 in
theorem al_X4_looksFor (l : Launch) (D : va_G) (cy : al_CY) (ad : Nat → Nat) (σ : al_St) (x : Int32) (y : Int32) : al_MP l yX4_looksFor cX4_looksFor 4 (some .int) 3 63 D cy ad σ [.ref (ad (5)), .int x, .int y] (some (.int (al_looks σ x y))) := by
  refine al_met al_mv_X4_looksFor (Nat.le_of_ble_eq_true rfl) ?_
  intro p e s m args below meth c ls S hr hlocks hK hW hS hl
  have hl : lv_has ls 4 [(0, .ref (ad (5))), (1, .int x), (2, .int y)] := hl
  refine lv_iload_n S.1 S.2.1 dX4_looksFor_0 rfl (lv_at hl 2 rfl) ?_
  refine lv_if_ne (tgt := 6) S.1 S.2.1 dX4_looksFor_1 (by decide) (fun c1 => ?_) (fun c1 => ?_)
  · refine lv_aload_n S.1 S.2.1 dX4_looksFor_6 rfl (lv_at hl 0 rfl) ?_
    refine al_g_RX4_31 S hK hW dX4_looksFor_7 ?_
    refine lv_iload_n S.1 S.2.1 dX4_looksFor_10 rfl (lv_at hl 1 rfl) ?_
    refine al_cP (rest := []) S hK hW (al_X2_get l D cy ad σ 16 (by omega) x) al_mi_X2_get al_ml_RX4_79 rfl (al_rc_R D cy ad _ (i := 16) (by omega)) rfl hl.1 rfl (Nat.le_of_ble_eq_true rfl) dX4_looksFor_11 ⟨Nat.le_of_ble_eq_true rfl, Nat.le_of_ble_eq_true rfl⟩ ⟨Nat.zero_le _, Nat.zero_le _⟩ ?_
    refine W.eq (g2 := F0 m 14 ls [.int (al_rg (σ.1 16) x)]) rfl ?_
    refine lv_iload_n S.1 S.2.1 dX4_looksFor_14 rfl (lv_at hl 2 rfl) ?_
    refine lv_iadd S.1 S.2.1 dX4_looksFor_15 ?_
    refine lv_istore_n (lv' := [(3, .int ((al_rg (σ.1 16) x) + y)), (0, .ref (ad (5))), (1, .int x), (2, .int y)]) S.1 S.2.1 dX4_looksFor_16 rfl hl (by decide) rfl (fun ls hl => ?_)
    refine lv_iload_n S.1 S.2.1 dX4_looksFor_17 rfl (lv_at hl 0 rfl) ?_
    refine lv_aload_n S.1 S.2.1 dX4_looksFor_18 rfl (lv_at hl 1 rfl) ?_
    refine lv_iload_n S.1 S.2.1 dX4_looksFor_19 rfl (lv_at hl 2 rfl) ?_
    refine al_cP (rest := [.int ((al_rg (σ.1 16) x) + y)]) S hK hW (al_X4_ladderOf l D cy ad σ x) al_mi_X4_ladderOf al_ml_RX4_101 rfl (al_rc_4 D cy ad _) rfl hl.1 rfl (Nat.le_of_ble_eq_true rfl) dX4_looksFor_20 ⟨Nat.le_of_ble_eq_true rfl, Nat.le_of_ble_eq_true rfl⟩ ⟨Nat.zero_le _, Nat.zero_le _⟩ ?_
    refine W.eq (g2 := F0 m 23 ls [.int (al_lad σ x), .int ((al_rg (σ.1 16) x) + y)]) rfl ?_
    refine lv_icmp_ge (tgt := 28) S.1 S.2.1 dX4_looksFor_23 (by decide) (fun c2 => ?_) (fun c2 => ?_)
    · refine lv_iload_n S.1 S.2.1 dX4_looksFor_28 rfl (lv_at hl 0 rfl) ?_
      refine al_cPs (rest := []) S hK hW (al_J6_bitCount_0f7a4 l D cy ad σ ((al_rg (σ.1 16) x) + y)) al_ms_J6_bitCount_0f7a4 al_ml_RX4_104 rfl hl.1 rfl (Nat.le_of_ble_eq_true rfl) dX4_looksFor_29 ⟨Nat.le_of_ble_eq_true rfl, Nat.le_of_ble_eq_true rfl⟩ ⟨Nat.zero_le _, Nat.zero_le _⟩ ?_
      refine W.eq (g2 := F0 m 32 ls [.int (al_bc ((al_rg (σ.1 16) x) + y))]) rfl ?_
      refine lv_iconst (v := 1) S.1 S.2.1 dX4_looksFor_32 (by decide) ?_
      refine lv_icmp_ne (tgt := 40) S.1 S.2.1 dX4_looksFor_33 (by decide) (fun c3 => ?_) (fun c3 => ?_)
      · refine lv_iconst (v := 3) S.1 S.2.1 dX4_looksFor_40 (by decide) ?_
        exact W.iret S.1 S.2.1 hr (fun t9 ht9 _ => ⟨(congrArg (fun z => Outcome.returned (some (Value.int z))) (by simp only [al_looks, if_neg (c1), if_pos (c2), if_neg (c3)])), ht9⟩) (fun q hq => absurd hq List.not_mem_nil) dX4_looksFor_41
      · refine lv_iconst (v := 2) S.1 S.2.1 dX4_looksFor_36 (by decide) ?_
        refine lv_goto (tgt := 41) S.1 S.2.1 dX4_looksFor_37 (by decide) ?_
        exact W.iret S.1 S.2.1 hr (fun t9 ht9 _ => ⟨(congrArg (fun z => Outcome.returned (some (Value.int z))) (by simp only [al_looks, if_neg (c1), if_pos (c2), if_pos (c3)])), ht9⟩) (fun q hq => absurd hq List.not_mem_nil) dX4_looksFor_41
    · refine lv_iconst (v := 1) S.1 S.2.1 dX4_looksFor_26 (by decide) ?_
      exact W.iret S.1 S.2.1 hr (fun t9 ht9 _ => ⟨(congrArg (fun z => Outcome.returned (some (Value.int z))) (by simp only [al_looks, if_neg (c1), if_neg (c2)])), ht9⟩) (fun q hq => absurd hq List.not_mem_nil) dX4_looksFor_27
  · refine lv_iconst (v := 0) S.1 S.2.1 dX4_looksFor_4 (by decide) ?_
    exact W.iret S.1 S.2.1 hr (fun t9 ht9 _ => ⟨(congrArg (fun z => Outcome.returned (some (Value.int z))) (by simp only [al_looks, if_pos (c1)])), ht9⟩) (fun q hq => absurd hq List.not_mem_nil) dX4_looksFor_5
set_option maxHeartbeats 4000000 in
set_option maxRecDepth 100000 in
theorem al_lp_X4_countLeaves {p : Program} {e : Env} {s : State} {m : MethodId} {args : Array Value} {below : List Frame} {meth : Method} {c : Code} {Q : State → Prop} (l : Launch) (D : va_G) (cy : al_CY) (ad : Nat → Nat) (S : CallFix p m c cX4_countLeaves 3 s args al_G RX4) (hK : va_K D vwCl (al_tys cy) s) {H : Heap} {locs : List Loc} {σ : al_St} (hW : al_H D cy ad σ H) : ∀ (n : Nat) (k : Nat) (a : Int32) (ls : Array Slot), k + n = 90 → lv_has ls 3 [(0, .ref (ad (5))), (1, .int a), (2, .int (nI k))] → (∀ (a' : Int32) (ls : Array Slot), al_cLv σ n k a = a' → lv_has ls 3 [(0, .ref (ad (5))), (1, .int a')] → W p l e (al_rm 2 42) s m args below meth c H locs 0 0 Q (F0 m 42 ls [])) → W p l e (al_rm 2 42) s m args below meth c H locs 0 0 Q (F0 m 4 ls []) := by
  intro n
  induction n with
  | zero =>
    intro k a ls hk hl K
    refine lv_iload_n S.1 S.2.1 dX4_countLeaves_4 rfl (lv_at hl 2 rfl) ?_
    refine lv_aload_n S.1 S.2.1 dX4_countLeaves_5 rfl (lv_at hl 0 rfl) ?_
    refine al_g_RX4_49 S hK hW dX4_countLeaves_6 ?_
    refine lv_icmp_ge (tgt := 42) S.1 S.2.1 dX4_countLeaves_9 (by decide) (fun c1 => ?_) (fun c1 => ?_)
    · exact K a _ (by simp only [al_cLv, if_pos (c1)]) (lv_sub hl [0, 1] rfl)
    · refine lv_iload_n S.1 S.2.1 dX4_countLeaves_12 rfl (lv_at hl 2 rfl) ?_
      refine lv_bipush (v := 90) S.1 S.2.1 dX4_countLeaves_13 (by decide) ?_
      refine lv_icmp_ge (tgt := 42) S.1 S.2.1 dX4_countLeaves_15 (by decide) (fun c2 => ?_) (fun c2 => ?_)
      · exact K a _ (by simp only [al_cLv, if_neg (c1), if_pos (c2)]) (lv_sub hl [0, 1] rfl)
      · exact absurd (al_90' (by omega)) c2
  | succ n ih =>
    intro k a ls hk hl K
    refine lv_iload_n S.1 S.2.1 dX4_countLeaves_4 rfl (lv_at hl 2 rfl) ?_
    refine lv_aload_n S.1 S.2.1 dX4_countLeaves_5 rfl (lv_at hl 0 rfl) ?_
    refine al_g_RX4_49 S hK hW dX4_countLeaves_6 ?_
    refine lv_icmp_ge (tgt := 42) S.1 S.2.1 dX4_countLeaves_9 (by decide) (fun c1 => ?_) (fun c1 => ?_)
    · exact K a _ (by simp only [al_cLv, if_pos (c1)]) (lv_sub hl [0, 1] rfl)
    · refine lv_iload_n S.1 S.2.1 dX4_countLeaves_12 rfl (lv_at hl 2 rfl) ?_
      refine lv_bipush (v := 90) S.1 S.2.1 dX4_countLeaves_13 (by decide) ?_
      refine lv_icmp_ge (tgt := 42) S.1 S.2.1 dX4_countLeaves_15 (by decide) (fun c2 => ?_) (fun c2 => ?_)
      · exact absurd c2 (al_90 (by omega))
      · refine lv_aload_n S.1 S.2.1 dX4_countLeaves_18 rfl (lv_at hl 0 rfl) ?_
        refine lv_aload_n S.1 S.2.1 dX4_countLeaves_19 rfl (lv_at hl 0 rfl) ?_
        refine al_g_RX4_25 S hK hW dX4_countLeaves_20 ?_
        refine lv_iload_n S.1 S.2.1 dX4_countLeaves_23 rfl (lv_at hl 2 rfl) ?_
        refine al_cP (rest := [.ref (ad (5))]) S hK hW (al_X2_get l D cy ad σ 14 (by omega) (nI k)) al_mi_X2_get al_ml_RX4_79 rfl (al_rc_R D cy ad _ (i := 14) (by omega)) rfl hl.1 rfl (Nat.le_of_ble_eq_true rfl) dX4_countLeaves_24 ⟨Nat.le_of_ble_eq_true rfl, Nat.le_of_ble_eq_true rfl⟩ ⟨Nat.zero_le _, Nat.zero_le _⟩ ?_
        refine W.eq (g2 := F0 m 27 ls [.int (al_rg (σ.1 14) (nI k)), .ref (ad (5))]) rfl ?_
        refine al_cP (rest := []) S hK hW (al_X4_isLeaf l D cy ad σ (al_rg (σ.1 14) (nI k))) al_mi_X4_isLeaf al_ml_RX4_109 rfl (al_rc_4 D cy ad _) rfl hl.1 rfl (Nat.le_of_ble_eq_true rfl) dX4_countLeaves_27 ⟨Nat.le_of_ble_eq_true rfl, Nat.le_of_ble_eq_true rfl⟩ ⟨Nat.zero_le _, Nat.zero_le _⟩ ?_
        refine W.eq (g2 := F0 m 30 ls [.int (al_isLf σ (al_rg (σ.1 14) (nI k)))]) rfl ?_
        refine lv_if_eq (tgt := 36) S.1 S.2.1 dX4_countLeaves_30 (by decide) (fun c3 => ?_) (fun c3 => ?_)
        · refine lv_iinc (k := 2) (v := nI (k + 1)) (lv' := [(2, .int (nI (k + 1))), (0, .ref (ad (5))), (1, .int a)]) S.1 S.2.1 dX4_countLeaves_36 hl rfl (al_inc k) (by decide) rfl (fun ls hl => ?_)
          refine lv_goto (tgt := 4) S.1 S.2.1 dX4_countLeaves_39 (by decide) ?_
          exact ih (k + 1) a _ (by omega) (lv_sub hl [1, 2, 0] rfl) (fun a' ls e9 hl => K a' ls (by simp only [al_cLv, if_neg (c1), if_neg (c2), if_pos (c3)]; exact e9) hl)
        · refine lv_iinc (k := 1) (v := a + 1) (lv' := [(1, .int (a + 1)), (0, .ref (ad (5))), (2, .int (nI k))]) S.1 S.2.1 dX4_countLeaves_33 hl rfl rfl (by decide) rfl (fun ls hl => ?_)
          refine lv_iinc (k := 2) (v := nI (k + 1)) (lv' := [(2, .int (nI (k + 1))), (1, .int (a + 1)), (0, .ref (ad (5)))]) S.1 S.2.1 dX4_countLeaves_36 hl rfl (al_inc k) (by decide) rfl (fun ls hl => ?_)
          refine lv_goto (tgt := 4) S.1 S.2.1 dX4_countLeaves_39 (by decide) ?_
          exact ih (k + 1) (a + 1) _ (by omega) (lv_sub hl [2, 1, 0] rfl) (fun a' ls e9 hl => K a' ls (by simp only [al_cLv, if_neg (c1), if_neg (c2), if_neg (c3)]; exact e9) hl)
theorem al_mv_X4_countLeaves : al_mv yX4_countLeaves cX4_countLeaves 3 (some .int) 0 := ⟨al_c_X4_countLeaves, al_ini_RX4, ⟨by decide +kernel, by decide +kernel, by decide +kernel⟩, by decide +kernel⟩
theorem al_mi_X4_countLeaves : al_mi yX4_countLeaves cX4_countLeaves 3 (some .int) 0 := ⟨al_mv_X4_countLeaves, al_in_X4_countLeaves, al_se_X4_countLeaves⟩
set_option maxHeartbeats 4000000 in
set_option maxRecDepth 100000 in
theorem al_X4_countLeaves (l : Launch) (D : va_G) (cy : al_CY) (ad : Nat → Nat) (σ : al_St) : al_MP l yX4_countLeaves cX4_countLeaves 3 (some .int) 2 42 D cy ad σ [.ref (ad (5))] (some (.int (al_cLv σ 90 0 0))) := by
  refine al_met al_mv_X4_countLeaves (Nat.le_of_ble_eq_true rfl) ?_
  intro p e s m args below meth c ls S hr hlocks hK hW hS hl
  have hl : lv_has ls 3 [(0, .ref (ad (5)))] := hl
  refine lv_iconst (v := 0) S.1 S.2.1 dX4_countLeaves_0 (by decide) ?_
  refine lv_istore_n (lv' := [(1, .int 0), (0, .ref (ad (5)))]) S.1 S.2.1 dX4_countLeaves_1 rfl hl (by decide) rfl (fun ls hl => ?_)
  refine lv_iconst (v := 0) S.1 S.2.1 dX4_countLeaves_2 (by decide) ?_
  refine lv_istore_n (lv' := [(2, .int 0), (1, .int 0), (0, .ref (ad (5)))]) S.1 S.2.1 dX4_countLeaves_3 rfl hl (by decide) rfl (fun ls hl => ?_)
  refine al_lp_X4_countLeaves l D cy ad  S hK hW 90 0 0 _ (by omega) (lv_sub hl [2, 1, 0] rfl) (fun a1 ls e2 hl => ?_)
  refine lv_iload_n S.1 S.2.1 dX4_countLeaves_42 rfl (lv_at hl 1 rfl) ?_
  exact W.iret S.1 S.2.1 hr (fun t9 ht9 _ => ⟨(congrArg (fun z => Outcome.returned (some (Value.int z))) (by simp only [e2])), ht9⟩) (fun q hq => absurd hq List.not_mem_nil) dX4_countLeaves_43
set_option maxHeartbeats 4000000 in
set_option maxRecDepth 100000 in
theorem al_lp_X4_countLadders {p : Program} {e : Env} {s : State} {m : MethodId} {args : Array Value} {below : List Frame} {meth : Method} {c : Code} {Q : State → Prop} (l : Launch) (D : va_G) (cy : al_CY) (ad : Nat → Nat) (S : CallFix p m c cX4_countLadders 4 s args al_G RX4) (hK : va_K D vwCl (al_tys cy) s) {H : Heap} {locs : List Loc} {σ : al_St} (hW : al_H D cy ad σ H) : ∀ (n : Nat) (k : Nat) (a : Int32) (ls : Array Slot), k + n = 90 → lv_has ls 4 [(0, .ref (ad (5))), (1, .int a), (2, .int (nI k))] → (∀ (a' : Int32) (ls : Array Slot), al_cLd σ n k a = a' → lv_has ls 4 [(0, .ref (ad (5))), (1, .int a')] → W p l e (al_rm 3 63) s m args below meth c H locs 0 0 Q (F0 m 49 ls [])) → W p l e (al_rm 3 63) s m args below meth c H locs 0 0 Q (F0 m 4 ls []) := by
  intro n
  induction n with
  | zero =>
    intro k a ls hk hl K
    refine lv_iload_n S.1 S.2.1 dX4_countLadders_4 rfl (lv_at hl 2 rfl) ?_
    refine lv_aload_n S.1 S.2.1 dX4_countLadders_5 rfl (lv_at hl 0 rfl) ?_
    refine al_g_RX4_49 S hK hW dX4_countLadders_6 ?_
    refine lv_icmp_ge (tgt := 49) S.1 S.2.1 dX4_countLadders_9 (by decide) (fun c1 => ?_) (fun c1 => ?_)
    · exact K a _ (by simp only [al_cLd, if_pos (c1)]) (lv_sub hl [0, 1] rfl)
    · refine lv_iload_n S.1 S.2.1 dX4_countLadders_12 rfl (lv_at hl 2 rfl) ?_
      refine lv_bipush (v := 90) S.1 S.2.1 dX4_countLadders_13 (by decide) ?_
      refine lv_icmp_ge (tgt := 49) S.1 S.2.1 dX4_countLadders_15 (by decide) (fun c2 => ?_) (fun c2 => ?_)
      · exact K a _ (by simp only [al_cLd, if_neg (c1), if_pos (c2)]) (lv_sub hl [0, 1] rfl)
      · exact absurd (al_90' (by omega)) c2
  | succ n ih =>
    intro k a ls hk hl K
    refine lv_iload_n S.1 S.2.1 dX4_countLadders_4 rfl (lv_at hl 2 rfl) ?_
    refine lv_aload_n S.1 S.2.1 dX4_countLadders_5 rfl (lv_at hl 0 rfl) ?_
    refine al_g_RX4_49 S hK hW dX4_countLadders_6 ?_
    refine lv_icmp_ge (tgt := 49) S.1 S.2.1 dX4_countLadders_9 (by decide) (fun c1 => ?_) (fun c1 => ?_)
    · exact K a _ (by simp only [al_cLd, if_pos (c1)]) (lv_sub hl [0, 1] rfl)
    · refine lv_iload_n S.1 S.2.1 dX4_countLadders_12 rfl (lv_at hl 2 rfl) ?_
      refine lv_bipush (v := 90) S.1 S.2.1 dX4_countLadders_13 (by decide) ?_
      refine lv_icmp_ge (tgt := 49) S.1 S.2.1 dX4_countLadders_15 (by decide) (fun c2 => ?_) (fun c2 => ?_)
      · exact absurd c2 (al_90 (by omega))
      · refine lv_aload_n S.1 S.2.1 dX4_countLadders_18 rfl (lv_at hl 0 rfl) ?_
        refine al_g_RX4_25 S hK hW dX4_countLadders_19 ?_
        refine lv_iload_n S.1 S.2.1 dX4_countLadders_22 rfl (lv_at hl 2 rfl) ?_
        refine al_cP (rest := []) S hK hW (al_X2_get l D cy ad σ 14 (by omega) (nI k)) al_mi_X2_get al_ml_RX4_79 rfl (al_rc_R D cy ad _ (i := 14) (by omega)) rfl hl.1 rfl (Nat.le_of_ble_eq_true rfl) dX4_countLadders_23 ⟨Nat.le_of_ble_eq_true rfl, Nat.le_of_ble_eq_true rfl⟩ ⟨Nat.zero_le _, Nat.zero_le _⟩ ?_
        refine W.eq (g2 := F0 m 26 ls [.int (al_rg (σ.1 14) (nI k))]) rfl ?_
        refine lv_istore_n (lv' := [(3, .int (al_rg (σ.1 14) (nI k))), (0, .ref (ad (5))), (1, .int a), (2, .int (nI k))]) S.1 S.2.1 dX4_countLadders_26 rfl hl (by decide) rfl (fun ls hl => ?_)
        refine lv_aload_n S.1 S.2.1 dX4_countLadders_27 rfl (lv_at hl 1 rfl) ?_
        refine lv_iload_n S.1 S.2.1 dX4_countLadders_28 rfl (lv_at hl 0 rfl) ?_
        refine al_cP (rest := []) S hK hW (al_X4_isLeaf l D cy ad σ (al_rg (σ.1 14) (nI k))) al_mi_X4_isLeaf al_ml_RX4_109 rfl (al_rc_4 D cy ad _) rfl hl.1 rfl (Nat.le_of_ble_eq_true rfl) dX4_countLadders_29 ⟨Nat.le_of_ble_eq_true rfl, Nat.le_of_ble_eq_true rfl⟩ ⟨Nat.zero_le _, Nat.zero_le _⟩ ?_
        refine W.eq (g2 := F0 m 32 ls [.int (al_isLf σ (al_rg (σ.1 14) (nI k)))]) rfl ?_
        refine lv_if_eq (tgt := 43) S.1 S.2.1 dX4_countLadders_32 (by decide) (fun c3 => ?_) (fun c3 => ?_)
        · refine lv_iinc (k := 3) (v := nI (k + 1)) (lv' := [(2, .int (nI (k + 1))), (3, .int (al_rg (σ.1 14) (nI k))), (0, .ref (ad (5))), (1, .int a)]) S.1 S.2.1 dX4_countLadders_43 hl rfl (al_inc k) (by decide) rfl (fun ls hl => ?_)
          refine lv_goto (tgt := 4) S.1 S.2.1 dX4_countLadders_46 (by decide) ?_
          exact ih (k + 1) a _ (by omega) (lv_sub hl [2, 3, 0] rfl) (fun a' ls e9 hl => K a' ls (by simp only [al_cLd, if_neg (c1), if_neg (c2), if_pos (c3)]; exact e9) hl)
        · refine lv_iload_n S.1 S.2.1 dX4_countLadders_35 rfl (lv_at hl 2 rfl) ?_
          refine lv_aload_n S.1 S.2.1 dX4_countLadders_36 rfl (lv_at hl 1 rfl) ?_
          refine lv_iload_n S.1 S.2.1 dX4_countLadders_37 rfl (lv_at hl 0 rfl) ?_
          refine al_cP (rest := [.int a]) S hK hW (al_X4_ladderOf l D cy ad σ (al_rg (σ.1 14) (nI k))) al_mi_X4_ladderOf al_ml_RX4_101 rfl (al_rc_4 D cy ad _) rfl hl.1 rfl (Nat.le_of_ble_eq_true rfl) dX4_countLadders_38 ⟨Nat.le_of_ble_eq_true rfl, Nat.le_of_ble_eq_true rfl⟩ ⟨Nat.zero_le _, Nat.zero_le _⟩ ?_
          refine W.eq (g2 := F0 m 41 ls [.int (al_lad σ (al_rg (σ.1 14) (nI k))), .int a]) rfl ?_
          refine lv_iadd S.1 S.2.1 dX4_countLadders_41 ?_
          refine lv_istore_n (lv' := [(1, .int (a + (al_lad σ (al_rg (σ.1 14) (nI k))))), (3, .int (al_rg (σ.1 14) (nI k))), (0, .ref (ad (5))), (2, .int (nI k))]) S.1 S.2.1 dX4_countLadders_42 rfl hl (by decide) rfl (fun ls hl => ?_)
          refine lv_iinc (k := 3) (v := nI (k + 1)) (lv' := [(2, .int (nI (k + 1))), (1, .int (a + (al_lad σ (al_rg (σ.1 14) (nI k))))), (3, .int (al_rg (σ.1 14) (nI k))), (0, .ref (ad (5)))]) S.1 S.2.1 dX4_countLadders_43 hl rfl (al_inc k) (by decide) rfl (fun ls hl => ?_)
          refine lv_goto (tgt := 4) S.1 S.2.1 dX4_countLadders_46 (by decide) ?_
          exact ih (k + 1) (a + (al_lad σ (al_rg (σ.1 14) (nI k)))) _ (by omega) (lv_sub hl [3, 1, 0] rfl) (fun a' ls e9 hl => K a' ls (by simp only [al_cLd, if_neg (c1), if_neg (c2), if_neg (c3)]; exact e9) hl)
theorem al_mv_X4_countLadders : al_mv yX4_countLadders cX4_countLadders 4 (some .int) 0 := ⟨al_c_X4_countLadders, al_ini_RX4, ⟨by decide +kernel, by decide +kernel, by decide +kernel⟩, by decide +kernel⟩
theorem al_mi_X4_countLadders : al_mi yX4_countLadders cX4_countLadders 4 (some .int) 0 := ⟨al_mv_X4_countLadders, al_in_X4_countLadders, al_se_X4_countLadders⟩
set_option maxHeartbeats 4000000 in
set_option maxRecDepth 100000 in
theorem al_X4_countLadders (l : Launch) (D : va_G) (cy : al_CY) (ad : Nat → Nat) (σ : al_St) : al_MP l yX4_countLadders cX4_countLadders 4 (some .int) 3 63 D cy ad σ [.ref (ad (5))] (some (.int (al_cLd σ 90 0 0))) := by
  refine al_met al_mv_X4_countLadders (Nat.le_of_ble_eq_true rfl) ?_
  intro p e s m args below meth c ls S hr hlocks hK hW hS hl
  have hl : lv_has ls 4 [(0, .ref (ad (5)))] := hl
  refine lv_iconst (v := 0) S.1 S.2.1 dX4_countLadders_0 (by decide) ?_
  refine lv_istore_n (lv' := [(1, .int 0), (0, .ref (ad (5)))]) S.1 S.2.1 dX4_countLadders_1 rfl hl (by decide) rfl (fun ls hl => ?_)
  refine lv_iconst (v := 0) S.1 S.2.1 dX4_countLadders_2 (by decide) ?_
  refine lv_istore_n (lv' := [(2, .int 0), (1, .int 0), (0, .ref (ad (5)))]) S.1 S.2.1 dX4_countLadders_3 rfl hl (by decide) rfl (fun ls hl => ?_)
  refine al_lp_X4_countLadders l D cy ad  S hK hW 90 0 0 _ (by omega) (lv_sub hl [2, 1, 0] rfl) (fun a1 ls e2 hl => ?_)
  refine lv_iload_n S.1 S.2.1 dX4_countLadders_49 rfl (lv_at hl 1 rfl) ?_
  exact W.iret S.1 S.2.1 hr (fun t9 ht9 _ => ⟨(congrArg (fun z => Outcome.returned (some (Value.int z))) (by simp only [e2])), ht9⟩) (fun q hq => absurd hq List.not_mem_nil) dX4_countLadders_50
set_option maxHeartbeats 4000000 in
set_option maxRecDepth 100000 in
theorem al_lp_X4_jumps {p : Program} {e : Env} {s : State} {m : MethodId} {args : Array Value} {below : List Frame} {meth : Method} {c : Code} {Q : State → Prop} (l : Launch) (D : va_G) (cy : al_CY) (ad : Nat → Nat) (x : Int32) (S : CallFix p m c cX4_jumpsFrom 3 s args al_G RX4) (hK : va_K D vwCl (al_tys cy) s) {H : Heap} {locs : List Loc} {σ : al_St} (hW : al_H D cy ad σ H) : ∀ (n : Nat) (k : Nat) (a : Int32) (ls : Array Slot), k + n = 7 → lv_has ls 3 [(0, .int x), (1, .int a), (2, .int (nI k))] → (∀ (a' : Int32) (ls : Array Slot), al_jmpL x n k a = a' → lv_has ls 3 [(1, .int a')] → W p l e (al_rm 0 0) s m args below meth c H locs 0 0 Q (F0 m 26 ls [])) → W p l e (al_rm 0 0) s m args below meth c H locs 0 0 Q (F0 m 4 ls []) := by
  intro n
  induction n with
  | zero =>
    intro k a ls hk hl K
    refine lv_iload_n S.1 S.2.1 dX4_jumpsFrom_4 rfl (lv_at hl 2 rfl) ?_
    refine lv_bipush (v := 6) S.1 S.2.1 dX4_jumpsFrom_5 (by decide) ?_
    refine lv_icmp_gt (tgt := 26) S.1 S.2.1 dX4_jumpsFrom_7 (by decide) (fun c1 => ?_) (fun c1 => ?_)
    · exact K a _ (by simp only [al_jmpL, if_pos (c1)]) (lv_sub hl [1] rfl)
    · exact absurd (al_6' (by omega)) c1
  | succ n ih =>
    intro k a ls hk hl K
    refine lv_iload_n S.1 S.2.1 dX4_jumpsFrom_4 rfl (lv_at hl 2 rfl) ?_
    refine lv_bipush (v := 6) S.1 S.2.1 dX4_jumpsFrom_5 (by decide) ?_
    refine lv_icmp_gt (tgt := 26) S.1 S.2.1 dX4_jumpsFrom_7 (by decide) (fun c1 => ?_) (fun c1 => ?_)
    · exact absurd c1 (al_6 (by omega))
    · refine lv_iconst (v := 1) S.1 S.2.1 dX4_jumpsFrom_10 (by decide) ?_
      refine lv_iload_n S.1 S.2.1 dX4_jumpsFrom_11 rfl (lv_at hl 2 rfl) ?_
      refine lv_ishl S.1 S.2.1 dX4_jumpsFrom_12 ?_
      refine lv_iload_n S.1 S.2.1 dX4_jumpsFrom_13 rfl (lv_at hl 0 rfl) ?_
      refine lv_icmp_gt (tgt := 26) S.1 S.2.1 dX4_jumpsFrom_14 (by decide) (fun c2 => ?_) (fun c2 => ?_)
      · exact K a _ (by simp only [al_jmpL, if_neg (c1), if_pos (c2)]) (lv_sub hl [1] rfl)
      · refine lv_iinc (k := 1) (v := a + 1) (lv' := [(1, .int (a + 1)), (0, .int x), (2, .int (nI k))]) S.1 S.2.1 dX4_jumpsFrom_17 hl rfl rfl (by decide) rfl (fun ls hl => ?_)
        refine lv_iinc (k := 2) (v := nI (k + 1)) (lv' := [(2, .int (nI (k + 1))), (1, .int (a + 1)), (0, .int x)]) S.1 S.2.1 dX4_jumpsFrom_20 hl rfl (al_inc k) (by decide) rfl (fun ls hl => ?_)
        refine lv_goto (tgt := 4) S.1 S.2.1 dX4_jumpsFrom_23 (by decide) ?_
        exact ih (k + 1) (a + 1) _ (by omega) (lv_sub hl [2, 1, 0] rfl) (fun a' ls e9 hl => K a' ls (by simp only [al_jmpL, if_neg (c1), if_neg (c2)]; exact e9) hl)
theorem al_mv_X4_jumpsFrom : al_mv yX4_jumpsFrom cX4_jumpsFrom 3 (some .int) 1 := ⟨al_c_X4_jumpsFrom, al_ini_RX4, ⟨by decide +kernel, by decide +kernel, by decide +kernel⟩, by decide +kernel⟩
theorem al_ms_X4_jumpsFrom : al_mst yX4_jumpsFrom cX4_jumpsFrom 3 (some .int) 1 := ⟨al_mv_X4_jumpsFrom, al_st_X4_jumpsFrom⟩
set_option maxHeartbeats 4000000 in
set_option maxRecDepth 100000 in
theorem al_X4_jumpsFrom (l : Launch) (D : va_G) (cy : al_CY) (ad : Nat → Nat) (σ : al_St) (x : Int32) : al_MP l yX4_jumpsFrom cX4_jumpsFrom 3 (some .int) 0 0 D cy ad σ [.int x] (some (.int (al_jmpL x 7 0 0))) := by
  refine al_met al_mv_X4_jumpsFrom (Nat.le_of_ble_eq_true rfl) ?_
  intro p e s m args below meth c ls S hr hlocks hK hW hS hl
  have hl : lv_has ls 3 [(0, .int x)] := hl
  refine lv_iconst (v := 0) S.1 S.2.1 dX4_jumpsFrom_0 (by decide) ?_
  refine lv_istore_n (lv' := [(1, .int 0), (0, .int x)]) S.1 S.2.1 dX4_jumpsFrom_1 rfl hl (by decide) rfl (fun ls hl => ?_)
  refine lv_iconst (v := 0) S.1 S.2.1 dX4_jumpsFrom_2 (by decide) ?_
  refine lv_istore_n (lv' := [(2, .int 0), (1, .int 0), (0, .int x)]) S.1 S.2.1 dX4_jumpsFrom_3 rfl hl (by decide) rfl (fun ls hl => ?_)
  refine al_lp_X4_jumps l D cy ad x S hK hW 7 0 0 _ (by omega) (lv_sub hl [2, 1, 0] rfl) (fun a1 ls e2 hl => ?_)
  refine lv_iload_n S.1 S.2.1 dX4_jumpsFrom_26 rfl (lv_at hl 0 rfl) ?_
  exact W.iret S.1 S.2.1 hr (fun t9 ht9 _ => ⟨(congrArg (fun z => Outcome.returned (some (Value.int z))) (by simp only [e2])), ht9⟩) (fun q hq => absurd hq List.not_mem_nil) dX4_jumpsFrom_27
set_option maxHeartbeats 4000000 in
set_option maxRecDepth 100000 in
theorem al_lp_X4_countJumps {p : Program} {e : Env} {s : State} {m : MethodId} {args : Array Value} {below : List Frame} {meth : Method} {c : Code} {Q : State → Prop} (l : Launch) (D : va_G) (cy : al_CY) (ad : Nat → Nat) (S : CallFix p m c cX4_countJumps 4 s args al_G RX4) (hK : va_K D vwCl (al_tys cy) s) {H : Heap} {locs : List Loc} {σ : al_St} (hW : al_H D cy ad σ H) : ∀ (n : Nat) (k : Nat) (a : Int32) (ls : Array Slot), k + n = 90 → lv_has ls 4 [(0, .ref (ad (5))), (1, .int a), (2, .int (nI k))] → (∀ (a' : Int32) (ls : Array Slot), al_cJm σ n k a = a' → lv_has ls 4 [(0, .ref (ad (5))), (1, .int a')] → W p l e (al_rm 2 42) s m args below meth c H locs 0 0 Q (F0 m 55 ls [])) → W p l e (al_rm 2 42) s m args below meth c H locs 0 0 Q (F0 m 4 ls []) := by
  intro n
  induction n with
  | zero =>
    intro k a ls hk hl K
    refine lv_iload_n S.1 S.2.1 dX4_countJumps_4 rfl (lv_at hl 2 rfl) ?_
    refine lv_aload_n S.1 S.2.1 dX4_countJumps_5 rfl (lv_at hl 0 rfl) ?_
    refine al_g_RX4_49 S hK hW dX4_countJumps_6 ?_
    refine lv_icmp_ge (tgt := 55) S.1 S.2.1 dX4_countJumps_9 (by decide) (fun c1 => ?_) (fun c1 => ?_)
    · exact K a _ (by simp only [al_cJm, if_pos (c1)]) (lv_sub hl [0, 1] rfl)
    · refine lv_iload_n S.1 S.2.1 dX4_countJumps_12 rfl (lv_at hl 2 rfl) ?_
      refine lv_bipush (v := 90) S.1 S.2.1 dX4_countJumps_13 (by decide) ?_
      refine lv_icmp_ge (tgt := 55) S.1 S.2.1 dX4_countJumps_15 (by decide) (fun c2 => ?_) (fun c2 => ?_)
      · exact K a _ (by simp only [al_cJm, if_neg (c1), if_pos (c2)]) (lv_sub hl [0, 1] rfl)
      · exact absurd (al_90' (by omega)) c2
  | succ n ih =>
    intro k a ls hk hl K
    refine lv_iload_n S.1 S.2.1 dX4_countJumps_4 rfl (lv_at hl 2 rfl) ?_
    refine lv_aload_n S.1 S.2.1 dX4_countJumps_5 rfl (lv_at hl 0 rfl) ?_
    refine al_g_RX4_49 S hK hW dX4_countJumps_6 ?_
    refine lv_icmp_ge (tgt := 55) S.1 S.2.1 dX4_countJumps_9 (by decide) (fun c1 => ?_) (fun c1 => ?_)
    · exact K a _ (by simp only [al_cJm, if_pos (c1)]) (lv_sub hl [0, 1] rfl)
    · refine lv_iload_n S.1 S.2.1 dX4_countJumps_12 rfl (lv_at hl 2 rfl) ?_
      refine lv_bipush (v := 90) S.1 S.2.1 dX4_countJumps_13 (by decide) ?_
      refine lv_icmp_ge (tgt := 55) S.1 S.2.1 dX4_countJumps_15 (by decide) (fun c2 => ?_) (fun c2 => ?_)
      · exact absurd c2 (al_90 (by omega))
      · refine lv_aload_n S.1 S.2.1 dX4_countJumps_18 rfl (lv_at hl 0 rfl) ?_
        refine al_g_RX4_25 S hK hW dX4_countJumps_19 ?_
        refine lv_iload_n S.1 S.2.1 dX4_countJumps_22 rfl (lv_at hl 2 rfl) ?_
        refine al_cP (rest := []) S hK hW (al_X2_get l D cy ad σ 14 (by omega) (nI k)) al_mi_X2_get al_ml_RX4_79 rfl (al_rc_R D cy ad _ (i := 14) (by omega)) rfl hl.1 rfl (Nat.le_of_ble_eq_true rfl) dX4_countJumps_23 ⟨Nat.le_of_ble_eq_true rfl, Nat.le_of_ble_eq_true rfl⟩ ⟨Nat.zero_le _, Nat.zero_le _⟩ ?_
        refine W.eq (g2 := F0 m 26 ls [.int (al_rg (σ.1 14) (nI k))]) rfl ?_
        refine lv_istore_n (lv' := [(3, .int (al_rg (σ.1 14) (nI k))), (0, .ref (ad (5))), (1, .int a), (2, .int (nI k))]) S.1 S.2.1 dX4_countJumps_26 rfl hl (by decide) rfl (fun ls hl => ?_)
        refine lv_aload_n S.1 S.2.1 dX4_countJumps_27 rfl (lv_at hl 1 rfl) ?_
        refine lv_iload_n S.1 S.2.1 dX4_countJumps_28 rfl (lv_at hl 0 rfl) ?_
        refine al_cP (rest := []) S hK hW (al_X4_isLeaf l D cy ad σ (al_rg (σ.1 14) (nI k))) al_mi_X4_isLeaf al_ml_RX4_109 rfl (al_rc_4 D cy ad _) rfl hl.1 rfl (Nat.le_of_ble_eq_true rfl) dX4_countJumps_29 ⟨Nat.le_of_ble_eq_true rfl, Nat.le_of_ble_eq_true rfl⟩ ⟨Nat.zero_le _, Nat.zero_le _⟩ ?_
        refine W.eq (g2 := F0 m 32 ls [.int (al_isLf σ (al_rg (σ.1 14) (nI k)))]) rfl ?_
        refine lv_if_eq (tgt := 49) S.1 S.2.1 dX4_countJumps_32 (by decide) (fun c3 => ?_) (fun c3 => ?_)
        · refine lv_iinc (k := 3) (v := nI (k + 1)) (lv' := [(2, .int (nI (k + 1))), (3, .int (al_rg (σ.1 14) (nI k))), (0, .ref (ad (5))), (1, .int a)]) S.1 S.2.1 dX4_countJumps_49 hl rfl (al_inc k) (by decide) rfl (fun ls hl => ?_)
          refine lv_goto (tgt := 4) S.1 S.2.1 dX4_countJumps_52 (by decide) ?_
          exact ih (k + 1) a _ (by omega) (lv_sub hl [2, 3, 0] rfl) (fun a' ls e9 hl => K a' ls (by simp only [al_cJm, if_neg (c1), if_neg (c2), if_pos (c3)]; exact e9) hl)
        · refine lv_iload_n S.1 S.2.1 dX4_countJumps_35 rfl (lv_at hl 2 rfl) ?_
          refine lv_aload_n S.1 S.2.1 dX4_countJumps_36 rfl (lv_at hl 1 rfl) ?_
          refine al_g_RX4_28 S hK hW dX4_countJumps_37 ?_
          refine lv_iload_n S.1 S.2.1 dX4_countJumps_40 rfl (lv_at hl 0 rfl) ?_
          refine al_cP (rest := [.int a]) S hK hW (al_X2_get l D cy ad σ 15 (by omega) (al_rg (σ.1 14) (nI k))) al_mi_X2_get al_ml_RX4_79 rfl (al_rc_R D cy ad _ (i := 15) (by omega)) rfl hl.1 rfl (Nat.le_of_ble_eq_true rfl) dX4_countJumps_41 ⟨Nat.le_of_ble_eq_true rfl, Nat.le_of_ble_eq_true rfl⟩ ⟨Nat.zero_le _, Nat.zero_le _⟩ ?_
          refine W.eq (g2 := F0 m 44 ls [.int (al_rg (σ.1 15) (al_rg (σ.1 14) (nI k))), .int a]) rfl ?_
          refine al_cPs (rest := [.int a]) S hK hW (al_X4_jumpsFrom l D cy ad σ (al_rg (σ.1 15) (al_rg (σ.1 14) (nI k)))) al_ms_X4_jumpsFrom al_ml_RX4_112 rfl hl.1 rfl (Nat.le_of_ble_eq_true rfl) dX4_countJumps_44 ⟨Nat.le_of_ble_eq_true rfl, Nat.le_of_ble_eq_true rfl⟩ ⟨Nat.zero_le _, Nat.zero_le _⟩ ?_
          refine W.eq (g2 := F0 m 47 ls [.int (al_jmpL (al_rg (σ.1 15) (al_rg (σ.1 14) (nI k))) 7 0 0), .int a]) rfl ?_
          refine lv_iadd S.1 S.2.1 dX4_countJumps_47 ?_
          refine lv_istore_n (lv' := [(1, .int (a + (al_jmpL (al_rg (σ.1 15) (al_rg (σ.1 14) (nI k))) 7 0 0))), (3, .int (al_rg (σ.1 14) (nI k))), (0, .ref (ad (5))), (2, .int (nI k))]) S.1 S.2.1 dX4_countJumps_48 rfl hl (by decide) rfl (fun ls hl => ?_)
          refine lv_iinc (k := 3) (v := nI (k + 1)) (lv' := [(2, .int (nI (k + 1))), (1, .int (a + (al_jmpL (al_rg (σ.1 15) (al_rg (σ.1 14) (nI k))) 7 0 0))), (3, .int (al_rg (σ.1 14) (nI k))), (0, .ref (ad (5)))]) S.1 S.2.1 dX4_countJumps_49 hl rfl (al_inc k) (by decide) rfl (fun ls hl => ?_)
          refine lv_goto (tgt := 4) S.1 S.2.1 dX4_countJumps_52 (by decide) ?_
          exact ih (k + 1) (a + (al_jmpL (al_rg (σ.1 15) (al_rg (σ.1 14) (nI k))) 7 0 0)) _ (by omega) (lv_sub hl [3, 1, 0] rfl) (fun a' ls e9 hl => K a' ls (by simp only [al_cJm, if_neg (c1), if_neg (c2), if_neg (c3)]; exact e9) hl)
theorem al_mv_X4_countJumps : al_mv yX4_countJumps cX4_countJumps 4 (some .int) 0 := ⟨al_c_X4_countJumps, al_ini_RX4, ⟨by decide +kernel, by decide +kernel, by decide +kernel⟩, by decide +kernel⟩
theorem al_mi_X4_countJumps : al_mi yX4_countJumps cX4_countJumps 4 (some .int) 0 := ⟨al_mv_X4_countJumps, al_in_X4_countJumps, al_se_X4_countJumps⟩
set_option maxHeartbeats 4000000 in
set_option maxRecDepth 100000 in
theorem al_X4_countJumps (l : Launch) (D : va_G) (cy : al_CY) (ad : Nat → Nat) (σ : al_St) : al_MP l yX4_countJumps cX4_countJumps 4 (some .int) 2 42 D cy ad σ [.ref (ad (5))] (some (.int (al_cJm σ 90 0 0))) := by
  refine al_met al_mv_X4_countJumps (Nat.le_of_ble_eq_true rfl) ?_
  intro p e s m args below meth c ls S hr hlocks hK hW hS hl
  have hl : lv_has ls 4 [(0, .ref (ad (5)))] := hl
  refine lv_iconst (v := 0) S.1 S.2.1 dX4_countJumps_0 (by decide) ?_
  refine lv_istore_n (lv' := [(1, .int 0), (0, .ref (ad (5)))]) S.1 S.2.1 dX4_countJumps_1 rfl hl (by decide) rfl (fun ls hl => ?_)
  refine lv_iconst (v := 0) S.1 S.2.1 dX4_countJumps_2 (by decide) ?_
  refine lv_istore_n (lv' := [(2, .int 0), (1, .int 0), (0, .ref (ad (5)))]) S.1 S.2.1 dX4_countJumps_3 rfl hl (by decide) rfl (fun ls hl => ?_)
  refine al_lp_X4_countJumps l D cy ad  S hK hW 90 0 0 _ (by omega) (lv_sub hl [2, 1, 0] rfl) (fun a1 ls e2 hl => ?_)
  refine lv_iload_n S.1 S.2.1 dX4_countJumps_55 rfl (lv_at hl 1 rfl) ?_
  exact W.iret S.1 S.2.1 hr (fun t9 ht9 _ => ⟨(congrArg (fun z => Outcome.returned (some (Value.int z))) (by simp only [e2])), ht9⟩) (fun q hq => absurd hq List.not_mem_nil) dX4_countJumps_56
