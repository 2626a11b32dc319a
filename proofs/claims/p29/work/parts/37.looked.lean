/-! isLooked -/
theorem al_cmp_ge {x g : UInt32} (hx : FP.Core.val32 x ≠ .nan) (hg : FP.Core.val32 g ≠ .nan) (h : al_z g ≤ al_z x) : ¬ Op.cmpValue (FP.fcmp x g) .l < 0 := by
  intro hc
  have h1 : Op.cmpValue (FP.fcmp x g) .l ≤ 0 := by
    rw [Int32.le_iff_toInt_le]
    rw [Int32.lt_iff_toInt_lt] at hc
    omega
  have h2 := (al_cmp hx hg).mp h1
  have h3 := (al_cmp_eq hx hg).mpr (by omega)
  rw [h3] at hc
  exact absurd hc (by decide)
/-- whether the meeting was seen among the first k of the way -/
def al_mt (P : Nat → Int32) (d : Nat → Nat) (x y m : Nat) : Nat → Int32
  | 0 => 0
  | k + 1 => if al_mt P d x y m k = 0 then (if nI (al_wp P d x y m k) = nI m then 1 else 0) else 1
theorem al_mt_I {P : Nat → Int32} {E : Nat} {d : Nat → Nat} {x y m : Nat} (hm : al_com P E d x y m) : ∀ k, (al_mt P d x y m k = 0 ∨ al_mt P d x y m k = 1) ∧ (d x - d m < k → al_mt P d x y m k = 1)
  | 0 => ⟨Or.inl rfl, fun h => absurd h (Nat.not_lt_zero _)⟩
  | k + 1 => by
    obtain ⟨h1, h2⟩ := al_mt_I hm k
    refine ⟨?_, fun h => ?_⟩
    · rw [al_mt]
      split
      · split
        · exact Or.inr rfl
        · exact Or.inl rfl
      · exact Or.inr rfl
    · rw [al_mt]
      by_cases hk : d x - d m < k
      · rw [h2 hk]; rfl
      · have e : k = d x - d m := by omega
        split
        · rw [e, al_wp_at hm, if_pos rfl]
        · rfl
set_option maxHeartbeats 4000000 in
set_option maxRecDepth 100000 in
theorem al_sg_lk1 {p : Program} {e : Env} {s : State} {m : MethodId} {args : Array Value} {below : List Frame} {meth : Method} {c : Code} {Q : State → Prop} (l : Launch) (D : va_G) (cy : al_CY) (ad : Nat → Nat) {τ : al_St} {E : Nat} {d : Nat → Nat} {q : List Nat} (hg : al_GG τ E d q) {A : Nat} (hA : al_nd (τ.1 0) E A) (B : Nat) (S : CallFix p m c cL_isLooked 11 s args al_G RL) (hK : va_K D vwCl (al_tys cy) s) {H0 : Heap} (K : ∀ (σ : al_St) (H : Heap) (locs : List Loc) (ls : Array Slot), al_Rl τ σ → al_H D cy ad σ H → va_S (al_A ad) H0 H locs → lv_has ls 11 [(0, .ref (ad (0))), (1, .int (nI A)), (2, .int (nI B)), (3, .int (nI (d A)))] → W p l e (al_rm 6 140) s m args below meth c H locs 0 0 Q (F0 m 87 ls [])) : ∀ (n j : Nat), j + n = d A → ∀ (σ : al_St) (H : Heap) (locs : List Loc) (ls : Array Slot), al_Rl τ σ → al_H D cy ad σ H → va_S (al_A ad) H0 H locs → lv_has ls 11 [(0, .ref (ad (0))), (1, .int (nI A)), (2, .int (nI B)), (3, .int (nI (d A))), (4, .int (nI (j + 1)))] → W p l e (al_rm 6 140) s m args below meth c H locs 0 0 Q (F0 m 28 ls []) := by
  intro n
  induction n with
  | zero =>
    intro j hk σ H locs ls hR hW hS hl
    have hd9 := al_GG_dd hg A hA
    refine lv_iload S.1 S.2.1 dL_isLooked_28 (lv_at hl 4 rfl) ?_
    refine lv_iload_n S.1 S.2.1 dL_isLooked_30 rfl (lv_at hl 3 rfl) ?_
    refine lv_icmp_gt (tgt := 87) S.1 S.2.1 dL_isLooked_31 (by decide) (fun c1 => ?_) (fun c1 => ?_)
    · exact K _ _ _ _ hR hW hS (lv_sub hl [0, 1, 2, 3] rfl)
    · exact absurd (nI_lt (by omega) (by omega)) c1
  | succ n ih =>
    intro j hk σ H locs ls hR hW hS hl
    have hd9 := al_GG_dd hg A hA
    refine lv_iload S.1 S.2.1 dL_isLooked_28 (lv_at hl 4 rfl) ?_
    refine lv_iload_n S.1 S.2.1 dL_isLooked_30 rfl (lv_at hl 3 rfl) ?_
    refine lv_icmp_gt (tgt := 87) S.1 S.2.1 dL_isLooked_31 (by decide) (fun c1 => ?_) (fun c1 => ?_)
    · exact absurd c1 (nI_nlt (by omega) (by omega))
    · refine lv_aload_n S.1 S.2.1 dL_isLooked_34 rfl (lv_at hl 0 rfl) ?_
      refine lv_iload_n S.1 S.2.1 dL_isLooked_35 rfl (lv_at hl 1 rfl) ?_
      refine lv_iload S.1 S.2.1 dL_isLooked_36 (lv_at hl 4 rfl) ?_
      refine al_cP (rest := []) S hK hW (al_X8_looks l D cy ad σ (nI A) (nI (j + 1))) al_mi_X8_looks al_ml_RL_45 rfl (al_rc_8 D cy ad _) rfl hl.1 rfl (Nat.le_of_ble_eq_true rfl) dL_isLooked_38 ⟨Nat.le_of_ble_eq_true rfl, Nat.le_of_ble_eq_true rfl⟩ ⟨Nat.zero_le _, Nat.zero_le _⟩ ?_
      refine W.eq (g2 := F0 m 41 ls [.int (al_lks τ (nI A) (nI (j + 1)))]) (congrArg (fun z => F0 m 41 ls (Value.int z :: [])) (hR.lks (nI A) (nI (j + 1)))) ?_
      refine lv_istore (lv' := [(5, .int (al_lks τ (nI A) (nI (j + 1)))), (0, .ref (ad (0))), (1, .int (nI A)), (2, .int (nI B)), (3, .int (nI (d A))), (4, .int (nI (j + 1)))]) S.1 S.2.1 dL_isLooked_41 hl (by decide) rfl (fun ls hl => ?_)
      refine lv_aload_n S.1 S.2.1 dL_isLooked_43 rfl (lv_at hl 1 rfl) ?_
      refine lv_iload_n S.1 S.2.1 dL_isLooked_44 rfl (lv_at hl 2 rfl) ?_
      refine lv_iload S.1 S.2.1 dL_isLooked_45 (lv_at hl 5 rfl) ?_
      refine al_cP (rest := []) S hK hW (al_X8_ancestor l D cy ad σ (nI A) (nI (j + 1))) al_mi_X8_ancestor al_ml_RL_39 rfl (al_rc_8 D cy ad _) rfl hl.1 rfl (Nat.le_of_ble_eq_true rfl) dL_isLooked_47 ⟨Nat.le_of_ble_eq_true rfl, Nat.le_of_ble_eq_true rfl⟩ ⟨Nat.zero_le _, Nat.zero_le _⟩ ?_
      refine W.eq (g2 := F0 m 50 ls [.int (nI (al_up (τ.1 0) (j + 1) A))]) (congrArg (fun z => F0 m 50 ls (Value.int z :: [])) ((hR.anc (nI A) (nI (j + 1))).trans (al_anc_I hg hA (by omega)))) ?_
      refine lv_aload_n S.1 S.2.1 dL_isLooked_50 rfl (lv_at hl 1 rfl) ?_
      refine lv_aload_n S.1 S.2.1 dL_isLooked_51 rfl (lv_at hl 1 rfl) ?_
      refine lv_iload_n S.1 S.2.1 dL_isLooked_52 rfl (lv_at hl 2 rfl) ?_
      refine lv_iload S.1 S.2.1 dL_isLooked_53 (lv_at hl 5 rfl) ?_
      refine lv_iconst (v := 1) S.1 S.2.1 dL_isLooked_55 (by decide) ?_
      refine lv_isub S.1 S.2.1 dL_isLooked_56 ?_
      refine al_cP (rest := [.ref (ad (0)), .int (nI (al_up (τ.1 0) (j + 1) A))]) S hK hW (al_X8_ancestor l D cy ad σ (nI A) ((nI (j + 1)) - 1)) al_mi_X8_ancestor al_ml_RL_39 rfl (al_rc_8 D cy ad _) rfl hl.1 rfl (Nat.le_of_ble_eq_true rfl) dL_isLooked_57 ⟨Nat.le_of_ble_eq_true rfl, Nat.le_of_ble_eq_true rfl⟩ ⟨Nat.zero_le _, Nat.zero_le _⟩ ?_
      refine W.eq (g2 := F0 m 60 ls [.int (nI (al_up (τ.1 0) j A)), .ref (ad (0)), .int (nI (al_up (τ.1 0) (j + 1) A))]) (congrArg (fun z => F0 m 60 ls (Value.int z :: [.ref (ad (0)), .int (nI (al_up (τ.1 0) (j + 1) A))])) ((hR.anc (nI A) ((nI (j + 1)) - 1)).trans (by rw [nI_pred]; exact al_anc_I hg hA (by omega)))) ?_
      refine lv_iconst (v := 0) S.1 S.2.1 dL_isLooked_60 (by decide) ?_
      refine al_cP (rest := [.int (nI (al_up (τ.1 0) (j + 1) A))]) S hK hW (al_X8_node l D cy ad σ (nI (al_up (τ.1 0) j A)) 0) al_mi_X8_node al_ml_RL_18 rfl (al_rc_8 D cy ad _) rfl hl.1 rfl (Nat.le_of_ble_eq_true rfl) dL_isLooked_61 ⟨Nat.le_of_ble_eq_true rfl, Nat.le_of_ble_eq_true rfl⟩ ⟨Nat.zero_le _, Nat.zero_le _⟩ ?_
      refine W.eq (g2 := F0 m 64 ls [.int (nI (al_up (τ.1 0) (j + 1) A)), .int (nI (al_up (τ.1 0) (j + 1) A))]) (congrArg (fun z => F0 m 64 ls (Value.int z :: [.int (nI (al_up (τ.1 0) (j + 1) A))])) ((hR.node (nI (al_up (τ.1 0) j A)) 0).trans (al_up_par hg hA (by omega)))) ?_
      refine lv_icmp_ne (tgt := 79) S.1 S.2.1 dL_isLooked_64 (by decide) (fun c2 => ?_) (fun c2 => ?_)
      · exact absurd rfl c2
      · refine lv_iload S.1 S.2.1 dL_isLooked_67 (lv_at hl 0 rfl) ?_
        refine lv_iconst (v := 1) S.1 S.2.1 dL_isLooked_69 (by decide) ?_
        refine lv_icmp_lt (tgt := 79) S.1 S.2.1 dL_isLooked_70 (by decide) (fun c3 => ?_) (fun c3 => ?_)
        · exact absurd c3 (by rcases al_lks_I hg hA (k := j + 1) (by omega) (by omega) with e9 | e9 | e9 <;> rw [e9] <;> decide)
        · refine lv_iload S.1 S.2.1 dL_isLooked_73 (lv_at hl 0 rfl) ?_
          refine lv_iconst (v := 3) S.1 S.2.1 dL_isLooked_75 (by decide) ?_
          refine lv_icmp_le (tgt := 81) S.1 S.2.1 dL_isLooked_76 (by decide) (fun c4 => ?_) (fun c4 => ?_)
          · refine lv_iinc (k := 5) (v := nI ((j + 1) + 1)) (lv' := [(4, .int (nI ((j + 1) + 1))), (5, .int (al_lks τ (nI A) (nI (j + 1)))), (0, .ref (ad (0))), (1, .int (nI A)), (2, .int (nI B)), (3, .int (nI (d A)))]) S.1 S.2.1 dL_isLooked_81 hl rfl (al_inc (j + 1)) (by decide) rfl (fun ls hl => ?_)
            refine lv_goto (tgt := 28) S.1 S.2.1 dL_isLooked_84 (by decide) ?_
            exact ih (j + 1) (by omega) _ _ _ _ hR hW hS (lv_sub hl [2, 3, 4, 5, 0] rfl)
          · exact absurd (by rcases al_lks_I hg hA (k := j + 1) (by omega) (by omega) with e9 | e9 | e9 <;> rw [e9] <;> decide) c4
set_option maxHeartbeats 4000000 in
set_option maxRecDepth 100000 in
theorem al_sg_lk2 {p : Program} {e : Env} {s : State} {m : MethodId} {args : Array Value} {below : List Frame} {meth : Method} {c : Code} {Q : State → Prop} (l : Launch) (D : va_G) (cy : al_CY) (ad : Nat → Nat) {τ : al_St} {E : Nat} {d : Nat → Nat} {q : List Nat} (hg : al_GG τ E d q) {A : Nat} (hA : al_nd (τ.1 0) E A) (B : Nat) (S : CallFix p m c cL_isLooked 11 s args al_G RL) (hK : va_K D vwCl (al_tys cy) s) {H0 : Heap} (K : ∀ (σ : al_St) (H : Heap) (locs : List Loc) (ls : Array Slot), al_Rl τ σ → al_H D cy ad σ H → va_S (al_A ad) H0 H locs → lv_has ls 11 [(0, .ref (ad (0))), (1, .int (nI A)), (2, .int (nI B)), (4, .int (nI (al_ld (τ.1 0) E d A)))] → W p l e (al_rm 6 140) s m args below meth c H locs 0 0 Q (F0 m 225 ls [])) : ∀ (n k : Nat), k + n = al_ld (τ.1 0) E d A → ∀ (σ : al_St) (H : Heap) (locs : List Loc) (ls : Array Slot), al_Rl τ σ → al_H D cy ad σ H → va_S (al_A ad) H0 H locs → lv_has ls 11 [(0, .ref (ad (0))), (1, .int (nI A)), (2, .int (nI B)), (4, .int (nI (al_ld (τ.1 0) E d A))), (5, .int (nI k))] → W p l e (al_rm 6 140) s m args below meth c H locs 0 0 Q (F0 m 145 ls []) := by
  intro n
  induction n with
  | zero =>
    intro k hk σ H locs ls hR hW hS hl
    have h180 := al_ld_lt hg hA
    have hlf := al_lad_le hg hA
    obtain ⟨f1, f2, f3⟩ := al_Ft_I hg.1 (al_GG_dd hg) _ A rfl hA
    have hh9 := al_Hh_lt hg.1 (al_GG_dd hg) hA
    refine lv_iload S.1 S.2.1 dL_isLooked_145 (lv_at hl 4 rfl) ?_
    refine lv_iload S.1 S.2.1 dL_isLooked_147 (lv_at hl 3 rfl) ?_
    refine lv_icmp_ge (tgt := 225) S.1 S.2.1 dL_isLooked_149 (by decide) (fun c1 => ?_) (fun c1 => ?_)
    · exact K _ _ _ _ hR hW hS (lv_sub hl [0, 1, 2, 3] rfl)
    · exact absurd (nI_le (by omega) (by omega)) c1
  | succ n ih =>
    intro k hk σ H locs ls hR hW hS hl
    have h180 := al_ld_lt hg hA
    have hlf := al_lad_le hg hA
    obtain ⟨f1, f2, f3⟩ := al_Ft_I hg.1 (al_GG_dd hg) _ A rfl hA
    have hh9 := al_Hh_lt hg.1 (al_GG_dd hg) hA
    by_cases h0 : k = 0
    · refine lv_iload S.1 S.2.1 dL_isLooked_145 (lv_at hl 4 rfl) ?_
      refine lv_iload S.1 S.2.1 dL_isLooked_147 (lv_at hl 3 rfl) ?_
      refine lv_icmp_ge (tgt := 225) S.1 S.2.1 dL_isLooked_149 (by decide) (fun c1 => ?_) (fun c1 => ?_)
      · exact absurd c1 (nI_ge (by omega) (by omega))
      · refine lv_aload_n S.1 S.2.1 dL_isLooked_152 rfl (lv_at hl 0 rfl) ?_
        refine lv_iload_n S.1 S.2.1 dL_isLooked_153 rfl (lv_at hl 1 rfl) ?_
        refine lv_iload S.1 S.2.1 dL_isLooked_154 (lv_at hl 4 rfl) ?_
        refine al_cP (rest := []) S hK hW (al_X8_ladderAt l D cy ad σ (nI A) (nI k)) al_mi_X8_ladderAt al_ml_RL_48 rfl (al_rc_8 D cy ad _) rfl hl.1 rfl (Nat.le_of_ble_eq_true rfl) dL_isLooked_156 ⟨Nat.le_of_ble_eq_true rfl, Nat.le_of_ble_eq_true rfl⟩ ⟨Nat.zero_le _, Nat.zero_le _⟩ ?_
        refine W.eq (g2 := F0 m 159 ls [.int (nI (al_up (τ.1 0) k (al_Ft (τ.1 0) E A)))]) (congrArg (fun z => F0 m 159 ls (Value.int z :: [])) ((hR.ladAt (nI A) (nI k)).trans (al_ladAt_I hg hA (by omega)))) ?_
        refine lv_istore (lv' := [(6, .int (nI (al_up (τ.1 0) k (al_Ft (τ.1 0) E A)))), (0, .ref (ad (0))), (1, .int (nI A)), (2, .int (nI B)), (4, .int (nI (al_ld (τ.1 0) E d A))), (5, .int (nI k))]) S.1 S.2.1 dL_isLooked_159 hl (by decide) rfl (fun ls hl => ?_)
        refine lv_iload S.1 S.2.1 dL_isLooked_161 (lv_at hl 5 rfl) ?_
        refine lv_if_ne (tgt := 181) S.1 S.2.1 dL_isLooked_163 (by decide) (fun c2 => ?_) (fun c2 => ?_)
        · exact absurd (by rw [h0]; rfl) c2
        · refine lv_iload S.1 S.2.1 dL_isLooked_166 (lv_at hl 0 rfl) ?_
          refine lv_aload_n S.1 S.2.1 dL_isLooked_168 rfl (lv_at hl 1 rfl) ?_
          refine lv_iload_n S.1 S.2.1 dL_isLooked_169 rfl (lv_at hl 2 rfl) ?_
          refine lv_bipush (v := 7) S.1 S.2.1 dL_isLooked_170 (by decide) ?_
          refine al_cP (rest := [.int (nI (al_up (τ.1 0) k (al_Ft (τ.1 0) E A)))]) S hK hW (al_X8_node l D cy ad σ (nI A) 7) al_mi_X8_node al_ml_RL_18 rfl (al_rc_8 D cy ad _) rfl hl.1 rfl (Nat.le_of_ble_eq_true rfl) dL_isLooked_172 ⟨Nat.le_of_ble_eq_true rfl, Nat.le_of_ble_eq_true rfl⟩ ⟨Nat.zero_le _, Nat.zero_le _⟩ ?_
          refine W.eq (g2 := F0 m 175 ls [.int (nI (al_Ft (τ.1 0) E A)), .int (nI (al_up (τ.1 0) k (al_Ft (τ.1 0) E A)))]) (congrArg (fun z => F0 m 175 ls (Value.int z :: [.int (nI (al_up (τ.1 0) k (al_Ft (τ.1 0) E A)))])) ((hR.node (nI A) 7).trans (al_n7 hg hA))) ?_
          refine lv_icmp_eq (tgt := 219) S.1 S.2.1 dL_isLooked_175 (by decide) (fun c3 => ?_) (fun c3 => ?_)
          · refine lv_iinc (k := 5) (v := nI (k + 1)) (lv' := [(5, .int (nI (k + 1))), (6, .int (nI (al_up (τ.1 0) k (al_Ft (τ.1 0) E A)))), (0, .ref (ad (0))), (1, .int (nI A)), (2, .int (nI B)), (4, .int (nI (al_ld (τ.1 0) E d A)))]) S.1 S.2.1 dL_isLooked_219 hl rfl (al_inc k) (by decide) rfl (fun ls hl => ?_)
            refine lv_goto (tgt := 145) S.1 S.2.1 dL_isLooked_222 (by decide) ?_
            exact ih (k + 1) (by omega) _ _ _ _ hR hW hS (lv_sub hl [2, 3, 4, 5, 0] rfl)
          · exact absurd (by rw [h0]; rfl) c3
    · refine lv_iload S.1 S.2.1 dL_isLooked_145 (lv_at hl 4 rfl) ?_
      refine lv_iload S.1 S.2.1 dL_isLooked_147 (lv_at hl 3 rfl) ?_
      refine lv_icmp_ge (tgt := 225) S.1 S.2.1 dL_isLooked_149 (by decide) (fun c4 => ?_) (fun c4 => ?_)
      · exact absurd c4 (nI_ge (by omega) (by omega))
      · refine lv_aload_n S.1 S.2.1 dL_isLooked_152 rfl (lv_at hl 0 rfl) ?_
        refine lv_iload_n S.1 S.2.1 dL_isLooked_153 rfl (lv_at hl 1 rfl) ?_
        refine lv_iload S.1 S.2.1 dL_isLooked_154 (lv_at hl 4 rfl) ?_
        refine al_cP (rest := []) S hK hW (al_X8_ladderAt l D cy ad σ (nI A) (nI k)) al_mi_X8_ladderAt al_ml_RL_48 rfl (al_rc_8 D cy ad _) rfl hl.1 rfl (Nat.le_of_ble_eq_true rfl) dL_isLooked_156 ⟨Nat.le_of_ble_eq_true rfl, Nat.le_of_ble_eq_true rfl⟩ ⟨Nat.zero_le _, Nat.zero_le _⟩ ?_
        refine W.eq (g2 := F0 m 159 ls [.int (nI (al_up (τ.1 0) k (al_Ft (τ.1 0) E A)))]) (congrArg (fun z => F0 m 159 ls (Value.int z :: [])) ((hR.ladAt (nI A) (nI k)).trans (al_ladAt_I hg hA (by omega)))) ?_
        refine lv_istore (lv' := [(6, .int (nI (al_up (τ.1 0) k (al_Ft (τ.1 0) E A)))), (0, .ref (ad (0))), (1, .int (nI A)), (2, .int (nI B)), (4, .int (nI (al_ld (τ.1 0) E d A))), (5, .int (nI k))]) S.1 S.2.1 dL_isLooked_159 hl (by decide) rfl (fun ls hl => ?_)
        refine lv_iload S.1 S.2.1 dL_isLooked_161 (lv_at hl 5 rfl) ?_
        refine lv_if_ne (tgt := 181) S.1 S.2.1 dL_isLooked_163 (by decide) (fun c5 => ?_) (fun c5 => ?_)
        · refine lv_iload S.1 S.2.1 dL_isLooked_181 (lv_at hl 0 rfl) ?_
          refine lv_aload_n S.1 S.2.1 dL_isLooked_183 rfl (lv_at hl 1 rfl) ?_
          refine lv_aload_n S.1 S.2.1 dL_isLooked_184 rfl (lv_at hl 1 rfl) ?_
          refine lv_iload_n S.1 S.2.1 dL_isLooked_185 rfl (lv_at hl 2 rfl) ?_
          refine lv_iload S.1 S.2.1 dL_isLooked_186 (lv_at hl 5 rfl) ?_
          refine lv_iconst (v := 1) S.1 S.2.1 dL_isLooked_188 (by decide) ?_
          refine lv_isub S.1 S.2.1 dL_isLooked_189 ?_
          refine al_cP (rest := [.ref (ad (0)), .int (nI (al_up (τ.1 0) k (al_Ft (τ.1 0) E A)))]) S hK hW (al_X8_ladderAt l D cy ad σ (nI A) ((nI k) - 1)) al_mi_X8_ladderAt al_ml_RL_48 rfl (al_rc_8 D cy ad _) rfl hl.1 rfl (Nat.le_of_ble_eq_true rfl) dL_isLooked_190 ⟨Nat.le_of_ble_eq_true rfl, Nat.le_of_ble_eq_true rfl⟩ ⟨Nat.zero_le _, Nat.zero_le _⟩ ?_
          refine W.eq (g2 := F0 m 193 ls [.int (nI (al_up (τ.1 0) (k - 1) (al_Ft (τ.1 0) E A))), .ref (ad (0)), .int (nI (al_up (τ.1 0) k (al_Ft (τ.1 0) E A)))]) (congrArg (fun z => F0 m 193 ls (Value.int z :: [.ref (ad (0)), .int (nI (al_up (τ.1 0) k (al_Ft (τ.1 0) E A)))])) ((hR.ladAt (nI A) ((nI k) - 1)).trans (by rw [show nI k - 1 = nI (k - 1) from pk_sub (a := k) (b := 1) (by omega)]; exact al_ladAt_I hg hA (by omega)))) ?_
          refine lv_iconst (v := 0) S.1 S.2.1 dL_isLooked_193 (by decide) ?_
          refine al_cP (rest := [.int (nI (al_up (τ.1 0) k (al_Ft (τ.1 0) E A)))]) S hK hW (al_X8_node l D cy ad σ (nI (al_up (τ.1 0) (k - 1) (al_Ft (τ.1 0) E A))) 0) al_mi_X8_node al_ml_RL_18 rfl (al_rc_8 D cy ad _) rfl hl.1 rfl (Nat.le_of_ble_eq_true rfl) dL_isLooked_194 ⟨Nat.le_of_ble_eq_true rfl, Nat.le_of_ble_eq_true rfl⟩ ⟨Nat.zero_le _, Nat.zero_le _⟩ ?_
          refine W.eq (g2 := F0 m 197 ls [.int (nI (al_up (τ.1 0) k (al_Ft (τ.1 0) E A))), .int (nI (al_up (τ.1 0) k (al_Ft (τ.1 0) E A)))]) (congrArg (fun z => F0 m 197 ls (Value.int z :: [.int (nI (al_up (τ.1 0) k (al_Ft (τ.1 0) E A)))])) ((hR.node (nI (al_up (τ.1 0) (k - 1) (al_Ft (τ.1 0) E A))) 0).trans (by have h9 := al_up_par hg (k := k - 1) f1 (by omega); rw [show k - 1 + 1 = k by omega] at h9; exact h9))) ?_
          refine lv_icmp_ne (tgt := 217) S.1 S.2.1 dL_isLooked_197 (by decide) (fun c6 => ?_) (fun c6 => ?_)
          · exact absurd rfl c6
          · refine lv_iload S.1 S.2.1 dL_isLooked_200 (lv_at hl 5 rfl) ?_
            refine lv_aload_n S.1 S.2.1 dL_isLooked_202 rfl (lv_at hl 1 rfl) ?_
            refine lv_iload_n S.1 S.2.1 dL_isLooked_203 rfl (lv_at hl 2 rfl) ?_
            refine lv_iconst (v := 2) S.1 S.2.1 dL_isLooked_204 (by decide) ?_
            refine al_cP (rest := [.int (nI k)]) S hK hW (al_X8_node l D cy ad σ (nI A) 2) al_mi_X8_node al_ml_RL_18 rfl (al_rc_8 D cy ad _) rfl hl.1 rfl (Nat.le_of_ble_eq_true rfl) dL_isLooked_205 ⟨Nat.le_of_ble_eq_true rfl, Nat.le_of_ble_eq_true rfl⟩ ⟨Nat.zero_le _, Nat.zero_le _⟩ ?_
            refine W.eq (g2 := F0 m 208 ls [.int (nI (al_Hh (τ.1 0) E A)), .int (nI k)]) (congrArg (fun z => F0 m 208 ls (Value.int z :: [.int (nI k)])) ((hR.node (nI A) 2).trans (al_n2 hg hA))) ?_
            refine lv_icmp_ne (tgt := 219) S.1 S.2.1 dL_isLooked_208 (by decide) (fun c7 => ?_) (fun c7 => ?_)
            · refine lv_iinc (k := 5) (v := nI (k + 1)) (lv' := [(5, .int (nI (k + 1))), (6, .int (nI (al_up (τ.1 0) k (al_Ft (τ.1 0) E A)))), (0, .ref (ad (0))), (1, .int (nI A)), (2, .int (nI B)), (4, .int (nI (al_ld (τ.1 0) E d A)))]) S.1 S.2.1 dL_isLooked_219 hl rfl (al_inc k) (by decide) rfl (fun ls hl => ?_)
              refine lv_goto (tgt := 145) S.1 S.2.1 dL_isLooked_222 (by decide) ?_
              exact ih (k + 1) (by omega) _ _ _ _ hR hW hS (lv_sub hl [2, 3, 4, 5, 0] rfl)
            · refine lv_iload S.1 S.2.1 dL_isLooked_211 (lv_at hl 0 rfl) ?_
              refine lv_iload_n S.1 S.2.1 dL_isLooked_213 rfl (lv_at hl 2 rfl) ?_
              refine lv_icmp_eq (tgt := 219) S.1 S.2.1 dL_isLooked_214 (by decide) (fun c8 => ?_) (fun c8 => ?_)
              · refine lv_iinc (k := 5) (v := nI (k + 1)) (lv' := [(5, .int (nI (k + 1))), (6, .int (nI (al_up (τ.1 0) k (al_Ft (τ.1 0) E A)))), (0, .ref (ad (0))), (1, .int (nI A)), (2, .int (nI B)), (4, .int (nI (al_ld (τ.1 0) E d A)))]) S.1 S.2.1 dL_isLooked_219 hl rfl (al_inc k) (by decide) rfl (fun ls hl => ?_)
                refine lv_goto (tgt := 145) S.1 S.2.1 dL_isLooked_222 (by decide) ?_
                exact ih (k + 1) (by omega) _ _ _ _ hR hW hS (lv_sub hl [2, 3, 4, 5, 0] rfl)
              · exact absurd (by rw [al_nI_inj (a := k) (b := al_Hh (τ.1 0) E A) (by omega) (by omega) c7, f3]) c8
        · exact absurd c5 (nI_ne0 (by omega) (by omega))
theorem al_k0 {k : Nat} (h : ¬ nI k ≤ 0) : 1 ≤ k := by
  rcases Nat.eq_zero_or_pos k with e | e
  · rw [e] at h
    exact absurd (show nI 0 ≤ 0 by decide) h
  · exact e
set_option maxHeartbeats 4000000 in
set_option maxRecDepth 100000 in
theorem al_sg_lk3 {p : Program} {e : Env} {s : State} {m : MethodId} {args : Array Value} {below : List Frame} {meth : Method} {c : Code} {Q : State → Prop} (l : Launch) (D : va_G) (cy : al_CY) (ad : Nat → Nat) {τ : al_St} {E : Nat} {d : Nat → Nat} {q : List Nat} (hg : al_GG τ E d q) {A B M : Nat} (hA : al_nd (τ.1 0) E A) (hB : al_nd (τ.1 0) E B) (hm : al_com (τ.1 0) E d A B M) (S : CallFix p m c cL_isLooked 11 s args al_G RL) (hK : va_K D vwCl (al_tys cy) s) {H0 : Heap} (K : ∀ (σ : al_St) (H : Heap) (locs : List Loc) (ls : Array Slot), al_Rl τ σ → al_H D cy ad σ H → va_S (al_A ad) H0 H locs → lv_has ls 11 [(0, .ref (ad (0))), (1, .int (nI A)), (2, .int (nI B)), (4, .int (nI (al_ld (τ.1 0) E d A))), (5, .int (nI M)), (6, .int (nI ((d A - d M) + (d B - d M)))), (7, .int 1)] → W p l e (al_rm 6 140) s m args below meth c H locs 0 0 Q (F0 m 369 ls [])) : ∀ (n k : Nat), k + n = ((d A - d M) + (d B - d M)) + 1 → ∀ (σ : al_St) (H : Heap) (locs : List Loc) (ls : Array Slot), al_Rl τ σ → al_H D cy ad σ H → va_S (al_A ad) H0 H locs → lv_has ls 11 [(0, .ref (ad (0))), (1, .int (nI A)), (2, .int (nI B)), (4, .int (nI (al_ld (τ.1 0) E d A))), (5, .int (nI M)), (6, .int (nI ((d A - d M) + (d B - d M)))), (7, .int (al_mt (τ.1 0) d A B M k)), (8, .int (nI k))] → W p l e (al_rm 6 140) s m args below meth c H locs 0 0 Q (F0 m 264 ls []) := by
  intro n
  induction n with
  | zero =>
    intro k hk σ H locs ls hR hW hS hl
    have hd9 := al_GG_dd hg A hA
    have he9 := al_GG_dd hg B hB
    have hmx := hm.1.2.1.1
    have hmy := hm.1.2.2.1
    refine lv_iload S.1 S.2.1 dL_isLooked_264 (lv_at hl 7 rfl) ?_
    refine lv_iload S.1 S.2.1 dL_isLooked_266 (lv_at hl 5 rfl) ?_
    refine lv_icmp_gt (tgt := 369) S.1 S.2.1 dL_isLooked_268 (by decide) (fun c1 => ?_) (fun c1 => ?_)
    · exact K _ _ _ _ hR hW hS (by rw [(al_mt_I hm k).2 (by omega)] at hl; exact (lv_sub hl [0, 1, 2, 3, 4, 5, 6] rfl))
    · exact absurd (nI_lt (by omega) (by omega)) c1
  | succ n ih =>
    intro k hk σ H locs ls hR hW hS hl
    have hd9 := al_GG_dd hg A hA
    have he9 := al_GG_dd hg B hB
    have hmx := hm.1.2.1.1
    have hmy := hm.1.2.2.1
    refine lv_iload S.1 S.2.1 dL_isLooked_264 (lv_at hl 7 rfl) ?_
    refine lv_iload S.1 S.2.1 dL_isLooked_266 (lv_at hl 5 rfl) ?_
    refine lv_icmp_gt (tgt := 369) S.1 S.2.1 dL_isLooked_268 (by decide) (fun c1 => ?_) (fun c1 => ?_)
    · exact absurd c1 (nI_nlt (by omega) (by omega))
    · refine lv_aload_n S.1 S.2.1 dL_isLooked_271 rfl (lv_at hl 0 rfl) ?_
      refine lv_iload_n S.1 S.2.1 dL_isLooked_272 rfl (lv_at hl 1 rfl) ?_
      refine lv_iload_n S.1 S.2.1 dL_isLooked_273 rfl (lv_at hl 2 rfl) ?_
      refine lv_iload S.1 S.2.1 dL_isLooked_274 (lv_at hl 7 rfl) ?_
      refine al_cP (rest := []) S hK hW (al_X8_wayAt l D cy ad σ (nI A) (nI B) (nI k)) al_mi_X8_wayAt al_ml_RL_51 rfl (al_rc_8 D cy ad _) rfl hl.1 rfl (Nat.le_of_ble_eq_true rfl) dL_isLooked_276 ⟨Nat.le_of_ble_eq_true rfl, Nat.le_of_ble_eq_true rfl⟩ ⟨Nat.zero_le _, Nat.zero_le _⟩ ?_
      refine W.eq (g2 := F0 m 279 ls [.int (nI (al_wp (τ.1 0) d A B M k))]) (congrArg (fun z => F0 m 279 ls (Value.int z :: [])) ((hR.wayAt (nI A) (nI B) (nI k)).trans (al_wayAt_I hg hA hB hm (by omega)))) ?_
      refine lv_istore (lv' := [(9, .int (nI (al_wp (τ.1 0) d A B M k))), (0, .ref (ad (0))), (1, .int (nI A)), (2, .int (nI B)), (4, .int (nI (al_ld (τ.1 0) E d A))), (5, .int (nI M)), (6, .int (nI ((d A - d M) + (d B - d M)))), (7, .int (al_mt (τ.1 0) d A B M k)), (8, .int (nI k))]) S.1 S.2.1 dL_isLooked_279 hl (by decide) rfl (fun ls hl => ?_)
      refine lv_iload S.1 S.2.1 dL_isLooked_281 (lv_at hl 7 rfl) ?_
      refine lv_if_ne (tgt := 293) S.1 S.2.1 dL_isLooked_283 (by decide) (fun c2 => ?_) (fun c2 => ?_)
      · refine lv_iconst (v := 1) S.1 S.2.1 dL_isLooked_293 (by decide) ?_
        refine lv_goto (tgt := 298) S.1 S.2.1 dL_isLooked_294 (by decide) ?_
        refine lv_istore (lv' := [(7, .int 1), (9, .int (nI (al_wp (τ.1 0) d A B M k))), (0, .ref (ad (0))), (1, .int (nI A)), (2, .int (nI B)), (4, .int (nI (al_ld (τ.1 0) E d A))), (5, .int (nI M)), (6, .int (nI ((d A - d M) + (d B - d M)))), (8, .int (nI k))]) S.1 S.2.1 dL_isLooked_298 hl (by decide) rfl (fun ls hl => ?_)
        refine lv_iload S.1 S.2.1 dL_isLooked_300 (lv_at hl 1 rfl) ?_
        refine lv_aload_n S.1 S.2.1 dL_isLooked_302 rfl (lv_at hl 2 rfl) ?_
        refine lv_iload_n S.1 S.2.1 dL_isLooked_303 rfl (lv_at hl 4 rfl) ?_
        refine lv_iload_n S.1 S.2.1 dL_isLooked_304 rfl (lv_at hl 3 rfl) ?_
        refine lv_iload S.1 S.2.1 dL_isLooked_305 (lv_at hl 7 rfl) ?_
        refine lv_iload S.1 S.2.1 dL_isLooked_307 (lv_at hl 8 rfl) ?_
        refine lv_isub S.1 S.2.1 dL_isLooked_309 ?_
        refine al_cP (rest := [.int (nI (al_wp (τ.1 0) d A B M k))]) S hK hW (al_X8_wayAt l D cy ad σ (nI B) (nI A) ((nI ((d A - d M) + (d B - d M))) - (nI k))) al_mi_X8_wayAt al_ml_RL_51 rfl (al_rc_8 D cy ad _) rfl hl.1 rfl (Nat.le_of_ble_eq_true rfl) dL_isLooked_310 ⟨Nat.le_of_ble_eq_true rfl, Nat.le_of_ble_eq_true rfl⟩ ⟨Nat.zero_le _, Nat.zero_le _⟩ ?_
        refine W.eq (g2 := F0 m 313 ls [.int (nI (al_wp (τ.1 0) d A B M k)), .int (nI (al_wp (τ.1 0) d A B M k))]) (congrArg (fun z => F0 m 313 ls (Value.int z :: [.int (nI (al_wp (τ.1 0) d A B M k))])) ((hR.wayAt (nI B) (nI A) ((nI ((d A - d M) + (d B - d M))) - (nI k))).trans (by rw [pk_sub (by omega), al_wayAt_I hg hB hA (al_com_sym hm) (by omega), al_wp_back hm (by omega)]))) ?_
        refine lv_icmp_ne (tgt := 361) S.1 S.2.1 dL_isLooked_313 (by decide) (fun c3 => ?_) (fun c3 => ?_)
        · exact absurd rfl c3
        · refine lv_iload S.1 S.2.1 dL_isLooked_316 (lv_at hl 8 rfl) ?_
          refine lv_if_le (tgt := 363) S.1 S.2.1 dL_isLooked_318 (by decide) (fun c4 => ?_) (fun c4 => ?_)
          · refine lv_iinc (k := 8) (v := nI (k + 1)) (lv' := [(8, .int (nI (k + 1))), (7, .int 1), (9, .int (nI (al_wp (τ.1 0) d A B M k))), (0, .ref (ad (0))), (1, .int (nI A)), (2, .int (nI B)), (4, .int (nI (al_ld (τ.1 0) E d A))), (5, .int (nI M)), (6, .int (nI ((d A - d M) + (d B - d M))))]) S.1 S.2.1 dL_isLooked_363 hl rfl (al_inc k) (by decide) rfl (fun ls hl => ?_)
            refine lv_goto (tgt := 264) S.1 S.2.1 dL_isLooked_366 (by decide) ?_
            exact ih (k + 1) (by omega) _ _ _ _ hR hW hS (by rw [show al_mt (τ.1 0) d A B M (k + 1) = 1 from by rw [al_mt, if_neg c2]]; exact (lv_sub hl [3, 4, 5, 6, 7, 8, 1, 0] rfl))
          · refine lv_aload_n S.1 S.2.1 dL_isLooked_321 rfl (lv_at hl 2 rfl) ?_
            refine lv_iload S.1 S.2.1 dL_isLooked_322 (lv_at hl 1 rfl) ?_
            refine lv_iconst (v := 0) S.1 S.2.1 dL_isLooked_324 (by decide) ?_
            refine al_cP (rest := []) S hK hW (al_X8_node l D cy ad σ (nI (al_wp (τ.1 0) d A B M k)) 0) al_mi_X8_node al_ml_RL_18 rfl (al_rc_8 D cy ad _) rfl hl.1 rfl (Nat.le_of_ble_eq_true rfl) dL_isLooked_325 ⟨Nat.le_of_ble_eq_true rfl, Nat.le_of_ble_eq_true rfl⟩ ⟨Nat.zero_le _, Nat.zero_le _⟩ ?_
            refine W.eq (g2 := F0 m 328 ls [.int (al_node τ (nI (al_wp (τ.1 0) d A B M k)) 0)]) (congrArg (fun z => F0 m 328 ls (Value.int z :: [])) (hR.node (nI (al_wp (τ.1 0) d A B M k)) 0)) ?_
            refine lv_aload_n S.1 S.2.1 dL_isLooked_328 rfl (lv_at hl 2 rfl) ?_
            refine lv_iload_n S.1 S.2.1 dL_isLooked_329 rfl (lv_at hl 3 rfl) ?_
            refine lv_iload_n S.1 S.2.1 dL_isLooked_330 rfl (lv_at hl 4 rfl) ?_
            refine lv_iload S.1 S.2.1 dL_isLooked_331 (lv_at hl 8 rfl) ?_
            refine lv_iconst (v := 1) S.1 S.2.1 dL_isLooked_333 (by decide) ?_
            refine lv_isub S.1 S.2.1 dL_isLooked_334 ?_
            refine al_cP (rest := [.int (al_node τ (nI (al_wp (τ.1 0) d A B M k)) 0)]) S hK hW (al_X8_wayAt l D cy ad σ (nI A) (nI B) ((nI k) - 1)) al_mi_X8_wayAt al_ml_RL_51 rfl (al_rc_8 D cy ad _) rfl hl.1 rfl (Nat.le_of_ble_eq_true rfl) dL_isLooked_335 ⟨Nat.le_of_ble_eq_true rfl, Nat.le_of_ble_eq_true rfl⟩ ⟨Nat.zero_le _, Nat.zero_le _⟩ ?_
            refine W.eq (g2 := F0 m 338 ls [.int (nI (al_wp (τ.1 0) d A B M (k - 1))), .int (al_node τ (nI (al_wp (τ.1 0) d A B M k)) 0)]) (congrArg (fun z => F0 m 338 ls (Value.int z :: [.int (al_node τ (nI (al_wp (τ.1 0) d A B M k)) 0)])) ((hR.wayAt (nI A) (nI B) ((nI k) - 1)).trans (by have h9 := al_k0 c4; rw [show nI k - 1 = nI (k - 1) from pk_sub (a := k) (b := 1) h9]; exact al_wayAt_I hg hA hB hm (by omega)))) ?_
            refine lv_icmp_eq (tgt := 363) S.1 S.2.1 dL_isLooked_338 (by decide) (fun c5 => ?_) (fun c5 => ?_)
            · refine lv_iinc (k := 8) (v := nI (k + 1)) (lv' := [(8, .int (nI (k + 1))), (7, .int 1), (9, .int (nI (al_wp (τ.1 0) d A B M k))), (0, .ref (ad (0))), (1, .int (nI A)), (2, .int (nI B)), (4, .int (nI (al_ld (τ.1 0) E d A))), (5, .int (nI M)), (6, .int (nI ((d A - d M) + (d B - d M))))]) S.1 S.2.1 dL_isLooked_363 hl rfl (al_inc k) (by decide) rfl (fun ls hl => ?_)
              refine lv_goto (tgt := 264) S.1 S.2.1 dL_isLooked_366 (by decide) ?_
              exact ih (k + 1) (by omega) _ _ _ _ hR hW hS (by rw [show al_mt (τ.1 0) d A B M (k + 1) = 1 from by rw [al_mt, if_neg c2]]; exact (lv_sub hl [3, 4, 5, 6, 7, 8, 1, 0] rfl))
            · refine lv_aload_n S.1 S.2.1 dL_isLooked_341 rfl (lv_at hl 2 rfl) ?_
              refine lv_aload_n S.1 S.2.1 dL_isLooked_342 rfl (lv_at hl 2 rfl) ?_
              refine lv_iload_n S.1 S.2.1 dL_isLooked_343 rfl (lv_at hl 3 rfl) ?_
              refine lv_iload_n S.1 S.2.1 dL_isLooked_344 rfl (lv_at hl 4 rfl) ?_
              refine lv_iload S.1 S.2.1 dL_isLooked_345 (lv_at hl 8 rfl) ?_
              refine lv_iconst (v := 1) S.1 S.2.1 dL_isLooked_347 (by decide) ?_
              refine lv_isub S.1 S.2.1 dL_isLooked_348 ?_
              refine al_cP (rest := [.ref (ad (0))]) S hK hW (al_X8_wayAt l D cy ad σ (nI A) (nI B) ((nI k) - 1)) al_mi_X8_wayAt al_ml_RL_51 rfl (al_rc_8 D cy ad _) rfl hl.1 rfl (Nat.le_of_ble_eq_true rfl) dL_isLooked_349 ⟨Nat.le_of_ble_eq_true rfl, Nat.le_of_ble_eq_true rfl⟩ ⟨Nat.zero_le _, Nat.zero_le _⟩ ?_
              refine W.eq (g2 := F0 m 352 ls [.int (nI (al_wp (τ.1 0) d A B M (k - 1))), .ref (ad (0))]) (congrArg (fun z => F0 m 352 ls (Value.int z :: [.ref (ad (0))])) ((hR.wayAt (nI A) (nI B) ((nI k) - 1)).trans (by have h9 := al_k0 c4; rw [show nI k - 1 = nI (k - 1) from pk_sub (a := k) (b := 1) h9]; exact al_wayAt_I hg hA hB hm (by omega)))) ?_
              refine lv_iconst (v := 0) S.1 S.2.1 dL_isLooked_352 (by decide) ?_
              refine al_cP (rest := []) S hK hW (al_X8_node l D cy ad σ (nI (al_wp (τ.1 0) d A B M (k - 1))) 0) al_mi_X8_node al_ml_RL_18 rfl (al_rc_8 D cy ad _) rfl hl.1 rfl (Nat.le_of_ble_eq_true rfl) dL_isLooked_353 ⟨Nat.le_of_ble_eq_true rfl, Nat.le_of_ble_eq_true rfl⟩ ⟨Nat.zero_le _, Nat.zero_le _⟩ ?_
              refine W.eq (g2 := F0 m 356 ls [.int (al_node τ (nI (al_wp (τ.1 0) d A B M (k - 1))) 0)]) (congrArg (fun z => F0 m 356 ls (Value.int z :: [])) (hR.node (nI (al_wp (τ.1 0) d A B M (k - 1))) 0)) ?_
              refine lv_iload S.1 S.2.1 dL_isLooked_356 (lv_at hl 1 rfl) ?_
              refine lv_icmp_eq (tgt := 363) S.1 S.2.1 dL_isLooked_358 (by decide) (fun c6 => ?_) (fun c6 => ?_)
              · refine lv_iinc (k := 8) (v := nI (k + 1)) (lv' := [(8, .int (nI (k + 1))), (7, .int 1), (9, .int (nI (al_wp (τ.1 0) d A B M k))), (0, .ref (ad (0))), (1, .int (nI A)), (2, .int (nI B)), (4, .int (nI (al_ld (τ.1 0) E d A))), (5, .int (nI M)), (6, .int (nI ((d A - d M) + (d B - d M))))]) S.1 S.2.1 dL_isLooked_363 hl rfl (al_inc k) (by decide) rfl (fun ls hl => ?_)
                refine lv_goto (tgt := 264) S.1 S.2.1 dL_isLooked_366 (by decide) ?_
                exact ih (k + 1) (by omega) _ _ _ _ hR hW hS (by rw [show al_mt (τ.1 0) d A B M (k + 1) = 1 from by rw [al_mt, if_neg c2]]; exact (lv_sub hl [3, 4, 5, 6, 7, 8, 1, 0] rfl))
              · exact absurd (by have h9 := al_k0 c4; have h8 := al_wp_next hg hA hB hm (k := k - 1) (by omega); rw [show k - 1 + 1 = k by omega] at h8; exact h8.resolve_left c5) c6
      · refine lv_iload S.1 S.2.1 dL_isLooked_286 (lv_at hl 0 rfl) ?_
        refine lv_iload S.1 S.2.1 dL_isLooked_288 (lv_at hl 5 rfl) ?_
        refine lv_icmp_ne (tgt := 297) S.1 S.2.1 dL_isLooked_290 (by decide) (fun c7 => ?_) (fun c7 => ?_)
        · refine lv_iconst (v := 0) S.1 S.2.1 dL_isLooked_297 (by decide) ?_
          refine lv_istore (lv' := [(7, .int 0), (9, .int (nI (al_wp (τ.1 0) d A B M k))), (0, .ref (ad (0))), (1, .int (nI A)), (2, .int (nI B)), (4, .int (nI (al_ld (τ.1 0) E d A))), (5, .int (nI M)), (6, .int (nI ((d A - d M) + (d B - d M)))), (8, .int (nI k))]) S.1 S.2.1 dL_isLooked_298 hl (by decide) rfl (fun ls hl => ?_)
          refine lv_iload S.1 S.2.1 dL_isLooked_300 (lv_at hl 1 rfl) ?_
          refine lv_aload_n S.1 S.2.1 dL_isLooked_302 rfl (lv_at hl 2 rfl) ?_
          refine lv_iload_n S.1 S.2.1 dL_isLooked_303 rfl (lv_at hl 4 rfl) ?_
          refine lv_iload_n S.1 S.2.1 dL_isLooked_304 rfl (lv_at hl 3 rfl) ?_
          refine lv_iload S.1 S.2.1 dL_isLooked_305 (lv_at hl 7 rfl) ?_
          refine lv_iload S.1 S.2.1 dL_isLooked_307 (lv_at hl 8 rfl) ?_
          refine lv_isub S.1 S.2.1 dL_isLooked_309 ?_
          refine al_cP (rest := [.int (nI (al_wp (τ.1 0) d A B M k))]) S hK hW (al_X8_wayAt l D cy ad σ (nI B) (nI A) ((nI ((d A - d M) + (d B - d M))) - (nI k))) al_mi_X8_wayAt al_ml_RL_51 rfl (al_rc_8 D cy ad _) rfl hl.1 rfl (Nat.le_of_ble_eq_true rfl) dL_isLooked_310 ⟨Nat.le_of_ble_eq_true rfl, Nat.le_of_ble_eq_true rfl⟩ ⟨Nat.zero_le _, Nat.zero_le _⟩ ?_
          refine W.eq (g2 := F0 m 313 ls [.int (nI (al_wp (τ.1 0) d A B M k)), .int (nI (al_wp (τ.1 0) d A B M k))]) (congrArg (fun z => F0 m 313 ls (Value.int z :: [.int (nI (al_wp (τ.1 0) d A B M k))])) ((hR.wayAt (nI B) (nI A) ((nI ((d A - d M) + (d B - d M))) - (nI k))).trans (by rw [pk_sub (by omega), al_wayAt_I hg hB hA (al_com_sym hm) (by omega), al_wp_back hm (by omega)]))) ?_
          refine lv_icmp_ne (tgt := 361) S.1 S.2.1 dL_isLooked_313 (by decide) (fun c8 => ?_) (fun c8 => ?_)
          · exact absurd rfl c8
          · refine lv_iload S.1 S.2.1 dL_isLooked_316 (lv_at hl 8 rfl) ?_
            refine lv_if_le (tgt := 363) S.1 S.2.1 dL_isLooked_318 (by decide) (fun c9 => ?_) (fun c9 => ?_)
            · refine lv_iinc (k := 8) (v := nI (k + 1)) (lv' := [(8, .int (nI (k + 1))), (7, .int 0), (9, .int (nI (al_wp (τ.1 0) d A B M k))), (0, .ref (ad (0))), (1, .int (nI A)), (2, .int (nI B)), (4, .int (nI (al_ld (τ.1 0) E d A))), (5, .int (nI M)), (6, .int (nI ((d A - d M) + (d B - d M))))]) S.1 S.2.1 dL_isLooked_363 hl rfl (al_inc k) (by decide) rfl (fun ls hl => ?_)
              refine lv_goto (tgt := 264) S.1 S.2.1 dL_isLooked_366 (by decide) ?_
              exact ih (k + 1) (by omega) _ _ _ _ hR hW hS (by rw [show al_mt (τ.1 0) d A B M (k + 1) = 0 from by rw [al_mt, if_pos c2, if_neg c7]]; exact (lv_sub hl [3, 4, 5, 6, 7, 8, 1, 0] rfl))
            · refine lv_aload_n S.1 S.2.1 dL_isLooked_321 rfl (lv_at hl 2 rfl) ?_
              refine lv_iload S.1 S.2.1 dL_isLooked_322 (lv_at hl 1 rfl) ?_
              refine lv_iconst (v := 0) S.1 S.2.1 dL_isLooked_324 (by decide) ?_
              refine al_cP (rest := []) S hK hW (al_X8_node l D cy ad σ (nI (al_wp (τ.1 0) d A B M k)) 0) al_mi_X8_node al_ml_RL_18 rfl (al_rc_8 D cy ad _) rfl hl.1 rfl (Nat.le_of_ble_eq_true rfl) dL_isLooked_325 ⟨Nat.le_of_ble_eq_true rfl, Nat.le_of_ble_eq_true rfl⟩ ⟨Nat.zero_le _, Nat.zero_le _⟩ ?_
              refine W.eq (g2 := F0 m 328 ls [.int (al_node τ (nI (al_wp (τ.1 0) d A B M k)) 0)]) (congrArg (fun z => F0 m 328 ls (Value.int z :: [])) (hR.node (nI (al_wp (τ.1 0) d A B M k)) 0)) ?_
              refine lv_aload_n S.1 S.2.1 dL_isLooked_328 rfl (lv_at hl 2 rfl) ?_
              refine lv_iload_n S.1 S.2.1 dL_isLooked_329 rfl (lv_at hl 3 rfl) ?_
              refine lv_iload_n S.1 S.2.1 dL_isLooked_330 rfl (lv_at hl 4 rfl) ?_
              refine lv_iload S.1 S.2.1 dL_isLooked_331 (lv_at hl 8 rfl) ?_
              refine lv_iconst (v := 1) S.1 S.2.1 dL_isLooked_333 (by decide) ?_
              refine lv_isub S.1 S.2.1 dL_isLooked_334 ?_
              refine al_cP (rest := [.int (al_node τ (nI (al_wp (τ.1 0) d A B M k)) 0)]) S hK hW (al_X8_wayAt l D cy ad σ (nI A) (nI B) ((nI k) - 1)) al_mi_X8_wayAt al_ml_RL_51 rfl (al_rc_8 D cy ad _) rfl hl.1 rfl (Nat.le_of_ble_eq_true rfl) dL_isLooked_335 ⟨Nat.le_of_ble_eq_true rfl, Nat.le_of_ble_eq_true rfl⟩ ⟨Nat.zero_le _, Nat.zero_le _⟩ ?_
              refine W.eq (g2 := F0 m 338 ls [.int (nI (al_wp (τ.1 0) d A B M (k - 1))), .int (al_node τ (nI (al_wp (τ.1 0) d A B M k)) 0)]) (congrArg (fun z => F0 m 338 ls (Value.int z :: [.int (al_node τ (nI (al_wp (τ.1 0) d A B M k)) 0)])) ((hR.wayAt (nI A) (nI B) ((nI k) - 1)).trans (by have h9 := al_k0 c9; rw [show nI k - 1 = nI (k - 1) from pk_sub (a := k) (b := 1) h9]; exact al_wayAt_I hg hA hB hm (by omega)))) ?_
              refine lv_icmp_eq (tgt := 363) S.1 S.2.1 dL_isLooked_338 (by decide) (fun c10 => ?_) (fun c10 => ?_)
              · refine lv_iinc (k := 8) (v := nI (k + 1)) (lv' := [(8, .int (nI (k + 1))), (7, .int 0), (9, .int (nI (al_wp (τ.1 0) d A B M k))), (0, .ref (ad (0))), (1, .int (nI A)), (2, .int (nI B)), (4, .int (nI (al_ld (τ.1 0) E d A))), (5, .int (nI M)), (6, .int (nI ((d A - d M) + (d B - d M))))]) S.1 S.2.1 dL_isLooked_363 hl rfl (al_inc k) (by decide) rfl (fun ls hl => ?_)
                refine lv_goto (tgt := 264) S.1 S.2.1 dL_isLooked_366 (by decide) ?_
                exact ih (k + 1) (by omega) _ _ _ _ hR hW hS (by rw [show al_mt (τ.1 0) d A B M (k + 1) = 0 from by rw [al_mt, if_pos c2, if_neg c7]]; exact (lv_sub hl [3, 4, 5, 6, 7, 8, 1, 0] rfl))
              · refine lv_aload_n S.1 S.2.1 dL_isLooked_341 rfl (lv_at hl 2 rfl) ?_
                refine lv_aload_n S.1 S.2.1 dL_isLooked_342 rfl (lv_at hl 2 rfl) ?_
                refine lv_iload_n S.1 S.2.1 dL_isLooked_343 rfl (lv_at hl 3 rfl) ?_
                refine lv_iload_n S.1 S.2.1 dL_isLooked_344 rfl (lv_at hl 4 rfl) ?_
                refine lv_iload S.1 S.2.1 dL_isLooked_345 (lv_at hl 8 rfl) ?_
                refine lv_iconst (v := 1) S.1 S.2.1 dL_isLooked_347 (by decide) ?_
                refine lv_isub S.1 S.2.1 dL_isLooked_348 ?_
                refine al_cP (rest := [.ref (ad (0))]) S hK hW (al_X8_wayAt l D cy ad σ (nI A) (nI B) ((nI k) - 1)) al_mi_X8_wayAt al_ml_RL_51 rfl (al_rc_8 D cy ad _) rfl hl.1 rfl (Nat.le_of_ble_eq_true rfl) dL_isLooked_349 ⟨Nat.le_of_ble_eq_true rfl, Nat.le_of_ble_eq_true rfl⟩ ⟨Nat.zero_le _, Nat.zero_le _⟩ ?_
                refine W.eq (g2 := F0 m 352 ls [.int (nI (al_wp (τ.1 0) d A B M (k - 1))), .ref (ad (0))]) (congrArg (fun z => F0 m 352 ls (Value.int z :: [.ref (ad (0))])) ((hR.wayAt (nI A) (nI B) ((nI k) - 1)).trans (by have h9 := al_k0 c9; rw [show nI k - 1 = nI (k - 1) from pk_sub (a := k) (b := 1) h9]; exact al_wayAt_I hg hA hB hm (by omega)))) ?_
                refine lv_iconst (v := 0) S.1 S.2.1 dL_isLooked_352 (by decide) ?_
                refine al_cP (rest := []) S hK hW (al_X8_node l D cy ad σ (nI (al_wp (τ.1 0) d A B M (k - 1))) 0) al_mi_X8_node al_ml_RL_18 rfl (al_rc_8 D cy ad _) rfl hl.1 rfl (Nat.le_of_ble_eq_true rfl) dL_isLooked_353 ⟨Nat.le_of_ble_eq_true rfl, Nat.le_of_ble_eq_true rfl⟩ ⟨Nat.zero_le _, Nat.zero_le _⟩ ?_
                refine W.eq (g2 := F0 m 356 ls [.int (al_node τ (nI (al_wp (τ.1 0) d A B M (k - 1))) 0)]) (congrArg (fun z => F0 m 356 ls (Value.int z :: [])) (hR.node (nI (al_wp (τ.1 0) d A B M (k - 1))) 0)) ?_
                refine lv_iload S.1 S.2.1 dL_isLooked_356 (lv_at hl 1 rfl) ?_
                refine lv_icmp_eq (tgt := 363) S.1 S.2.1 dL_isLooked_358 (by decide) (fun c11 => ?_) (fun c11 => ?_)
                · refine lv_iinc (k := 8) (v := nI (k + 1)) (lv' := [(8, .int (nI (k + 1))), (7, .int 0), (9, .int (nI (al_wp (τ.1 0) d A B M k))), (0, .ref (ad (0))), (1, .int (nI A)), (2, .int (nI B)), (4, .int (nI (al_ld (τ.1 0) E d A))), (5, .int (nI M)), (6, .int (nI ((d A - d M) + (d B - d M))))]) S.1 S.2.1 dL_isLooked_363 hl rfl (al_inc k) (by decide) rfl (fun ls hl => ?_)
                  refine lv_goto (tgt := 264) S.1 S.2.1 dL_isLooked_366 (by decide) ?_
                  exact ih (k + 1) (by omega) _ _ _ _ hR hW hS (by rw [show al_mt (τ.1 0) d A B M (k + 1) = 0 from by rw [al_mt, if_pos c2, if_neg c7]]; exact (lv_sub hl [3, 4, 5, 6, 7, 8, 1, 0] rfl))
                · exact absurd (by have h9 := al_k0 c9; have h8 := al_wp_next hg hA hB hm (k := k - 1) (by omega); rw [show k - 1 + 1 = k by omega] at h8; exact h8.resolve_left c10) c11
        · refine lv_iconst (v := 1) S.1 S.2.1 dL_isLooked_293 (by decide) ?_
          refine lv_goto (tgt := 298) S.1 S.2.1 dL_isLooked_294 (by decide) ?_
          refine lv_istore (lv' := [(7, .int 1), (9, .int (nI (al_wp (τ.1 0) d A B M k))), (0, .ref (ad (0))), (1, .int (nI A)), (2, .int (nI B)), (4, .int (nI (al_ld (τ.1 0) E d A))), (5, .int (nI M)), (6, .int (nI ((d A - d M) + (d B - d M)))), (8, .int (nI k))]) S.1 S.2.1 dL_isLooked_298 hl (by decide) rfl (fun ls hl => ?_)
          refine lv_iload S.1 S.2.1 dL_isLooked_300 (lv_at hl 1 rfl) ?_
          refine lv_aload_n S.1 S.2.1 dL_isLooked_302 rfl (lv_at hl 2 rfl) ?_
          refine lv_iload_n S.1 S.2.1 dL_isLooked_303 rfl (lv_at hl 4 rfl) ?_
          refine lv_iload_n S.1 S.2.1 dL_isLooked_304 rfl (lv_at hl 3 rfl) ?_
          refine lv_iload S.1 S.2.1 dL_isLooked_305 (lv_at hl 7 rfl) ?_
          refine lv_iload S.1 S.2.1 dL_isLooked_307 (lv_at hl 8 rfl) ?_
          refine lv_isub S.1 S.2.1 dL_isLooked_309 ?_
          refine al_cP (rest := [.int (nI (al_wp (τ.1 0) d A B M k))]) S hK hW (al_X8_wayAt l D cy ad σ (nI B) (nI A) ((nI ((d A - d M) + (d B - d M))) - (nI k))) al_mi_X8_wayAt al_ml_RL_51 rfl (al_rc_8 D cy ad _) rfl hl.1 rfl (Nat.le_of_ble_eq_true rfl) dL_isLooked_310 ⟨Nat.le_of_ble_eq_true rfl, Nat.le_of_ble_eq_true rfl⟩ ⟨Nat.zero_le _, Nat.zero_le _⟩ ?_
          refine W.eq (g2 := F0 m 313 ls [.int (nI (al_wp (τ.1 0) d A B M k)), .int (nI (al_wp (τ.1 0) d A B M k))]) (congrArg (fun z => F0 m 313 ls (Value.int z :: [.int (nI (al_wp (τ.1 0) d A B M k))])) ((hR.wayAt (nI B) (nI A) ((nI ((d A - d M) + (d B - d M))) - (nI k))).trans (by rw [pk_sub (by omega), al_wayAt_I hg hB hA (al_com_sym hm) (by omega), al_wp_back hm (by omega)]))) ?_
          refine lv_icmp_ne (tgt := 361) S.1 S.2.1 dL_isLooked_313 (by decide) (fun c12 => ?_) (fun c12 => ?_)
          · exact absurd rfl c12
          · refine lv_iload S.1 S.2.1 dL_isLooked_316 (lv_at hl 8 rfl) ?_
            refine lv_if_le (tgt := 363) S.1 S.2.1 dL_isLooked_318 (by decide) (fun c13 => ?_) (fun c13 => ?_)
            · refine lv_iinc (k := 8) (v := nI (k + 1)) (lv' := [(8, .int (nI (k + 1))), (7, .int 1), (9, .int (nI (al_wp (τ.1 0) d A B M k))), (0, .ref (ad (0))), (1, .int (nI A)), (2, .int (nI B)), (4, .int (nI (al_ld (τ.1 0) E d A))), (5, .int (nI M)), (6, .int (nI ((d A - d M) + (d B - d M))))]) S.1 S.2.1 dL_isLooked_363 hl rfl (al_inc k) (by decide) rfl (fun ls hl => ?_)
              refine lv_goto (tgt := 264) S.1 S.2.1 dL_isLooked_366 (by decide) ?_
              exact ih (k + 1) (by omega) _ _ _ _ hR hW hS (by rw [show al_mt (τ.1 0) d A B M (k + 1) = 1 from by rw [al_mt, if_pos c2, if_pos c7]]; exact (lv_sub hl [3, 4, 5, 6, 7, 8, 1, 0] rfl))
            · refine lv_aload_n S.1 S.2.1 dL_isLooked_321 rfl (lv_at hl 2 rfl) ?_
              refine lv_iload S.1 S.2.1 dL_isLooked_322 (lv_at hl 1 rfl) ?_
              refine lv_iconst (v := 0) S.1 S.2.1 dL_isLooked_324 (by decide) ?_
              refine al_cP (rest := []) S hK hW (al_X8_node l D cy ad σ (nI (al_wp (τ.1 0) d A B M k)) 0) al_mi_X8_node al_ml_RL_18 rfl (al_rc_8 D cy ad _) rfl hl.1 rfl (Nat.le_of_ble_eq_true rfl) dL_isLooked_325 ⟨Nat.le_of_ble_eq_true rfl, Nat.le_of_ble_eq_true rfl⟩ ⟨Nat.zero_le _, Nat.zero_le _⟩ ?_
              refine W.eq (g2 := F0 m 328 ls [.int (al_node τ (nI (al_wp (τ.1 0) d A B M k)) 0)]) (congrArg (fun z => F0 m 328 ls (Value.int z :: [])) (hR.node (nI (al_wp (τ.1 0) d A B M k)) 0)) ?_
              refine lv_aload_n S.1 S.2.1 dL_isLooked_328 rfl (lv_at hl 2 rfl) ?_
              refine lv_iload_n S.1 S.2.1 dL_isLooked_329 rfl (lv_at hl 3 rfl) ?_
              refine lv_iload_n S.1 S.2.1 dL_isLooked_330 rfl (lv_at hl 4 rfl) ?_
              refine lv_iload S.1 S.2.1 dL_isLooked_331 (lv_at hl 8 rfl) ?_
              refine lv_iconst (v := 1) S.1 S.2.1 dL_isLooked_333 (by decide) ?_
              refine lv_isub S.1 S.2.1 dL_isLooked_334 ?_
              refine al_cP (rest := [.int (al_node τ (nI (al_wp (τ.1 0) d A B M k)) 0)]) S hK hW (al_X8_wayAt l D cy ad σ (nI A) (nI B) ((nI k) - 1)) al_mi_X8_wayAt al_ml_RL_51 rfl (al_rc_8 D cy ad _) rfl hl.1 rfl (Nat.le_of_ble_eq_true rfl) dL_isLooked_335 ⟨Nat.le_of_ble_eq_true rfl, Nat.le_of_ble_eq_true rfl⟩ ⟨Nat.zero_le _, Nat.zero_le _⟩ ?_
              refine W.eq (g2 := F0 m 338 ls [.int (nI (al_wp (τ.1 0) d A B M (k - 1))), .int (al_node τ (nI (al_wp (τ.1 0) d A B M k)) 0)]) (congrArg (fun z => F0 m 338 ls (Value.int z :: [.int (al_node τ (nI (al_wp (τ.1 0) d A B M k)) 0)])) ((hR.wayAt (nI A) (nI B) ((nI k) - 1)).trans (by have h9 := al_k0 c13; rw [show nI k - 1 = nI (k - 1) from pk_sub (a := k) (b := 1) h9]; exact al_wayAt_I hg hA hB hm (by omega)))) ?_
              refine lv_icmp_eq (tgt := 363) S.1 S.2.1 dL_isLooked_338 (by decide) (fun c14 => ?_) (fun c14 => ?_)
              · refine lv_iinc (k := 8) (v := nI (k + 1)) (lv' := [(8, .int (nI (k + 1))), (7, .int 1), (9, .int (nI (al_wp (τ.1 0) d A B M k))), (0, .ref (ad (0))), (1, .int (nI A)), (2, .int (nI B)), (4, .int (nI (al_ld (τ.1 0) E d A))), (5, .int (nI M)), (6, .int (nI ((d A - d M) + (d B - d M))))]) S.1 S.2.1 dL_isLooked_363 hl rfl (al_inc k) (by decide) rfl (fun ls hl => ?_)
                refine lv_goto (tgt := 264) S.1 S.2.1 dL_isLooked_366 (by decide) ?_
                exact ih (k + 1) (by omega) _ _ _ _ hR hW hS (by rw [show al_mt (τ.1 0) d A B M (k + 1) = 1 from by rw [al_mt, if_pos c2, if_pos c7]]; exact (lv_sub hl [3, 4, 5, 6, 7, 8, 1, 0] rfl))
              · refine lv_aload_n S.1 S.2.1 dL_isLooked_341 rfl (lv_at hl 2 rfl) ?_
                refine lv_aload_n S.1 S.2.1 dL_isLooked_342 rfl (lv_at hl 2 rfl) ?_
                refine lv_iload_n S.1 S.2.1 dL_isLooked_343 rfl (lv_at hl 3 rfl) ?_
                refine lv_iload_n S.1 S.2.1 dL_isLooked_344 rfl (lv_at hl 4 rfl) ?_
                refine lv_iload S.1 S.2.1 dL_isLooked_345 (lv_at hl 8 rfl) ?_
                refine lv_iconst (v := 1) S.1 S.2.1 dL_isLooked_347 (by decide) ?_
                refine lv_isub S.1 S.2.1 dL_isLooked_348 ?_
                refine al_cP (rest := [.ref (ad (0))]) S hK hW (al_X8_wayAt l D cy ad σ (nI A) (nI B) ((nI k) - 1)) al_mi_X8_wayAt al_ml_RL_51 rfl (al_rc_8 D cy ad _) rfl hl.1 rfl (Nat.le_of_ble_eq_true rfl) dL_isLooked_349 ⟨Nat.le_of_ble_eq_true rfl, Nat.le_of_ble_eq_true rfl⟩ ⟨Nat.zero_le _, Nat.zero_le _⟩ ?_
                refine W.eq (g2 := F0 m 352 ls [.int (nI (al_wp (τ.1 0) d A B M (k - 1))), .ref (ad (0))]) (congrArg (fun z => F0 m 352 ls (Value.int z :: [.ref (ad (0))])) ((hR.wayAt (nI A) (nI B) ((nI k) - 1)).trans (by have h9 := al_k0 c13; rw [show nI k - 1 = nI (k - 1) from pk_sub (a := k) (b := 1) h9]; exact al_wayAt_I hg hA hB hm (by omega)))) ?_
                refine lv_iconst (v := 0) S.1 S.2.1 dL_isLooked_352 (by decide) ?_
                refine al_cP (rest := []) S hK hW (al_X8_node l D cy ad σ (nI (al_wp (τ.1 0) d A B M (k - 1))) 0) al_mi_X8_node al_ml_RL_18 rfl (al_rc_8 D cy ad _) rfl hl.1 rfl (Nat.le_of_ble_eq_true rfl) dL_isLooked_353 ⟨Nat.le_of_ble_eq_true rfl, Nat.le_of_ble_eq_true rfl⟩ ⟨Nat.zero_le _, Nat.zero_le _⟩ ?_
                refine W.eq (g2 := F0 m 356 ls [.int (al_node τ (nI (al_wp (τ.1 0) d A B M (k - 1))) 0)]) (congrArg (fun z => F0 m 356 ls (Value.int z :: [])) (hR.node (nI (al_wp (τ.1 0) d A B M (k - 1))) 0)) ?_
                refine lv_iload S.1 S.2.1 dL_isLooked_356 (lv_at hl 1 rfl) ?_
                refine lv_icmp_eq (tgt := 363) S.1 S.2.1 dL_isLooked_358 (by decide) (fun c15 => ?_) (fun c15 => ?_)
                · refine lv_iinc (k := 8) (v := nI (k + 1)) (lv' := [(8, .int (nI (k + 1))), (7, .int 1), (9, .int (nI (al_wp (τ.1 0) d A B M k))), (0, .ref (ad (0))), (1, .int (nI A)), (2, .int (nI B)), (4, .int (nI (al_ld (τ.1 0) E d A))), (5, .int (nI M)), (6, .int (nI ((d A - d M) + (d B - d M))))]) S.1 S.2.1 dL_isLooked_363 hl rfl (al_inc k) (by decide) rfl (fun ls hl => ?_)
                  refine lv_goto (tgt := 264) S.1 S.2.1 dL_isLooked_366 (by decide) ?_
                  exact ih (k + 1) (by omega) _ _ _ _ hR hW hS (by rw [show al_mt (τ.1 0) d A B M (k + 1) = 1 from by rw [al_mt, if_pos c2, if_pos c7]]; exact (lv_sub hl [3, 4, 5, 6, 7, 8, 1, 0] rfl))
                · exact absurd (by have h9 := al_k0 c13; have h8 := al_wp_next hg hA hB hm (k := k - 1) (by omega); rw [show k - 1 + 1 = k by omega] at h8; exact h8.resolve_left c14) c15
theorem al_mv_L_isLooked : al_mv yL_isLooked cL_isLooked 11 (some .boolean) 3 := ⟨al_c_L_isLooked, al_ini_RL, ⟨by decide +kernel, by decide +kernel, by decide +kernel⟩, by decide +kernel⟩
theorem al_ms_L_isLooked : al_mst yL_isLooked cL_isLooked 11 (some .boolean) 3 := ⟨al_mv_L_isLooked, al_st_L_isLooked⟩
set_option maxHeartbeats 4000000 in
set_option maxRecDepth 100000 in
theorem al_L_isLooked (l : Launch) (D : va_G) (cy : al_CY) (ad : Nat → Nat) {τ σ : al_St} {E : Nat} {d : Nat → Nat} {q : List Nat} (hg : al_GG τ E d q) (hR : al_Rl τ σ) {A B : Nat} (hA9 : A < 90) (hB9 : B < 90) : al_MR l yL_isLooked cL_isLooked 11 (some .boolean) 6 140 D cy ad τ σ [.ref (ad (0)), .int (nI A), .int (nI B)] (some (.int 1)) := by
  refine al_met al_mv_L_isLooked (Nat.le_of_ble_eq_true rfl) ?_
  intro p e s m args below meth c ls S hr hlocks hK hW hS hl
  have hl : lv_has ls 11 [(0, .ref (ad (0))), (1, .int (nI A)), (2, .int (nI B))] := hl
  by_cases hA : al_nd (τ.1 0) E A
  · by_cases hB : al_nd (τ.1 0) E B
    · obtain ⟨M, hm⟩ := al_com_ex hg hA hB
      have hrf := al_Rl.rf hg.2.2.2.2.2.2.2.2.2.2
      obtain ⟨f, ef, hf, hfm⟩ := al_far_I hg hrf hA
      obtain ⟨ax, ay, hax, hay, hle, hpm, hap⟩ := al_apart_I hg
      have hd9 := al_GG_dd hg A hA
      have he9 := al_GG_dd hg B hB
      have hmx := hm.1.2.1.1
      have hmy := hm.1.2.2.1
      refine lv_aload_n S.1 S.2.1 dL_isLooked_0 rfl (lv_at hl 0 rfl) ?_
      refine lv_iload_n S.1 S.2.1 dL_isLooked_1 rfl (lv_at hl 1 rfl) ?_
      refine al_cPs (rest := []) S hK hW (al_L_is l D cy ad hR (nI A)) al_ms_L_is al_ml_RL_30 rfl hl.1 rfl (Nat.le_of_ble_eq_true rfl) dL_isLooked_2 ⟨Nat.le_of_ble_eq_true rfl, Nat.le_of_ble_eq_true rfl⟩ ⟨Nat.zero_le _, Nat.zero_le _⟩ ?_
      refine W.eq (g2 := F0 m 5 ls [.int 1]) (congrArg (fun z => F0 m 5 ls (Value.int z :: [])) (al_isv_in hg hA)) ?_
      refine lv_if_eq (tgt := 16) S.1 S.2.1 dL_isLooked_5 (by decide) (fun c1 => ?_) (fun c1 => ?_)
      · exact absurd c1 (by decide)
      · refine lv_aload_n S.1 S.2.1 dL_isLooked_8 rfl (lv_at hl 0 rfl) ?_
        refine lv_iload_n S.1 S.2.1 dL_isLooked_9 rfl (lv_at hl 2 rfl) ?_
        refine al_cPs (rest := []) S hK hW (al_L_is l D cy ad hR (nI B)) al_ms_L_is al_ml_RL_30 rfl hl.1 rfl (Nat.le_of_ble_eq_true rfl) dL_isLooked_10 ⟨Nat.le_of_ble_eq_true rfl, Nat.le_of_ble_eq_true rfl⟩ ⟨Nat.zero_le _, Nat.zero_le _⟩ ?_
        refine W.eq (g2 := F0 m 13 ls [.int 1]) (congrArg (fun z => F0 m 13 ls (Value.int z :: [])) (al_isv_in hg hB)) ?_
        refine lv_if_ne (tgt := 18) S.1 S.2.1 dL_isLooked_13 (by decide) (fun c2 => ?_) (fun c2 => ?_)
        · refine lv_aload_n S.1 S.2.1 dL_isLooked_18 rfl (lv_at hl 0 rfl) ?_
          refine lv_iload_n S.1 S.2.1 dL_isLooked_19 rfl (lv_at hl 1 rfl) ?_
          refine lv_iconst (v := 1) S.1 S.2.1 dL_isLooked_20 (by decide) ?_
          refine al_cP (rest := []) S hK hW (al_X8_node l D cy ad σ (nI A) 1) al_mi_X8_node al_ml_RL_18 rfl (al_rc_8 D cy ad _) rfl hl.1 rfl (Nat.le_of_ble_eq_true rfl) dL_isLooked_21 ⟨Nat.le_of_ble_eq_true rfl, Nat.le_of_ble_eq_true rfl⟩ ⟨Nat.zero_le _, Nat.zero_le _⟩ ?_
          refine W.eq (g2 := F0 m 24 ls [.int (nI (d A))]) (congrArg (fun z => F0 m 24 ls (Value.int z :: [])) ((hR.node (nI A) 1).trans (al_n1 hg hA))) ?_
          refine lv_istore_n (lv' := [(3, .int (nI (d A))), (0, .ref (ad (0))), (1, .int (nI A)), (2, .int (nI B))]) S.1 S.2.1 dL_isLooked_24 rfl hl (by decide) rfl (fun ls hl => ?_)
          refine lv_iconst (v := 1) S.1 S.2.1 dL_isLooked_25 (by decide) ?_
          refine lv_istore (lv' := [(4, .int 1), (3, .int (nI (d A))), (0, .ref (ad (0))), (1, .int (nI A)), (2, .int (nI B))]) S.1 S.2.1 dL_isLooked_26 hl (by decide) rfl (fun ls hl => ?_)
          refine al_sg_lk1 l D cy ad hg hA B S hK ?_ (d A) 0 (by omega) σ _ _ _ hR hW hS (lv_sub hl [2, 3, 4, 1, 0] rfl)
          intro σ H locs ls hR hW hS hl
          refine lv_aload_n S.1 S.2.1 dL_isLooked_87 rfl (lv_at hl 0 rfl) ?_
          refine lv_iload_n S.1 S.2.1 dL_isLooked_88 rfl (lv_at hl 1 rfl) ?_
          refine lv_iload_n S.1 S.2.1 dL_isLooked_89 rfl (lv_at hl 3 rfl) ?_
          refine al_cP (rest := []) S hK hW (al_X8_ancestor l D cy ad σ (nI A) (nI (d A))) al_mi_X8_ancestor al_ml_RL_39 rfl (al_rc_8 D cy ad _) rfl hl.1 rfl (Nat.le_of_ble_eq_true rfl) dL_isLooked_90 ⟨Nat.le_of_ble_eq_true rfl, Nat.le_of_ble_eq_true rfl⟩ ⟨Nat.zero_le _, Nat.zero_le _⟩ ?_
          refine W.eq (g2 := F0 m 93 ls [.int 0]) (congrArg (fun z => F0 m 93 ls (Value.int z :: [])) ((hR.anc (nI A) (nI (d A))).trans ((al_anc_I hg hA (Nat.le_refl _)).trans (by rw [al_up_root hg hA]; rfl)))) ?_
          refine lv_if_ne (tgt := 131) S.1 S.2.1 dL_isLooked_93 (by decide) (fun c3 => ?_) (fun c3 => ?_)
          · exact absurd (by decide) c3
          · refine lv_aload_n S.1 S.2.1 dL_isLooked_96 rfl (lv_at hl 0 rfl) ?_
            refine lv_iload_n S.1 S.2.1 dL_isLooked_97 rfl (lv_at hl 1 rfl) ?_
            refine lv_iload_n S.1 S.2.1 dL_isLooked_98 rfl (lv_at hl 3 rfl) ?_
            refine lv_iconst (v := 1) S.1 S.2.1 dL_isLooked_99 (by decide) ?_
            refine lv_iadd S.1 S.2.1 dL_isLooked_100 ?_
            refine al_cP (rest := []) S hK hW (al_X8_ancestor l D cy ad σ (nI A) ((nI (d A)) + 1)) al_mi_X8_ancestor al_ml_RL_39 rfl (al_rc_8 D cy ad _) rfl hl.1 rfl (Nat.le_of_ble_eq_true rfl) dL_isLooked_101 ⟨Nat.le_of_ble_eq_true rfl, Nat.le_of_ble_eq_true rfl⟩ ⟨Nat.zero_le _, Nat.zero_le _⟩ ?_
            refine W.eq (g2 := F0 m 104 ls [.int (-5)]) (congrArg (fun z => F0 m 104 ls (Value.int z :: [])) ((hR.anc (nI A) ((nI (d A)) + 1)).trans (by rw [nI_1]; exact al_anc_far hg hA))) ?_
            refine lv_bipush (v := -5) S.1 S.2.1 dL_isLooked_104 (by decide) ?_
            refine lv_icmp_ne (tgt := 131) S.1 S.2.1 dL_isLooked_106 (by decide) (fun c4 => ?_) (fun c4 => ?_)
            · exact absurd (by decide) c4
            · refine lv_aload_n S.1 S.2.1 dL_isLooked_109 rfl (lv_at hl 0 rfl) ?_
              refine lv_iload_n S.1 S.2.1 dL_isLooked_110 rfl (lv_at hl 1 rfl) ?_
              refine lv_iconst (v := 0) S.1 S.2.1 dL_isLooked_111 (by decide) ?_
              refine al_cP (rest := []) S hK hW (al_X8_looks l D cy ad σ (nI A) 0) al_mi_X8_looks al_ml_RL_45 rfl (al_rc_8 D cy ad _) rfl hl.1 rfl (Nat.le_of_ble_eq_true rfl) dL_isLooked_112 ⟨Nat.le_of_ble_eq_true rfl, Nat.le_of_ble_eq_true rfl⟩ ⟨Nat.zero_le _, Nat.zero_le _⟩ ?_
              refine W.eq (g2 := F0 m 115 ls [.int 0]) (congrArg (fun z => F0 m 115 ls (Value.int z :: [])) ((hR.lks (nI A) 0).trans (al_lks_0 hg hA))) ?_
              refine lv_if_ne (tgt := 131) S.1 S.2.1 dL_isLooked_115 (by decide) (fun c5 => ?_) (fun c5 => ?_)
              · exact absurd c3 c5
              · refine lv_aload_n S.1 S.2.1 dL_isLooked_118 rfl (lv_at hl 0 rfl) ?_
                refine lv_iload_n S.1 S.2.1 dL_isLooked_119 rfl (lv_at hl 1 rfl) ?_
                refine lv_iload_n S.1 S.2.1 dL_isLooked_120 rfl (lv_at hl 3 rfl) ?_
                refine lv_iconst (v := 1) S.1 S.2.1 dL_isLooked_121 (by decide) ?_
                refine lv_iadd S.1 S.2.1 dL_isLooked_122 ?_
                refine al_cP (rest := []) S hK hW (al_X8_looks l D cy ad σ (nI A) ((nI (d A)) + 1)) al_mi_X8_looks al_ml_RL_45 rfl (al_rc_8 D cy ad _) rfl hl.1 rfl (Nat.le_of_ble_eq_true rfl) dL_isLooked_123 ⟨Nat.le_of_ble_eq_true rfl, Nat.le_of_ble_eq_true rfl⟩ ⟨Nat.zero_le _, Nat.zero_le _⟩ ?_
                refine W.eq (g2 := F0 m 126 ls [.int (-5)]) (congrArg (fun z => F0 m 126 ls (Value.int z :: [])) ((hR.lks (nI A) ((nI (d A)) + 1)).trans (by rw [nI_1]; exact al_lks_far hg hA))) ?_
                refine lv_bipush (v := -5) S.1 S.2.1 dL_isLooked_126 (by decide) ?_
                refine lv_icmp_eq (tgt := 133) S.1 S.2.1 dL_isLooked_128 (by decide) (fun c6 => ?_) (fun c6 => ?_)
                · refine lv_aload_n S.1 S.2.1 dL_isLooked_133 rfl (lv_at hl 0 rfl) ?_
                  refine lv_iload_n S.1 S.2.1 dL_isLooked_134 rfl (lv_at hl 1 rfl) ?_
                  refine lv_bipush (v := 9) S.1 S.2.1 dL_isLooked_135 (by decide) ?_
                  refine al_cP (rest := []) S hK hW (al_X8_node l D cy ad σ (nI A) 9) al_mi_X8_node al_ml_RL_18 rfl (al_rc_8 D cy ad _) rfl hl.1 rfl (Nat.le_of_ble_eq_true rfl) dL_isLooked_137 ⟨Nat.le_of_ble_eq_true rfl, Nat.le_of_ble_eq_true rfl⟩ ⟨Nat.zero_le _, Nat.zero_le _⟩ ?_
                  refine W.eq (g2 := F0 m 140 ls [.int (nI (al_ld (τ.1 0) E d A))]) (congrArg (fun z => F0 m 140 ls (Value.int z :: [])) ((hR.node (nI A) 9).trans (al_n9 hg hA))) ?_
                  refine lv_istore (lv' := [(4, .int (nI (al_ld (τ.1 0) E d A))), (0, .ref (ad (0))), (1, .int (nI A)), (2, .int (nI B)), (3, .int (nI (d A)))]) S.1 S.2.1 dL_isLooked_140 hl (by decide) rfl (fun ls hl => ?_)
                  refine lv_iconst (v := 0) S.1 S.2.1 dL_isLooked_142 (by decide) ?_
                  refine lv_istore (lv' := [(5, .int 0), (4, .int (nI (al_ld (τ.1 0) E d A))), (0, .ref (ad (0))), (1, .int (nI A)), (2, .int (nI B)), (3, .int (nI (d A)))]) S.1 S.2.1 dL_isLooked_143 hl (by decide) rfl (fun ls hl => ?_)
                  refine al_sg_lk2 l D cy ad hg hA B S hK ?_ (al_ld (τ.1 0) E d A) 0 (by omega) σ _ _ _ hR hW hS (lv_sub hl [2, 3, 4, 1, 0] rfl)
                  intro σ H locs ls hR hW hS hl
                  refine lv_aload_n S.1 S.2.1 dL_isLooked_225 rfl (lv_at hl 0 rfl) ?_
                  refine lv_iload_n S.1 S.2.1 dL_isLooked_226 rfl (lv_at hl 1 rfl) ?_
                  refine lv_iload_n S.1 S.2.1 dL_isLooked_227 rfl (lv_at hl 2 rfl) ?_
                  refine al_cP (rest := []) S hK hW (al_X8_meeting l D cy ad σ (nI A) (nI B)) al_mi_X8_meeting al_ml_RL_42 rfl (al_rc_8 D cy ad _) rfl hl.1 rfl (Nat.le_of_ble_eq_true rfl) dL_isLooked_228 ⟨Nat.le_of_ble_eq_true rfl, Nat.le_of_ble_eq_true rfl⟩ ⟨Nat.zero_le _, Nat.zero_le _⟩ ?_
                  refine W.eq (g2 := F0 m 231 ls [.int (nI M)]) (congrArg (fun z => F0 m 231 ls (Value.int z :: [])) ((hR.mtg (nI A) (nI B)).trans (al_mtg_of hg hA hB hm))) ?_
                  refine lv_istore (lv' := [(5, .int (nI M)), (0, .ref (ad (0))), (1, .int (nI A)), (2, .int (nI B)), (4, .int (nI (al_ld (τ.1 0) E d A)))]) S.1 S.2.1 dL_isLooked_231 hl (by decide) rfl (fun ls hl => ?_)
                  refine lv_aload_n S.1 S.2.1 dL_isLooked_233 rfl (lv_at hl 1 rfl) ?_
                  refine lv_iload_n S.1 S.2.1 dL_isLooked_234 rfl (lv_at hl 2 rfl) ?_
                  refine lv_iconst (v := 1) S.1 S.2.1 dL_isLooked_235 (by decide) ?_
                  refine al_cP (rest := []) S hK hW (al_X8_node l D cy ad σ (nI A) 1) al_mi_X8_node al_ml_RL_18 rfl (al_rc_8 D cy ad _) rfl hl.1 rfl (Nat.le_of_ble_eq_true rfl) dL_isLooked_236 ⟨Nat.le_of_ble_eq_true rfl, Nat.le_of_ble_eq_true rfl⟩ ⟨Nat.zero_le _, Nat.zero_le _⟩ ?_
                  refine W.eq (g2 := F0 m 239 ls [.int (nI (d A))]) (congrArg (fun z => F0 m 239 ls (Value.int z :: [])) ((hR.node (nI A) 1).trans (al_n1 hg hA))) ?_
                  refine lv_aload_n S.1 S.2.1 dL_isLooked_239 rfl (lv_at hl 1 rfl) ?_
                  refine lv_iload_n S.1 S.2.1 dL_isLooked_240 rfl (lv_at hl 3 rfl) ?_
                  refine lv_iconst (v := 1) S.1 S.2.1 dL_isLooked_241 (by decide) ?_
                  refine al_cP (rest := [.int (nI (d A))]) S hK hW (al_X8_node l D cy ad σ (nI B) 1) al_mi_X8_node al_ml_RL_18 rfl (al_rc_8 D cy ad _) rfl hl.1 rfl (Nat.le_of_ble_eq_true rfl) dL_isLooked_242 ⟨Nat.le_of_ble_eq_true rfl, Nat.le_of_ble_eq_true rfl⟩ ⟨Nat.zero_le _, Nat.zero_le _⟩ ?_
                  refine W.eq (g2 := F0 m 245 ls [.int (nI (d B)), .int (nI (d A))]) (congrArg (fun z => F0 m 245 ls (Value.int z :: [.int (nI (d A))])) ((hR.node (nI B) 1).trans (al_n1 hg hB))) ?_
                  refine lv_iadd S.1 S.2.1 dL_isLooked_245 ?_
                  refine lv_iconst (v := 2) S.1 S.2.1 dL_isLooked_246 (by decide) ?_
                  refine lv_aload_n S.1 S.2.1 dL_isLooked_247 rfl (lv_at hl 1 rfl) ?_
                  refine lv_iload S.1 S.2.1 dL_isLooked_248 (lv_at hl 0 rfl) ?_
                  refine lv_iconst (v := 1) S.1 S.2.1 dL_isLooked_250 (by decide) ?_
                  refine al_cP (rest := [.int 2, .int ((nI (d A)) + (nI (d B)))]) S hK hW (al_X8_node l D cy ad σ (nI M) 1) al_mi_X8_node al_ml_RL_18 rfl (al_rc_8 D cy ad _) rfl hl.1 rfl (Nat.le_of_ble_eq_true rfl) dL_isLooked_251 ⟨Nat.le_of_ble_eq_true rfl, Nat.le_of_ble_eq_true rfl⟩ ⟨Nat.zero_le _, Nat.zero_le _⟩ ?_
                  refine W.eq (g2 := F0 m 254 ls [.int (nI (d M)), .int 2, .int ((nI (d A)) + (nI (d B)))]) (congrArg (fun z => F0 m 254 ls (Value.int z :: [.int 2, .int ((nI (d A)) + (nI (d B)))])) ((hR.node (nI M) 1).trans (al_n1 hg hm.1.1))) ?_
                  refine lv_imul S.1 S.2.1 dL_isLooked_254 ?_
                  refine lv_isub S.1 S.2.1 dL_isLooked_255 ?_
                  refine lv_istore (lv' := [(6, .int (((nI (d A)) + (nI (d B))) - (2 * (nI (d M))))), (5, .int (nI M)), (0, .ref (ad (0))), (1, .int (nI A)), (2, .int (nI B)), (4, .int (nI (al_ld (τ.1 0) E d A)))]) S.1 S.2.1 dL_isLooked_256 hl (by decide) rfl (fun ls hl => ?_)
                  rw [show ((nI (d A)) + (nI (d B))) - (2 * (nI (d M))) = nI ((d A - d M) + (d B - d M)) from by rw [nI_add, show (2 : Int32) * nI (d M) = nI (2 * d M) from pk_mul 2 _, pk_sub (by omega)]; congr 1; omega] at hl
                  refine lv_iconst (v := 0) S.1 S.2.1 dL_isLooked_258 (by decide) ?_
                  refine lv_istore (lv' := [(7, .int 0), (6, .int (nI ((d A - d M) + (d B - d M)))), (5, .int (nI M)), (0, .ref (ad (0))), (1, .int (nI A)), (2, .int (nI B)), (4, .int (nI (al_ld (τ.1 0) E d A)))]) S.1 S.2.1 dL_isLooked_259 hl (by decide) rfl (fun ls hl => ?_)
                  refine lv_iconst (v := 0) S.1 S.2.1 dL_isLooked_261 (by decide) ?_
                  refine lv_istore (lv' := [(8, .int 0), (7, .int 0), (6, .int (nI ((d A - d M) + (d B - d M)))), (5, .int (nI M)), (0, .ref (ad (0))), (1, .int (nI A)), (2, .int (nI B)), (4, .int (nI (al_ld (τ.1 0) E d A)))]) S.1 S.2.1 dL_isLooked_262 hl (by decide) rfl (fun ls hl => ?_)
                  refine al_sg_lk3 l D cy ad hg hA hB hm S hK ?_ (((d A - d M) + (d B - d M)) + 1) 0 (by omega) σ _ _ _ hR hW hS (lv_sub hl [4, 5, 6, 7, 3, 2, 1, 0] rfl)
                  intro σ H locs ls hR hW hS hl
                  refine lv_aload_n S.1 S.2.1 dL_isLooked_369 rfl (lv_at hl 0 rfl) ?_
                  refine lv_iload_n S.1 S.2.1 dL_isLooked_370 rfl (lv_at hl 1 rfl) ?_
                  refine al_cS (rest := []) S hK hW hS (al_X8_farthest l D cy ad σ (nI A) hR.2.2.2.2) al_mi_X8_farthest al_ml_RL_27 rfl (al_rc_8 D cy ad _) rfl hl.1 rfl (Nat.le_of_ble_eq_true rfl) dL_isLooked_371 ⟨Nat.le_of_ble_eq_true rfl, Nat.le_of_ble_eq_true rfl⟩ ⟨Nat.zero_le _, Nat.zero_le _⟩ (fun H locs hW hS => ?_)
                  refine W.eq (g2 := F0 m 374 ls [.int (nI f)]) (congrArg (fun z => F0 m 374 ls (Value.int z :: [])) ((al_farV hg hR (nI A)).trans ef)) ?_
                  obtain ⟨σ, hR, hW⟩ : ∃ σ9, al_Rl τ σ9 ∧ al_H D cy ad σ9 H := ⟨_, al_farR hg hR _, hW⟩
                  refine lv_istore (lv' := [(8, .int (nI f)), (0, .ref (ad (0))), (1, .int (nI A)), (2, .int (nI B)), (4, .int (nI (al_ld (τ.1 0) E d A))), (5, .int (nI M)), (6, .int (nI ((d A - d M) + (d B - d M)))), (7, .int 1)]) S.1 S.2.1 dL_isLooked_374 hl (by decide) rfl (fun ls hl => ?_)
                  refine lv_aload_n S.1 S.2.1 dL_isLooked_376 rfl (lv_at hl 1 rfl) ?_
                  refine lv_iconst (v := 0) S.1 S.2.1 dL_isLooked_377 (by decide) ?_
                  refine al_cS (rest := []) S hK hW hS (al_X8_apart l D cy ad σ 0 hR.2.2.2.2) al_mi_X8_apart al_ml_RL_55 rfl (al_rc_8 D cy ad _) rfl hl.1 rfl (Nat.le_of_ble_eq_true rfl) dL_isLooked_378 ⟨Nat.le_of_ble_eq_true rfl, Nat.le_of_ble_eq_true rfl⟩ ⟨Nat.zero_le _, Nat.zero_le _⟩ (fun H locs hW hS => ?_)
                  refine W.eq (g2 := F0 m 381 ls [.int (nI ax)]) (congrArg (fun z => F0 m 381 ls (Value.int z :: [])) ((al_apartV hg hR 0).trans (hap τ hrf).1)) ?_
                  obtain ⟨σ, hR, hW⟩ : ∃ σ9, al_Rl τ σ9 ∧ al_H D cy ad σ9 H := ⟨_, al_apart_Rl hg hR _, hW⟩
                  refine lv_istore (lv' := [(9, .int (nI ax)), (8, .int (nI f)), (0, .ref (ad (0))), (1, .int (nI A)), (2, .int (nI B)), (4, .int (nI (al_ld (τ.1 0) E d A))), (5, .int (nI M)), (6, .int (nI ((d A - d M) + (d B - d M)))), (7, .int 1)]) S.1 S.2.1 dL_isLooked_381 hl (by decide) rfl (fun ls hl => ?_)
                  refine lv_aload_n S.1 S.2.1 dL_isLooked_383 rfl (lv_at hl 2 rfl) ?_
                  refine lv_iconst (v := 1) S.1 S.2.1 dL_isLooked_384 (by decide) ?_
                  refine al_cS (rest := []) S hK hW hS (al_X8_apart l D cy ad σ 1 hR.2.2.2.2) al_mi_X8_apart al_ml_RL_55 rfl (al_rc_8 D cy ad _) rfl hl.1 rfl (Nat.le_of_ble_eq_true rfl) dL_isLooked_385 ⟨Nat.le_of_ble_eq_true rfl, Nat.le_of_ble_eq_true rfl⟩ ⟨Nat.zero_le _, Nat.zero_le _⟩ (fun H locs hW hS => ?_)
                  refine W.eq (g2 := F0 m 388 ls [.int (nI ay)]) (congrArg (fun z => F0 m 388 ls (Value.int z :: [])) ((al_apartV hg hR 1).trans (hap τ hrf).2)) ?_
                  obtain ⟨σ, hR, hW⟩ : ∃ σ9, al_Rl τ σ9 ∧ al_H D cy ad σ9 H := ⟨_, al_apart_Rl hg hR _, hW⟩
                  refine lv_istore (lv' := [(10, .int (nI ay)), (9, .int (nI ax)), (8, .int (nI f)), (0, .ref (ad (0))), (1, .int (nI A)), (2, .int (nI B)), (4, .int (nI (al_ld (τ.1 0) E d A))), (5, .int (nI M)), (6, .int (nI ((d A - d M) + (d B - d M)))), (7, .int 1)]) S.1 S.2.1 dL_isLooked_388 hl (by decide) rfl (fun ls hl => ?_)
                  refine lv_iload S.1 S.2.1 dL_isLooked_390 (lv_at hl 9 rfl) ?_
                  refine lv_if_eq (tgt := 533) S.1 S.2.1 dL_isLooked_392 (by decide) (fun c7 => ?_) (fun c7 => ?_)
                  · exact absurd c7 c2
                  · refine lv_iload S.1 S.2.1 dL_isLooked_395 (lv_at hl 7 rfl) ?_
                    refine lv_aload_n S.1 S.2.1 dL_isLooked_397 rfl (lv_at hl 3 rfl) ?_
                    refine lv_iload_n S.1 S.2.1 dL_isLooked_398 rfl (lv_at hl 5 rfl) ?_
                    refine lv_iload_n S.1 S.2.1 dL_isLooked_399 rfl (lv_at hl 4 rfl) ?_
                    refine al_cP (rest := [.int (nI M)]) S hK hW (al_X8_meeting l D cy ad σ (nI B) (nI A)) al_mi_X8_meeting al_ml_RL_42 rfl (al_rc_8 D cy ad _) rfl hl.1 rfl (Nat.le_of_ble_eq_true rfl) dL_isLooked_400 ⟨Nat.le_of_ble_eq_true rfl, Nat.le_of_ble_eq_true rfl⟩ ⟨Nat.zero_le _, Nat.zero_le _⟩ ?_
                    refine W.eq (g2 := F0 m 403 ls [.int (nI M), .int (nI M)]) (congrArg (fun z => F0 m 403 ls (Value.int z :: [.int (nI M)])) ((hR.mtg (nI B) (nI A)).trans (al_mtg_of hg hB hA (al_com_sym hm)))) ?_
                    refine lv_icmp_ne (tgt := 533) S.1 S.2.1 dL_isLooked_403 (by decide) (fun c8 => ?_) (fun c8 => ?_)
                    · exact absurd rfl c8
                    · refine lv_aload_n S.1 S.2.1 dL_isLooked_406 rfl (lv_at hl 3 rfl) ?_
                      refine lv_iload_n S.1 S.2.1 dL_isLooked_407 rfl (lv_at hl 4 rfl) ?_
                      refine lv_iload_n S.1 S.2.1 dL_isLooked_408 rfl (lv_at hl 5 rfl) ?_
                      refine lv_iload S.1 S.2.1 dL_isLooked_409 (lv_at hl 8 rfl) ?_
                      refine lv_iconst (v := 1) S.1 S.2.1 dL_isLooked_411 (by decide) ?_
                      refine lv_iadd S.1 S.2.1 dL_isLooked_412 ?_
                      refine al_cP (rest := []) S hK hW (al_X8_wayAt l D cy ad σ (nI A) (nI B) ((nI ((d A - d M) + (d B - d M))) + 1)) al_mi_X8_wayAt al_ml_RL_51 rfl (al_rc_8 D cy ad _) rfl hl.1 rfl (Nat.le_of_ble_eq_true rfl) dL_isLooked_413 ⟨Nat.le_of_ble_eq_true rfl, Nat.le_of_ble_eq_true rfl⟩ ⟨Nat.zero_le _, Nat.zero_le _⟩ ?_
                      refine W.eq (g2 := F0 m 416 ls [.int (-5)]) (congrArg (fun z => F0 m 416 ls (Value.int z :: [])) ((hR.wayAt (nI A) (nI B) ((nI ((d A - d M) + (d B - d M))) + 1)).trans (by rw [nI_1]; exact al_wayAt_far hg hA hB hm))) ?_
                      refine lv_bipush (v := -5) S.1 S.2.1 dL_isLooked_416 (by decide) ?_
                      refine lv_icmp_ne (tgt := 533) S.1 S.2.1 dL_isLooked_418 (by decide) (fun c9 => ?_) (fun c9 => ?_)
                      · exact absurd c6 c9
                      · refine lv_aload_n S.1 S.2.1 dL_isLooked_421 rfl (lv_at hl 3 rfl) ?_
                        refine lv_iload_n S.1 S.2.1 dL_isLooked_422 rfl (lv_at hl 4 rfl) ?_
                        refine lv_iload S.1 S.2.1 dL_isLooked_423 (lv_at hl 6 rfl) ?_
                        refine al_cP (rest := []) S hK hW (al_X8_ladderAt l D cy ad σ (nI A) (nI (al_ld (τ.1 0) E d A))) al_mi_X8_ladderAt al_ml_RL_48 rfl (al_rc_8 D cy ad _) rfl hl.1 rfl (Nat.le_of_ble_eq_true rfl) dL_isLooked_425 ⟨Nat.le_of_ble_eq_true rfl, Nat.le_of_ble_eq_true rfl⟩ ⟨Nat.zero_le _, Nat.zero_le _⟩ ?_
                        refine W.eq (g2 := F0 m 428 ls [.int (-5)]) (congrArg (fun z => F0 m 428 ls (Value.int z :: [])) ((hR.ladAt (nI A) (nI (al_ld (τ.1 0) E d A))).trans (al_ladAt_far hg hA))) ?_
                        refine lv_bipush (v := -5) S.1 S.2.1 dL_isLooked_428 (by decide) ?_
                        refine lv_icmp_ne (tgt := 533) S.1 S.2.1 dL_isLooked_430 (by decide) (fun c10 => ?_) (fun c10 => ?_)
                        · exact absurd c9 c10
                        · refine lv_aload_n S.1 S.2.1 dL_isLooked_433 rfl (lv_at hl 3 rfl) ?_
                          refine lv_iload_n S.1 S.2.1 dL_isLooked_434 rfl (lv_at hl 4 rfl) ?_
                          refine lv_iload_n S.1 S.2.1 dL_isLooked_435 rfl (lv_at hl 5 rfl) ?_
                          refine al_cP (rest := []) S hK hW (al_X8_distance l D cy ad σ (nI A) (nI B) hR.2.2.2.2) al_mi_X8_distance al_ml_RL_58 rfl (al_rc_8 D cy ad _) rfl hl.1 rfl (Nat.le_of_ble_eq_true rfl) dL_isLooked_436 ⟨Nat.le_of_ble_eq_true rfl, Nat.le_of_ble_eq_true rfl⟩ ⟨Nat.zero_le _, Nat.zero_le _⟩ ?_
                          refine W.eq (g2 := F0 m 439 ls [.float (al_dist τ (nI A) (nI B))]) (congrArg (fun z => F0 m 439 ls (Value.float z :: [])) (hR.dist (nI A) (nI B))) ?_
                          refine lv_aload_n S.1 S.2.1 dL_isLooked_439 rfl (lv_at hl 3 rfl) ?_
                          refine lv_iload_n S.1 S.2.1 dL_isLooked_440 rfl (lv_at hl 5 rfl) ?_
                          refine lv_iload_n S.1 S.2.1 dL_isLooked_441 rfl (lv_at hl 4 rfl) ?_
                          refine al_cP (rest := [.float (al_dist τ (nI A) (nI B))]) S hK hW (al_X8_distance l D cy ad σ (nI B) (nI A) hR.2.2.2.2) al_mi_X8_distance al_ml_RL_58 rfl (al_rc_8 D cy ad _) rfl hl.1 rfl (Nat.le_of_ble_eq_true rfl) dL_isLooked_442 ⟨Nat.le_of_ble_eq_true rfl, Nat.le_of_ble_eq_true rfl⟩ ⟨Nat.zero_le _, Nat.zero_le _⟩ ?_
                          refine W.eq (g2 := F0 m 445 ls [.float (al_dist τ (nI A) (nI B)), .float (al_dist τ (nI A) (nI B))]) (congrArg (fun z => F0 m 445 ls (Value.float z :: [.float (al_dist τ (nI A) (nI B))])) ((hR.dist (nI B) (nI A)).trans (al_dist_sym hg hB hA))) ?_
                          refine lv_fcmp S.1 S.2.1 dL_isLooked_445 ?_
                          refine lv_if_ne (tgt := 533) S.1 S.2.1 dL_isLooked_446 (by decide) (fun c11 => ?_) (fun c11 => ?_)
                          · exact absurd ((al_cmp_eq (al_dist_ok hg hA hB).1 (al_dist_ok hg hA hB).1).mpr rfl) c11
                          · refine lv_aload_n S.1 S.2.1 dL_isLooked_449 rfl (lv_at hl 3 rfl) ?_
                            refine lv_iload_n S.1 S.2.1 dL_isLooked_450 rfl (lv_at hl 4 rfl) ?_
                            refine lv_iload S.1 S.2.1 dL_isLooked_451 (lv_at hl 2 rfl) ?_
                            refine al_cP (rest := []) S hK hW (al_X8_distance l D cy ad σ (nI A) (nI f) hR.2.2.2.2) al_mi_X8_distance al_ml_RL_58 rfl (al_rc_8 D cy ad _) rfl hl.1 rfl (Nat.le_of_ble_eq_true rfl) dL_isLooked_453 ⟨Nat.le_of_ble_eq_true rfl, Nat.le_of_ble_eq_true rfl⟩ ⟨Nat.zero_le _, Nat.zero_le _⟩ ?_
                            refine W.eq (g2 := F0 m 456 ls [.float (al_dist τ (nI A) (nI f))]) (congrArg (fun z => F0 m 456 ls (Value.float z :: [])) (hR.dist (nI A) (nI f))) ?_
                            refine lv_aload_n S.1 S.2.1 dL_isLooked_456 rfl (lv_at hl 3 rfl) ?_
                            refine lv_iload_n S.1 S.2.1 dL_isLooked_457 rfl (lv_at hl 4 rfl) ?_
                            refine lv_iload_n S.1 S.2.1 dL_isLooked_458 rfl (lv_at hl 5 rfl) ?_
                            refine al_cP (rest := [.float (al_dist τ (nI A) (nI f))]) S hK hW (al_X8_distance l D cy ad σ (nI A) (nI B) hR.2.2.2.2) al_mi_X8_distance al_ml_RL_58 rfl (al_rc_8 D cy ad _) rfl hl.1 rfl (Nat.le_of_ble_eq_true rfl) dL_isLooked_459 ⟨Nat.le_of_ble_eq_true rfl, Nat.le_of_ble_eq_true rfl⟩ ⟨Nat.zero_le _, Nat.zero_le _⟩ ?_
                            refine W.eq (g2 := F0 m 462 ls [.float (al_dist τ (nI A) (nI B)), .float (al_dist τ (nI A) (nI f))]) (congrArg (fun z => F0 m 462 ls (Value.float z :: [.float (al_dist τ (nI A) (nI f))])) (hR.dist (nI A) (nI B))) ?_
                            refine lv_fcmp S.1 S.2.1 dL_isLooked_462 ?_
                            refine lv_if_lt (tgt := 533) S.1 S.2.1 dL_isLooked_463 (by decide) (fun c12 => ?_) (fun c12 => ?_)
                            · exact absurd c12 (al_cmp_ge (al_dist_ok hg hA hf).1 (al_dist_ok hg hA hB).1 (hfm B hB))
                            · refine lv_aload_n S.1 S.2.1 dL_isLooked_466 rfl (lv_at hl 3 rfl) ?_
                              refine lv_iload S.1 S.2.1 dL_isLooked_467 (lv_at hl 1 rfl) ?_
                              refine lv_iload S.1 S.2.1 dL_isLooked_469 (lv_at hl 0 rfl) ?_
                              refine al_cP (rest := []) S hK hW (al_X8_distance l D cy ad σ (nI ax) (nI ay) hR.2.2.2.2) al_mi_X8_distance al_ml_RL_58 rfl (al_rc_8 D cy ad _) rfl hl.1 rfl (Nat.le_of_ble_eq_true rfl) dL_isLooked_471 ⟨Nat.le_of_ble_eq_true rfl, Nat.le_of_ble_eq_true rfl⟩ ⟨Nat.zero_le _, Nat.zero_le _⟩ ?_
                              refine W.eq (g2 := F0 m 474 ls [.float (al_dist τ (nI ax) (nI ay))]) (congrArg (fun z => F0 m 474 ls (Value.float z :: [])) (hR.dist (nI ax) (nI ay))) ?_
                              refine lv_aload_n S.1 S.2.1 dL_isLooked_474 rfl (lv_at hl 3 rfl) ?_
                              refine lv_iload_n S.1 S.2.1 dL_isLooked_475 rfl (lv_at hl 4 rfl) ?_
                              refine lv_iload S.1 S.2.1 dL_isLooked_476 (lv_at hl 2 rfl) ?_
                              refine al_cP (rest := [.float (al_dist τ (nI ax) (nI ay))]) S hK hW (al_X8_distance l D cy ad σ (nI A) (nI f) hR.2.2.2.2) al_mi_X8_distance al_ml_RL_58 rfl (al_rc_8 D cy ad _) rfl hl.1 rfl (Nat.le_of_ble_eq_true rfl) dL_isLooked_478 ⟨Nat.le_of_ble_eq_true rfl, Nat.le_of_ble_eq_true rfl⟩ ⟨Nat.zero_le _, Nat.zero_le _⟩ ?_
                              refine W.eq (g2 := F0 m 481 ls [.float (al_dist τ (nI A) (nI f)), .float (al_dist τ (nI ax) (nI ay))]) (congrArg (fun z => F0 m 481 ls (Value.float z :: [.float (al_dist τ (nI ax) (nI ay))])) (hR.dist (nI A) (nI f))) ?_
                              refine lv_fcmp S.1 S.2.1 dL_isLooked_481 ?_
                              refine lv_if_lt (tgt := 533) S.1 S.2.1 dL_isLooked_482 (by decide) (fun c13 => ?_) (fun c13 => ?_)
                              · exact absurd c13 (al_cmp_ge (al_dist_ok hg hax hay).1 (al_dist_ok hg hA hf).1 (hpm A f hA hf))
                              · refine lv_iload S.1 S.2.1 dL_isLooked_485 (lv_at hl 1 rfl) ?_
                                refine lv_iload S.1 S.2.1 dL_isLooked_487 (lv_at hl 0 rfl) ?_
                                refine lv_icmp_gt (tgt := 533) S.1 S.2.1 dL_isLooked_489 (by decide) (fun c14 => ?_) (fun c14 => ?_)
                                · exact absurd c14 (nI_nlt hle (by have := al_nd_lt hg.1 hay; omega))
                                · refine lv_aload_n S.1 S.2.1 dL_isLooked_492 rfl (lv_at hl 3 rfl) ?_
                                  refine lv_iload_n S.1 S.2.1 dL_isLooked_493 rfl (lv_at hl 4 rfl) ?_
                                  refine lv_iload_n S.1 S.2.1 dL_isLooked_494 rfl (lv_at hl 4 rfl) ?_
                                  refine al_cP (rest := []) S hK hW (al_X8_distance l D cy ad σ (nI A) (nI A) hR.2.2.2.2) al_mi_X8_distance al_ml_RL_58 rfl (al_rc_8 D cy ad _) rfl hl.1 rfl (Nat.le_of_ble_eq_true rfl) dL_isLooked_495 ⟨Nat.le_of_ble_eq_true rfl, Nat.le_of_ble_eq_true rfl⟩ ⟨Nat.zero_le _, Nat.zero_le _⟩ ?_
                                  refine W.eq (g2 := F0 m 498 ls [.float (FP.fadd 0 0)]) (congrArg (fun z => F0 m 498 ls (Value.float z :: [])) ((hR.dist (nI A) (nI A)).trans (al_dist_self hg hA))) ?_
                                  refine lv_fconst0 S.1 S.2.1 dL_isLooked_498 ?_
                                  refine lv_fcmp S.1 S.2.1 dL_isLooked_499 ?_
                                  refine lv_if_ne (tgt := 533) S.1 S.2.1 dL_isLooked_500 (by decide) (fun c15 => ?_) (fun c15 => ?_)
                                  · exact absurd (by decide +kernel) c15
                                  · refine lv_aload_n S.1 S.2.1 dL_isLooked_503 rfl (lv_at hl 3 rfl) ?_
                                    refine lv_iload_n S.1 S.2.1 dL_isLooked_504 rfl (lv_at hl 4 rfl) ?_
                                    refine lv_iconst (v := 0) S.1 S.2.1 dL_isLooked_505 (by decide) ?_
                                    refine al_cP (rest := []) S hK hW (al_X8_reach l D cy ad σ (nI A) 0 hR.2.2.2.2) al_mi_X8_reach al_ml_RL_62 rfl (al_rc_8 D cy ad _) rfl hl.1 rfl (Nat.le_of_ble_eq_true rfl) dL_isLooked_506 ⟨Nat.le_of_ble_eq_true rfl, Nat.le_of_ble_eq_true rfl⟩ ⟨Nat.zero_le _, Nat.zero_le _⟩ ?_
                                    refine W.eq (g2 := F0 m 509 ls [.int (al_reach τ (nI A) 0)]) (congrArg (fun z => F0 m 509 ls (Value.int z :: [])) (hR.reach (nI A) 0)) ?_
                                    refine lv_if_lt (tgt := 533) S.1 S.2.1 dL_isLooked_509 (by decide) (fun c16 => ?_) (fun c16 => ?_)
                                    · exact absurd c16 (al_reach_I hg hA (by decide))
                                    · refine lv_aload_n S.1 S.2.1 dL_isLooked_512 rfl (lv_at hl 3 rfl) ?_
                                      refine lv_iload_n S.1 S.2.1 dL_isLooked_513 rfl (lv_at hl 4 rfl) ?_
                                      refine lv_iconst (v := 1) S.1 S.2.1 dL_isLooked_514 (by decide) ?_
                                      refine al_cP (rest := []) S hK hW (al_X8_real l D cy ad σ (nI A) 1) al_mi_X8_real al_ml_RL_65 rfl (al_rc_8 D cy ad _) rfl hl.1 rfl (Nat.le_of_ble_eq_true rfl) dL_isLooked_515 ⟨Nat.le_of_ble_eq_true rfl, Nat.le_of_ble_eq_true rfl⟩ ⟨Nat.zero_le _, Nat.zero_le _⟩ ?_
                                      refine W.eq (g2 := F0 m 518 ls [.float (al_Pt (τ.1 0) (τ.2.1 0) A)]) (congrArg (fun z => F0 m 518 ls (Value.float z :: [])) ((hR.real (nI A) 1).trans (al_real_1 hg hA))) ?_
                                      refine lv_aload_n S.1 S.2.1 dL_isLooked_518 rfl (lv_at hl 3 rfl) ?_
                                      refine lv_iload S.1 S.2.1 dL_isLooked_519 (lv_at hl 7 rfl) ?_
                                      refine lv_iconst (v := 1) S.1 S.2.1 dL_isLooked_521 (by decide) ?_
                                      refine al_cP (rest := [.float (al_Pt (τ.1 0) (τ.2.1 0) A)]) S hK hW (al_X8_real l D cy ad σ (nI M) 1) al_mi_X8_real al_ml_RL_65 rfl (al_rc_8 D cy ad _) rfl hl.1 rfl (Nat.le_of_ble_eq_true rfl) dL_isLooked_522 ⟨Nat.le_of_ble_eq_true rfl, Nat.le_of_ble_eq_true rfl⟩ ⟨Nat.zero_le _, Nat.zero_le _⟩ ?_
                                      refine W.eq (g2 := F0 m 525 ls [.float (al_Pt (τ.1 0) (τ.2.1 0) M), .float (al_Pt (τ.1 0) (τ.2.1 0) A)]) (congrArg (fun z => F0 m 525 ls (Value.float z :: [.float (al_Pt (τ.1 0) (τ.2.1 0) A)])) ((hR.real (nI M) 1).trans (al_real_1 hg hm.1.1))) ?_
                                      refine lv_fcmp S.1 S.2.1 dL_isLooked_525 ?_
                                      refine lv_if_lt (tgt := 533) S.1 S.2.1 dL_isLooked_526 (by decide) (fun c17 => ?_) (fun c17 => ?_)
                                      · exact absurd c17 (al_cmp_ge (al_B_nn (al_Pt_GG hg hA)) (al_B_nn (al_Pt_GG hg hm.1.1)) (by have h9 := al_Pt_mono hg (d A - d M) A hA (Nat.sub_le _ _); rw [hm.1.2.1.2] at h9; exact h9))
                                      · refine lv_iconst (v := 1) S.1 S.2.1 dL_isLooked_529 (by decide) ?_
                                        refine lv_goto (tgt := 534) S.1 S.2.1 dL_isLooked_530 (by decide) ?_
                                        exact W.zret S.1 S.2.1 hr rfl (fun t9 ht9 _ => ⟨rfl, ⟨σ, hR, by rw [ht9]; exact hW⟩, hS.F ht9⟩) hS.2.2 dL_isLooked_534
                · exact absurd c4 c6
        · exact absurd c2 c1
    · refine lv_aload_n S.1 S.2.1 dL_isLooked_0 rfl (lv_at hl 0 rfl) ?_
      refine lv_iload_n S.1 S.2.1 dL_isLooked_1 rfl (lv_at hl 1 rfl) ?_
      refine al_cPs (rest := []) S hK hW (al_L_is l D cy ad hR (nI A)) al_ms_L_is al_ml_RL_30 rfl hl.1 rfl (Nat.le_of_ble_eq_true rfl) dL_isLooked_2 ⟨Nat.le_of_ble_eq_true rfl, Nat.le_of_ble_eq_true rfl⟩ ⟨Nat.zero_le _, Nat.zero_le _⟩ ?_
      refine W.eq (g2 := F0 m 5 ls [.int 1]) (congrArg (fun z => F0 m 5 ls (Value.int z :: [])) (al_isv_in hg hA)) ?_
      refine lv_if_eq (tgt := 16) S.1 S.2.1 dL_isLooked_5 (by decide) (fun c18 => ?_) (fun c18 => ?_)
      · exact absurd c18 (by decide)
      · refine lv_aload_n S.1 S.2.1 dL_isLooked_8 rfl (lv_at hl 0 rfl) ?_
        refine lv_iload_n S.1 S.2.1 dL_isLooked_9 rfl (lv_at hl 2 rfl) ?_
        refine al_cPs (rest := []) S hK hW (al_L_is l D cy ad hR (nI B)) al_ms_L_is al_ml_RL_30 rfl hl.1 rfl (Nat.le_of_ble_eq_true rfl) dL_isLooked_10 ⟨Nat.le_of_ble_eq_true rfl, Nat.le_of_ble_eq_true rfl⟩ ⟨Nat.zero_le _, Nat.zero_le _⟩ ?_
        refine W.eq (g2 := F0 m 13 ls [.int 0]) (congrArg (fun z => F0 m 13 ls (Value.int z :: [])) (al_isv_out hg (by omega) hB)) ?_
        refine lv_if_ne (tgt := 18) S.1 S.2.1 dL_isLooked_13 (by decide) (fun c19 => ?_) (fun c19 => ?_)
        · exact absurd (by decide) c19
        · refine lv_iconst (v := 1) S.1 S.2.1 dL_isLooked_16 (by decide) ?_
          exact W.zret S.1 S.2.1 hr rfl (fun t9 ht9 _ => ⟨rfl, ⟨σ, hR, by rw [ht9]; exact hW⟩, hS.F ht9⟩) hS.2.2 dL_isLooked_17
  · refine lv_aload_n S.1 S.2.1 dL_isLooked_0 rfl (lv_at hl 0 rfl) ?_
    refine lv_iload_n S.1 S.2.1 dL_isLooked_1 rfl (lv_at hl 1 rfl) ?_
    refine al_cPs (rest := []) S hK hW (al_L_is l D cy ad hR (nI A)) al_ms_L_is al_ml_RL_30 rfl hl.1 rfl (Nat.le_of_ble_eq_true rfl) dL_isLooked_2 ⟨Nat.le_of_ble_eq_true rfl, Nat.le_of_ble_eq_true rfl⟩ ⟨Nat.zero_le _, Nat.zero_le _⟩ ?_
    refine W.eq (g2 := F0 m 5 ls [.int 0]) (congrArg (fun z => F0 m 5 ls (Value.int z :: [])) (al_isv_out hg (by omega) hA)) ?_
    refine lv_if_eq (tgt := 16) S.1 S.2.1 dL_isLooked_5 (by decide) (fun c20 => ?_) (fun c20 => ?_)
    · refine lv_iconst (v := 1) S.1 S.2.1 dL_isLooked_16 (by decide) ?_
      exact W.zret S.1 S.2.1 hr rfl (fun t9 ht9 _ => ⟨rfl, ⟨σ, hR, by rw [ht9]; exact hW⟩, hS.F ht9⟩) hS.2.2 dL_isLooked_17
    · exact absurd (by decide) c20
