/-! isSound, walked -/
set_option maxHeartbeats 4000000 in
set_option maxRecDepth 100000 in
theorem al_sg_isI {p : Program} {e : Env} {s : State} {m : MethodId} {args : Array Value} {below : List Frame} {meth : Method} {c : Code} {Q : State → Prop} (l : Launch) (D : va_G) (cy : al_CY) (ad : Nat → Nat) {τ : al_St} {E : Nat} {d : Nat → Nat} {q : List Nat} (hg : al_GG τ E d q) {v : Nat} (hv : al_nd (τ.1 0) E v) (x1 x2 x3 x4 x5 x7 : Int32) (S : CallFix p m c cL_isSound 13 s args al_G RL) (hK : va_K D vwCl (al_tys cy) s) {H0 : Heap} (K : ∀ (σ : al_St) (H : Heap) (locs : List Loc) (ls : Array Slot), al_Rl τ σ → al_H D cy ad σ H → va_S (al_A ad) H0 H locs → lv_has ls 13 [(0, .ref (ad (0))), (1, .int x1), (2, .int x2), (3, .int x3), (4, .int x4), (5, .int x5), (6, .int (nI v)), (7, .int x7), (8, .int (nI (al_kids (τ.1 0) E v).length)), (9, .int (nI (al_S (τ.1 0) E v))), (10, .int (nI (al_Hh (τ.1 0) E v)))] → W p l e (al_rm 5 113) s m args below meth c H locs 0 0 Q (F0 m 199 ls [])) : ∀ (n j : Nat), j + 1 + n = E → ∀ (σ : al_St) (H : Heap) (locs : List Loc) (ls : Array Slot), al_Rl τ σ → al_H D cy ad σ H → va_S (al_A ad) H0 H locs → lv_has ls 13 [(0, .ref (ad (0))), (1, .int x1), (2, .int x2), (3, .int x3), (4, .int x4), (5, .int x5), (6, .int (nI v)), (7, .int x7), (8, .int (al_k1 (τ.1 0) E v j)), (9, .int (al_k2 (τ.1 0) E v j)), (10, .int (al_k3 (τ.1 0) E v j)), (11, .int (nI (j + 1)))] → W p l e (al_rm 5 113) s m args below meth c H locs 0 0 Q (F0 m 84 ls []) := by
  intro n
  induction n with
  | zero =>
    intro j hk σ H locs ls hR hW hS hl
    have hE9 := hg.1.2.1
    obtain ⟨f1, f2, f3⟩ := al_k_end hg hv (j := j) (by omega)
    rw [f1, f2, f3] at hl
    refine lv_iload S.1 S.2.1 dL_isSound_84 (lv_at hl 11 rfl) ?_
    refine lv_aload_n S.1 S.2.1 dL_isSound_86 rfl (lv_at hl 0 rfl) ?_
    refine lv_iconst (v := 1) S.1 S.2.1 dL_isSound_87 (by decide) ?_
    refine al_cS (rest := [.int (nI (j + 1))]) S hK hW hS (al_X8_count l D cy ad σ 1 (al_pOK_R hg hR)) al_mi_X8_count al_ml_RL_12 rfl (al_rc_8 D cy ad _) rfl hl.1 rfl (Nat.le_of_ble_eq_true rfl) dL_isSound_88 ⟨Nat.le_of_ble_eq_true rfl, Nat.le_of_ble_eq_true rfl⟩ ⟨Nat.zero_le _, Nat.zero_le _⟩ (fun H locs hW hS => ?_)
    refine W.eq (g2 := F0 m 91 ls [.int (nI E), .int (nI (j + 1))]) (congrArg (fun z => F0 m 91 ls (Value.int z :: [.int (nI (j + 1))])) ((al_countV hg hR 1).trans (al_c1 hg))) ?_
    obtain ⟨σ, hR, hW⟩ : ∃ σ9, al_Rl τ σ9 ∧ al_H D cy ad σ9 H := ⟨_, al_count_Rl hg hR _, hW⟩
    refine lv_icmp_ge (tgt := 199) S.1 S.2.1 dL_isSound_91 (by decide) (fun c1 => ?_) (fun c1 => ?_)
    · exact K _ _ _ _ hR hW hS (lv_sub hl [0, 1, 2, 3, 4, 5, 6, 7, 8, 9, 10] rfl)
    · exact absurd (nI_le (a := E) (b := j + 1) (by omega) (by omega)) c1
  | succ n ih =>
    intro j hk σ H locs ls hR hW hS hl
    have hE9 := hg.1.2.1
    by_cases hkd : j + 1 < E ∧ (τ.1 0) (j + 1) = nI v
    · obtain ⟨hkn, hk0⟩ := al_kid_n0 hg hv hkd
      obtain ⟨f1, f2, -⟩ := al_k_in hkd
      refine lv_iload S.1 S.2.1 dL_isSound_84 (lv_at hl 11 rfl) ?_
      refine lv_aload_n S.1 S.2.1 dL_isSound_86 rfl (lv_at hl 0 rfl) ?_
      refine lv_iconst (v := 1) S.1 S.2.1 dL_isSound_87 (by decide) ?_
      refine al_cS (rest := [.int (nI (j + 1))]) S hK hW hS (al_X8_count l D cy ad σ 1 (al_pOK_R hg hR)) al_mi_X8_count al_ml_RL_12 rfl (al_rc_8 D cy ad _) rfl hl.1 rfl (Nat.le_of_ble_eq_true rfl) dL_isSound_88 ⟨Nat.le_of_ble_eq_true rfl, Nat.le_of_ble_eq_true rfl⟩ ⟨Nat.zero_le _, Nat.zero_le _⟩ (fun H locs hW hS => ?_)
      refine W.eq (g2 := F0 m 91 ls [.int (nI E), .int (nI (j + 1))]) (congrArg (fun z => F0 m 91 ls (Value.int z :: [.int (nI (j + 1))])) ((al_countV hg hR 1).trans (al_c1 hg))) ?_
      obtain ⟨σ, hR, hW⟩ : ∃ σ9, al_Rl τ σ9 ∧ al_H D cy ad σ9 H := ⟨_, al_count_Rl hg hR _, hW⟩
      refine lv_icmp_ge (tgt := 199) S.1 S.2.1 dL_isSound_91 (by decide) (fun c1 => ?_) (fun c1 => ?_)
      · exact absurd c1 (nI_ge (a := j + 1) (b := E) (by omega) (by omega))
      · refine lv_aload_n S.1 S.2.1 dL_isSound_94 rfl (lv_at hl 0 rfl) ?_
        refine lv_iload S.1 S.2.1 dL_isSound_95 (lv_at hl 11 rfl) ?_
        refine al_cPs (rest := []) S hK hW (al_L_is l D cy ad hR (nI (j + 1))) al_ms_L_is al_ml_RL_30 rfl hl.1 rfl (Nat.le_of_ble_eq_true rfl) dL_isSound_97 ⟨Nat.le_of_ble_eq_true rfl, Nat.le_of_ble_eq_true rfl⟩ ⟨Nat.zero_le _, Nat.zero_le _⟩ ?_
        refine W.eq (g2 := F0 m 100 ls [.int 1]) (congrArg (fun z => F0 m 100 ls (Value.int z :: [])) (al_isv_in hg hkn)) ?_
        refine lv_if_eq (tgt := 119) S.1 S.2.1 dL_isSound_100 (by decide) (fun c2 => ?_) (fun c2 => ?_)
        · exact absurd c2 (by decide)
        · refine lv_aload_n S.1 S.2.1 dL_isSound_103 rfl (lv_at hl 0 rfl) ?_
          refine lv_iload S.1 S.2.1 dL_isSound_104 (lv_at hl 11 rfl) ?_
          refine lv_iconst (v := 0) S.1 S.2.1 dL_isSound_106 (by decide) ?_
          refine al_cP (rest := []) S hK hW (al_X8_node l D cy ad σ (nI (j + 1)) 0) al_mi_X8_node al_ml_RL_18 rfl (al_rc_8 D cy ad _) rfl hl.1 rfl (Nat.le_of_ble_eq_true rfl) dL_isSound_107 ⟨Nat.le_of_ble_eq_true rfl, Nat.le_of_ble_eq_true rfl⟩ ⟨Nat.zero_le _, Nat.zero_le _⟩ ?_
          refine W.eq (g2 := F0 m 110 ls [.int (nI v)]) (congrArg (fun z => F0 m 110 ls (Value.int z :: [])) ((hR.node (nI (j + 1)) 0).trans hk0)) ?_
          refine lv_iload S.1 S.2.1 dL_isSound_110 (lv_at hl 6 rfl) ?_
          refine lv_icmp_ne (tgt := 119) S.1 S.2.1 dL_isSound_112 (by decide) (fun c3 => ?_) (fun c3 => ?_)
          · exact absurd rfl c3
          · refine lv_iconst (v := 1) S.1 S.2.1 dL_isSound_115 (by decide) ?_
            refine lv_goto (tgt := 120) S.1 S.2.1 dL_isSound_116 (by decide) ?_
            refine lv_istore (lv' := [(12, .int 1), (0, .ref (ad (0))), (1, .int x1), (2, .int x2), (3, .int x3), (4, .int x4), (5, .int x5), (6, .int (nI v)), (7, .int x7), (8, .int (al_k1 (τ.1 0) E v j)), (9, .int (al_k2 (τ.1 0) E v j)), (10, .int (al_k3 (τ.1 0) E v j)), (11, .int (nI (j + 1)))]) S.1 S.2.1 dL_isSound_120 hl (by decide) rfl (fun ls hl => ?_)
            refine lv_iload S.1 S.2.1 dL_isSound_122 (lv_at hl 9 rfl) ?_
            refine lv_iload S.1 S.2.1 dL_isSound_124 (lv_at hl 0 rfl) ?_
            refine lv_if_eq (tgt := 133) S.1 S.2.1 dL_isSound_126 (by decide) (fun c4 => ?_) (fun c4 => ?_)
            · exact absurd c4 c2
            · refine lv_iconst (v := 1) S.1 S.2.1 dL_isSound_129 (by decide) ?_
              refine lv_goto (tgt := 134) S.1 S.2.1 dL_isSound_130 (by decide) ?_
              refine lv_iadd S.1 S.2.1 dL_isSound_134 ?_
              refine lv_istore (lv' := [(8, .int ((al_k1 (τ.1 0) E v j) + 1)), (12, .int 1), (0, .ref (ad (0))), (1, .int x1), (2, .int x2), (3, .int x3), (4, .int x4), (5, .int x5), (6, .int (nI v)), (7, .int x7), (9, .int (al_k2 (τ.1 0) E v j)), (10, .int (al_k3 (τ.1 0) E v j)), (11, .int (nI (j + 1)))]) S.1 S.2.1 dL_isSound_135 hl (by decide) rfl (fun ls hl => ?_)
              refine lv_iload S.1 S.2.1 dL_isSound_137 (lv_at hl 10 rfl) ?_
              refine lv_iload S.1 S.2.1 dL_isSound_139 (lv_at hl 1 rfl) ?_
              refine lv_if_eq (tgt := 154) S.1 S.2.1 dL_isSound_141 (by decide) (fun c5 => ?_) (fun c5 => ?_)
              · exact absurd c5 c4
              · refine lv_aload_n S.1 S.2.1 dL_isSound_144 rfl (lv_at hl 2 rfl) ?_
                refine lv_iload S.1 S.2.1 dL_isSound_145 (lv_at hl 12 rfl) ?_
                refine lv_iconst (v := 4) S.1 S.2.1 dL_isSound_147 (by decide) ?_
                refine al_cP (rest := [.int (al_k2 (τ.1 0) E v j)]) S hK hW (al_X8_node l D cy ad σ (nI (j + 1)) 4) al_mi_X8_node al_ml_RL_18 rfl (al_rc_8 D cy ad _) rfl hl.1 rfl (Nat.le_of_ble_eq_true rfl) dL_isSound_148 ⟨Nat.le_of_ble_eq_true rfl, Nat.le_of_ble_eq_true rfl⟩ ⟨Nat.zero_le _, Nat.zero_le _⟩ ?_
                refine W.eq (g2 := F0 m 151 ls [.int (nI (al_S (τ.1 0) E (j + 1))), .int (al_k2 (τ.1 0) E v j)]) (congrArg (fun z => F0 m 151 ls (Value.int z :: [.int (al_k2 (τ.1 0) E v j)])) ((hR.node (nI (j + 1)) 4).trans (al_n4 hg hkn))) ?_
                refine lv_goto (tgt := 155) S.1 S.2.1 dL_isSound_151 (by decide) ?_
                refine lv_iadd S.1 S.2.1 dL_isSound_155 ?_
                refine lv_istore (lv' := [(9, .int ((al_k2 (τ.1 0) E v j) + (nI (al_S (τ.1 0) E (j + 1))))), (8, .int ((al_k1 (τ.1 0) E v j) + 1)), (12, .int 1), (0, .ref (ad (0))), (1, .int x1), (2, .int x2), (3, .int x3), (4, .int x4), (5, .int x5), (6, .int (nI v)), (7, .int x7), (10, .int (al_k3 (τ.1 0) E v j)), (11, .int (nI (j + 1)))]) S.1 S.2.1 dL_isSound_156 hl (by decide) rfl (fun ls hl => ?_)
                refine lv_iload S.1 S.2.1 dL_isSound_158 (lv_at hl 2 rfl) ?_
                refine lv_if_eq (tgt := 189) S.1 S.2.1 dL_isSound_160 (by decide) (fun c6 => ?_) (fun c6 => ?_)
                · exact absurd c6 c5
                · refine lv_aload_n S.1 S.2.1 dL_isSound_163 rfl (lv_at hl 3 rfl) ?_
                  refine lv_iload S.1 S.2.1 dL_isSound_164 (lv_at hl 12 rfl) ?_
                  refine lv_iconst (v := 2) S.1 S.2.1 dL_isSound_166 (by decide) ?_
                  refine al_cP (rest := []) S hK hW (al_X8_node l D cy ad σ (nI (j + 1)) 2) al_mi_X8_node al_ml_RL_18 rfl (al_rc_8 D cy ad _) rfl hl.1 rfl (Nat.le_of_ble_eq_true rfl) dL_isSound_167 ⟨Nat.le_of_ble_eq_true rfl, Nat.le_of_ble_eq_true rfl⟩ ⟨Nat.zero_le _, Nat.zero_le _⟩ ?_
                  refine W.eq (g2 := F0 m 170 ls [.int (nI (al_Hh (τ.1 0) E (j + 1)))]) (congrArg (fun z => F0 m 170 ls (Value.int z :: [])) ((hR.node (nI (j + 1)) 2).trans (al_n2 hg hkn))) ?_
                  refine lv_iconst (v := 1) S.1 S.2.1 dL_isSound_170 (by decide) ?_
                  refine lv_iadd S.1 S.2.1 dL_isSound_171 ?_
                  refine lv_iload S.1 S.2.1 dL_isSound_172 (lv_at hl 11 rfl) ?_
                  refine lv_icmp_le (tgt := 189) S.1 S.2.1 dL_isSound_174 (by decide) (fun c7 => ?_) (fun c7 => ?_)
                  · refine lv_iload S.1 S.2.1 dL_isSound_189 (lv_at hl 11 rfl) ?_
                    refine lv_istore (lv' := [(10, .int (al_k3 (τ.1 0) E v j)), (9, .int ((al_k2 (τ.1 0) E v j) + (nI (al_S (τ.1 0) E (j + 1))))), (8, .int ((al_k1 (τ.1 0) E v j) + 1)), (12, .int 1), (0, .ref (ad (0))), (1, .int x1), (2, .int x2), (3, .int x3), (4, .int x4), (5, .int x5), (6, .int (nI v)), (7, .int x7), (11, .int (nI (j + 1)))]) S.1 S.2.1 dL_isSound_191 hl (by decide) rfl (fun ls hl => ?_)
                    refine lv_iinc (k := 12) (v := nI ((j + 1) + 1)) (lv' := [(11, .int (nI ((j + 1) + 1))), (10, .int (al_k3 (τ.1 0) E v j)), (9, .int ((al_k2 (τ.1 0) E v j) + (nI (al_S (τ.1 0) E (j + 1))))), (8, .int ((al_k1 (τ.1 0) E v j) + 1)), (12, .int 1), (0, .ref (ad (0))), (1, .int x1), (2, .int x2), (3, .int x3), (4, .int x4), (5, .int x5), (6, .int (nI v)), (7, .int x7)]) S.1 S.2.1 dL_isSound_193 hl rfl (al_inc (j + 1)) (by decide) rfl (fun ls hl => ?_)
                    refine lv_goto (tgt := 84) S.1 S.2.1 dL_isSound_196 (by decide) ?_
                    exact ih (j + 1) (by omega) _ _ _ _ hR hW hS (by rw [f1, f2, al_k_le hg hv hkd c7]; exact (lv_sub hl [5, 6, 7, 8, 9, 10, 11, 12, 3, 2, 1, 0] rfl))
                  · refine lv_aload_n S.1 S.2.1 dL_isSound_177 rfl (lv_at hl 3 rfl) ?_
                    refine lv_iload S.1 S.2.1 dL_isSound_178 (lv_at hl 12 rfl) ?_
                    refine lv_iconst (v := 2) S.1 S.2.1 dL_isSound_180 (by decide) ?_
                    refine al_cP (rest := []) S hK hW (al_X8_node l D cy ad σ (nI (j + 1)) 2) al_mi_X8_node al_ml_RL_18 rfl (al_rc_8 D cy ad _) rfl hl.1 rfl (Nat.le_of_ble_eq_true rfl) dL_isSound_181 ⟨Nat.le_of_ble_eq_true rfl, Nat.le_of_ble_eq_true rfl⟩ ⟨Nat.zero_le _, Nat.zero_le _⟩ ?_
                    refine W.eq (g2 := F0 m 184 ls [.int (nI (al_Hh (τ.1 0) E (j + 1)))]) (congrArg (fun z => F0 m 184 ls (Value.int z :: [])) ((hR.node (nI (j + 1)) 2).trans (al_n2 hg hkn))) ?_
                    refine lv_iconst (v := 1) S.1 S.2.1 dL_isSound_184 (by decide) ?_
                    refine lv_iadd S.1 S.2.1 dL_isSound_185 ?_
                    refine lv_goto (tgt := 191) S.1 S.2.1 dL_isSound_186 (by decide) ?_
                    refine lv_istore (lv' := [(10, .int ((nI (al_Hh (τ.1 0) E (j + 1))) + 1)), (9, .int ((al_k2 (τ.1 0) E v j) + (nI (al_S (τ.1 0) E (j + 1))))), (8, .int ((al_k1 (τ.1 0) E v j) + 1)), (12, .int 1), (0, .ref (ad (0))), (1, .int x1), (2, .int x2), (3, .int x3), (4, .int x4), (5, .int x5), (6, .int (nI v)), (7, .int x7), (11, .int (nI (j + 1)))]) S.1 S.2.1 dL_isSound_191 hl (by decide) rfl (fun ls hl => ?_)
                    refine lv_iinc (k := 12) (v := nI ((j + 1) + 1)) (lv' := [(11, .int (nI ((j + 1) + 1))), (10, .int ((nI (al_Hh (τ.1 0) E (j + 1))) + 1)), (9, .int ((al_k2 (τ.1 0) E v j) + (nI (al_S (τ.1 0) E (j + 1))))), (8, .int ((al_k1 (τ.1 0) E v j) + 1)), (12, .int 1), (0, .ref (ad (0))), (1, .int x1), (2, .int x2), (3, .int x3), (4, .int x4), (5, .int x5), (6, .int (nI v)), (7, .int x7)]) S.1 S.2.1 dL_isSound_193 hl rfl (al_inc (j + 1)) (by decide) rfl (fun ls hl => ?_)
                    refine lv_goto (tgt := 84) S.1 S.2.1 dL_isSound_196 (by decide) ?_
                    exact ih (j + 1) (by omega) _ _ _ _ hR hW hS (by rw [f1, f2, al_k_gt hg hv hkd c7]; exact (lv_sub hl [5, 6, 7, 8, 9, 10, 11, 12, 3, 2, 1, 0] rfl))
    · obtain ⟨f1, f2, f3⟩ := al_k_out hkd
      by_cases hkn : al_nd (τ.1 0) E (j + 1)
      · refine lv_iload S.1 S.2.1 dL_isSound_84 (lv_at hl 11 rfl) ?_
        refine lv_aload_n S.1 S.2.1 dL_isSound_86 rfl (lv_at hl 0 rfl) ?_
        refine lv_iconst (v := 1) S.1 S.2.1 dL_isSound_87 (by decide) ?_
        refine al_cS (rest := [.int (nI (j + 1))]) S hK hW hS (al_X8_count l D cy ad σ 1 (al_pOK_R hg hR)) al_mi_X8_count al_ml_RL_12 rfl (al_rc_8 D cy ad _) rfl hl.1 rfl (Nat.le_of_ble_eq_true rfl) dL_isSound_88 ⟨Nat.le_of_ble_eq_true rfl, Nat.le_of_ble_eq_true rfl⟩ ⟨Nat.zero_le _, Nat.zero_le _⟩ (fun H locs hW hS => ?_)
        refine W.eq (g2 := F0 m 91 ls [.int (nI E), .int (nI (j + 1))]) (congrArg (fun z => F0 m 91 ls (Value.int z :: [.int (nI (j + 1))])) ((al_countV hg hR 1).trans (al_c1 hg))) ?_
        obtain ⟨σ, hR, hW⟩ : ∃ σ9, al_Rl τ σ9 ∧ al_H D cy ad σ9 H := ⟨_, al_count_Rl hg hR _, hW⟩
        refine lv_icmp_ge (tgt := 199) S.1 S.2.1 dL_isSound_91 (by decide) (fun c8 => ?_) (fun c8 => ?_)
        · exact absurd c8 (nI_ge (a := j + 1) (b := E) (by omega) (by omega))
        · refine lv_aload_n S.1 S.2.1 dL_isSound_94 rfl (lv_at hl 0 rfl) ?_
          refine lv_iload S.1 S.2.1 dL_isSound_95 (lv_at hl 11 rfl) ?_
          refine al_cPs (rest := []) S hK hW (al_L_is l D cy ad hR (nI (j + 1))) al_ms_L_is al_ml_RL_30 rfl hl.1 rfl (Nat.le_of_ble_eq_true rfl) dL_isSound_97 ⟨Nat.le_of_ble_eq_true rfl, Nat.le_of_ble_eq_true rfl⟩ ⟨Nat.zero_le _, Nat.zero_le _⟩ ?_
          refine W.eq (g2 := F0 m 100 ls [.int 1]) (congrArg (fun z => F0 m 100 ls (Value.int z :: [])) (al_isv_in hg hkn)) ?_
          refine lv_if_eq (tgt := 119) S.1 S.2.1 dL_isSound_100 (by decide) (fun c9 => ?_) (fun c9 => ?_)
          · exact absurd c9 (by decide)
          · refine lv_aload_n S.1 S.2.1 dL_isSound_103 rfl (lv_at hl 0 rfl) ?_
            refine lv_iload S.1 S.2.1 dL_isSound_104 (lv_at hl 11 rfl) ?_
            refine lv_iconst (v := 0) S.1 S.2.1 dL_isSound_106 (by decide) ?_
            refine al_cP (rest := []) S hK hW (al_X8_node l D cy ad σ (nI (j + 1)) 0) al_mi_X8_node al_ml_RL_18 rfl (al_rc_8 D cy ad _) rfl hl.1 rfl (Nat.le_of_ble_eq_true rfl) dL_isSound_107 ⟨Nat.le_of_ble_eq_true rfl, Nat.le_of_ble_eq_true rfl⟩ ⟨Nat.zero_le _, Nat.zero_le _⟩ ?_
            refine W.eq (g2 := F0 m 110 ls [.int (al_node τ (nI (j + 1)) 0)]) (congrArg (fun z => F0 m 110 ls (Value.int z :: [])) (hR.node (nI (j + 1)) 0)) ?_
            refine lv_iload S.1 S.2.1 dL_isSound_110 (lv_at hl 6 rfl) ?_
            refine lv_icmp_ne (tgt := 119) S.1 S.2.1 dL_isSound_112 (by decide) (fun c10 => ?_) (fun c10 => ?_)
            · refine lv_iconst (v := 0) S.1 S.2.1 dL_isSound_119 (by decide) ?_
              refine lv_istore (lv' := [(12, .int 0), (0, .ref (ad (0))), (1, .int x1), (2, .int x2), (3, .int x3), (4, .int x4), (5, .int x5), (6, .int (nI v)), (7, .int x7), (8, .int (al_k1 (τ.1 0) E v j)), (9, .int (al_k2 (τ.1 0) E v j)), (10, .int (al_k3 (τ.1 0) E v j)), (11, .int (nI (j + 1)))]) S.1 S.2.1 dL_isSound_120 hl (by decide) rfl (fun ls hl => ?_)
              refine lv_iload S.1 S.2.1 dL_isSound_122 (lv_at hl 9 rfl) ?_
              refine lv_iload S.1 S.2.1 dL_isSound_124 (lv_at hl 0 rfl) ?_
              refine lv_if_eq (tgt := 133) S.1 S.2.1 dL_isSound_126 (by decide) (fun c11 => ?_) (fun c11 => ?_)
              · refine lv_iconst (v := 0) S.1 S.2.1 dL_isSound_133 (by decide) ?_
                refine lv_iadd S.1 S.2.1 dL_isSound_134 ?_
                refine lv_istore (lv' := [(8, .int ((al_k1 (τ.1 0) E v j) + 0)), (12, .int 0), (0, .ref (ad (0))), (1, .int x1), (2, .int x2), (3, .int x3), (4, .int x4), (5, .int x5), (6, .int (nI v)), (7, .int x7), (9, .int (al_k2 (τ.1 0) E v j)), (10, .int (al_k3 (τ.1 0) E v j)), (11, .int (nI (j + 1)))]) S.1 S.2.1 dL_isSound_135 hl (by decide) rfl (fun ls hl => ?_)
                refine lv_iload S.1 S.2.1 dL_isSound_137 (lv_at hl 10 rfl) ?_
                refine lv_iload S.1 S.2.1 dL_isSound_139 (lv_at hl 1 rfl) ?_
                refine lv_if_eq (tgt := 154) S.1 S.2.1 dL_isSound_141 (by decide) (fun c12 => ?_) (fun c12 => ?_)
                · refine lv_iconst (v := 0) S.1 S.2.1 dL_isSound_154 (by decide) ?_
                  refine lv_iadd S.1 S.2.1 dL_isSound_155 ?_
                  refine lv_istore (lv' := [(9, .int ((al_k2 (τ.1 0) E v j) + 0)), (8, .int ((al_k1 (τ.1 0) E v j) + 0)), (12, .int 0), (0, .ref (ad (0))), (1, .int x1), (2, .int x2), (3, .int x3), (4, .int x4), (5, .int x5), (6, .int (nI v)), (7, .int x7), (10, .int (al_k3 (τ.1 0) E v j)), (11, .int (nI (j + 1)))]) S.1 S.2.1 dL_isSound_156 hl (by decide) rfl (fun ls hl => ?_)
                  refine lv_iload S.1 S.2.1 dL_isSound_158 (lv_at hl 2 rfl) ?_
                  refine lv_if_eq (tgt := 189) S.1 S.2.1 dL_isSound_160 (by decide) (fun c13 => ?_) (fun c13 => ?_)
                  · refine lv_iload S.1 S.2.1 dL_isSound_189 (lv_at hl 11 rfl) ?_
                    refine lv_istore (lv' := [(10, .int (al_k3 (τ.1 0) E v j)), (9, .int ((al_k2 (τ.1 0) E v j) + 0)), (8, .int ((al_k1 (τ.1 0) E v j) + 0)), (12, .int 0), (0, .ref (ad (0))), (1, .int x1), (2, .int x2), (3, .int x3), (4, .int x4), (5, .int x5), (6, .int (nI v)), (7, .int x7), (11, .int (nI (j + 1)))]) S.1 S.2.1 dL_isSound_191 hl (by decide) rfl (fun ls hl => ?_)
                    refine lv_iinc (k := 12) (v := nI ((j + 1) + 1)) (lv' := [(11, .int (nI ((j + 1) + 1))), (10, .int (al_k3 (τ.1 0) E v j)), (9, .int ((al_k2 (τ.1 0) E v j) + 0)), (8, .int ((al_k1 (τ.1 0) E v j) + 0)), (12, .int 0), (0, .ref (ad (0))), (1, .int x1), (2, .int x2), (3, .int x3), (4, .int x4), (5, .int x5), (6, .int (nI v)), (7, .int x7)]) S.1 S.2.1 dL_isSound_193 hl rfl (al_inc (j + 1)) (by decide) rfl (fun ls hl => ?_)
                    refine lv_goto (tgt := 84) S.1 S.2.1 dL_isSound_196 (by decide) ?_
                    exact ih (j + 1) (by omega) _ _ _ _ hR hW hS (by rw [f1, f2, f3]; exact (lv_sub hl [5, 6, 7, 8, 9, 10, 11, 12, 3, 2, 1, 0] rfl))
                  · exact absurd c12 c13
                · exact absurd c11 c12
              · exact absurd (by decide) c11
            · exact absurd c10 (al_kid_ne hg hv hkn hkd)
      · refine lv_iload S.1 S.2.1 dL_isSound_84 (lv_at hl 11 rfl) ?_
        refine lv_aload_n S.1 S.2.1 dL_isSound_86 rfl (lv_at hl 0 rfl) ?_
        refine lv_iconst (v := 1) S.1 S.2.1 dL_isSound_87 (by decide) ?_
        refine al_cS (rest := [.int (nI (j + 1))]) S hK hW hS (al_X8_count l D cy ad σ 1 (al_pOK_R hg hR)) al_mi_X8_count al_ml_RL_12 rfl (al_rc_8 D cy ad _) rfl hl.1 rfl (Nat.le_of_ble_eq_true rfl) dL_isSound_88 ⟨Nat.le_of_ble_eq_true rfl, Nat.le_of_ble_eq_true rfl⟩ ⟨Nat.zero_le _, Nat.zero_le _⟩ (fun H locs hW hS => ?_)
        refine W.eq (g2 := F0 m 91 ls [.int (nI E), .int (nI (j + 1))]) (congrArg (fun z => F0 m 91 ls (Value.int z :: [.int (nI (j + 1))])) ((al_countV hg hR 1).trans (al_c1 hg))) ?_
        obtain ⟨σ, hR, hW⟩ : ∃ σ9, al_Rl τ σ9 ∧ al_H D cy ad σ9 H := ⟨_, al_count_Rl hg hR _, hW⟩
        refine lv_icmp_ge (tgt := 199) S.1 S.2.1 dL_isSound_91 (by decide) (fun c14 => ?_) (fun c14 => ?_)
        · exact absurd c14 (nI_ge (a := j + 1) (b := E) (by omega) (by omega))
        · refine lv_aload_n S.1 S.2.1 dL_isSound_94 rfl (lv_at hl 0 rfl) ?_
          refine lv_iload S.1 S.2.1 dL_isSound_95 (lv_at hl 11 rfl) ?_
          refine al_cPs (rest := []) S hK hW (al_L_is l D cy ad hR (nI (j + 1))) al_ms_L_is al_ml_RL_30 rfl hl.1 rfl (Nat.le_of_ble_eq_true rfl) dL_isSound_97 ⟨Nat.le_of_ble_eq_true rfl, Nat.le_of_ble_eq_true rfl⟩ ⟨Nat.zero_le _, Nat.zero_le _⟩ ?_
          refine W.eq (g2 := F0 m 100 ls [.int 0]) (congrArg (fun z => F0 m 100 ls (Value.int z :: [])) (al_isv_out hg (by omega) hkn)) ?_
          refine lv_if_eq (tgt := 119) S.1 S.2.1 dL_isSound_100 (by decide) (fun c15 => ?_) (fun c15 => ?_)
          · refine lv_iconst (v := 0) S.1 S.2.1 dL_isSound_119 (by decide) ?_
            refine lv_istore (lv' := [(12, .int 0), (0, .ref (ad (0))), (1, .int x1), (2, .int x2), (3, .int x3), (4, .int x4), (5, .int x5), (6, .int (nI v)), (7, .int x7), (8, .int (al_k1 (τ.1 0) E v j)), (9, .int (al_k2 (τ.1 0) E v j)), (10, .int (al_k3 (τ.1 0) E v j)), (11, .int (nI (j + 1)))]) S.1 S.2.1 dL_isSound_120 hl (by decide) rfl (fun ls hl => ?_)
            refine lv_iload S.1 S.2.1 dL_isSound_122 (lv_at hl 9 rfl) ?_
            refine lv_iload S.1 S.2.1 dL_isSound_124 (lv_at hl 0 rfl) ?_
            refine lv_if_eq (tgt := 133) S.1 S.2.1 dL_isSound_126 (by decide) (fun c16 => ?_) (fun c16 => ?_)
            · refine lv_iconst (v := 0) S.1 S.2.1 dL_isSound_133 (by decide) ?_
              refine lv_iadd S.1 S.2.1 dL_isSound_134 ?_
              refine lv_istore (lv' := [(8, .int ((al_k1 (τ.1 0) E v j) + 0)), (12, .int 0), (0, .ref (ad (0))), (1, .int x1), (2, .int x2), (3, .int x3), (4, .int x4), (5, .int x5), (6, .int (nI v)), (7, .int x7), (9, .int (al_k2 (τ.1 0) E v j)), (10, .int (al_k3 (τ.1 0) E v j)), (11, .int (nI (j + 1)))]) S.1 S.2.1 dL_isSound_135 hl (by decide) rfl (fun ls hl => ?_)
              refine lv_iload S.1 S.2.1 dL_isSound_137 (lv_at hl 10 rfl) ?_
              refine lv_iload S.1 S.2.1 dL_isSound_139 (lv_at hl 1 rfl) ?_
              refine lv_if_eq (tgt := 154) S.1 S.2.1 dL_isSound_141 (by decide) (fun c17 => ?_) (fun c17 => ?_)
              · refine lv_iconst (v := 0) S.1 S.2.1 dL_isSound_154 (by decide) ?_
                refine lv_iadd S.1 S.2.1 dL_isSound_155 ?_
                refine lv_istore (lv' := [(9, .int ((al_k2 (τ.1 0) E v j) + 0)), (8, .int ((al_k1 (τ.1 0) E v j) + 0)), (12, .int 0), (0, .ref (ad (0))), (1, .int x1), (2, .int x2), (3, .int x3), (4, .int x4), (5, .int x5), (6, .int (nI v)), (7, .int x7), (10, .int (al_k3 (τ.1 0) E v j)), (11, .int (nI (j + 1)))]) S.1 S.2.1 dL_isSound_156 hl (by decide) rfl (fun ls hl => ?_)
                refine lv_iload S.1 S.2.1 dL_isSound_158 (lv_at hl 2 rfl) ?_
                refine lv_if_eq (tgt := 189) S.1 S.2.1 dL_isSound_160 (by decide) (fun c18 => ?_) (fun c18 => ?_)
                · refine lv_iload S.1 S.2.1 dL_isSound_189 (lv_at hl 11 rfl) ?_
                  refine lv_istore (lv' := [(10, .int (al_k3 (τ.1 0) E v j)), (9, .int ((al_k2 (τ.1 0) E v j) + 0)), (8, .int ((al_k1 (τ.1 0) E v j) + 0)), (12, .int 0), (0, .ref (ad (0))), (1, .int x1), (2, .int x2), (3, .int x3), (4, .int x4), (5, .int x5), (6, .int (nI v)), (7, .int x7), (11, .int (nI (j + 1)))]) S.1 S.2.1 dL_isSound_191 hl (by decide) rfl (fun ls hl => ?_)
                  refine lv_iinc (k := 12) (v := nI ((j + 1) + 1)) (lv' := [(11, .int (nI ((j + 1) + 1))), (10, .int (al_k3 (τ.1 0) E v j)), (9, .int ((al_k2 (τ.1 0) E v j) + 0)), (8, .int ((al_k1 (τ.1 0) E v j) + 0)), (12, .int 0), (0, .ref (ad (0))), (1, .int x1), (2, .int x2), (3, .int x3), (4, .int x4), (5, .int x5), (6, .int (nI v)), (7, .int x7)]) S.1 S.2.1 dL_isSound_193 hl rfl (al_inc (j + 1)) (by decide) rfl (fun ls hl => ?_)
                  refine lv_goto (tgt := 84) S.1 S.2.1 dL_isSound_196 (by decide) ?_
                  exact ih (j + 1) (by omega) _ _ _ _ hR hW hS (by rw [f1, f2, f3]; exact (lv_sub hl [5, 6, 7, 8, 9, 10, 11, 12, 3, 2, 1, 0] rfl))
                · exact absurd c17 c18
              · exact absurd c16 c17
            · exact absurd c15 c16
          · exact absurd (by decide) c15
set_option maxHeartbeats 4000000 in
set_option maxRecDepth 100000 in
theorem al_sg_isD {p : Program} {e : Env} {s : State} {m : MethodId} {args : Array Value} {below : List Frame} {meth : Method} {c : Code} {Q : State → Prop} (l : Launch) (D : va_G) (cy : al_CY) (ad : Nat → Nat) {τ : al_St} {E : Nat} {d : Nat → Nat} {q : List Nat} (hg : al_GG τ E d q) {v : Nat} (hv : al_nd (τ.1 0) E v) (x1 x2 x3 x4 x7 x8 x9 x10 : Int32) (S : CallFix p m c cL_isSound 13 s args al_G RL) (hK : va_K D vwCl (al_tys cy) s) {H0 : Heap} (K : ∀ (σ : al_St) (H : Heap) (locs : List Loc) (ls : Array Slot), al_Rl τ σ → al_H D cy ad σ H → va_S (al_A ad) H0 H locs → lv_has ls 13 [(0, .ref (ad (0))), (1, .int x1), (2, .int x2), (3, .int x3), (4, .int x4), (5, .int (nI (al_dm (τ.1 0) d (v + 1)))), (6, .int (nI v)), (7, .int x7), (8, .int x8), (9, .int x9), (10, .int x10)] → W p l e (al_rm 5 113) s m args below meth c H locs 0 0 Q (F0 m 81 ls [])) : ∀ (σ : al_St) (H : Heap) (locs : List Loc) (ls : Array Slot), al_Rl τ σ → al_H D cy ad σ H → va_S (al_A ad) H0 H locs → lv_has ls 13 [(0, .ref (ad (0))), (1, .int x1), (2, .int x2), (3, .int x3), (4, .int x4), (5, .int (nI (al_dm (τ.1 0) d v))), (6, .int (nI v)), (7, .int x7), (8, .int x8), (9, .int x9), (10, .int x10)] → W p l e (al_rm 5 113) s m args below meth c H locs 0 0 Q (F0 m 55 ls []) := by
  intro σ H locs ls hR hW hS hl
  have hd9 := al_GG_dd hg v hv
  have hm9 := al_dm_lt hg (Nat.le_of_lt hv.1)
  refine lv_aload_n S.1 S.2.1 dL_isSound_55 rfl (lv_at hl 0 rfl) ?_
  refine lv_iload S.1 S.2.1 dL_isSound_56 (lv_at hl 6 rfl) ?_
  refine lv_iconst (v := 1) S.1 S.2.1 dL_isSound_58 (by decide) ?_
  refine al_cP (rest := []) S hK hW (al_X8_node l D cy ad σ (nI v) 1) al_mi_X8_node al_ml_RL_18 rfl (al_rc_8 D cy ad _) rfl hl.1 rfl (Nat.le_of_ble_eq_true rfl) dL_isSound_59 ⟨Nat.le_of_ble_eq_true rfl, Nat.le_of_ble_eq_true rfl⟩ ⟨Nat.zero_le _, Nat.zero_le _⟩ ?_
  refine W.eq (g2 := F0 m 62 ls [.int (nI (d v))]) (congrArg (fun z => F0 m 62 ls (Value.int z :: [])) ((hR.node (nI v) 1).trans (al_n1 hg hv))) ?_
  refine lv_iload S.1 S.2.1 dL_isSound_62 (lv_at hl 5 rfl) ?_
  refine lv_icmp_le (tgt := 77) S.1 S.2.1 dL_isSound_64 (by decide) (fun c1 => ?_) (fun c1 => ?_)
  · refine lv_iload S.1 S.2.1 dL_isSound_77 (lv_at hl 5 rfl) ?_
    refine lv_istore (lv' := [(5, .int (nI (al_dm (τ.1 0) d v))), (0, .ref (ad (0))), (1, .int x1), (2, .int x2), (3, .int x3), (4, .int x4), (6, .int (nI v)), (7, .int x7), (8, .int x8), (9, .int x9), (10, .int x10)]) S.1 S.2.1 dL_isSound_79 hl (by decide) rfl (fun ls hl => ?_)
    exact K _ _ _ _ hR hW hS (by rw [show nI (al_dm (τ.1 0) d (v + 1)) = nI (al_dm (τ.1 0) d v) from by rw [al_dm_in hv.2, if_neg (Nat.not_lt_of_le ((nI_leI (by omega) (by omega)).mp c1))]]; exact (lv_sub hl [1, 2, 3, 4, 5, 0, 6, 7, 8, 9, 10] rfl))
  · refine lv_aload_n S.1 S.2.1 dL_isSound_67 rfl (lv_at hl 0 rfl) ?_
    refine lv_iload S.1 S.2.1 dL_isSound_68 (lv_at hl 6 rfl) ?_
    refine lv_iconst (v := 1) S.1 S.2.1 dL_isSound_70 (by decide) ?_
    refine al_cP (rest := []) S hK hW (al_X8_node l D cy ad σ (nI v) 1) al_mi_X8_node al_ml_RL_18 rfl (al_rc_8 D cy ad _) rfl hl.1 rfl (Nat.le_of_ble_eq_true rfl) dL_isSound_71 ⟨Nat.le_of_ble_eq_true rfl, Nat.le_of_ble_eq_true rfl⟩ ⟨Nat.zero_le _, Nat.zero_le _⟩ ?_
    refine W.eq (g2 := F0 m 74 ls [.int (nI (d v))]) (congrArg (fun z => F0 m 74 ls (Value.int z :: [])) ((hR.node (nI v) 1).trans (al_n1 hg hv))) ?_
    refine lv_goto (tgt := 79) S.1 S.2.1 dL_isSound_74 (by decide) ?_
    refine lv_istore (lv' := [(5, .int (nI (d v))), (0, .ref (ad (0))), (1, .int x1), (2, .int x2), (3, .int x3), (4, .int x4), (6, .int (nI v)), (7, .int x7), (8, .int x8), (9, .int x9), (10, .int x10)]) S.1 S.2.1 dL_isSound_79 hl (by decide) rfl (fun ls hl => ?_)
    exact K _ _ _ _ hR hW hS (by rw [show nI (al_dm (τ.1 0) d (v + 1)) = nI (d v) from by rw [al_dm_in hv.2, if_pos (Nat.lt_of_not_le fun h9 => c1 (nI_le h9 (by omega)))]]; exact (lv_sub hl [1, 2, 3, 4, 5, 0, 6, 7, 8, 9, 10] rfl))
set_option maxHeartbeats 4000000 in
set_option maxRecDepth 100000 in
theorem al_sg_isB {p : Program} {e : Env} {s : State} {m : MethodId} {args : Array Value} {below : List Frame} {meth : Method} {c : Code} {Q : State → Prop} (l : Launch) (D : va_G) (cy : al_CY) (ad : Nat → Nat) {τ : al_St} {E : Nat} {d : Nat → Nat} {q : List Nat} (hg : al_GG τ E d q) {v : Nat} (hv : al_nd (τ.1 0) E v) (x1 x2 x3 x4 x5 : Int32) (S : CallFix p m c cL_isSound 13 s args al_G RL) (hK : va_K D vwCl (al_tys cy) s) {H0 : Heap} (K : ∀ (σ : al_St) (H : Heap) (locs : List Loc) (ls : Array Slot), al_Rl τ σ → al_H D cy ad σ H → va_S (al_A ad) H0 H locs → lv_has ls 13 [(0, .ref (ad (0))), (1, .int x1), (2, .int x2), (3, .int x3), (4, .int x4), (5, .int x5), (6, .int (nI v)), (8, .int (nI (al_kids (τ.1 0) E v).length)), (9, .int (nI (al_S (τ.1 0) E v))), (10, .int (nI (al_Hh (τ.1 0) E v)))] → W p l e (al_rm 5 113) s m args below meth c H locs 0 0 Q (F0 m 290 ls [])) : ∀ (σ : al_St) (H : Heap) (locs : List Loc) (ls : Array Slot), al_Rl τ σ → al_H D cy ad σ H → va_S (al_A ad) H0 H locs → lv_has ls 13 [(0, .ref (ad (0))), (1, .int x1), (2, .int x2), (3, .int x3), (4, .int x4), (5, .int x5), (6, .int (nI v)), (7, .int (al_node τ (nI v) 0)), (8, .int (nI (al_kids (τ.1 0) E v).length)), (9, .int (nI (al_S (τ.1 0) E v))), (10, .int (nI (al_Hh (τ.1 0) E v)))] → W p l e (al_rm 5 113) s m args below meth c H locs 0 0 Q (F0 m 199 ls []) := by
  intro σ H locs ls hR hW hS hl
  by_cases h0 : v = 0
  · rw [show al_node τ (nI v) 0 = -5 from by rw [al_n0 hg hv, if_pos h0]] at hl
    refine lv_iload S.1 S.2.1 dL_isSound_199 (lv_at hl 8 rfl) ?_
    refine lv_aload_n S.1 S.2.1 dL_isSound_201 rfl (lv_at hl 0 rfl) ?_
    refine lv_iload S.1 S.2.1 dL_isSound_202 (lv_at hl 6 rfl) ?_
    refine lv_iconst (v := 3) S.1 S.2.1 dL_isSound_204 (by decide) ?_
    refine al_cP (rest := [.int (nI (al_kids (τ.1 0) E v).length)]) S hK hW (al_X8_node l D cy ad σ (nI v) 3) al_mi_X8_node al_ml_RL_18 rfl (al_rc_8 D cy ad _) rfl hl.1 rfl (Nat.le_of_ble_eq_true rfl) dL_isSound_205 ⟨Nat.le_of_ble_eq_true rfl, Nat.le_of_ble_eq_true rfl⟩ ⟨Nat.zero_le _, Nat.zero_le _⟩ ?_
    refine W.eq (g2 := F0 m 208 ls [.int (nI (al_kids (τ.1 0) E v).length), .int (nI (al_kids (τ.1 0) E v).length)]) (congrArg (fun z => F0 m 208 ls (Value.int z :: [.int (nI (al_kids (τ.1 0) E v).length)])) ((hR.node (nI v) 3).trans (al_n3 hg hv))) ?_
    refine lv_icmp_ne (tgt := 288) S.1 S.2.1 dL_isSound_208 (by decide) (fun c1 => ?_) (fun c1 => ?_)
    · exact absurd rfl c1
    · refine lv_iload S.1 S.2.1 dL_isSound_211 (lv_at hl 9 rfl) ?_
      refine lv_aload_n S.1 S.2.1 dL_isSound_213 rfl (lv_at hl 0 rfl) ?_
      refine lv_iload S.1 S.2.1 dL_isSound_214 (lv_at hl 6 rfl) ?_
      refine lv_iconst (v := 4) S.1 S.2.1 dL_isSound_216 (by decide) ?_
      refine al_cP (rest := [.int (nI (al_S (τ.1 0) E v))]) S hK hW (al_X8_node l D cy ad σ (nI v) 4) al_mi_X8_node al_ml_RL_18 rfl (al_rc_8 D cy ad _) rfl hl.1 rfl (Nat.le_of_ble_eq_true rfl) dL_isSound_217 ⟨Nat.le_of_ble_eq_true rfl, Nat.le_of_ble_eq_true rfl⟩ ⟨Nat.zero_le _, Nat.zero_le _⟩ ?_
      refine W.eq (g2 := F0 m 220 ls [.int (nI (al_S (τ.1 0) E v)), .int (nI (al_S (τ.1 0) E v))]) (congrArg (fun z => F0 m 220 ls (Value.int z :: [.int (nI (al_S (τ.1 0) E v))])) ((hR.node (nI v) 4).trans (al_n4 hg hv))) ?_
      refine lv_icmp_ne (tgt := 288) S.1 S.2.1 dL_isSound_220 (by decide) (fun c2 => ?_) (fun c2 => ?_)
      · exact absurd rfl c2
      · refine lv_iload S.1 S.2.1 dL_isSound_223 (lv_at hl 10 rfl) ?_
        refine lv_aload_n S.1 S.2.1 dL_isSound_225 rfl (lv_at hl 0 rfl) ?_
        refine lv_iload S.1 S.2.1 dL_isSound_226 (lv_at hl 6 rfl) ?_
        refine lv_iconst (v := 2) S.1 S.2.1 dL_isSound_228 (by decide) ?_
        refine al_cP (rest := [.int (nI (al_Hh (τ.1 0) E v))]) S hK hW (al_X8_node l D cy ad σ (nI v) 2) al_mi_X8_node al_ml_RL_18 rfl (al_rc_8 D cy ad _) rfl hl.1 rfl (Nat.le_of_ble_eq_true rfl) dL_isSound_229 ⟨Nat.le_of_ble_eq_true rfl, Nat.le_of_ble_eq_true rfl⟩ ⟨Nat.zero_le _, Nat.zero_le _⟩ ?_
        refine W.eq (g2 := F0 m 232 ls [.int (nI (al_Hh (τ.1 0) E v)), .int (nI (al_Hh (τ.1 0) E v))]) (congrArg (fun z => F0 m 232 ls (Value.int z :: [.int (nI (al_Hh (τ.1 0) E v))])) ((hR.node (nI v) 2).trans (al_n2 hg hv))) ?_
        refine lv_icmp_ne (tgt := 288) S.1 S.2.1 dL_isSound_232 (by decide) (fun c3 => ?_) (fun c3 => ?_)
        · exact absurd rfl c3
        · refine lv_aload_n S.1 S.2.1 dL_isSound_235 rfl (lv_at hl 0 rfl) ?_
          refine lv_iload S.1 S.2.1 dL_isSound_236 (lv_at hl 6 rfl) ?_
          refine lv_iconst (v := 1) S.1 S.2.1 dL_isSound_238 (by decide) ?_
          refine al_cP (rest := []) S hK hW (al_X8_node l D cy ad σ (nI v) 1) al_mi_X8_node al_ml_RL_18 rfl (al_rc_8 D cy ad _) rfl hl.1 rfl (Nat.le_of_ble_eq_true rfl) dL_isSound_239 ⟨Nat.le_of_ble_eq_true rfl, Nat.le_of_ble_eq_true rfl⟩ ⟨Nat.zero_le _, Nat.zero_le _⟩ ?_
          refine W.eq (g2 := F0 m 242 ls [.int (nI (d v))]) (congrArg (fun z => F0 m 242 ls (Value.int z :: [])) ((hR.node (nI v) 1).trans (al_n1 hg hv))) ?_
          refine lv_iload S.1 S.2.1 dL_isSound_242 (lv_at hl 7 rfl) ?_
          refine lv_if_ge (tgt := 251) S.1 S.2.1 dL_isSound_244 (by decide) (fun c4 => ?_) (fun c4 => ?_)
          · exact absurd c4 (by decide)
          · refine lv_iconst (v := 0) S.1 S.2.1 dL_isSound_247 (by decide) ?_
            refine lv_goto (tgt := 260) S.1 S.2.1 dL_isSound_248 (by decide) ?_
            refine lv_icmp_ne (tgt := 288) S.1 S.2.1 dL_isSound_260 (by decide) (fun c5 => ?_) (fun c5 => ?_)
            · exact absurd (by rw [h0, hg.1.2.2.2.1]; rfl) c5
            · refine lv_iload S.1 S.2.1 dL_isSound_263 (lv_at hl 6 rfl) ?_
              refine lv_if_ne (tgt := 272) S.1 S.2.1 dL_isSound_265 (by decide) (fun c6 => ?_) (fun c6 => ?_)
              · exact absurd (by rw [h0]; rfl) c6
              · refine lv_iconst (v := 1) S.1 S.2.1 dL_isSound_268 (by decide) ?_
                refine lv_goto (tgt := 273) S.1 S.2.1 dL_isSound_269 (by decide) ?_
                refine lv_iload S.1 S.2.1 dL_isSound_273 (lv_at hl 7 rfl) ?_
                refine lv_bipush (v := -5) S.1 S.2.1 dL_isSound_275 (by decide) ?_
                refine lv_icmp_ne (tgt := 284) S.1 S.2.1 dL_isSound_277 (by decide) (fun c7 => ?_) (fun c7 => ?_)
                · exact absurd (by decide) c7
                · refine lv_iconst (v := 1) S.1 S.2.1 dL_isSound_280 (by decide) ?_
                  refine lv_goto (tgt := 285) S.1 S.2.1 dL_isSound_281 (by decide) ?_
                  refine lv_icmp_eq (tgt := 290) S.1 S.2.1 dL_isSound_285 (by decide) (fun c8 => ?_) (fun c8 => ?_)
                  · exact K _ _ _ _ hR hW hS (lv_sub hl [0, 1, 2, 3, 4, 5, 6, 8, 9, 10] rfl)
                  · exact absurd (by decide) c8
  · obtain ⟨p1, p2, p3⟩ := al_par_nd hg.1 hv h0
    have hp9 := al_nd_lt hg.1 p2
    have hv9 := al_nd_lt hg.1 hv
    rw [show al_node τ (nI v) 0 = nI (al_par (τ.1 0) v) from by rw [al_n0 hg hv, if_neg h0]] at hl
    refine lv_iload S.1 S.2.1 dL_isSound_199 (lv_at hl 8 rfl) ?_
    refine lv_aload_n S.1 S.2.1 dL_isSound_201 rfl (lv_at hl 0 rfl) ?_
    refine lv_iload S.1 S.2.1 dL_isSound_202 (lv_at hl 6 rfl) ?_
    refine lv_iconst (v := 3) S.1 S.2.1 dL_isSound_204 (by decide) ?_
    refine al_cP (rest := [.int (nI (al_kids (τ.1 0) E v).length)]) S hK hW (al_X8_node l D cy ad σ (nI v) 3) al_mi_X8_node al_ml_RL_18 rfl (al_rc_8 D cy ad _) rfl hl.1 rfl (Nat.le_of_ble_eq_true rfl) dL_isSound_205 ⟨Nat.le_of_ble_eq_true rfl, Nat.le_of_ble_eq_true rfl⟩ ⟨Nat.zero_le _, Nat.zero_le _⟩ ?_
    refine W.eq (g2 := F0 m 208 ls [.int (nI (al_kids (τ.1 0) E v).length), .int (nI (al_kids (τ.1 0) E v).length)]) (congrArg (fun z => F0 m 208 ls (Value.int z :: [.int (nI (al_kids (τ.1 0) E v).length)])) ((hR.node (nI v) 3).trans (al_n3 hg hv))) ?_
    refine lv_icmp_ne (tgt := 288) S.1 S.2.1 dL_isSound_208 (by decide) (fun c9 => ?_) (fun c9 => ?_)
    · exact absurd rfl c9
    · refine lv_iload S.1 S.2.1 dL_isSound_211 (lv_at hl 9 rfl) ?_
      refine lv_aload_n S.1 S.2.1 dL_isSound_213 rfl (lv_at hl 0 rfl) ?_
      refine lv_iload S.1 S.2.1 dL_isSound_214 (lv_at hl 6 rfl) ?_
      refine lv_iconst (v := 4) S.1 S.2.1 dL_isSound_216 (by decide) ?_
      refine al_cP (rest := [.int (nI (al_S (τ.1 0) E v))]) S hK hW (al_X8_node l D cy ad σ (nI v) 4) al_mi_X8_node al_ml_RL_18 rfl (al_rc_8 D cy ad _) rfl hl.1 rfl (Nat.le_of_ble_eq_true rfl) dL_isSound_217 ⟨Nat.le_of_ble_eq_true rfl, Nat.le_of_ble_eq_true rfl⟩ ⟨Nat.zero_le _, Nat.zero_le _⟩ ?_
      refine W.eq (g2 := F0 m 220 ls [.int (nI (al_S (τ.1 0) E v)), .int (nI (al_S (τ.1 0) E v))]) (congrArg (fun z => F0 m 220 ls (Value.int z :: [.int (nI (al_S (τ.1 0) E v))])) ((hR.node (nI v) 4).trans (al_n4 hg hv))) ?_
      refine lv_icmp_ne (tgt := 288) S.1 S.2.1 dL_isSound_220 (by decide) (fun c10 => ?_) (fun c10 => ?_)
      · exact absurd rfl c10
      · refine lv_iload S.1 S.2.1 dL_isSound_223 (lv_at hl 10 rfl) ?_
        refine lv_aload_n S.1 S.2.1 dL_isSound_225 rfl (lv_at hl 0 rfl) ?_
        refine lv_iload S.1 S.2.1 dL_isSound_226 (lv_at hl 6 rfl) ?_
        refine lv_iconst (v := 2) S.1 S.2.1 dL_isSound_228 (by decide) ?_
        refine al_cP (rest := [.int (nI (al_Hh (τ.1 0) E v))]) S hK hW (al_X8_node l D cy ad σ (nI v) 2) al_mi_X8_node al_ml_RL_18 rfl (al_rc_8 D cy ad _) rfl hl.1 rfl (Nat.le_of_ble_eq_true rfl) dL_isSound_229 ⟨Nat.le_of_ble_eq_true rfl, Nat.le_of_ble_eq_true rfl⟩ ⟨Nat.zero_le _, Nat.zero_le _⟩ ?_
        refine W.eq (g2 := F0 m 232 ls [.int (nI (al_Hh (τ.1 0) E v)), .int (nI (al_Hh (τ.1 0) E v))]) (congrArg (fun z => F0 m 232 ls (Value.int z :: [.int (nI (al_Hh (τ.1 0) E v))])) ((hR.node (nI v) 2).trans (al_n2 hg hv))) ?_
        refine lv_icmp_ne (tgt := 288) S.1 S.2.1 dL_isSound_232 (by decide) (fun c11 => ?_) (fun c11 => ?_)
        · exact absurd rfl c11
        · refine lv_aload_n S.1 S.2.1 dL_isSound_235 rfl (lv_at hl 0 rfl) ?_
          refine lv_iload S.1 S.2.1 dL_isSound_236 (lv_at hl 6 rfl) ?_
          refine lv_iconst (v := 1) S.1 S.2.1 dL_isSound_238 (by decide) ?_
          refine al_cP (rest := []) S hK hW (al_X8_node l D cy ad σ (nI v) 1) al_mi_X8_node al_ml_RL_18 rfl (al_rc_8 D cy ad _) rfl hl.1 rfl (Nat.le_of_ble_eq_true rfl) dL_isSound_239 ⟨Nat.le_of_ble_eq_true rfl, Nat.le_of_ble_eq_true rfl⟩ ⟨Nat.zero_le _, Nat.zero_le _⟩ ?_
          refine W.eq (g2 := F0 m 242 ls [.int (nI (d v))]) (congrArg (fun z => F0 m 242 ls (Value.int z :: [])) ((hR.node (nI v) 1).trans (al_n1 hg hv))) ?_
          refine lv_iload S.1 S.2.1 dL_isSound_242 (lv_at hl 7 rfl) ?_
          refine lv_if_ge (tgt := 251) S.1 S.2.1 dL_isSound_244 (by decide) (fun c12 => ?_) (fun c12 => ?_)
          · refine lv_aload_n S.1 S.2.1 dL_isSound_251 rfl (lv_at hl 0 rfl) ?_
            refine lv_iload S.1 S.2.1 dL_isSound_252 (lv_at hl 7 rfl) ?_
            refine lv_iconst (v := 1) S.1 S.2.1 dL_isSound_254 (by decide) ?_
            refine al_cP (rest := [.int (nI (d v))]) S hK hW (al_X8_node l D cy ad σ (nI (al_par (τ.1 0) v)) 1) al_mi_X8_node al_ml_RL_18 rfl (al_rc_8 D cy ad _) rfl hl.1 rfl (Nat.le_of_ble_eq_true rfl) dL_isSound_255 ⟨Nat.le_of_ble_eq_true rfl, Nat.le_of_ble_eq_true rfl⟩ ⟨Nat.zero_le _, Nat.zero_le _⟩ ?_
            refine W.eq (g2 := F0 m 258 ls [.int (nI (d (al_par (τ.1 0) v))), .int (nI (d v))]) (congrArg (fun z => F0 m 258 ls (Value.int z :: [.int (nI (d v))])) ((hR.node (nI (al_par (τ.1 0) v)) 1).trans (al_n1 hg p2))) ?_
            refine lv_iconst (v := 1) S.1 S.2.1 dL_isSound_258 (by decide) ?_
            refine lv_iadd S.1 S.2.1 dL_isSound_259 ?_
            refine lv_icmp_ne (tgt := 288) S.1 S.2.1 dL_isSound_260 (by decide) (fun c13 => ?_) (fun c13 => ?_)
            · exact absurd (by rw [p3]; exact nI_succ _) c13
            · refine lv_iload S.1 S.2.1 dL_isSound_263 (lv_at hl 6 rfl) ?_
              refine lv_if_ne (tgt := 272) S.1 S.2.1 dL_isSound_265 (by decide) (fun c14 => ?_) (fun c14 => ?_)
              · refine lv_iconst (v := 0) S.1 S.2.1 dL_isSound_272 (by decide) ?_
                refine lv_iload S.1 S.2.1 dL_isSound_273 (lv_at hl 7 rfl) ?_
                refine lv_bipush (v := -5) S.1 S.2.1 dL_isSound_275 (by decide) ?_
                refine lv_icmp_ne (tgt := 284) S.1 S.2.1 dL_isSound_277 (by decide) (fun c15 => ?_) (fun c15 => ?_)
                · refine lv_iconst (v := 0) S.1 S.2.1 dL_isSound_284 (by decide) ?_
                  refine lv_icmp_eq (tgt := 290) S.1 S.2.1 dL_isSound_285 (by decide) (fun c16 => ?_) (fun c16 => ?_)
                  · exact K _ _ _ _ hR hW hS (lv_sub hl [0, 1, 2, 3, 4, 5, 6, 8, 9, 10] rfl)
                  · exact absurd (by decide) c16
                · exact absurd c15 (fun e => nI_pos (show al_par (τ.1 0) v < 2 ^ 31 by omega) (by rw [e]; decide))
              · exact absurd c14 (nI_ne0 (by omega) (by omega))
          · exact absurd (nI_pos' (by omega)) c12
set_option maxHeartbeats 4000000 in
set_option maxRecDepth 100000 in
theorem al_sg_isC {p : Program} {e : Env} {s : State} {m : MethodId} {args : Array Value} {below : List Frame} {meth : Method} {c : Code} {Q : State → Prop} (l : Launch) (D : va_G) (cy : al_CY) (ad : Nat → Nat) {τ : al_St} {E : Nat} {d : Nat → Nat} {q : List Nat} (hg : al_GG τ E d q) {v : Nat} (hv : al_nd (τ.1 0) E v) (x1 x2 x3 x4 x5 : Int32) (S : CallFix p m c cL_isSound 13 s args al_G RL) (hK : va_K D vwCl (al_tys cy) s) {H0 : Heap} (K : ∀ (σ : al_St) (H : Heap) (locs : List Loc) (ls : Array Slot), al_Rl τ σ → al_H D cy ad σ H → va_S (al_A ad) H0 H locs → lv_has ls 13 [(0, .ref (ad (0))), (1, .int x1), (2, .int (x2 + al_lfv (τ.1 0) E v)), (3, .int (x3 + al_ldv (τ.1 0) E d v)), (4, .int (x4 + al_wyv (τ.1 0) E v)), (5, .int x5), (6, .int (nI v)), (9, .int (nI (al_S (τ.1 0) E v)))] → W p l e (al_rm 5 113) s m args below meth c H locs 0 0 Q (F0 m 435 ls [])) : ∀ (σ : al_St) (H : Heap) (locs : List Loc) (ls : Array Slot), al_Rl τ σ → al_H D cy ad σ H → va_S (al_A ad) H0 H locs → lv_has ls 13 [(0, .ref (ad (0))), (1, .int x1), (2, .int x2), (3, .int x3), (4, .int x4), (5, .int x5), (6, .int (nI v)), (8, .int (nI (al_kids (τ.1 0) E v).length)), (9, .int (nI (al_S (τ.1 0) E v))), (10, .int (nI (al_Hh (τ.1 0) E v)))] → W p l e (al_rm 5 113) s m args below meth c H locs 0 0 Q (F0 m 290 ls []) := by
  intro σ H locs ls hR hW hS hl
  by_cases hk : al_kids (τ.1 0) E v = []
  · refine lv_aload_n S.1 S.2.1 dL_isSound_290 rfl (lv_at hl 0 rfl) ?_
    refine lv_iload S.1 S.2.1 dL_isSound_291 (lv_at hl 6 rfl) ?_
    refine lv_iconst (v := 5) S.1 S.2.1 dL_isSound_293 (by decide) ?_
    refine al_cP (rest := []) S hK hW (al_X8_node l D cy ad σ (nI v) 5) al_mi_X8_node al_ml_RL_18 rfl (al_rc_8 D cy ad _) rfl hl.1 rfl (Nat.le_of_ble_eq_true rfl) dL_isSound_294 ⟨Nat.le_of_ble_eq_true rfl, Nat.le_of_ble_eq_true rfl⟩ ⟨Nat.zero_le _, Nat.zero_le _⟩ ?_
    refine W.eq (g2 := F0 m 297 ls [.int (-5)]) (congrArg (fun z => F0 m 297 ls (Value.int z :: [])) ((hR.node (nI v) 5).trans (al_leaf5 hg hv hk))) ?_
    refine lv_istore (lv' := [(11, .int (-5)), (0, .ref (ad (0))), (1, .int x1), (2, .int x2), (3, .int x3), (4, .int x4), (5, .int x5), (6, .int (nI v)), (8, .int (nI (al_kids (τ.1 0) E v).length)), (9, .int (nI (al_S (τ.1 0) E v))), (10, .int (nI (al_Hh (τ.1 0) E v)))]) S.1 S.2.1 dL_isSound_297 hl (by decide) rfl (fun ls hl => ?_)
    refine lv_iload S.1 S.2.1 dL_isSound_299 (lv_at hl 8 rfl) ?_
    refine lv_if_ne (tgt := 314) S.1 S.2.1 dL_isSound_301 (by decide) (fun c1 => ?_) (fun c1 => ?_)
    · exact absurd (by rw [hk]; rfl) c1
    · refine lv_iload S.1 S.2.1 dL_isSound_304 (lv_at hl 0 rfl) ?_
      refine lv_bipush (v := -5) S.1 S.2.1 dL_isSound_306 (by decide) ?_
      refine lv_icmp_eq (tgt := 380) S.1 S.2.1 dL_isSound_308 (by decide) (fun c2 => ?_) (fun c2 => ?_)
      · refine lv_iload_n S.1 S.2.1 dL_isSound_380 rfl (lv_at hl 3 rfl) ?_
        refine lv_iload S.1 S.2.1 dL_isSound_381 (lv_at hl 8 rfl) ?_
        refine lv_if_ne (tgt := 390) S.1 S.2.1 dL_isSound_383 (by decide) (fun c3 => ?_) (fun c3 => ?_)
        · exact absurd (by rw [hk]; rfl) c3
        · refine lv_iconst (v := 1) S.1 S.2.1 dL_isSound_386 (by decide) ?_
          refine lv_goto (tgt := 391) S.1 S.2.1 dL_isSound_387 (by decide) ?_
          refine lv_iadd S.1 S.2.1 dL_isSound_391 ?_
          refine lv_istore_n (lv' := [(2, .int (x2 + 1)), (11, .int (-5)), (0, .ref (ad (0))), (1, .int x1), (3, .int x3), (4, .int x4), (5, .int x5), (6, .int (nI v)), (8, .int (nI (al_kids (τ.1 0) E v).length)), (9, .int (nI (al_S (τ.1 0) E v))), (10, .int (nI (al_Hh (τ.1 0) E v)))]) S.1 S.2.1 dL_isSound_392 rfl hl (by decide) rfl (fun ls hl => ?_)
          refine lv_iload_n S.1 S.2.1 dL_isSound_393 rfl (lv_at hl 4 rfl) ?_
          refine lv_iload S.1 S.2.1 dL_isSound_394 (lv_at hl 8 rfl) ?_
          refine lv_if_ne (tgt := 410) S.1 S.2.1 dL_isSound_396 (by decide) (fun c4 => ?_) (fun c4 => ?_)
          · exact absurd (by rw [hk]; rfl) c4
          · refine lv_aload_n S.1 S.2.1 dL_isSound_399 rfl (lv_at hl 2 rfl) ?_
            refine lv_iload S.1 S.2.1 dL_isSound_400 (lv_at hl 7 rfl) ?_
            refine lv_bipush (v := 9) S.1 S.2.1 dL_isSound_402 (by decide) ?_
            refine al_cP (rest := [.int x3]) S hK hW (al_X8_node l D cy ad σ (nI v) 9) al_mi_X8_node al_ml_RL_18 rfl (al_rc_8 D cy ad _) rfl hl.1 rfl (Nat.le_of_ble_eq_true rfl) dL_isSound_404 ⟨Nat.le_of_ble_eq_true rfl, Nat.le_of_ble_eq_true rfl⟩ ⟨Nat.zero_le _, Nat.zero_le _⟩ ?_
            refine W.eq (g2 := F0 m 407 ls [.int (nI (al_ld (τ.1 0) E d v)), .int x3]) (congrArg (fun z => F0 m 407 ls (Value.int z :: [.int x3])) ((hR.node (nI v) 9).trans (al_n9 hg hv))) ?_
            refine lv_goto (tgt := 411) S.1 S.2.1 dL_isSound_407 (by decide) ?_
            refine lv_iadd S.1 S.2.1 dL_isSound_411 ?_
            refine lv_istore_n (lv' := [(3, .int (x3 + (nI (al_ld (τ.1 0) E d v)))), (2, .int (x2 + 1)), (11, .int (-5)), (0, .ref (ad (0))), (1, .int x1), (4, .int x4), (5, .int x5), (6, .int (nI v)), (8, .int (nI (al_kids (τ.1 0) E v).length)), (9, .int (nI (al_S (τ.1 0) E v))), (10, .int (nI (al_Hh (τ.1 0) E v)))]) S.1 S.2.1 dL_isSound_412 rfl hl (by decide) rfl (fun ls hl => ?_)
            refine lv_iload S.1 S.2.1 dL_isSound_413 (lv_at hl 5 rfl) ?_
            refine lv_iload S.1 S.2.1 dL_isSound_415 (lv_at hl 8 rfl) ?_
            refine lv_if_ne (tgt := 431) S.1 S.2.1 dL_isSound_417 (by decide) (fun c5 => ?_) (fun c5 => ?_)
            · exact absurd (by rw [hk]; rfl) c5
            · refine lv_aload_n S.1 S.2.1 dL_isSound_420 rfl (lv_at hl 3 rfl) ?_
              refine lv_iload S.1 S.2.1 dL_isSound_421 (lv_at hl 7 rfl) ?_
              refine lv_bipush (v := 8) S.1 S.2.1 dL_isSound_423 (by decide) ?_
              refine al_cP (rest := [.int x4]) S hK hW (al_X8_node l D cy ad σ (nI v) 8) al_mi_X8_node al_ml_RL_18 rfl (al_rc_8 D cy ad _) rfl hl.1 rfl (Nat.le_of_ble_eq_true rfl) dL_isSound_425 ⟨Nat.le_of_ble_eq_true rfl, Nat.le_of_ble_eq_true rfl⟩ ⟨Nat.zero_le _, Nat.zero_le _⟩ ?_
              refine W.eq (g2 := F0 m 428 ls [.int (nI (al_wy (τ.1 0) E v)), .int x4]) (congrArg (fun z => F0 m 428 ls (Value.int z :: [.int x4])) ((hR.node (nI v) 8).trans (al_n8 hg hv))) ?_
              refine lv_goto (tgt := 432) S.1 S.2.1 dL_isSound_428 (by decide) ?_
              refine lv_iadd S.1 S.2.1 dL_isSound_432 ?_
              refine lv_istore (lv' := [(4, .int (x4 + (nI (al_wy (τ.1 0) E v)))), (3, .int (x3 + (nI (al_ld (τ.1 0) E d v)))), (2, .int (x2 + 1)), (11, .int (-5)), (0, .ref (ad (0))), (1, .int x1), (5, .int x5), (6, .int (nI v)), (8, .int (nI (al_kids (τ.1 0) E v).length)), (9, .int (nI (al_S (τ.1 0) E v))), (10, .int (nI (al_Hh (τ.1 0) E v)))]) S.1 S.2.1 dL_isSound_433 hl (by decide) rfl (fun ls hl => ?_)
              exact K _ _ _ _ hR hW hS (by rw [show al_lfv (τ.1 0) E v = 1 from if_pos hk, show al_ldv (τ.1 0) E d v = nI (al_ld (τ.1 0) E d v) from if_pos hk, show al_wyv (τ.1 0) E v = nI (al_wy (τ.1 0) E v) from if_pos hk]; exact (lv_sub hl [4, 5, 2, 1, 0, 6, 7, 9] rfl))
      · exact absurd (by decide) c2
  · obtain ⟨c, hc, e5, e0, e2, e3, e6, e7⟩ := al_long hg hv hk
    have hl9 : al_kids (τ.1 0) E v ≠ [] ∧ (al_kids (τ.1 0) E v).length < 2 ^ 31 := ⟨hk, by have := al_kd_len (P := τ.1 0) (E := E) (p := v) 89 1; rw [al_kids]; omega⟩
    refine lv_aload_n S.1 S.2.1 dL_isSound_290 rfl (lv_at hl 0 rfl) ?_
    refine lv_iload S.1 S.2.1 dL_isSound_291 (lv_at hl 6 rfl) ?_
    refine lv_iconst (v := 5) S.1 S.2.1 dL_isSound_293 (by decide) ?_
    refine al_cP (rest := []) S hK hW (al_X8_node l D cy ad σ (nI v) 5) al_mi_X8_node al_ml_RL_18 rfl (al_rc_8 D cy ad _) rfl hl.1 rfl (Nat.le_of_ble_eq_true rfl) dL_isSound_294 ⟨Nat.le_of_ble_eq_true rfl, Nat.le_of_ble_eq_true rfl⟩ ⟨Nat.zero_le _, Nat.zero_le _⟩ ?_
    refine W.eq (g2 := F0 m 297 ls [.int (nI c)]) (congrArg (fun z => F0 m 297 ls (Value.int z :: [])) ((hR.node (nI v) 5).trans e5)) ?_
    refine lv_istore (lv' := [(11, .int (nI c)), (0, .ref (ad (0))), (1, .int x1), (2, .int x2), (3, .int x3), (4, .int x4), (5, .int x5), (6, .int (nI v)), (8, .int (nI (al_kids (τ.1 0) E v).length)), (9, .int (nI (al_S (τ.1 0) E v))), (10, .int (nI (al_Hh (τ.1 0) E v)))]) S.1 S.2.1 dL_isSound_297 hl (by decide) rfl (fun ls hl => ?_)
    refine lv_iload S.1 S.2.1 dL_isSound_299 (lv_at hl 8 rfl) ?_
    refine lv_if_ne (tgt := 314) S.1 S.2.1 dL_isSound_301 (by decide) (fun c6 => ?_) (fun c6 => ?_)
    · refine lv_aload_n S.1 S.2.1 dL_isSound_314 rfl (lv_at hl 1 rfl) ?_
      refine lv_iload S.1 S.2.1 dL_isSound_315 (lv_at hl 0 rfl) ?_
      refine lv_iconst (v := 0) S.1 S.2.1 dL_isSound_317 (by decide) ?_
      refine al_cP (rest := []) S hK hW (al_X8_node l D cy ad σ (nI c) 0) al_mi_X8_node al_ml_RL_18 rfl (al_rc_8 D cy ad _) rfl hl.1 rfl (Nat.le_of_ble_eq_true rfl) dL_isSound_318 ⟨Nat.le_of_ble_eq_true rfl, Nat.le_of_ble_eq_true rfl⟩ ⟨Nat.zero_le _, Nat.zero_le _⟩ ?_
      refine W.eq (g2 := F0 m 321 ls [.int (nI v)]) (congrArg (fun z => F0 m 321 ls (Value.int z :: [])) ((hR.node (nI c) 0).trans e0)) ?_
      refine lv_iload S.1 S.2.1 dL_isSound_321 (lv_at hl 7 rfl) ?_
      refine lv_icmp_ne (tgt := 378) S.1 S.2.1 dL_isSound_323 (by decide) (fun c7 => ?_) (fun c7 => ?_)
      · exact absurd rfl c7
      · refine lv_aload_n S.1 S.2.1 dL_isSound_326 rfl (lv_at hl 1 rfl) ?_
        refine lv_iload S.1 S.2.1 dL_isSound_327 (lv_at hl 0 rfl) ?_
        refine lv_iconst (v := 2) S.1 S.2.1 dL_isSound_329 (by decide) ?_
        refine al_cP (rest := []) S hK hW (al_X8_node l D cy ad σ (nI c) 2) al_mi_X8_node al_ml_RL_18 rfl (al_rc_8 D cy ad _) rfl hl.1 rfl (Nat.le_of_ble_eq_true rfl) dL_isSound_330 ⟨Nat.le_of_ble_eq_true rfl, Nat.le_of_ble_eq_true rfl⟩ ⟨Nat.zero_le _, Nat.zero_le _⟩ ?_
        refine W.eq (g2 := F0 m 333 ls [.int (nI (al_Hh (τ.1 0) E c))]) (congrArg (fun z => F0 m 333 ls (Value.int z :: [])) ((hR.node (nI c) 2).trans e2)) ?_
        refine lv_iload S.1 S.2.1 dL_isSound_333 (lv_at hl 10 rfl) ?_
        refine lv_iconst (v := 1) S.1 S.2.1 dL_isSound_335 (by decide) ?_
        refine lv_isub S.1 S.2.1 dL_isSound_336 ?_
        refine lv_icmp_ne (tgt := 378) S.1 S.2.1 dL_isSound_337 (by decide) (fun c8 => ?_) (fun c8 => ?_)
        · exact absurd e3 c8
        · refine lv_aload_n S.1 S.2.1 dL_isSound_340 rfl (lv_at hl 1 rfl) ?_
          refine lv_iload S.1 S.2.1 dL_isSound_341 (lv_at hl 0 rfl) ?_
          refine lv_bipush (v := 6) S.1 S.2.1 dL_isSound_343 (by decide) ?_
          refine al_cP (rest := []) S hK hW (al_X8_node l D cy ad σ (nI c) 6) al_mi_X8_node al_ml_RL_18 rfl (al_rc_8 D cy ad _) rfl hl.1 rfl (Nat.le_of_ble_eq_true rfl) dL_isSound_345 ⟨Nat.le_of_ble_eq_true rfl, Nat.le_of_ble_eq_true rfl⟩ ⟨Nat.zero_le _, Nat.zero_le _⟩ ?_
          refine W.eq (g2 := F0 m 348 ls [.int (nI (al_Tp (τ.1 0) E v))]) (congrArg (fun z => F0 m 348 ls (Value.int z :: [])) ((hR.node (nI c) 6).trans e6)) ?_
          refine lv_aload_n S.1 S.2.1 dL_isSound_348 rfl (lv_at hl 1 rfl) ?_
          refine lv_iload S.1 S.2.1 dL_isSound_349 (lv_at hl 7 rfl) ?_
          refine lv_bipush (v := 6) S.1 S.2.1 dL_isSound_351 (by decide) ?_
          refine al_cP (rest := [.int (nI (al_Tp (τ.1 0) E v))]) S hK hW (al_X8_node l D cy ad σ (nI v) 6) al_mi_X8_node al_ml_RL_18 rfl (al_rc_8 D cy ad _) rfl hl.1 rfl (Nat.le_of_ble_eq_true rfl) dL_isSound_353 ⟨Nat.le_of_ble_eq_true rfl, Nat.le_of_ble_eq_true rfl⟩ ⟨Nat.zero_le _, Nat.zero_le _⟩ ?_
          refine W.eq (g2 := F0 m 356 ls [.int (nI (al_Tp (τ.1 0) E v)), .int (nI (al_Tp (τ.1 0) E v))]) (congrArg (fun z => F0 m 356 ls (Value.int z :: [.int (nI (al_Tp (τ.1 0) E v))])) ((hR.node (nI v) 6).trans (al_n6 hg hv))) ?_
          refine lv_icmp_ne (tgt := 378) S.1 S.2.1 dL_isSound_356 (by decide) (fun c9 => ?_) (fun c9 => ?_)
          · exact absurd rfl c9
          · refine lv_aload_n S.1 S.2.1 dL_isSound_359 rfl (lv_at hl 1 rfl) ?_
            refine lv_iload S.1 S.2.1 dL_isSound_360 (lv_at hl 0 rfl) ?_
            refine lv_bipush (v := 7) S.1 S.2.1 dL_isSound_362 (by decide) ?_
            refine al_cP (rest := []) S hK hW (al_X8_node l D cy ad σ (nI c) 7) al_mi_X8_node al_ml_RL_18 rfl (al_rc_8 D cy ad _) rfl hl.1 rfl (Nat.le_of_ble_eq_true rfl) dL_isSound_364 ⟨Nat.le_of_ble_eq_true rfl, Nat.le_of_ble_eq_true rfl⟩ ⟨Nat.zero_le _, Nat.zero_le _⟩ ?_
            refine W.eq (g2 := F0 m 367 ls [.int (nI (al_Ft (τ.1 0) E v))]) (congrArg (fun z => F0 m 367 ls (Value.int z :: [])) ((hR.node (nI c) 7).trans e7)) ?_
            refine lv_aload_n S.1 S.2.1 dL_isSound_367 rfl (lv_at hl 1 rfl) ?_
            refine lv_iload S.1 S.2.1 dL_isSound_368 (lv_at hl 7 rfl) ?_
            refine lv_bipush (v := 7) S.1 S.2.1 dL_isSound_370 (by decide) ?_
            refine al_cP (rest := [.int (nI (al_Ft (τ.1 0) E v))]) S hK hW (al_X8_node l D cy ad σ (nI v) 7) al_mi_X8_node al_ml_RL_18 rfl (al_rc_8 D cy ad _) rfl hl.1 rfl (Nat.le_of_ble_eq_true rfl) dL_isSound_372 ⟨Nat.le_of_ble_eq_true rfl, Nat.le_of_ble_eq_true rfl⟩ ⟨Nat.zero_le _, Nat.zero_le _⟩ ?_
            refine W.eq (g2 := F0 m 375 ls [.int (nI (al_Ft (τ.1 0) E v)), .int (nI (al_Ft (τ.1 0) E v))]) (congrArg (fun z => F0 m 375 ls (Value.int z :: [.int (nI (al_Ft (τ.1 0) E v))])) ((hR.node (nI v) 7).trans (al_n7 hg hv))) ?_
            refine lv_icmp_eq (tgt := 380) S.1 S.2.1 dL_isSound_375 (by decide) (fun c10 => ?_) (fun c10 => ?_)
            · refine lv_iload_n S.1 S.2.1 dL_isSound_380 rfl (lv_at hl 3 rfl) ?_
              refine lv_iload S.1 S.2.1 dL_isSound_381 (lv_at hl 8 rfl) ?_
              refine lv_if_ne (tgt := 390) S.1 S.2.1 dL_isSound_383 (by decide) (fun c11 => ?_) (fun c11 => ?_)
              · refine lv_iconst (v := 0) S.1 S.2.1 dL_isSound_390 (by decide) ?_
                refine lv_iadd S.1 S.2.1 dL_isSound_391 ?_
                refine lv_istore_n (lv' := [(2, .int (x2 + 0)), (11, .int (nI c)), (0, .ref (ad (0))), (1, .int x1), (3, .int x3), (4, .int x4), (5, .int x5), (6, .int (nI v)), (8, .int (nI (al_kids (τ.1 0) E v).length)), (9, .int (nI (al_S (τ.1 0) E v))), (10, .int (nI (al_Hh (τ.1 0) E v)))]) S.1 S.2.1 dL_isSound_392 rfl hl (by decide) rfl (fun ls hl => ?_)
                refine lv_iload_n S.1 S.2.1 dL_isSound_393 rfl (lv_at hl 4 rfl) ?_
                refine lv_iload S.1 S.2.1 dL_isSound_394 (lv_at hl 8 rfl) ?_
                refine lv_if_ne (tgt := 410) S.1 S.2.1 dL_isSound_396 (by decide) (fun c12 => ?_) (fun c12 => ?_)
                · refine lv_iconst (v := 0) S.1 S.2.1 dL_isSound_410 (by decide) ?_
                  refine lv_iadd S.1 S.2.1 dL_isSound_411 ?_
                  refine lv_istore_n (lv' := [(3, .int (x3 + 0)), (2, .int (x2 + 0)), (11, .int (nI c)), (0, .ref (ad (0))), (1, .int x1), (4, .int x4), (5, .int x5), (6, .int (nI v)), (8, .int (nI (al_kids (τ.1 0) E v).length)), (9, .int (nI (al_S (τ.1 0) E v))), (10, .int (nI (al_Hh (τ.1 0) E v)))]) S.1 S.2.1 dL_isSound_412 rfl hl (by decide) rfl (fun ls hl => ?_)
                  refine lv_iload S.1 S.2.1 dL_isSound_413 (lv_at hl 5 rfl) ?_
                  refine lv_iload S.1 S.2.1 dL_isSound_415 (lv_at hl 8 rfl) ?_
                  refine lv_if_ne (tgt := 431) S.1 S.2.1 dL_isSound_417 (by decide) (fun c13 => ?_) (fun c13 => ?_)
                  · refine lv_iconst (v := 0) S.1 S.2.1 dL_isSound_431 (by decide) ?_
                    refine lv_iadd S.1 S.2.1 dL_isSound_432 ?_
                    refine lv_istore (lv' := [(4, .int (x4 + 0)), (3, .int (x3 + 0)), (2, .int (x2 + 0)), (11, .int (nI c)), (0, .ref (ad (0))), (1, .int x1), (5, .int x5), (6, .int (nI v)), (8, .int (nI (al_kids (τ.1 0) E v).length)), (9, .int (nI (al_S (τ.1 0) E v))), (10, .int (nI (al_Hh (τ.1 0) E v)))]) S.1 S.2.1 dL_isSound_433 hl (by decide) rfl (fun ls hl => ?_)
                    exact K _ _ _ _ hR hW hS (by rw [show al_lfv (τ.1 0) E v = 0 from if_neg hk, show al_ldv (τ.1 0) E d v = 0 from if_neg hk, show al_wyv (τ.1 0) E v = 0 from if_neg hk]; exact (lv_sub hl [4, 5, 2, 1, 0, 6, 7, 9] rfl))
                  · exact absurd c13 (nI_ne0 (List.length_pos_iff.mpr hl9.1) hl9.2)
                · exact absurd c12 (nI_ne0 (List.length_pos_iff.mpr hl9.1) hl9.2)
              · exact absurd c11 (nI_ne0 (List.length_pos_iff.mpr hl9.1) hl9.2)
            · exact absurd rfl c10
    · exact absurd c6 (nI_ne0 (List.length_pos_iff.mpr hl9.1) hl9.2)
set_option maxHeartbeats 4000000 in
set_option maxRecDepth 100000 in
theorem al_sg_isS {p : Program} {e : Env} {s : State} {m : MethodId} {args : Array Value} {below : List Frame} {meth : Method} {c : Code} {Q : State → Prop} (l : Launch) (D : va_G) (cy : al_CY) (ad : Nat → Nat) {τ : al_St} {E : Nat} {d : Nat → Nat} {q : List Nat} (hg : al_GG τ E d q) {v : Nat} (hv : al_nd (τ.1 0) E v) (x1 x2 x3 x4 x5 : Int32) (S : CallFix p m c cL_isSound 13 s args al_G RL) (hK : va_K D vwCl (al_tys cy) s) {H0 : Heap} (K : ∀ (σ : al_St) (H : Heap) (locs : List Loc) (ls : Array Slot), al_Rl τ σ → al_H D cy ad σ H → va_S (al_A ad) H0 H locs → lv_has ls 13 [(0, .ref (ad (0))), (1, .int x1), (2, .int x2), (3, .int x3), (4, .int x4), (5, .int x5), (6, .int (nI v))] → W p l e (al_rm 5 113) s m args below meth c H locs 0 0 Q (F0 m 544 ls [])) : ∀ (σ : al_St) (H : Heap) (locs : List Loc) (ls : Array Slot), al_Rl τ σ → al_H D cy ad σ H → va_S (al_A ad) H0 H locs → lv_has ls 13 [(0, .ref (ad (0))), (1, .int x1), (2, .int x2), (3, .int x3), (4, .int x4), (5, .int x5), (6, .int (nI v)), (9, .int (nI (al_S (τ.1 0) E v)))] → W p l e (al_rm 5 113) s m args below meth c H locs 0 0 Q (F0 m 435 ls []) := by
  intro σ H locs ls hR hW hS hl
  have hS9 := al_S_90 hg hv
  by_cases hS1 : al_S (τ.1 0) E v ≤ 15
  · obtain ⟨u1, u2, u3, u4⟩ := al_Sc_facts hg hv hS1
    refine lv_aload_n S.1 S.2.1 dL_isSound_435 rfl (lv_at hl 0 rfl) ?_
    refine lv_iload S.1 S.2.1 dL_isSound_436 (lv_at hl 6 rfl) ?_
    refine al_cS (rest := []) S hK hW hS (al_X8_shape l D cy ad σ (nI v) (al_pOK_R hg hR)) al_mi_X8_shape al_ml_RL_22 rfl (al_rc_8 D cy ad _) rfl hl.1 rfl (Nat.le_of_ble_eq_true rfl) dL_isSound_438 ⟨Nat.le_of_ble_eq_true rfl, Nat.le_of_ble_eq_true rfl⟩ ⟨Nat.zero_le _, Nat.zero_le _⟩ (fun H locs hW hS => ?_)
    refine W.eq (g2 := F0 m 441 ls [.int (nI (al_Sc (τ.1 0) E v))]) (congrArg (fun z => F0 m 441 ls (Value.int z :: [])) ((al_shapeV hg hR (nI v)).trans (al_shape_small hg hv hS1))) ?_
    obtain ⟨σ, hR, hW⟩ : ∃ σ9, al_Rl τ σ9 ∧ al_H D cy ad σ9 H := ⟨_, al_shape_Rl hg hR _, hW⟩
    refine lv_istore (lv' := [(12, .int (nI (al_Sc (τ.1 0) E v))), (0, .ref (ad (0))), (1, .int x1), (2, .int x2), (3, .int x3), (4, .int x4), (5, .int x5), (6, .int (nI v)), (9, .int (nI (al_S (τ.1 0) E v)))]) S.1 S.2.1 dL_isSound_441 hl (by decide) rfl (fun ls hl => ?_)
    refine lv_iload S.1 S.2.1 dL_isSound_443 (lv_at hl 0 rfl) ?_
    refine lv_bipush (v := -5) S.1 S.2.1 dL_isSound_445 (by decide) ?_
    refine lv_icmp_ne (tgt := 454) S.1 S.2.1 dL_isSound_447 (by decide) (fun c1 => ?_) (fun c1 => ?_)
    · refine lv_iconst (v := 0) S.1 S.2.1 dL_isSound_454 (by decide) ?_
      refine lv_iload S.1 S.2.1 dL_isSound_455 (lv_at hl 8 rfl) ?_
      refine lv_bipush (v := 15) S.1 S.2.1 dL_isSound_457 (by decide) ?_
      refine lv_icmp_le (tgt := 466) S.1 S.2.1 dL_isSound_459 (by decide) (fun c2 => ?_) (fun c2 => ?_)
      · refine lv_iconst (v := 0) S.1 S.2.1 dL_isSound_466 (by decide) ?_
        refine lv_icmp_ne (tgt := 505) S.1 S.2.1 dL_isSound_467 (by decide) (fun c3 => ?_) (fun c3 => ?_)
        · exact absurd (by decide) c3
        · refine lv_iload S.1 S.2.1 dL_isSound_470 (lv_at hl 0 rfl) ?_
          refine lv_if_le (tgt := 507) S.1 S.2.1 dL_isSound_472 (by decide) (fun c4 => ?_) (fun c4 => ?_)
          · exact absurd c4 u2
          · refine lv_iload S.1 S.2.1 dL_isSound_475 (lv_at hl 0 rfl) ?_
            refine lv_iconst (v := 2) S.1 S.2.1 dL_isSound_477 (by decide) ?_
            refine lv_iload S.1 S.2.1 dL_isSound_478 (lv_at hl 8 rfl) ?_
            refine lv_imul S.1 S.2.1 dL_isSound_480 ?_
            refine lv_iconst (v := 1) S.1 S.2.1 dL_isSound_481 (by decide) ?_
            refine lv_isub S.1 S.2.1 dL_isSound_482 ?_
            refine lv_ishr S.1 S.2.1 dL_isSound_483 ?_
            refine lv_iconst (v := 1) S.1 S.2.1 dL_isSound_484 (by decide) ?_
            refine lv_icmp_ne (tgt := 505) S.1 S.2.1 dL_isSound_485 (by decide) (fun c5 => ?_) (fun c5 => ?_)
            · exact absurd u3 c5
            · refine lv_iload S.1 S.2.1 dL_isSound_488 (lv_at hl 0 rfl) ?_
              refine lv_iconst (v := 1) S.1 S.2.1 dL_isSound_490 (by decide) ?_
              refine lv_iand S.1 S.2.1 dL_isSound_491 ?_
              refine lv_if_ne (tgt := 505) S.1 S.2.1 dL_isSound_492 (by decide) (fun c6 => ?_) (fun c6 => ?_)
              · exact absurd u4 c6
              · refine lv_aload_n S.1 S.2.1 dL_isSound_495 rfl (lv_at hl 1 rfl) ?_
                refine lv_iload S.1 S.2.1 dL_isSound_496 (lv_at hl 7 rfl) ?_
                refine al_cS (rest := []) S hK hW hS (al_X8_alike l D cy ad σ (nI v) (al_pOK_R hg hR)) al_mi_X8_alike al_ml_RL_36 rfl (al_rc_8 D cy ad _) rfl hl.1 rfl (Nat.le_of_ble_eq_true rfl) dL_isSound_498 ⟨Nat.le_of_ble_eq_true rfl, Nat.le_of_ble_eq_true rfl⟩ ⟨Nat.zero_le _, Nat.zero_le _⟩ (fun H locs hW hS => ?_)
                refine W.eq (g2 := F0 m 501 ls [.int ((al_alike τ (nI v)).1)]) (congrArg (fun z => F0 m 501 ls (Value.int z :: [])) (al_alikeV hg hR (nI v))) ?_
                obtain ⟨σ, hR, hW⟩ : ∃ σ9, al_Rl τ σ9 ∧ al_H D cy ad σ9 H := ⟨_, al_alike_Rl hg hR _, hW⟩
                refine lv_iconst (v := 1) S.1 S.2.1 dL_isSound_501 (by decide) ?_
                refine lv_icmp_ge (tgt := 507) S.1 S.2.1 dL_isSound_502 (by decide) (fun c7 => ?_) (fun c7 => ?_)
                · refine lv_goto (tgt := 544) S.1 S.2.1 dL_isSound_507 (by decide) ?_
                  exact K _ _ _ _ hR hW hS (lv_sub hl [1, 2, 3, 4, 5, 6, 7] rfl)
                · exact absurd (al_one_le (al_alike_I hg (al_Rl.rf hg.2.2.2.2.2.2.2.2.2.2) hv hS1)) c7
      · exact absurd (nI_le (b := 15) hS1 (by omega)) c2
    · exact absurd c1 u1
  · refine lv_aload_n S.1 S.2.1 dL_isSound_435 rfl (lv_at hl 0 rfl) ?_
    refine lv_iload S.1 S.2.1 dL_isSound_436 (lv_at hl 6 rfl) ?_
    refine al_cS (rest := []) S hK hW hS (al_X8_shape l D cy ad σ (nI v) (al_pOK_R hg hR)) al_mi_X8_shape al_ml_RL_22 rfl (al_rc_8 D cy ad _) rfl hl.1 rfl (Nat.le_of_ble_eq_true rfl) dL_isSound_438 ⟨Nat.le_of_ble_eq_true rfl, Nat.le_of_ble_eq_true rfl⟩ ⟨Nat.zero_le _, Nat.zero_le _⟩ (fun H locs hW hS => ?_)
    refine W.eq (g2 := F0 m 441 ls [.int (-5)]) (congrArg (fun z => F0 m 441 ls (Value.int z :: [])) ((al_shapeV hg hR (nI v)).trans (al_shape_big hg hv hS1))) ?_
    obtain ⟨σ, hR, hW⟩ : ∃ σ9, al_Rl τ σ9 ∧ al_H D cy ad σ9 H := ⟨_, al_shape_Rl hg hR _, hW⟩
    refine lv_istore (lv' := [(12, .int (-5)), (0, .ref (ad (0))), (1, .int x1), (2, .int x2), (3, .int x3), (4, .int x4), (5, .int x5), (6, .int (nI v)), (9, .int (nI (al_S (τ.1 0) E v)))]) S.1 S.2.1 dL_isSound_441 hl (by decide) rfl (fun ls hl => ?_)
    refine lv_iload S.1 S.2.1 dL_isSound_443 (lv_at hl 0 rfl) ?_
    refine lv_bipush (v := -5) S.1 S.2.1 dL_isSound_445 (by decide) ?_
    refine lv_icmp_ne (tgt := 454) S.1 S.2.1 dL_isSound_447 (by decide) (fun c8 => ?_) (fun c8 => ?_)
    · exact absurd (by decide) c8
    · refine lv_iconst (v := 1) S.1 S.2.1 dL_isSound_450 (by decide) ?_
      refine lv_goto (tgt := 455) S.1 S.2.1 dL_isSound_451 (by decide) ?_
      refine lv_iload S.1 S.2.1 dL_isSound_455 (lv_at hl 8 rfl) ?_
      refine lv_bipush (v := 15) S.1 S.2.1 dL_isSound_457 (by decide) ?_
      refine lv_icmp_le (tgt := 466) S.1 S.2.1 dL_isSound_459 (by decide) (fun c9 => ?_) (fun c9 => ?_)
      · exact absurd c9 (nI_ge (a := 15) (by omega) (by omega))
      · refine lv_iconst (v := 1) S.1 S.2.1 dL_isSound_462 (by decide) ?_
        refine lv_goto (tgt := 467) S.1 S.2.1 dL_isSound_463 (by decide) ?_
        refine lv_icmp_ne (tgt := 505) S.1 S.2.1 dL_isSound_467 (by decide) (fun c10 => ?_) (fun c10 => ?_)
        · exact absurd (by decide) c10
        · refine lv_iload S.1 S.2.1 dL_isSound_470 (lv_at hl 0 rfl) ?_
          refine lv_if_le (tgt := 507) S.1 S.2.1 dL_isSound_472 (by decide) (fun c11 => ?_) (fun c11 => ?_)
          · refine lv_goto (tgt := 544) S.1 S.2.1 dL_isSound_507 (by decide) ?_
            exact K _ _ _ _ hR hW hS (lv_sub hl [1, 2, 3, 4, 5, 6, 7] rfl)
          · exact absurd (by decide) c11
set_option maxHeartbeats 4000000 in
set_option maxRecDepth 100000 in
theorem al_sg_isO {p : Program} {e : Env} {s : State} {m : MethodId} {args : Array Value} {below : List Frame} {meth : Method} {c : Code} {Q : State → Prop} (l : Launch) (D : va_G) (cy : al_CY) (ad : Nat → Nat) {τ : al_St} {E : Nat} {d : Nat → Nat} {q : List Nat} (hg : al_GG τ E d q) (S : CallFix p m c cL_isSound 13 s args al_G RL) (hK : va_K D vwCl (al_tys cy) s) {H0 : Heap} (K : ∀ (σ : al_St) (H : Heap) (locs : List Loc) (ls : Array Slot), al_Rl τ σ → al_H D cy ad σ H → va_S (al_A ad) H0 H locs → lv_has ls 13 [(0, .ref (ad (0))), (1, .int (nI ((al_ns (τ.1 0) E).length))), (2, .int (al_isum (al_lfv (τ.1 0) E) (al_ns (τ.1 0) E))), (3, .int (al_isum (al_ldv (τ.1 0) E d) (al_ns (τ.1 0) E))), (4, .int (al_isum (al_wyv (τ.1 0) E) (al_ns (τ.1 0) E))), (5, .int (nI (al_dm (τ.1 0) d E)))] → W p l e (al_rm 5 113) s m args below meth c H locs 0 0 Q (F0 m 550 ls [])) : ∀ (n v : Nat), v + n = E → ∀ (σ : al_St) (H : Heap) (locs : List Loc) (ls : Array Slot), al_Rl τ σ → al_H D cy ad σ H → va_S (al_A ad) H0 H locs → lv_has ls 13 [(0, .ref (ad (0))), (1, .int (nI ((al_ns (τ.1 0) v).length))), (2, .int (al_isum (al_lfv (τ.1 0) E) (al_ns (τ.1 0) v))), (3, .int (al_isum (al_ldv (τ.1 0) E d) (al_ns (τ.1 0) v))), (4, .int (al_isum (al_wyv (τ.1 0) E) (al_ns (τ.1 0) v))), (5, .int (nI (al_dm (τ.1 0) d v))), (6, .int (nI v))] → W p l e (al_rm 5 113) s m args below meth c H locs 0 0 Q (F0 m 15 ls []) := by
  intro n
  induction n with
  | zero =>
    intro v hk σ H locs ls hR hW hS hl
    have hE9 := hg.1.2.1
    refine lv_iload S.1 S.2.1 dL_isSound_15 (lv_at hl 6 rfl) ?_
    refine lv_aload_n S.1 S.2.1 dL_isSound_17 rfl (lv_at hl 0 rfl) ?_
    refine lv_iconst (v := 1) S.1 S.2.1 dL_isSound_18 (by decide) ?_
    refine al_cS (rest := [.int (nI v)]) S hK hW hS (al_X8_count l D cy ad σ 1 (al_pOK_R hg hR)) al_mi_X8_count al_ml_RL_12 rfl (al_rc_8 D cy ad _) rfl hl.1 rfl (Nat.le_of_ble_eq_true rfl) dL_isSound_19 ⟨Nat.le_of_ble_eq_true rfl, Nat.le_of_ble_eq_true rfl⟩ ⟨Nat.zero_le _, Nat.zero_le _⟩ (fun H locs hW hS => ?_)
    refine W.eq (g2 := F0 m 22 ls [.int (nI E), .int (nI v)]) (congrArg (fun z => F0 m 22 ls (Value.int z :: [.int (nI v)])) ((al_countV hg hR 1).trans (al_c1 hg))) ?_
    obtain ⟨σ, hR, hW⟩ : ∃ σ9, al_Rl τ σ9 ∧ al_H D cy ad σ9 H := ⟨_, al_count_Rl hg hR _, hW⟩
    refine lv_icmp_ge (tgt := 550) S.1 S.2.1 dL_isSound_22 (by decide) (fun c1 => ?_) (fun c1 => ?_)
    · exact K _ _ _ _ hR hW hS (by rw [show v = E by omega] at hl; exact (lv_sub hl [0, 1, 2, 3, 4, 5] rfl))
    · exact absurd (nI_le (by omega) (by omega)) c1
  | succ n ih =>
    intro v hk σ H locs ls hR hW hS hl
    have hE9 := hg.1.2.1
    by_cases hv : al_nd (τ.1 0) E v
    · have hn1 := al_ns_in hv.2
      refine lv_iload S.1 S.2.1 dL_isSound_15 (lv_at hl 6 rfl) ?_
      refine lv_aload_n S.1 S.2.1 dL_isSound_17 rfl (lv_at hl 0 rfl) ?_
      refine lv_iconst (v := 1) S.1 S.2.1 dL_isSound_18 (by decide) ?_
      refine al_cS (rest := [.int (nI v)]) S hK hW hS (al_X8_count l D cy ad σ 1 (al_pOK_R hg hR)) al_mi_X8_count al_ml_RL_12 rfl (al_rc_8 D cy ad _) rfl hl.1 rfl (Nat.le_of_ble_eq_true rfl) dL_isSound_19 ⟨Nat.le_of_ble_eq_true rfl, Nat.le_of_ble_eq_true rfl⟩ ⟨Nat.zero_le _, Nat.zero_le _⟩ (fun H locs hW hS => ?_)
      refine W.eq (g2 := F0 m 22 ls [.int (nI E), .int (nI v)]) (congrArg (fun z => F0 m 22 ls (Value.int z :: [.int (nI v)])) ((al_countV hg hR 1).trans (al_c1 hg))) ?_
      obtain ⟨σ, hR, hW⟩ : ∃ σ9, al_Rl τ σ9 ∧ al_H D cy ad σ9 H := ⟨_, al_count_Rl hg hR _, hW⟩
      refine lv_icmp_ge (tgt := 550) S.1 S.2.1 dL_isSound_22 (by decide) (fun c1 => ?_) (fun c1 => ?_)
      · exact absurd c1 (nI_ge (by omega) (by omega))
      · refine lv_aload_n S.1 S.2.1 dL_isSound_25 rfl (lv_at hl 0 rfl) ?_
        refine lv_iload S.1 S.2.1 dL_isSound_26 (lv_at hl 6 rfl) ?_
        refine al_cPs (rest := []) S hK hW (al_L_is l D cy ad hR (nI v)) al_ms_L_is al_ml_RL_30 rfl hl.1 rfl (Nat.le_of_ble_eq_true rfl) dL_isSound_28 ⟨Nat.le_of_ble_eq_true rfl, Nat.le_of_ble_eq_true rfl⟩ ⟨Nat.zero_le _, Nat.zero_le _⟩ ?_
        refine W.eq (g2 := F0 m 31 ls [.int 1]) (congrArg (fun z => F0 m 31 ls (Value.int z :: [])) (al_isv_in hg hv)) ?_
        refine lv_if_eq (tgt := 510) S.1 S.2.1 dL_isSound_31 (by decide) (fun c2 => ?_) (fun c2 => ?_)
        · exact absurd c2 (by decide)
        · refine lv_aload_n S.1 S.2.1 dL_isSound_34 rfl (lv_at hl 0 rfl) ?_
          refine lv_iload S.1 S.2.1 dL_isSound_35 (lv_at hl 6 rfl) ?_
          refine lv_iconst (v := 0) S.1 S.2.1 dL_isSound_37 (by decide) ?_
          refine al_cP (rest := []) S hK hW (al_X8_node l D cy ad σ (nI v) 0) al_mi_X8_node al_ml_RL_18 rfl (al_rc_8 D cy ad _) rfl hl.1 rfl (Nat.le_of_ble_eq_true rfl) dL_isSound_38 ⟨Nat.le_of_ble_eq_true rfl, Nat.le_of_ble_eq_true rfl⟩ ⟨Nat.zero_le _, Nat.zero_le _⟩ ?_
          refine W.eq (g2 := F0 m 41 ls [.int (al_node τ (nI v) 0)]) (congrArg (fun z => F0 m 41 ls (Value.int z :: [])) (hR.node (nI v) 0)) ?_
          refine lv_istore (lv' := [(7, .int (al_node τ (nI v) 0)), (0, .ref (ad (0))), (1, .int (nI ((al_ns (τ.1 0) v).length))), (2, .int (al_isum (al_lfv (τ.1 0) E) (al_ns (τ.1 0) v))), (3, .int (al_isum (al_ldv (τ.1 0) E d) (al_ns (τ.1 0) v))), (4, .int (al_isum (al_wyv (τ.1 0) E) (al_ns (τ.1 0) v))), (5, .int (nI (al_dm (τ.1 0) d v))), (6, .int (nI v))]) S.1 S.2.1 dL_isSound_41 hl (by decide) rfl (fun ls hl => ?_)
          refine lv_iconst (v := 0) S.1 S.2.1 dL_isSound_43 (by decide) ?_
          refine lv_istore (lv' := [(8, .int 0), (7, .int (al_node τ (nI v) 0)), (0, .ref (ad (0))), (1, .int (nI ((al_ns (τ.1 0) v).length))), (2, .int (al_isum (al_lfv (τ.1 0) E) (al_ns (τ.1 0) v))), (3, .int (al_isum (al_ldv (τ.1 0) E d) (al_ns (τ.1 0) v))), (4, .int (al_isum (al_wyv (τ.1 0) E) (al_ns (τ.1 0) v))), (5, .int (nI (al_dm (τ.1 0) d v))), (6, .int (nI v))]) S.1 S.2.1 dL_isSound_44 hl (by decide) rfl (fun ls hl => ?_)
          refine lv_iconst (v := 1) S.1 S.2.1 dL_isSound_46 (by decide) ?_
          refine lv_istore (lv' := [(9, .int 1), (8, .int 0), (7, .int (al_node τ (nI v) 0)), (0, .ref (ad (0))), (1, .int (nI ((al_ns (τ.1 0) v).length))), (2, .int (al_isum (al_lfv (τ.1 0) E) (al_ns (τ.1 0) v))), (3, .int (al_isum (al_ldv (τ.1 0) E d) (al_ns (τ.1 0) v))), (4, .int (al_isum (al_wyv (τ.1 0) E) (al_ns (τ.1 0) v))), (5, .int (nI (al_dm (τ.1 0) d v))), (6, .int (nI v))]) S.1 S.2.1 dL_isSound_47 hl (by decide) rfl (fun ls hl => ?_)
          refine lv_iconst (v := 0) S.1 S.2.1 dL_isSound_49 (by decide) ?_
          refine lv_istore (lv' := [(10, .int 0), (9, .int 1), (8, .int 0), (7, .int (al_node τ (nI v) 0)), (0, .ref (ad (0))), (1, .int (nI ((al_ns (τ.1 0) v).length))), (2, .int (al_isum (al_lfv (τ.1 0) E) (al_ns (τ.1 0) v))), (3, .int (al_isum (al_ldv (τ.1 0) E d) (al_ns (τ.1 0) v))), (4, .int (al_isum (al_wyv (τ.1 0) E) (al_ns (τ.1 0) v))), (5, .int (nI (al_dm (τ.1 0) d v))), (6, .int (nI v))]) S.1 S.2.1 dL_isSound_50 hl (by decide) rfl (fun ls hl => ?_)
          refine lv_iinc (k := 5) (v := nI (((al_ns (τ.1 0) v).length) + 1)) (lv' := [(1, .int (nI (((al_ns (τ.1 0) v).length) + 1))), (10, .int 0), (9, .int 1), (8, .int 0), (7, .int (al_node τ (nI v) 0)), (0, .ref (ad (0))), (2, .int (al_isum (al_lfv (τ.1 0) E) (al_ns (τ.1 0) v))), (3, .int (al_isum (al_ldv (τ.1 0) E d) (al_ns (τ.1 0) v))), (4, .int (al_isum (al_wyv (τ.1 0) E) (al_ns (τ.1 0) v))), (5, .int (nI (al_dm (τ.1 0) d v))), (6, .int (nI v))]) S.1 S.2.1 dL_isSound_52 hl rfl (al_inc ((al_ns (τ.1 0) v).length)) (by decide) rfl (fun ls hl => ?_)
          refine al_sg_isD l D cy ad hg hv (nI ((al_ns (τ.1 0) v).length + 1)) (al_isum (al_lfv (τ.1 0) E) (al_ns (τ.1 0) v)) (al_isum (al_ldv (τ.1 0) E d) (al_ns (τ.1 0) v)) (al_isum (al_wyv (τ.1 0) E) (al_ns (τ.1 0) v)) (al_node τ (nI v) 0) 0 1 0 S hK ?_ σ _ _ _ hR hW hS (lv_sub hl [5, 0, 6, 7, 8, 9, 10, 4, 3, 2, 1] rfl)
          intro σ H locs ls hR hW hS hl
          refine lv_iconst (v := 1) S.1 S.2.1 dL_isSound_81 (by decide) ?_
          refine lv_istore (lv' := [(11, .int 1), (0, .ref (ad (0))), (1, .int (nI ((al_ns (τ.1 0) v).length + 1))), (2, .int (al_isum (al_lfv (τ.1 0) E) (al_ns (τ.1 0) v))), (3, .int (al_isum (al_ldv (τ.1 0) E d) (al_ns (τ.1 0) v))), (4, .int (al_isum (al_wyv (τ.1 0) E) (al_ns (τ.1 0) v))), (5, .int (nI (al_dm (τ.1 0) d (v + 1)))), (6, .int (nI v)), (7, .int (al_node τ (nI v) 0)), (8, .int 0), (9, .int 1), (10, .int 0)]) S.1 S.2.1 dL_isSound_82 hl (by decide) rfl (fun ls hl => ?_)
          refine al_sg_isI l D cy ad hg hv (nI ((al_ns (τ.1 0) v).length + 1)) (al_isum (al_lfv (τ.1 0) E) (al_ns (τ.1 0) v)) (al_isum (al_ldv (τ.1 0) E d) (al_ns (τ.1 0) v)) (al_isum (al_wyv (τ.1 0) E) (al_ns (τ.1 0) v)) (nI (al_dm (τ.1 0) d (v + 1))) (al_node τ (nI v) 0) S hK ?_ (E - 1) 0 (by have := hv.1; omega) σ _ _ _ hR hW hS (lv_sub hl [1, 2, 3, 4, 5, 6, 7, 8, 9, 10, 11, 0] rfl)
          intro σ H locs ls hR hW hS hl
          refine al_sg_isB l D cy ad hg hv (nI ((al_ns (τ.1 0) v).length + 1)) (al_isum (al_lfv (τ.1 0) E) (al_ns (τ.1 0) v)) (al_isum (al_ldv (τ.1 0) E d) (al_ns (τ.1 0) v)) (al_isum (al_wyv (τ.1 0) E) (al_ns (τ.1 0) v)) (nI (al_dm (τ.1 0) d (v + 1))) S hK ?_ σ _ _ _ hR hW hS (lv_sub hl [0, 1, 2, 3, 4, 5, 6, 7, 8, 9, 10] rfl)
          intro σ H locs ls hR hW hS hl
          refine al_sg_isC l D cy ad hg hv (nI ((al_ns (τ.1 0) v).length + 1)) (al_isum (al_lfv (τ.1 0) E) (al_ns (τ.1 0) v)) (al_isum (al_ldv (τ.1 0) E d) (al_ns (τ.1 0) v)) (al_isum (al_wyv (τ.1 0) E) (al_ns (τ.1 0) v)) (nI (al_dm (τ.1 0) d (v + 1))) S hK ?_ σ _ _ _ hR hW hS (lv_sub hl [0, 1, 2, 3, 4, 5, 6, 7, 8, 9] rfl)
          intro σ H locs ls hR hW hS hl
          refine al_sg_isS l D cy ad hg hv (nI ((al_ns (τ.1 0) v).length + 1)) (al_isum (al_lfv (τ.1 0) E) (al_ns (τ.1 0) v) + al_lfv (τ.1 0) E v) (al_isum (al_ldv (τ.1 0) E d) (al_ns (τ.1 0) v) + al_ldv (τ.1 0) E d v) (al_isum (al_wyv (τ.1 0) E) (al_ns (τ.1 0) v) + al_wyv (τ.1 0) E v) (nI (al_dm (τ.1 0) d (v + 1))) S hK ?_ σ _ _ _ hR hW hS (lv_sub hl [0, 1, 2, 3, 4, 5, 6, 7] rfl)
          intro σ H locs ls hR hW hS hl
          refine lv_iinc (k := 6) (v := nI (v + 1)) (lv' := [(6, .int (nI (v + 1))), (0, .ref (ad (0))), (1, .int (nI ((al_ns (τ.1 0) v).length + 1))), (2, .int (al_isum (al_lfv (τ.1 0) E) (al_ns (τ.1 0) v) + al_lfv (τ.1 0) E v)), (3, .int (al_isum (al_ldv (τ.1 0) E d) (al_ns (τ.1 0) v) + al_ldv (τ.1 0) E d v)), (4, .int (al_isum (al_wyv (τ.1 0) E) (al_ns (τ.1 0) v) + al_wyv (τ.1 0) E v)), (5, .int (nI (al_dm (τ.1 0) d (v + 1))))]) S.1 S.2.1 dL_isSound_544 hl rfl (al_inc v) (by decide) rfl (fun ls hl => ?_)
          refine lv_goto (tgt := 15) S.1 S.2.1 dL_isSound_547 (by decide) ?_
          exact ih (v + 1) (by omega) _ _ _ _ hR hW hS (by rw [hn1, List.length_append, al_isum_one, al_isum_one, al_isum_one]; exact (lv_sub hl [1, 2, 3, 4, 5, 6, 0] rfl))
    · have hvo := al_GG_out hg (v := v) (by omega) hv
      have hv2 : (τ.1 0) v = -2 := Classical.byContradiction fun h9 => hv ⟨by omega, h9⟩
      have hn1 := al_ns_out hv2
      refine lv_iload S.1 S.2.1 dL_isSound_15 (lv_at hl 6 rfl) ?_
      refine lv_aload_n S.1 S.2.1 dL_isSound_17 rfl (lv_at hl 0 rfl) ?_
      refine lv_iconst (v := 1) S.1 S.2.1 dL_isSound_18 (by decide) ?_
      refine al_cS (rest := [.int (nI v)]) S hK hW hS (al_X8_count l D cy ad σ 1 (al_pOK_R hg hR)) al_mi_X8_count al_ml_RL_12 rfl (al_rc_8 D cy ad _) rfl hl.1 rfl (Nat.le_of_ble_eq_true rfl) dL_isSound_19 ⟨Nat.le_of_ble_eq_true rfl, Nat.le_of_ble_eq_true rfl⟩ ⟨Nat.zero_le _, Nat.zero_le _⟩ (fun H locs hW hS => ?_)
      refine W.eq (g2 := F0 m 22 ls [.int (nI E), .int (nI v)]) (congrArg (fun z => F0 m 22 ls (Value.int z :: [.int (nI v)])) ((al_countV hg hR 1).trans (al_c1 hg))) ?_
      obtain ⟨σ, hR, hW⟩ : ∃ σ9, al_Rl τ σ9 ∧ al_H D cy ad σ9 H := ⟨_, al_count_Rl hg hR _, hW⟩
      refine lv_icmp_ge (tgt := 550) S.1 S.2.1 dL_isSound_22 (by decide) (fun c3 => ?_) (fun c3 => ?_)
      · exact absurd c3 (nI_ge (by omega) (by omega))
      · refine lv_aload_n S.1 S.2.1 dL_isSound_25 rfl (lv_at hl 0 rfl) ?_
        refine lv_iload S.1 S.2.1 dL_isSound_26 (lv_at hl 6 rfl) ?_
        refine al_cPs (rest := []) S hK hW (al_L_is l D cy ad hR (nI v)) al_ms_L_is al_ml_RL_30 rfl hl.1 rfl (Nat.le_of_ble_eq_true rfl) dL_isSound_28 ⟨Nat.le_of_ble_eq_true rfl, Nat.le_of_ble_eq_true rfl⟩ ⟨Nat.zero_le _, Nat.zero_le _⟩ ?_
        refine W.eq (g2 := F0 m 31 ls [.int 0]) (congrArg (fun z => F0 m 31 ls (Value.int z :: [])) (al_isv_out hg (by omega) hv)) ?_
        refine lv_if_eq (tgt := 510) S.1 S.2.1 dL_isSound_31 (by decide) (fun c4 => ?_) (fun c4 => ?_)
        · refine lv_aload_n S.1 S.2.1 dL_isSound_510 rfl (lv_at hl 0 rfl) ?_
          refine lv_iload S.1 S.2.1 dL_isSound_511 (lv_at hl 6 rfl) ?_
          refine lv_iconst (v := 0) S.1 S.2.1 dL_isSound_513 (by decide) ?_
          refine al_cP (rest := []) S hK hW (al_X8_ancestor l D cy ad σ (nI v) 0) al_mi_X8_ancestor al_ml_RL_39 rfl (al_rc_8 D cy ad _) rfl hl.1 rfl (Nat.le_of_ble_eq_true rfl) dL_isSound_514 ⟨Nat.le_of_ble_eq_true rfl, Nat.le_of_ble_eq_true rfl⟩ ⟨Nat.zero_le _, Nat.zero_le _⟩ ?_
          refine W.eq (g2 := F0 m 517 ls [.int (-1)]) (congrArg (fun z => F0 m 517 ls (Value.int z :: [])) ((hR.anc (nI v) 0).trans (by rw [al_anc, if_pos hvo]))) ?_
          refine lv_iconst (v := -1) S.1 S.2.1 dL_isSound_517 (by decide) ?_
          refine lv_icmp_ne (tgt := 542) S.1 S.2.1 dL_isSound_518 (by decide) (fun c5 => ?_) (fun c5 => ?_)
          · exact absurd (by decide) c5
          · refine lv_aload_n S.1 S.2.1 dL_isSound_521 rfl (lv_at hl 0 rfl) ?_
            refine lv_iconst (v := 0) S.1 S.2.1 dL_isSound_522 (by decide) ?_
            refine lv_iload S.1 S.2.1 dL_isSound_523 (lv_at hl 6 rfl) ?_
            refine al_cP (rest := []) S hK hW (al_X8_meeting l D cy ad σ 0 (nI v)) al_mi_X8_meeting al_ml_RL_42 rfl (al_rc_8 D cy ad _) rfl hl.1 rfl (Nat.le_of_ble_eq_true rfl) dL_isSound_525 ⟨Nat.le_of_ble_eq_true rfl, Nat.le_of_ble_eq_true rfl⟩ ⟨Nat.zero_le _, Nat.zero_le _⟩ ?_
            refine W.eq (g2 := F0 m 528 ls [.int (-1)]) (congrArg (fun z => F0 m 528 ls (Value.int z :: [])) ((hR.mtg 0 (nI v)).trans (by rw [al_mtg, if_neg (show ¬ al_isN τ 0 0 = 0 from al_GG_in hg (al_root_nd hg.1)), if_pos hvo]))) ?_
            refine lv_iconst (v := -1) S.1 S.2.1 dL_isSound_528 (by decide) ?_
            refine lv_icmp_ne (tgt := 542) S.1 S.2.1 dL_isSound_529 (by decide) (fun c6 => ?_) (fun c6 => ?_)
            · exact absurd c5 c6
            · refine lv_aload_n S.1 S.2.1 dL_isSound_532 rfl (lv_at hl 0 rfl) ?_
              refine lv_iload S.1 S.2.1 dL_isSound_533 (lv_at hl 6 rfl) ?_
              refine al_cS (rest := []) S hK hW hS (al_X8_alike l D cy ad σ (nI v) (al_pOK_R hg hR)) al_mi_X8_alike al_ml_RL_36 rfl (al_rc_8 D cy ad _) rfl hl.1 rfl (Nat.le_of_ble_eq_true rfl) dL_isSound_535 ⟨Nat.le_of_ble_eq_true rfl, Nat.le_of_ble_eq_true rfl⟩ ⟨Nat.zero_le _, Nat.zero_le _⟩ (fun H locs hW hS => ?_)
              refine W.eq (g2 := F0 m 538 ls [.int (-1)]) (congrArg (fun z => F0 m 538 ls (Value.int z :: [])) ((al_alikeV hg hR (nI v)).trans (al_alike_out hg (al_Rl.rf hg.2.2.2.2.2.2.2.2.2.2) hvo))) ?_
              obtain ⟨σ, hR, hW⟩ : ∃ σ9, al_Rl τ σ9 ∧ al_H D cy ad σ9 H := ⟨_, al_alike_Rl hg hR _, hW⟩
              refine lv_iconst (v := -1) S.1 S.2.1 dL_isSound_538 (by decide) ?_
              refine lv_icmp_eq (tgt := 544) S.1 S.2.1 dL_isSound_539 (by decide) (fun c7 => ?_) (fun c7 => ?_)
              · refine lv_iinc (k := 6) (v := nI (v + 1)) (lv' := [(6, .int (nI (v + 1))), (0, .ref (ad (0))), (1, .int (nI ((al_ns (τ.1 0) v).length))), (2, .int (al_isum (al_lfv (τ.1 0) E) (al_ns (τ.1 0) v))), (3, .int (al_isum (al_ldv (τ.1 0) E d) (al_ns (τ.1 0) v))), (4, .int (al_isum (al_wyv (τ.1 0) E) (al_ns (τ.1 0) v))), (5, .int (nI (al_dm (τ.1 0) d v)))]) S.1 S.2.1 dL_isSound_544 hl rfl (al_inc v) (by decide) rfl (fun ls hl => ?_)
                refine lv_goto (tgt := 15) S.1 S.2.1 dL_isSound_547 (by decide) ?_
                exact ih (v + 1) (by omega) _ _ _ _ hR hW hS (by rw [hn1, al_dm_out hv2]; exact (lv_sub hl [1, 2, 3, 4, 5, 6, 0] rfl))
              · exact absurd c6 c7
        · exact absurd (by decide) c4
theorem al_mv_L_isSound : al_mv yL_isSound cL_isSound 13 (some .boolean) 1 := ⟨al_c_L_isSound, al_ini_RL, ⟨by decide +kernel, by decide +kernel, by decide +kernel⟩, by decide +kernel⟩
theorem al_ms_L_isSound : al_mst yL_isSound cL_isSound 13 (some .boolean) 1 := ⟨al_mv_L_isSound, al_st_L_isSound⟩
set_option maxHeartbeats 4000000 in
set_option maxRecDepth 100000 in
theorem al_L_isSound (l : Launch) (D : va_G) (cy : al_CY) (ad : Nat → Nat) {τ σ : al_St} {E : Nat} {d : Nat → Nat} {q : List Nat} (hg : al_GG τ E d q) (hR : al_Rl τ σ) : al_MR l yL_isSound cL_isSound 13 (some .boolean) 5 113 D cy ad τ σ [.ref (ad (0))] (some (.int 1)) := by
  refine al_met al_mv_L_isSound (Nat.le_of_ble_eq_true rfl) ?_
  intro p e s m args below meth c ls S hr hlocks hK hW hS hl
  have hl : lv_has ls 13 [(0, .ref (ad (0)))] := hl
  refine lv_iconst (v := 0) S.1 S.2.1 dL_isSound_0 (by decide) ?_
  refine lv_istore_n (lv' := [(1, .int 0), (0, .ref (ad (0)))]) S.1 S.2.1 dL_isSound_1 rfl hl (by decide) rfl (fun ls hl => ?_)
  refine lv_iconst (v := 0) S.1 S.2.1 dL_isSound_2 (by decide) ?_
  refine lv_istore_n (lv' := [(2, .int 0), (1, .int 0), (0, .ref (ad (0)))]) S.1 S.2.1 dL_isSound_3 rfl hl (by decide) rfl (fun ls hl => ?_)
  refine lv_iconst (v := 0) S.1 S.2.1 dL_isSound_4 (by decide) ?_
  refine lv_istore_n (lv' := [(3, .int 0), (2, .int 0), (1, .int 0), (0, .ref (ad (0)))]) S.1 S.2.1 dL_isSound_5 rfl hl (by decide) rfl (fun ls hl => ?_)
  refine lv_iconst (v := 0) S.1 S.2.1 dL_isSound_6 (by decide) ?_
  refine lv_istore (lv' := [(4, .int 0), (3, .int 0), (2, .int 0), (1, .int 0), (0, .ref (ad (0)))]) S.1 S.2.1 dL_isSound_7 hl (by decide) rfl (fun ls hl => ?_)
  refine lv_iconst (v := 0) S.1 S.2.1 dL_isSound_9 (by decide) ?_
  refine lv_istore (lv' := [(5, .int 0), (4, .int 0), (3, .int 0), (2, .int 0), (1, .int 0), (0, .ref (ad (0)))]) S.1 S.2.1 dL_isSound_10 hl (by decide) rfl (fun ls hl => ?_)
  refine lv_iconst (v := 0) S.1 S.2.1 dL_isSound_12 (by decide) ?_
  refine lv_istore (lv' := [(6, .int 0), (5, .int 0), (4, .int 0), (3, .int 0), (2, .int 0), (1, .int 0), (0, .ref (ad (0)))]) S.1 S.2.1 dL_isSound_13 hl (by decide) rfl (fun ls hl => ?_)
  refine al_sg_isO l D cy ad hg S hK ?_ E 0 (by omega) σ _ _ _ hR hW hS (lv_sub hl [6, 5, 4, 3, 2, 1, 0] rfl)
  intro σ H locs ls hR hW hS hl
  refine lv_iload_n S.1 S.2.1 dL_isSound_550 rfl (lv_at hl 1 rfl) ?_
  refine lv_aload_n S.1 S.2.1 dL_isSound_551 rfl (lv_at hl 0 rfl) ?_
  refine lv_iconst (v := 0) S.1 S.2.1 dL_isSound_552 (by decide) ?_
  refine al_cS (rest := [.int (nI ((al_ns (τ.1 0) E).length))]) S hK hW hS (al_X8_count l D cy ad σ 0 (al_pOK_R hg hR)) al_mi_X8_count al_ml_RL_12 rfl (al_rc_8 D cy ad _) rfl hl.1 rfl (Nat.le_of_ble_eq_true rfl) dL_isSound_553 ⟨Nat.le_of_ble_eq_true rfl, Nat.le_of_ble_eq_true rfl⟩ ⟨Nat.zero_le _, Nat.zero_le _⟩ (fun H locs hW hS => ?_)
  refine W.eq (g2 := F0 m 556 ls [.int (nI ((al_ns (τ.1 0) E).length)), .int (nI ((al_ns (τ.1 0) E).length))]) (congrArg (fun z => F0 m 556 ls (Value.int z :: [.int (nI ((al_ns (τ.1 0) E).length))])) ((al_countV hg hR 0).trans (al_cnt0 hg))) ?_
  obtain ⟨σ, hR, hW⟩ : ∃ σ9, al_Rl τ σ9 ∧ al_H D cy ad σ9 H := ⟨_, al_count_Rl hg hR _, hW⟩
  refine lv_icmp_ne (tgt := 607) S.1 S.2.1 dL_isSound_556 (by decide) (fun c1 => ?_) (fun c1 => ?_)
  · exact absurd rfl c1
  · refine lv_iload_n S.1 S.2.1 dL_isSound_559 rfl (lv_at hl 2 rfl) ?_
    refine lv_aload_n S.1 S.2.1 dL_isSound_560 rfl (lv_at hl 0 rfl) ?_
    refine lv_iconst (v := 2) S.1 S.2.1 dL_isSound_561 (by decide) ?_
    refine al_cS (rest := [.int (al_isum (al_lfv (τ.1 0) E) (al_ns (τ.1 0) E))]) S hK hW hS (al_X8_count l D cy ad σ 2 (al_pOK_R hg hR)) al_mi_X8_count al_ml_RL_12 rfl (al_rc_8 D cy ad _) rfl hl.1 rfl (Nat.le_of_ble_eq_true rfl) dL_isSound_562 ⟨Nat.le_of_ble_eq_true rfl, Nat.le_of_ble_eq_true rfl⟩ ⟨Nat.zero_le _, Nat.zero_le _⟩ (fun H locs hW hS => ?_)
    refine W.eq (g2 := F0 m 565 ls [.int (al_isum (al_lfv (τ.1 0) E) (al_ns (τ.1 0) E)), .int (al_isum (al_lfv (τ.1 0) E) (al_ns (τ.1 0) E))]) (congrArg (fun z => F0 m 565 ls (Value.int z :: [.int (al_isum (al_lfv (τ.1 0) E) (al_ns (τ.1 0) E))])) ((al_countV hg hR 2).trans (al_cnt2 hg))) ?_
    obtain ⟨σ, hR, hW⟩ : ∃ σ9, al_Rl τ σ9 ∧ al_H D cy ad σ9 H := ⟨_, al_count_Rl hg hR _, hW⟩
    refine lv_icmp_ne (tgt := 607) S.1 S.2.1 dL_isSound_565 (by decide) (fun c2 => ?_) (fun c2 => ?_)
    · exact absurd rfl c2
    · refine lv_iload_n S.1 S.2.1 dL_isSound_568 rfl (lv_at hl 2 rfl) ?_
      refine lv_aload_n S.1 S.2.1 dL_isSound_569 rfl (lv_at hl 0 rfl) ?_
      refine lv_iconst (v := 3) S.1 S.2.1 dL_isSound_570 (by decide) ?_
      refine al_cS (rest := [.int (al_isum (al_lfv (τ.1 0) E) (al_ns (τ.1 0) E))]) S hK hW hS (al_X8_count l D cy ad σ 3 (al_pOK_R hg hR)) al_mi_X8_count al_ml_RL_12 rfl (al_rc_8 D cy ad _) rfl hl.1 rfl (Nat.le_of_ble_eq_true rfl) dL_isSound_571 ⟨Nat.le_of_ble_eq_true rfl, Nat.le_of_ble_eq_true rfl⟩ ⟨Nat.zero_le _, Nat.zero_le _⟩ (fun H locs hW hS => ?_)
      refine W.eq (g2 := F0 m 574 ls [.int (al_isum (al_lfv (τ.1 0) E) (al_ns (τ.1 0) E)), .int (al_isum (al_lfv (τ.1 0) E) (al_ns (τ.1 0) E))]) (congrArg (fun z => F0 m 574 ls (Value.int z :: [.int (al_isum (al_lfv (τ.1 0) E) (al_ns (τ.1 0) E))])) ((al_countV hg hR 3).trans (al_cnt3 hg))) ?_
      obtain ⟨σ, hR, hW⟩ : ∃ σ9, al_Rl τ σ9 ∧ al_H D cy ad σ9 H := ⟨_, al_count_Rl hg hR _, hW⟩
      refine lv_icmp_ne (tgt := 607) S.1 S.2.1 dL_isSound_574 (by decide) (fun c3 => ?_) (fun c3 => ?_)
      · exact absurd rfl c3
      · refine lv_iload_n S.1 S.2.1 dL_isSound_577 rfl (lv_at hl 3 rfl) ?_
        refine lv_aload_n S.1 S.2.1 dL_isSound_578 rfl (lv_at hl 0 rfl) ?_
        refine lv_iconst (v := 4) S.1 S.2.1 dL_isSound_579 (by decide) ?_
        refine al_cS (rest := [.int (al_isum (al_ldv (τ.1 0) E d) (al_ns (τ.1 0) E))]) S hK hW hS (al_X8_count l D cy ad σ 4 (al_pOK_R hg hR)) al_mi_X8_count al_ml_RL_12 rfl (al_rc_8 D cy ad _) rfl hl.1 rfl (Nat.le_of_ble_eq_true rfl) dL_isSound_580 ⟨Nat.le_of_ble_eq_true rfl, Nat.le_of_ble_eq_true rfl⟩ ⟨Nat.zero_le _, Nat.zero_le _⟩ (fun H locs hW hS => ?_)
        refine W.eq (g2 := F0 m 583 ls [.int (al_isum (al_ldv (τ.1 0) E d) (al_ns (τ.1 0) E)), .int (al_isum (al_ldv (τ.1 0) E d) (al_ns (τ.1 0) E))]) (congrArg (fun z => F0 m 583 ls (Value.int z :: [.int (al_isum (al_ldv (τ.1 0) E d) (al_ns (τ.1 0) E))])) ((al_countV hg hR 4).trans (al_cnt4 hg))) ?_
        obtain ⟨σ, hR, hW⟩ : ∃ σ9, al_Rl τ σ9 ∧ al_H D cy ad σ9 H := ⟨_, al_count_Rl hg hR _, hW⟩
        refine lv_icmp_ne (tgt := 607) S.1 S.2.1 dL_isSound_583 (by decide) (fun c4 => ?_) (fun c4 => ?_)
        · exact absurd rfl c4
        · refine lv_iload S.1 S.2.1 dL_isSound_586 (lv_at hl 4 rfl) ?_
          refine lv_iload_n S.1 S.2.1 dL_isSound_588 rfl (lv_at hl 1 rfl) ?_
          refine lv_icmp_ne (tgt := 607) S.1 S.2.1 dL_isSound_589 (by decide) (fun c5 => ?_) (fun c5 => ?_)
          · exact absurd (al_cntw hg) c5
          · refine lv_iload S.1 S.2.1 dL_isSound_592 (lv_at hl 5 rfl) ?_
            refine lv_aload_n S.1 S.2.1 dL_isSound_594 rfl (lv_at hl 0 rfl) ?_
            refine lv_bipush (v := 6) S.1 S.2.1 dL_isSound_595 (by decide) ?_
            refine al_cS (rest := [.int (nI (al_dm (τ.1 0) d E))]) S hK hW hS (al_X8_count l D cy ad σ 6 (al_pOK_R hg hR)) al_mi_X8_count al_ml_RL_12 rfl (al_rc_8 D cy ad _) rfl hl.1 rfl (Nat.le_of_ble_eq_true rfl) dL_isSound_597 ⟨Nat.le_of_ble_eq_true rfl, Nat.le_of_ble_eq_true rfl⟩ ⟨Nat.zero_le _, Nat.zero_le _⟩ (fun H locs hW hS => ?_)
            refine W.eq (g2 := F0 m 600 ls [.int (nI (al_dm (τ.1 0) d E)), .int (nI (al_dm (τ.1 0) d E))]) (congrArg (fun z => F0 m 600 ls (Value.int z :: [.int (nI (al_dm (τ.1 0) d E))])) ((al_countV hg hR 6).trans (al_cnt6 hg))) ?_
            obtain ⟨σ, hR, hW⟩ : ∃ σ9, al_Rl τ σ9 ∧ al_H D cy ad σ9 H := ⟨_, al_count_Rl hg hR _, hW⟩
            refine lv_icmp_ne (tgt := 607) S.1 S.2.1 dL_isSound_600 (by decide) (fun c6 => ?_) (fun c6 => ?_)
            · exact absurd rfl c6
            · refine lv_iconst (v := 1) S.1 S.2.1 dL_isSound_603 (by decide) ?_
              refine lv_goto (tgt := 608) S.1 S.2.1 dL_isSound_604 (by decide) ?_
              exact W.zret S.1 S.2.1 hr rfl (fun t9 ht9 _ => ⟨rfl, ⟨σ, hR, by rw [ht9]; exact hW⟩, hS.F ht9⟩) hS.2.2 dL_isSound_608
