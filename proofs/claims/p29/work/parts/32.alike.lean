/-! same trees answer the same; the pair is found again -/
theorem al_d_uniq {P : Nat → Int32} {E : Nat} {d d' : Nat → Nat} (hT : al_TOK P E d) (hT' : al_TOK P E d') : ∀ (m v : Nat), d v = m → al_nd P E v → d' v = d v := by
  intro m
  induction m with
  | zero =>
    intro v hm hv
    rw [al_d0 hT hv hm, hT.2.2.2.1, hT'.2.2.2.1]
  | succ m ih =>
    intro v hm hv
    have h0 : v ≠ 0 := fun e => by rw [e, hT.2.2.2.1] at hm; omega
    obtain ⟨p1, p2, p3⟩ := al_par_nd hT hv h0
    have := (al_par_nd hT' hv h0).2.2
    have := ih _ (by omega) p2
    omega
theorem al_GG_d_to {σ : al_St} {E : Nat} {d d' : Nat → Nat} {q : List Nat} (hg : al_GG σ E d q) (hT' : al_TOK (σ.1 0) E d') : al_GG σ E d' q := by
  obtain ⟨g1, g2, g3, g4, g5, g6, g7, g8⟩ := hg
  exact ⟨hT', g2, g3, g4, g5, g6, fun a ha => by rw [al_d_uniq g1 hT' _ a rfl ha]; exact g7 a ha, g8⟩
/-- two states answer alike, as far as all is asked -/
def al_As (σ σ' : al_St) : Prop := (∀ w, w < 8 → (al_count σ' (nI w)).1 = (al_count σ (nI w)).1) ∧ (∀ v w, v < 90 → w < 10 → al_node σ' (nI v) (nI w) = al_node σ (nI v) (nI w)) ∧ (∀ v, v < 90 → (al_shape σ' (nI v)).1 = (al_shape σ (nI v)).1) ∧ ∀ v, v < 90 → (al_far σ' (nI v)).1 = (al_far σ (nI v)).1
section ALAS
variable {σ σ' : al_St} {E : Nat} {d : Nat → Nat} {q q' : List Nat}
theorem al_dist_same (hg : al_GG σ E d q) (hg' : al_GG σ' E d q') (h0 : σ'.1 0 = σ.1 0) (hL : σ'.2.1 0 = σ.2.1 0) {x y : Nat} (hx : al_nd (σ.1 0) E x) (hy : al_nd (σ.1 0) E y) : al_dist σ' (nI x) (nI y) = al_dist σ (nI x) (nI y) := by
  obtain ⟨m, hm⟩ := al_com_ex hg hx hy
  rw [al_dist_of hg hx hy hm, al_dist_of hg' (by rw [h0]; exact hx) (by rw [h0]; exact hy) (by rw [h0]; exact hm), h0, hL]
theorem al_isN_same (hE : σ'.2.2.1 0 = σ.2.2.1 0) (h0 : σ'.1 0 = σ.1 0) (x : Int32) : al_isN σ' 0 x = al_isN σ 0 x := by
  rw [al_isN, al_isN, hE, show σ'.1 (2 * 0) = σ.1 (2 * 0) from h0]
theorem al_far_same (hg : al_GG σ E d q) (hg' : al_GG σ' E d q') (h0 : σ'.1 0 = σ.1 0) (hL : σ'.2.1 0 = σ.2.1 0) {x : Nat} (hx : x < 90) : (al_far σ' (nI x)).1 = (al_far σ (nI x)).1 := by
  have hE : σ'.2.2.1 0 = σ.2.2.1 0 := hg'.2.1.trans hg.2.1.symm
  have r1 := al_Rl.rf hg.2.2.2.2.2.2.2.2.2.2
  have r2 := al_Rl.rf hg'.2.2.2.2.2.2.2.2.2.2
  rw [al_far, al_far, al_isN_same hE h0]
  by_cases hn : al_nd (σ.1 0) E x
  · rw [if_neg (al_GG_in hg hn), if_neg (al_GG_in hg hn)]
    have hn' : al_nd (σ'.1 0) E x := by rw [h0]; exact hn
    have m1 := (al_meets_I hg hn).2
    have m2 := (al_meets_I hg' hn').2
    have key : ∀ (n k : Nat) (g : UInt32) (r : Int32), k + n = 90 → al_farL (al_meets σ' (nI x)) (nI x) n k g r = al_farL (al_meets σ (nI x)) (nI x) n k g r := by
      intro n
      induction n with
      | zero => intro k g r _; rw [al_farL, al_farL]
      | succ n ih =>
        intro k g r hk
        rw [al_farL, al_farL, m1.isN, m2.isN, al_isN_same hE h0]
        by_cases hkn : al_nd (σ.1 0) E k
        · rw [if_neg (al_GG_in hg hkn), if_neg (al_GG_in hg hkn), al_meas_I hg r1 hn hkn, al_meas_I hg' r2 hn' (by rw [h0]; exact hkn), al_dist_same hg hg' h0 hL hn hkn, ih (k + 1) _ _ (by omega), ih (k + 1) _ _ (by omega)]
        · rw [if_pos (al_GG_out hg (by omega) hkn), if_pos (al_GG_out hg (by omega) hkn)]
          exact ih (k + 1) _ _ (by omega)
    show al_farOn (al_meets σ' (nI x)) (nI x) 0 = al_farOn (al_meets σ (nI x)) (nI x) 0
    rw [al_farOn, al_farOn]
    exact key (90 - 0) 0 3212836864 (nI x) (by omega)
  · rw [if_pos (al_GG_out hg (by omega) hn), if_pos (al_GG_out hg (by omega) hn)]
theorem al_count_same (hg : al_GG σ E d q) (hg' : al_GG σ' E d q') (h0 : σ'.1 0 = σ.1 0) {w : Nat} (hw : w < 8) : (al_count σ' (nI w)).1 = (al_count σ (nI w)).1 := by
  have hp : q'.Perm q := (al_ns_perm (by have := hg'.2.2.2.1; rwa [h0] at this)).trans (al_ns_perm hg.2.2.2.1).symm
  have nd' : ∀ v, v ∈ q' → al_nd (σ'.1 0) E v := fun v hv => (hg'.2.2.2.1.2.1 v).mp hv
  have nd : ∀ v, v ∈ q → al_nd (σ.1 0) E v := fun v hv => (hg.2.2.2.1.2.1 v).mp hv
  have hi : ∀ F F' : Int32 → Int32, (∀ v, v ∈ q → F' (nI v) = F (nI v)) → al_qL σ' F' 90 0 0 = al_qL σ F 90 0 0 := by
    intro F F' h
    rw [al_qL_I hg.2.2.2.2.1 90 0 0 (by omega) (Nat.zero_le _), al_qL_I hg'.2.2.2.2.1 90 0 0 (by omega) (Nat.zero_le _), List.drop_zero, List.drop_zero, al_isum_perm hp]
    congr 1
    exact al_isum_congr q h
  have lf : ∀ v, v ∈ q → al_isLf σ' (nI v) = al_isLf σ (nI v) := fun v hv => by
    rw [al_isLf_I hg (nd v hv), al_isLf_I hg' (by rw [h0]; exact nd v hv), h0]
  rcases (show w = 0 ∨ w = 1 ∨ w = 2 ∨ w = 3 ∨ w = 4 ∨ w = 5 ∨ w = 6 ∨ w = 7 by omega) with rfl | rfl | rfl | rfl | rfl | rfl | rfl | rfl
  · show σ'.2.2.1 9 = σ.2.2.1 9
    rw [hg.2.2.2.2.1.1, hg'.2.2.2.2.1.1, hp.length_eq]
  · show σ'.2.2.1 0 = σ.2.2.1 0
    rw [hg.2.1, hg'.2.1]
  · show al_cLv σ' 90 0 0 = al_cLv σ 90 0 0
    rw [al_cLv_q, al_cLv_q]
    exact hi _ _ (fun v hv => by simp only [lf v hv])
  · show al_cLv σ' 90 0 0 = al_cLv σ 90 0 0
    rw [al_cLv_q, al_cLv_q]
    exact hi _ _ (fun v hv => by simp only [lf v hv])
  · show al_cLd σ' 90 0 0 = al_cLd σ 90 0 0
    rw [al_cLd_q, al_cLd_q]
    exact hi _ _ (fun v hv => by
      simp only [lf v hv]
      rw [al_lad_I hg (nd v hv), al_lad_I hg' (by rw [h0]; exact nd v hv), h0])
  · show al_cJm σ' 90 0 0 = al_cJm σ 90 0 0
    rw [al_cJm_q, al_cJm_q]
    exact hi _ _ (fun v hv => by
      simp only [lf v hv]
      rw [al_GG_15 hg (nd v hv), al_GG_15 hg' (by rw [h0]; exact nd v hv)])
  · show al_rg (σ'.1 16) (nI 0) = al_rg (σ.1 16) (nI 0)
    rw [al_GG_16 hg (al_root_nd hg.1), al_GG_16 hg' (al_root_nd hg'.1), h0]
  · show (al_sort (al_write σ')).2.2.1 12 = (al_sort (al_write σ)).2.2.1 12
    refine al_sort_R (fun k hk => ?_)
    rw [al_rg_lt hk, al_rg_lt hk, (al_write_I hg (al_Rl.rf hg.2.2.2.2.2.2.2.2.2.2)).1 k hk, (al_write_I hg' (al_Rl.rf hg'.2.2.2.2.2.2.2.2.2.2)).1 k hk, h0]
    by_cases c : k ∈ q
    · rw [if_pos c, if_pos (hp.mem_iff.mpr c)]
    · rw [if_neg c, if_neg (fun h => c (hp.mem_iff.mp h))]
theorem al_As_I (hg : al_GG σ E d q) (hg' : al_GG σ' E d q') (h0 : σ'.1 0 = σ.1 0) (hL : σ'.2.1 0 = σ.2.1 0) : al_As σ σ' := by
  have hE : σ'.2.2.1 0 = σ.2.2.1 0 := hg'.2.1.trans hg.2.1.symm
  have r1 := al_Rl.rf hg.2.2.2.2.2.2.2.2.2.2
  have r2 := al_Rl.rf hg'.2.2.2.2.2.2.2.2.2.2
  refine ⟨fun w hw => al_count_same hg hg' h0 hw, fun v w hv hw => ?_, fun v hv => ?_, fun v hv => al_far_same hg hg' h0 hL hv⟩
  · by_cases hn : al_nd (σ.1 0) E v
    · have hn' : al_nd (σ'.1 0) E v := by rw [h0]; exact hn
      rcases (show w = 0 ∨ w = 1 ∨ w = 2 ∨ w = 3 ∨ w = 4 ∨ w = 5 ∨ w = 6 ∨ w = 7 ∨ w = 8 ∨ w = 9 by omega) with rfl | rfl | rfl | rfl | rfl | rfl | rfl | rfl | rfl | rfl
      · exact (al_n0 hg' hn').trans (by rw [h0]; exact (al_n0 hg hn).symm)
      · exact (al_n1 hg' hn').trans (al_n1 hg hn).symm
      · exact (al_n2 hg' hn').trans (by rw [h0]; exact (al_n2 hg hn).symm)
      · exact (al_n3 hg' hn').trans (by rw [h0]; exact (al_n3 hg hn).symm)
      · exact (al_n4 hg' hn').trans (by rw [h0]; exact (al_n4 hg hn).symm)
      · exact (al_n5 hg' hn').trans (by rw [h0]; exact (al_n5 hg hn).symm)
      · exact (al_n6 hg' hn').trans (by rw [h0]; exact (al_n6 hg hn).symm)
      · exact (al_n7 hg' hn').trans (by rw [h0]; exact (al_n7 hg hn).symm)
      · exact (al_n8 hg' hn').trans (by rw [h0]; exact (al_n8 hg hn).symm)
      · exact (al_n9 hg' hn').trans (by rw [h0]; exact (al_n9 hg hn).symm)
    · rw [al_node, al_node, al_isN_same hE h0, if_pos (al_GG_out hg (by omega) hn), if_pos (al_GG_out hg (by omega) hn)]
  · by_cases hn : al_nd (σ.1 0) E v
    · rw [al_shape_I hg r1 hn, al_shape_I hg' r2 (by rw [h0]; exact hn), h0]
    · rw [al_shape_out hg r1 (al_GG_out hg (by omega) hn), al_shape_out hg' r2 (by rw [al_isN_same hE h0]; exact al_GG_out hg (by omega) hn)]
end ALAS
theorem al_As_td {σ σ' : al_St} (h : al_gw σ) (h' : al_gw σ') (ht : al_td σ' 0 = al_td σ 0) : al_As σ σ' := by
  obtain ⟨-, E, d, q, hg⟩ := h
  obtain ⟨-, E', d', q', hg'⟩ := h'
  have h0 : σ'.1 0 = σ.1 0 := congrArg (fun D : al_TD => D.1) ht
  have hL : σ'.2.1 0 = σ.2.1 0 := congrArg (fun D : al_TD => D.2.2.1) ht
  have hV : σ'.2.2.1 0 = σ.2.2.1 0 := congrArg (fun D : al_TD => D.2.2.2) ht
  have hE : E' = E := al_nI_inj (by have := hg'.1.2.1; omega) (by have := hg.1.2.1; omega) (hg'.2.1.symm.trans (hV.trans hg.2.1))
  subst hE
  exact al_As_I hg (al_GG_d_to hg' (by rw [h0]; exact hg.1)) h0 hL
theorem al_As_Rl {τ σ : al_St} (h : al_gw τ) (hR : al_Rl τ σ) : al_As τ σ := al_As_td h (hR.gw h) (hR.td (by omega))
theorem al_As.sy {σ σ' : al_St} (h : al_As σ σ') : al_As σ' σ := ⟨fun w hw => (h.1 w hw).symm, fun v w hv hw => (h.2.1 v w hv hw).symm, fun v hv => (h.2.2.1 v hv).symm, fun v hv => (h.2.2.2 v hv).symm⟩
theorem al_count_Rl {τ σ : al_St} {E : Nat} {d : Nat → Nat} {q : List Nat} (hg : al_GG τ E d q) (hR : al_Rl τ σ) (w : Int32) : al_Rl τ (al_count σ w).2 := by
  rw [al_count]
  repeat' split
  all_goals first | exact hR | exact al_sort_Rl (al_write_I hg hR).2
/-- two searches for the pair end alike -/
def al_two (τ : al_St) (E k : Nat) (g : UInt32) (σ σ' : al_St) : Prop := (g = 3212836864 ∧ ∀ j, j < k → ¬ al_nd (τ.1 0) E j) ∨ (FP.Core.val32 g ≠ .nan ∧ 0 ≤ al_z g ∧ σ'.2.2.1 10 = σ.2.2.1 10 ∧ σ'.2.2.1 11 = σ.2.2.1 11)
theorem al_fpL_two {τ : al_St} {E : Nat} {d : Nat → Nat} {q : List Nat} (hg : al_GG τ E d q) : ∀ (n k : Nat) (g : UInt32) (σ σ' : al_St), k + n = 90 → al_Rl τ σ → al_Rl τ σ' → al_two τ E k g σ σ' → ∃ g', al_two τ E 90 g' (al_fpL n k g σ) (al_fpL n k g σ') := by
  intro n
  induction n with
  | zero =>
    intro k g σ σ' hk hR hR' h
    exact ⟨g, by rw [show k = 90 by omega] at h; exact h⟩
  | succ n ihO =>
    intro k g σ σ' hk hR hR' h
    rw [al_fpL, al_fpL, hR.isN, hR'.isN]
    by_cases hn : al_nd (τ.1 0) E k
    · rw [if_neg (al_GG_in hg hn), if_neg (al_GG_in hg hn)]
      have hR2 : al_Rl τ (al_meets σ (nI k)) := hR.tr (al_meets_I (hR.GG hg) (x := k) (by rw [hR.1 0 (by decide)]; exact hn)).2
      have hR2' : al_Rl τ (al_meets σ' (nI k)) := hR'.tr (al_meets_I (hR'.GG hg) (x := k) (by rw [hR'.1 0 (by decide)]; exact hn)).2
      have hV := al_meets_V (σ := σ) (nI k)
      have hV' := al_meets_V (σ := σ') (nI k)
      have key : ∀ (n i : Nat) (g : UInt32) (r : Int32), i + n = 90 → al_farL (al_meets σ' (nI k)) (nI k) n i g r = al_farL (al_meets σ (nI k)) (nI k) n i g r := by
        intro n
        induction n with
        | zero => intro i g r _; rw [al_farL, al_farL]
        | succ n ih =>
          intro i g r hk
          rw [al_farL, al_farL, hR2.isN, hR2'.isN]
          by_cases hkn : al_nd (τ.1 0) E i
          · rw [if_neg (al_GG_in hg hkn), if_neg (al_GG_in hg hkn), al_meas_I hg hR hn hkn, al_meas_I hg hR' hn hkn, ih (i + 1) _ _ (by omega), ih (i + 1) _ _ (by omega)]
          · rw [if_pos (al_GG_out hg (by omega) hkn), if_pos (al_GG_out hg (by omega) hkn)]
            exact ih (i + 1) _ _ (by omega)
      have kf : al_farOn (al_meets σ' (nI k)) (nI k) k = al_farOn (al_meets σ (nI k)) (nI k) k := by
        rw [al_farOn, al_farOn]
        exact key (90 - k) k 3212836864 (nI k) (by omega)
      obtain ⟨b, b1, b2, b3, b4⟩ := al_farOn_I hg hR hn (K := k) ⟨k, Nat.le_refl _, hn⟩
      rw [kf, b1, al_meas_I hg hR hn b2, al_meas_I hg hR' hn b2]
      have hok := al_dist_ok hg hn b2
      have hgn : FP.Core.val32 g ≠ .nan := by
        rcases h with ⟨e, -⟩ | ⟨e, -⟩
        · rw [e]; exact al_m1_nn
        · exact e
      split
      · rename_i c
        have c2 := (al_cmp hok.1 hgn).mp c
        refine ihO (k + 1) g _ _ (by omega) hR2 hR2' ?_
        rcases h with ⟨e, -⟩ | ⟨h1, h2, h3, h4⟩
        · rw [e] at c2
          have := al_m1_z
          omega
        · exact Or.inr ⟨h1, h2, by rw [hV, hV']; exact h3, by rw [hV, hV']; exact h4⟩
      · rename_i c
        refine ihO (k + 1) _ _ _ (by omega) ?_ ?_ (Or.inr ⟨hok.1, hok.2, by rw [al_sV_V, if_neg (by decide), al_sV_V, if_pos rfl, al_sV_V, if_neg (by decide), al_sV_V, if_pos rfl], by rw [al_sV_V, if_pos rfl, al_sV_V, if_pos rfl]⟩)
        · refine hR2.tr ⟨fun _ _ => rfl, fun _ _ => rfl, fun i hi => ?_, rfl, hR2.2.2.2.2⟩
          rw [al_sV_V, if_neg (by omega), al_sV_V, if_neg (by omega)]
        · refine hR2'.tr ⟨fun _ _ => rfl, fun _ _ => rfl, fun i hi => ?_, rfl, hR2'.2.2.2.2⟩
          rw [al_sV_V, if_neg (by omega), al_sV_V, if_neg (by omega)]
    · rw [if_pos (al_GG_out hg (by omega) hn), if_pos (al_GG_out hg (by omega) hn)]
      refine ihO (k + 1) g σ σ' (by omega) hR hR' ?_
      rcases h with ⟨e1, e3⟩ | h
      · refine Or.inl ⟨e1, fun j j2 => ?_⟩
        by_cases e : j = k
        · rw [e]; exact hn
        · exact e3 j (by omega)
      · exact Or.inr h
theorem al_findPair_two {τ σ σ' : al_St} {E : Nat} {d : Nat → Nat} {q : List Nat} (hg : al_GG τ E d q) (hR : al_Rl τ σ) (hR' : al_Rl τ σ') : (al_findPair σ').2.2.1 10 = (al_findPair σ).2.2.1 10 ∧ (al_findPair σ').2.2.1 11 = (al_findPair σ).2.2.1 11 := by
  obtain ⟨g', h⟩ := al_fpL_two hg 90 0 3212836864 σ σ' (by omega) hR hR' (Or.inl ⟨rfl, fun j hj => absurd hj (Nat.not_lt_zero _)⟩)
  rcases h with ⟨-, e⟩ | ⟨-, -, h1, h2⟩
  · exact absurd (al_root_nd hg.1) (e 0 (by omega))
  · exact ⟨h1, h2⟩
/-- the pair, as it is told -/
theorem al_apart_I {τ : al_St} {E : Nat} {d : Nat → Nat} {q : List Nat} (hg : al_GG τ E d q) : ∃ a b, al_nd (τ.1 0) E a ∧ al_nd (τ.1 0) E b ∧ a ≤ b ∧ (∀ i j, al_nd (τ.1 0) E i → al_nd (τ.1 0) E j → al_z (al_dist τ (nI i) (nI j)) ≤ al_z (al_dist τ (nI a) (nI b))) ∧ ∀ σ, al_Rl τ σ → (al_apart σ 0).1 = nI a ∧ (al_apart σ 1).1 = nI b := by
  have r := al_Rl.rf hg.2.2.2.2.2.2.2.2.2.2
  obtain ⟨-, a, b, h1, h2, h3, h4, h5, h6⟩ := al_findPair_I hg r
  refine ⟨a, b, h3, h4, h5, h6, fun σ hR => ?_⟩
  obtain ⟨k1, k2⟩ := al_findPair_two hg r hR
  exact ⟨k1.trans h1, k2.trans h2⟩
theorem al_apart_Rl {τ σ : al_St} {E : Nat} {d : Nat → Nat} {q : List Nat} (hg : al_GG τ E d q) (hR : al_Rl τ σ) (w : Int32) : al_Rl τ (al_apart σ w).2 := by
  rw [al_apart]
  repeat' split
  all_goals first | exact hR | exact (al_findPair_I hg hR).1
