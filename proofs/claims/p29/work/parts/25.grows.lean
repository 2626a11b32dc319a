/-! the text; undo, restore, keep -/
theorem al_GG_congr {σ σ' : al_St} {E : Nat} {d : Nat → Nat} {q : List Nat} (h0 : σ'.1 0 = σ.1 0) (hR : ∀ j, 12 ≤ j → j < 22 → σ'.1 j = σ.1 j) (hF0 : σ'.2.1 0 = σ.2.1 0) (hF6 : σ'.2.1 6 = σ.2.1 6) (hV0 : σ'.2.2.1 0 = σ.2.2.1 0) (hV9 : σ'.2.2.1 9 = σ.2.2.1 9) (hB : al_FB σ') (h : al_GG σ E d q) : al_GG σ' E d q := by
  obtain ⟨g1, g2, g3, g4, g5, g6, g7, g8, g9, g10, -⟩ := h
  have r12 := hR 12 (by decide) (by decide)
  have r13 := hR 13 (by decide) (by decide)
  have r14 := hR 14 (by decide) (by decide)
  have r15 := hR 15 (by decide) (by decide)
  have r16 := hR 16 (by decide) (by decide)
  have r17 := hR 17 (by decide) (by decide)
  have r18 := hR 18 (by decide) (by decide)
  have r19 := hR 19 (by decide) (by decide)
  have r20 := hR 20 (by decide) (by decide)
  have r21 := hR 21 (by decide) (by decide)
  unfold al_GG
  rw [h0, hV0, hF0, r15, r20, hF6]
  refine ⟨g1, g2, g3, g4, ?_, ?_, g7, ?_, g9, g10, hB⟩
  · unfold al_Q at g5 ⊢
    rw [hV9, r14]
    exact g5
  · unfold al_kidsOK at g6 ⊢
    rw [r12, r13, r17]
    exact g6
  · intro a ha
    have := g8 a ha
    unfold al_upR at this ⊢
    rw [r18, r16, r19, r21]
    exact this
theorem al_fault_rng {σ : al_St} {N : Nat} (hN : N ≤ 60) (h6 : σ.2.2.1 6 = nI N) : ∀ (n k : Nat) (o : Int32), k + n ≤ 60 → al_faultL σ n k o = -1 ∨ ∃ j, j < 61 ∧ al_faultL σ n k o = nI j := by
  have hE : ∀ o, al_faultE σ o = -1 ∨ ∃ j, j < 61 ∧ al_faultE σ o = nI j := by
    intro o
    rw [al_faultE]
    split
    · exact Or.inr ⟨N, by omega, h6⟩
    · split
      · exact Or.inl rfl
      · exact Or.inr ⟨N, by omega, h6⟩
  intro n
  induction n with
  | zero => intro k o _; exact hE o
  | succ n ih =>
    intro k o hk
    rw [al_faultL]
    split
    · exact hE o
    · split
      · exact ih (k + 1) _ (by omega)
      · split
        · split
          · exact Or.inr ⟨k, by omega, rfl⟩
          · exact ih (k + 1) _ (by omega)
        · exact Or.inr ⟨k, by omega, rfl⟩
theorem al_m100 : ∀ j, j < 61 → -100 - nI j < 0 := by decide +kernel
theorem al_nI_nm1 {j : Nat} (h : j < 2 ^ 31) : ¬ nI j = -1 := al_nI_m1 h
/-- a faultless text: what is still open, and how many signs that open are still to come -/
theorem al_fault_r {σ : al_St} {N : Nat} (hN : N ≤ 60) (h6 : σ.2.2.1 6 = nI N) : ∀ (n k O : Nat), k + n = 60 → k ≤ N → O ≤ 60 + k → al_faultL σ n k (nI O) = -1 → ∃ r, 2 * r + O + k = N := by
  have hE : ∀ O, O ≤ 120 → al_faultE σ (nI O) = -1 → O = 0 := by
    intro O hO h
    rw [al_faultE] at h
    split at h
    · rw [h6] at h; exact absurd h (al_nI_m1 (by omega))
    · split at h
      · rename_i h1
        exact Nat.eq_zero_of_le_zero ((nI_leI (a := O) (b := 0) (by omega) (by omega)).mp h1)
      · rw [h6] at h; exact absurd h (al_nI_m1 (by omega))
  intro n
  induction n with
  | zero =>
    intro k O hk hkN hO h
    have := hE O (by omega) h
    exact ⟨0, by omega⟩
  | succ n ih =>
    intro k O hk hkN hO h
    rw [al_faultL] at h
    split at h
    · rename_i c
      rw [h6] at c
      have := (nI_leI (a := N) (b := k) (by omega) (by omega)).mp c
      have := hE O (by omega) h
      exact ⟨0, by omega⟩
    · rename_i c
      rw [h6] at c
      have hkl : k < N := Nat.lt_of_not_le fun q => c (nI_le q (by omega))
      split at h
      · rw [nI_1] at h
        obtain ⟨r, hr⟩ := ih (k + 1) (O + 1) (by omega) (by omega) (by omega) h
        exact ⟨r + 1, by omega⟩
      · split at h
        · split at h
          · exact absurd h (al_nI_m1 (by omega))
          · rename_i c3
            cases O with
            | zero => exact absurd (show nI 0 ≤ 0 from by decide) c3
            | succ O =>
              rw [pk_m1] at h
              obtain ⟨r, hr⟩ := ih (k + 1) O (by omega) (by omega) (by omega) h
              exact ⟨r, by omega⟩
        · exact absurd h (al_nI_m1 (by omega))
theorem al_fault_congr {σ σ' : al_St} (h6 : σ'.2.2.1 6 = σ.2.2.1 6) (h25 : σ'.1 25 = σ.1 25) : ∀ (n k : Nat) (o : Int32), al_faultL σ' n k o = al_faultL σ n k o
  | 0, k, o => by rw [al_faultL, al_faultL, al_faultE, al_faultE, h6]
  | n + 1, k, o => by
    rw [al_faultL, al_faultL, al_faultE, al_faultE, h6, h25, al_fault_congr h6 h25 n (k + 1), al_fault_congr h6 h25 n (k + 1)]
theorem al_one_bits : ¬ (1065353216 : Int32) < 0 := by decide
theorem al_plant_I {N : Nat} (hN : N ≤ 60) : ∀ (n k O a r : Nat) (σ : al_St) (E : Nat) (d : Nat → Nat), σ.2.2.1 6 = nI N → k + n = 60 → k ≤ N → O ≤ k → al_faultL σ n k (nI O) = -1 → 2 * r + O + k = N → al_trS (al_td σ 0) E d → al_nd (σ.1 0) E a → O ≤ d a → E + r ≤ 90 → (∃ E' d', al_trS (al_td (al_plantL 0 n k (nI a) σ) 0) E' d') ∧ al_fr0 σ (al_plantL 0 n k (nI a) σ) := by
  intro n
  induction n with
  | zero => intro k O a r σ E d h6 hk hkN hOk hf hr ht ha hd hE; exact ⟨⟨E, d, ht⟩, al_fr0.rf⟩
  | succ n ih =>
    intro k O a r σ E d h6 hk hkN hOk hf hr ht ha hd hE
    have ha9 := al_nd_lt ht.1 ha
    rw [al_faultL] at hf
    rw [al_plantL]
    split at hf
    · rename_i c
      rw [if_pos c]
      exact ⟨⟨E, d, ht⟩, al_fr0.rf⟩
    · rename_i c
      rw [if_neg c]
      rw [h6] at c
      have hkl : k < N := Nat.lt_of_not_le fun q => c (nI_le q (by omega))
      split at hf
      · rename_i c2
        rw [if_pos c2]
        rw [nI_1] at hf
        obtain ⟨r2, hr2⟩ := al_fault_r hN h6 n (k + 1) (O + 1) (by omega) (by omega) (by omega) hf
        have hV : σ.2.2.1 0 = nI E := ht.2.1
        obtain ⟨g1, g2⟩ := al_append_td (u := nI a) (b := 1065353216) (w := FP.fconst1) (show E < 90 by omega) hV
        rw [hV]
        have h6' : (al_append σ 0 (nI a) 1065353216 FP.fconst1).2.2.1 6 = σ.2.2.1 6 := g2.2.2.1 6 (by decide)
        have h25 : (al_append σ 0 (nI a) 1065353216 FP.fconst1).1 25 = σ.1 25 := g2.2.2.2.1 25 (by decide)
        have hP : (al_append σ 0 (nI a) 1065353216 FP.fconst1).1 0 = upd (σ.1 0) E (nI a) := congrArg (fun D : al_TD => D.1) g1
        obtain ⟨k1, k2⟩ := ih (k + 1) (O + 1) E r2 (al_append σ 0 (nI a) 1065353216 FP.fconst1) (E + 1) (fun v => if v = E then d a + 1 else d v) (by rw [h6', h6]) (by omega) (by omega) (by omega) (by rw [al_fault_congr h6' h25]; exact hf) (by omega) (by
          rw [g1]
          exact al_trS_append ht ha (by omega) al_one_ok al_one_bits) (by
          rw [hP]
          exact ⟨by omega, by rw [al_upd_s]; exact al_nI_m2 (by omega)⟩) (by
          show O + 1 ≤ if E = E then d a + 1 else d E
          rw [if_pos rfl]; omega) (by omega)
        exact ⟨k1, g2.tr k2⟩
      · rename_i c2
        rw [if_neg c2]
        split at hf
        · split at hf
          · exact absurd hf (al_nI_m1 (by omega))
          · rename_i c3
            cases O with
            | zero => exact absurd (show nI 0 ≤ 0 from by decide) c3
            | succ O =>
              rw [pk_m1] at hf
              have ha0 : a ≠ 0 := fun e => by
                have := ht.1.2.2.2.1
                rw [e] at hd
                omega
              obtain ⟨q1, q2, q3⟩ := al_par_nd ht.1 ha ha0
              have e1 : al_rg (σ.1 (2 * 0)) (nI a) = nI (al_par (σ.1 0) a) := by
                rw [show σ.1 (2 * 0) = σ.1 0 from rfl, al_rg_lt ha9]; exact q1
              rw [e1]
              exact ih (k + 1) O (al_par (σ.1 0) a) r σ E d h6 (by omega) (by omega) (by omega) hf (by omega) ht q2 (by rw [show al_par (σ.1 0) a = al_par (al_td σ 0).1 a from rfl]; omega) hE
        · exact absurd hf (al_nI_m1 (by omega))
theorem al_grow_I {σ : al_St} (h : al_gw σ) {N : Nat} (hN : N ≤ 60) (h6 : σ.2.2.1 6 = nI N) (u : Int32) : (¬ al_isN σ 0 u = 0 → al_faultL σ 60 0 0 = -1 → ¬ al_room σ 0 (σ.2.2.1 6 / 2) = 0 → al_lOK (al_plantL 0 60 0 u (al_record σ 0))) ∧ al_okr σ (al_grow σ u) := by
  obtain ⟨E, d, q, hg, ht⟩ := al_gw_tr h
  have hE9 := hg.1.2.1
  have e6 : σ.2.2.1 6 / 2 = nI (N / 2) := by rw [h6]; exact pk_div (by omega) (by decide) (by decide)
  have key : ¬ al_isN σ 0 u = 0 → al_faultL σ 60 0 0 = -1 → ¬ al_room σ 0 (σ.2.2.1 6 / 2) = 0 → al_lOK (al_plantL 0 60 0 u (al_record σ 0)) ∧ al_gw (al_look (al_plantL 0 60 0 u (al_record σ 0))) ∧ al_und σ (al_look (al_plantL 0 60 0 u (al_record σ 0))) ∧ ¬ σ.2.2.1 6 / 2 < 0 := by
    intro c1 c2 c3
    obtain ⟨v, rfl, hv, hv9⟩ := al_node_in hg.1 hg.2.1 c1
    have hroom : E + N / 2 ≤ 90 := by
      refine Classical.byContradiction fun hn => c3 ?_
      rw [al_room, hg.2.1, e6, nI_add, if_pos (show (90 : Int32) < nI (E + N / 2) from nI_lt (a := 90) (b := E + N / 2) (by omega) (by omega))]
    obtain ⟨r0, r2, r3, r4, r5, r6, r7⟩ := al_record_I h.1
    have f6 : (al_record σ 0).2.2.1 6 = σ.2.2.1 6 := r4 6 (by decide) (by decide)
    have f25 : (al_record σ 0).1 25 = σ.1 25 := r5 25 (by decide)
    obtain ⟨r, hr⟩ := al_fault_r hN h6 60 0 0 (by omega) (by omega) (by omega) c2
    obtain ⟨k1, k2⟩ := al_plant_I hN 60 0 0 v r (al_record σ 0) E d (by rw [f6, h6]) (by omega) (by omega) (by omega) (by rw [al_fault_congr f6 f25]; exact c2) hr (by rw [r2]; exact ht) (by rw [show (al_record σ 0).1 0 = σ.1 0 from congrArg (fun D : al_TD => D.1) r2]; exact hv) (by omega) (by omega)
    obtain ⟨a1, a2, a3, -⟩ := al_act_I h.1 k2 k1
    exact ⟨a1, a2, a3, by rw [e6]; exact nI_pos (by omega)⟩
  refine ⟨fun a b c => (key a b c).1, ?_⟩
  rw [al_grow]
  split
  · exact al_okr_neg (by decide)
  · split
    · split
      · exact al_okr_neg (by decide)
      · rename_i a b c
        obtain ⟨k1, k2, k3, k4⟩ := key a b c
        exact al_okr_pos k4 k2 k3
    · rename_i a b
      rcases al_fault_rng hN h6 60 0 0 (by omega) with e | ⟨j, hj, e⟩
      · exact absurd e b
      · rw [e]
        exact al_okr_neg (al_m100 j hj)
/-- what is kept of the text and the snapshot -/
def al_kpt (σ σ' : al_St) : Prop := al_td σ' 5 = al_td σ 5 ∧ σ'.2.2.1 6 = σ.2.2.1 6 ∧ σ'.2.2.1 8 = σ.2.2.1 8 ∧ σ'.1 25 = σ.1 25
theorem al_undo_I {σ : al_St} (h : al_gw σ) {U : Nat} (hU : U < 4) (h7 : σ.2.2.1 7 = nI (U + 1)) : ¬ σ.2.2.1 7 - 1 < 0 ∧ ¬ 4 ≤ σ.2.2.1 7 - 1 ∧ al_lOK (al_takeBack σ 0) ∧ ¬ (al_undo σ).1 < 0 ∧ al_gw (al_undo σ).2 ∧ al_td (al_undo σ).2 0 = al_td σ (σ.2.2.2 U) ∧ al_kpt σ (al_undo σ).2 := by
  obtain ⟨⟨h1, h2, h3, h4⟩, -⟩ := h
  obtain ⟨t1, t2⟩ := h3 U hU
  obtain ⟨f1, f2, f3, f4⟩ := al_copyT_fr (σ := σ) (t := 0) (u := σ.2.2.2 U) (by omega)
  have e7 : σ.2.2.1 7 - 1 = nI U := by rw [h7, nI_pred]
  have e : al_takeBack σ 0 = al_sV (al_copyT σ 0 (σ.2.2.2 U)) 7 (nI U) := by
    rw [al_takeBack, e7, nI_clamp (by omega), f2 7 (by decide), e7]
  have htd : ∀ s, s < 6 → al_td (al_takeBack σ 0) s = if s = 0 then al_td σ (σ.2.2.2 U) else al_td σ s := fun s hs => by
    rw [e, al_td_sV (by decide) hs, al_copyT_td (by omega) (by omega) hs]
  have hV : ∀ k, 6 ≤ k → k ≠ 7 → (al_takeBack σ 0).2.2.1 k = σ.2.2.1 k := fun k hk hk7 => by
    rw [e, al_sV_V, if_neg hk7]; exact f2 k hk
  have hV7 : (al_takeBack σ 0).2.2.1 7 = nI U := by rw [e, al_sV_V, if_pos rfl]
  have hp : al_pre (al_takeBack σ 0) := by
    refine ⟨fun t ht => ?_, ⟨U, by omega, hV7⟩, fun j hj => by rw [e]; exact h3 j hj, by rw [e]; exact al_FB_congr (f4 6 (by decide)) (f4 7 (by decide)) h4⟩
    rw [htd t ht]
    split
    · exact h1 _ (by omega)
    · exact h1 t ht
  obtain ⟨g1, g2, g3⟩ := al_look_gw hp
  have e1 : (al_undo σ).1 = (al_look (al_takeBack σ 0)).2.2.1 7 := by rw [al_undo, if_neg (by rw [h7]; exact nI_ne0 (by omega) (by omega))]
  have e2 : (al_undo σ).2 = al_look (al_takeBack σ 0) := by rw [al_undo, if_neg (by rw [h7]; exact nI_ne0 (by omega) (by omega))]
  rw [e1, e2]
  have l7 := g2.2.2.1 7 (by decide)
  have l6 := g2.2.2.1 6 (by decide)
  have l8 := g2.2.2.1 8 (by decide)
  have l25 := g2.1 25 (Or.inr (by decide))
  have lt0 := al_td_look g2 (t := 0) (by omega)
  have lt5 := al_td_look g2 (t := 5) (by omega)
  obtain ⟨L, hL⟩ : ∃ L, L = al_look (al_takeBack σ 0) := ⟨_, rfl⟩
  rw [← hL] at l7 l6 l8 l25 lt0 lt5 g3 ⊢
  refine ⟨by rw [e7]; exact nI_pos (by omega), by rw [e7]; exact nI_ge (a := U) (b := 4) (by omega) (by omega), g1, ?_, g3, ?_, ?_, ?_, ?_, ?_⟩
  · rw [l7, hV7]
    exact nI_pos (by omega)
  · rw [lt0, htd 0 (by omega), if_pos rfl]
  · rw [lt5, htd 5 (by omega), if_neg (by omega)]
  · exact l6.trans (hV 6 (by decide) (by decide))
  · exact l8.trans (hV 8 (by decide) (by decide))
  · exact l25.trans (by rw [e]; exact f3 25 (by decide))
theorem al_restore_I {σ : al_St} (h : al_gw σ) (h8 : σ.2.2.1 8 = 1) : al_lOK (al_copyT (al_record σ 0) 0 5) ∧ (al_restore σ).1 = (al_restore σ).2.2.2.1 9 ∧ al_gw (al_restore σ).2 ∧ al_und σ (al_restore σ).2 ∧ al_td (al_restore σ).2 0 = al_td σ 5 := by
  obtain ⟨⟨a1, a2, a3, a4⟩, r2, r3, r4, r5, r6, r7⟩ := al_record_I h.1
  obtain ⟨f1, f2, f3, f4⟩ := al_copyT_fr (σ := al_record σ 0) (t := 0) (u := 5) (by omega)
  have hf : al_fr0 (al_record σ 0) (al_copyT (al_record σ 0) 0 5) := ⟨fun s h1 h2 => by rw [al_copyT_td (by omega) (by omega) h2, if_neg (by omega)], f1, f2, f3, f4⟩
  have e0 : al_td (al_copyT (al_record σ 0) 0 5) 0 = al_td σ 5 := by rw [al_copyT_td (by omega) (by omega) (by omega), if_pos rfl, r3]
  obtain ⟨k1, k2, k3, k4⟩ := al_act_I h.1 hf (by rw [e0]; exact h.1.1 5 (by omega))
  have e1 : (al_restore σ).1 = (al_look (al_copyT (al_record σ 0) 0 5)).2.2.1 9 := by rw [al_restore, if_neg (by rw [h8]; decide)]
  have e2 : (al_restore σ).2 = al_look (al_copyT (al_record σ 0) 0 5) := by rw [al_restore, if_neg (by rw [h8]; decide)]
  rw [e1, e2]
  have lt0 := al_td_look k4 (t := 0) (by omega)
  obtain ⟨L, hL⟩ : ∃ L, L = al_look (al_copyT (al_record σ 0) 0 5) := ⟨_, rfl⟩
  rw [← hL] at k2 k3 lt0 ⊢
  exact ⟨k1, rfl, k2, k3, lt0.trans e0⟩
theorem al_keep_I {σ : al_St} (h : al_gw σ) : al_gw (al_keepS σ 0) ∧ (al_keepS σ 0).2.2.1 9 = σ.2.2.1 9 ∧ al_td (al_keepS σ 0) 5 = al_td σ 0 ∧ al_td (al_keepS σ 0) 0 = al_td σ 0 ∧ (al_keepS σ 0).2.2.1 8 = 1 ∧ (al_keepS σ 0).2.2.1 6 = σ.2.2.1 6 ∧ (al_keepS σ 0).1 25 = σ.1 25 := by
  obtain ⟨⟨h1, h2, h3, h4⟩, E, d, q, hg⟩ := h
  obtain ⟨f1, f2, f3, f4⟩ := al_copyT_fr (σ := σ) (t := 5) (u := 0) (by omega)
  have htd : ∀ s, s < 6 → al_td (al_keepS σ 0) s = if s = 5 then al_td σ 0 else al_td σ s := fun s hs => by
    rw [al_keepS, al_td_sV (by decide) hs, al_copyT_td (by omega) (by omega) hs]
  have hV : ∀ k, 6 ≤ k → k ≠ 8 → (al_keepS σ 0).2.2.1 k = σ.2.2.1 k := fun k hk hk7 => by
    rw [al_keepS, al_sV_V, if_neg hk7]; exact f2 k hk
  have hB : al_FB (al_keepS σ 0) := al_FB_congr (f4 6 (by decide)) (f4 7 (by decide)) h4
  have e0 := htd 0 (by omega)
  rw [if_neg (by decide)] at e0
  refine ⟨⟨⟨fun t ht => ?_, ?_, fun j hj => h3 j hj, hB⟩, E, d, q, ?_⟩, hV 9 (by decide) (by decide), by rw [htd 5 (by omega), if_pos rfl], e0, rfl, hV 6 (by decide) (by decide), f3 25 (by decide)⟩
  · rw [htd t ht]
    split
    · exact h1 0 (by omega)
    · exact h1 t ht
  · rw [hV 7 (by decide) (by decide)]; exact h2
  · exact al_GG_congr (congrArg (fun D : al_TD => D.1) e0) (fun j hj _ => f3 j hj) (congrArg (fun D : al_TD => D.2.2.1) e0) (f4 6 (by decide)) (congrArg (fun D : al_TD => D.2.2.2) e0) (hV 9 (by decide) (by decide)) hB hg
theorem al_type_I {σ : al_St} (h : al_gw σ) {N : Nat} (hN : N < 60) (h6 : σ.2.2.1 6 = nI N) (x : Int32) : al_gw (al_type σ x).2 ∧ (al_type σ x).2.2.2.1 6 = nI (N + 1) := by
  obtain ⟨⟨h1, h2, h3, h4⟩, E, d, q, hg⟩ := h
  have e : (al_type σ x).2 = al_sV (al_sR σ 25 (upd (σ.1 25) (σ.2.2.1 6).toNatClampNeg x)) 6 (nI (N + 1)) := by
    have e1 : al_put σ x = (1, al_sV (al_sR σ 25 (upd (σ.1 25) (σ.2.2.1 6).toNatClampNeg x)) 6 (nI (N + 1))) := by
      rw [al_put, if_neg (by rw [h6]; exact nI_pos (by omega)), if_pos (by rw [h6]; exact nI_lt (a := N) (b := 60) hN (by omega))]
      show ((1 : Int32), al_sV _ 6 (σ.2.2.1 6 + 1)) = _
      rw [h6, nI_1]
    rw [al_type, e1, if_neg (show ¬ (1 : Int32) = 0 by decide)]
  have hr : ∀ j, j ≠ 25 → (al_sV (al_sR σ 25 (upd (σ.1 25) (σ.2.2.1 6).toNatClampNeg x)) 6 (nI (N + 1))).1 j = σ.1 j := fun j hj => by
    show (if j = 25 then _ else _) = _
    rw [if_neg hj]
  have hV : ∀ k, k ≠ 6 → (al_sV (al_sR σ 25 (upd (σ.1 25) (σ.2.2.1 6).toNatClampNeg x)) 6 (nI (N + 1))).2.2.1 k = σ.2.2.1 k := fun k hk => by
    rw [al_sV_V, if_neg hk]; rfl
  rw [e]
  refine ⟨⟨⟨fun t ht => ?_, ?_, fun j hj => h3 j hj, h4⟩, E, d, q, ?_⟩, by rw [al_sV_V, if_pos rfl]⟩
  · rw [al_td_of (t := t) (hr _ (by omega)) (hr _ (by omega)) rfl (hV t (by omega))]
    exact h1 t ht
  · rw [hV 7 (by decide)]; exact h2
  · exact al_GG_congr (hr 0 (by decide)) (fun j hj hj2 => hr j (by omega)) rfl rfl (hV 0 (by decide)) (hV 9 (by decide)) h4 hg
