/-! each act, by name -/
theorem al_okr_pos {σ σ' : al_St} {x : Int32} (h1 : ¬ x < 0) (h2 : al_gw σ') (h3 : al_und σ σ') : al_okr σ (x, σ') := Or.inr ⟨h1, h2, h3⟩
/-- al_GG, as the look around tells of it -/
theorem al_gw_tr {σ : al_St} (h : al_gw σ) : ∃ E d q, al_GG σ E d q ∧ al_trS (al_td σ 0) E d := by
  obtain ⟨⟨h1, -⟩, E, d, q, hg⟩ := h
  obtain ⟨E2, d2, g1, g2, g3, g4⟩ := h1 0 (by omega)
  have hE : E2 = E := al_nI_inj (by have := g1.2.1; omega) (by have := hg.1.2.1; omega) (g2.symm.trans hg.2.1)
  subst hE
  exact ⟨E2, d, q, hg, hg.1, hg.2.1, hg.2.2.1, g4⟩
theorem al_addLeaf_I {σ : al_St} (h : al_gw σ) (u b : Int32) : (¬ al_isN σ 0 u = 0 → ¬ al_isLen b = 0 → ¬ al_room σ 0 1 = 0 → al_lOK (al_append (al_record σ 0) 0 u b (al_toF b))) ∧ al_okr σ (al_addLeaf σ u b) := by
  obtain ⟨E, d, q, hg, ht⟩ := al_gw_tr h
  have hE9 := hg.1.2.1
  have key : ¬ al_isN σ 0 u = 0 → ¬ al_isLen b = 0 → ¬ al_room σ 0 1 = 0 → al_lOK (al_append (al_record σ 0) 0 u b (al_toF b)) ∧ al_gw (al_look (al_append (al_record σ 0) 0 u b (al_toF b))) ∧ al_und σ (al_look (al_append (al_record σ 0) 0 u b (al_toF b))) ∧ ¬ (al_record σ 0).2.2.1 0 < 0 := by
    intro c1 c2 c3
    obtain ⟨p, rfl, hp⟩ := al_isN_node hg.2.1 hE9 c1
    have hroom : E + 1 ≤ 90 := by
      refine Classical.byContradiction fun hn => c3 ?_
      rw [al_room, hg.2.1, nI_1, if_pos (show (90 : Int32) < nI (E + 1) from nI_lt (a := 90) (b := E + 1) (by omega) (by omega))]
    have r2 := (al_record_I h.1).2.1
    have e0 : (al_record σ 0).2.2.1 0 = nI E := (congrArg (fun D : al_TD => D.2.2.2) r2).trans hg.2.1
    obtain ⟨g1, g2⟩ := al_append_td (u := nI p) (b := b) (w := al_toF b) (show E < 90 by omega) e0
    have e1 : (al_record σ 0).1 0 = (al_td σ 0).1 := congrArg (fun D : al_TD => D.1) r2
    have e2 : (al_record σ 0).1 1 = (al_td σ 0).2.1 := congrArg (fun D : al_TD => D.2.1) r2
    have e3 : (al_record σ 0).2.1 0 = (al_td σ 0).2.2.1 := congrArg (fun D : al_TD => D.2.2.1) r2
    rw [e1, e2, e3] at g1
    obtain ⟨k1, k2, k3, -⟩ := al_act_I h.1 g2 ⟨E + 1, _, by rw [g1]; exact al_trS_append ht hp hroom (al_toF_ok c2) (al_len_ok c2).1⟩
    exact ⟨k1, k2, k3, by rw [e0]; exact nI_pos (by omega)⟩
  refine ⟨fun a b c => (key a b c).1, ?_⟩
  rw [al_addLeaf]
  split
  · exact al_okr_neg (by decide)
  · split
    · exact al_okr_neg (by decide)
    · split
      · exact al_okr_neg (by decide)
      · rename_i a b c
        obtain ⟨k1, k2, k3, k4⟩ := key a b c
        exact al_okr_pos k4 k2 k3
theorem al_node_in {σ : al_St} {E : Nat} {d : Nat → Nat} (hT : al_TOK (σ.1 0) E d) (hE : σ.2.2.1 0 = nI E) {x : Int32} (h : ¬ al_isN σ 0 x = 0) : ∃ v, x = nI v ∧ al_nd (σ.1 0) E v ∧ v < 90 := by
  obtain ⟨v, h1, h2⟩ := al_isN_node hE hT.2.1 h
  exact ⟨v, h1, h2, al_nd_lt hT h2⟩
theorem al_trS_par {D : al_TD} {E x : Nat} {d d' : Nat → Nat} {y : Int32} (h : al_trS D E d) (hT : al_TOK (upd D.1 x y) E d') (hn : ∀ v, al_nd (upd D.1 x y) E v → al_nd D.1 E v) : al_trS (upd D.1 x y, D.2.1, D.2.2.1, D.2.2.2) E d' :=
  ⟨hT, h.2.1, fun v hv => h.2.2.1 v (hn v hv), fun v hv => h.2.2.2 v (hn v hv)⟩
theorem al_setP_td {σ τ : al_St} {x : Nat} {y : Int32} (hx : x < 90) (h : al_td τ 0 = al_td σ 0) : al_td (al_set τ (2 * 0) (nI x) y) 0 = (upd (al_td σ 0).1 x y, (al_td σ 0).2.1, (al_td σ 0).2.2.1, (al_td σ 0).2.2.2) := by
  have e1 : τ.1 0 = (al_td σ 0).1 := congrArg (fun D : al_TD => D.1) h
  have e2 : τ.1 1 = (al_td σ 0).2.1 := congrArg (fun D : al_TD => D.2.1) h
  have e3 : τ.2.1 0 = (al_td σ 0).2.2.1 := congrArg (fun D : al_TD => D.2.2.1) h
  have e4 : τ.2.2.1 0 = (al_td σ 0).2.2.2 := congrArg (fun D : al_TD => D.2.2.2) h
  show (al_rs (τ.1 0) (nI x) y, τ.1 1, τ.2.1 0, τ.2.2.1 0) = _
  rw [e1, e2, e3, e4, al_rs_lt hx]
theorem al_prune_I {σ : al_St} (h : al_gw σ) (x : Int32) : (¬ al_isN σ 0 x = 0 → ¬ x = 0 → ¬ al_isLf σ x = 0 → al_lOK (al_set (al_record σ 0) (2 * 0) x (-2))) ∧ al_okr σ (al_prune σ x) := by
  obtain ⟨E, d, q, hg, ht⟩ := al_gw_tr h
  have key : ¬ al_isN σ 0 x = 0 → ¬ x = 0 → ¬ al_isLf σ x = 0 → al_lOK (al_set (al_record σ 0) (2 * 0) x (-2)) ∧ al_gw (al_look (al_set (al_record σ 0) (2 * 0) x (-2))) ∧ al_und σ (al_look (al_set (al_record σ 0) (2 * 0) x (-2))) ∧ ¬ (al_prune σ x).1 < 0 := by
    intro c1 c2 c3
    have c := c1
    obtain ⟨v, rfl, hv, hv9⟩ := al_node_in hg.1 hg.2.1 c1
    have hv0 : v ≠ 0 := fun e => c2 (by rw [e]; rfl)
    have hk : al_kids (σ.1 0) E v = [] := by
      have := (hg.2.2.2.2.2.1 v hv9).2
      refine List.length_eq_zero_iff.mp (Classical.byContradiction fun hn => c3 ?_)
      rw [al_isLf, al_rg_lt hv9, this, if_neg (nI_ne0 (by omega) (by have := al_kd_len (P := σ.1 0) (E := E) (p := v) 89 1; rw [al_kids] at *; omega))]
    have hleaf : ∀ w, al_nd (σ.1 0) E w → σ.1 0 w ≠ nI v := fun w hw hp => by
      have : w ∈ al_kids (σ.1 0) E v := (al_kids_mem hg.1 hv9).mpr ⟨hw.1, hp⟩
      rw [hk] at this
      exact absurd this List.not_mem_nil
    have r2 := (al_record_I h.1).2.1
    have g1 := al_setP_td (y := -2) hv9 r2
    obtain ⟨k1, k2, k3, k4⟩ := al_act_I h.1 (al_fr0_set (σ := al_record σ 0) (i := 2 * 0) (x := nI v) (v := -2) (by omega)) ⟨E, d, by
      rw [g1]
      refine al_trS_par ht (al_cut_T hg.1 hv0 hleaf) (fun w hw => ⟨hw.1, ?_⟩)
      by_cases e : w = v
      · rw [e]; exact hv.2
      · have := hw.2
        rw [al_upd_n e] at this
        exact this⟩
    refine ⟨k1, k2, k3, ?_⟩
    rw [al_prune, if_neg c, if_neg c2, if_neg c3]
    obtain ⟨p1, p2, -⟩ := al_par_nd hg.1 hv hv0
    have hp9 := al_nd_lt hg.1 p2
    have e1 : al_rg ((al_record σ 0).1 (2 * 0)) (nI v) = nI (al_par (σ.1 0) v) := by
      rw [show (al_record σ 0).1 (2 * 0) = σ.1 0 from congrArg (fun D : al_TD => D.1) r2, al_rg_lt hv9]
      exact p1
    show ¬ al_rg _ (al_rg ((al_record σ 0).1 (2 * 0)) (nI v)) < 0
    rw [e1, al_rg_lt hp9]
    obtain ⟨E2, d2, q2, hg2⟩ := k2.2
    rw [(hg2.2.2.2.2.2.1 _ hp9).2]
    exact nI_pos (by have := al_kd_len (P := (al_look (al_set (al_record σ 0) (2 * 0) (nI v) (-2))).1 0) (E := E2) (p := al_par (σ.1 0) v) 89 1; rw [al_kids] at *; omega)
  refine ⟨fun a b c => (key a b c).1, ?_⟩
  by_cases a : al_isN σ 0 x = 0
  · rw [al_prune, if_pos a]; exact al_okr_neg (by decide)
  by_cases b : x = 0
  · rw [al_prune, if_neg a, if_pos b]; exact al_okr_neg (by decide)
  by_cases c : al_isLf σ x = 0
  · rw [al_prune, if_neg a, if_neg b, if_pos c]; exact al_okr_neg (by decide)
  obtain ⟨k1, k2, k3, k4⟩ := key a b c
  have e : (al_prune σ x).2 = al_look (al_set (al_record σ 0) (2 * 0) x (-2)) := by rw [al_prune, if_neg a, if_neg b, if_neg c]
  refine Or.inr ⟨k4, ?_, ?_⟩ <;> rw [e] <;> assumption
theorem al_dif {a b : Nat} (ha : a < 2 ^ 30) (hb : b < 2 ^ 30) : (nI a - nI b).toNatClampNeg = a - b := by
  show (nI a - nI b).toInt.toNat = a - b
  rw [pk_sub_toInt ha hb]
  omega
theorem al_dif_neg {a b : Nat} (ha : a < 2 ^ 30) (hb : b < 2 ^ 30) : nI a - nI b < 0 ↔ a < b := by
  constructor
  · intro h
    refine Classical.byContradiction fun hn => ?_
    rw [pk_sub (by omega)] at h
    exact nI_pos (by omega) h
  · exact pk_sneg hb
theorem al_inB_I {σ : al_St} {E : Nat} {d : Nat → Nat} (hT : al_TOK (σ.1 0) E d) (hd : ∀ v, al_nd (σ.1 0) E v → d v < 90) (h15 : ∀ a, al_nd (σ.1 0) E a → σ.1 15 a = nI (d a)) {u x : Nat} (hu : al_nd (σ.1 0) E u) (hx : al_nd (σ.1 0) E x) : al_inB σ (nI u) (nI x) = 0 ↔ ¬ al_br (σ.1 0) d x u := by
  have hu9 := al_nd_lt hT hu
  have hx9 := al_nd_lt hT hx
  have du := hd u hu
  have dx := hd x hx
  have e1 : al_rg (σ.1 15) (nI u) = nI (d u) := by rw [al_rg_lt hu9]; exact h15 u hu
  have e2 : al_rg (σ.1 15) (nI x) = nI (d x) := by rw [al_rg_lt hx9]; exact h15 x hx
  rw [al_inB, e1, e2]
  by_cases c : d u < d x
  · rw [if_pos ((al_dif_neg (by omega) (by omega)).mpr c)]
    exact ⟨fun _ hb => by have := hb.1; omega, fun _ => rfl⟩
  · rw [if_neg (fun hh => c ((al_dif_neg (by omega) (by omega)).mp hh)), al_cl, al_dif (by omega) (by omega), al_climb_I hT rfl _ u hu, if_pos (show d u - d x ≤ d u from Nat.sub_le _ _)]
    obtain ⟨g1, -⟩ := al_up_nd hT (d u - d x) u hu (by omega)
    have g9 := al_nd_lt hT g1
    by_cases c2 : al_up (σ.1 0) (d u - d x) u = x
    · rw [if_pos (show nI (al_up (σ.1 0) (d u - d x) u) = nI x by rw [c2])]
      exact ⟨fun hh => absurd hh (by decide), fun hn => absurd ⟨by omega, c2⟩ hn⟩
    · rw [if_neg (show ¬ nI (al_up (σ.1 0) (d u - d x) u) = nI x from fun hh => c2 (al_nI_inj (by omega) (by omega) hh))]
      exact ⟨fun _ hb => c2 hb.2, fun _ => rfl⟩
theorem al_GG_d {σ : al_St} {E : Nat} {d : Nat → Nat} {q : List Nat} (h : al_GG σ E d q) {v : Nat} (hv : al_nd (σ.1 0) E v) : d v < 90 := al_d_lt h.1 h.2.2.2.1 hv
theorem al_graft_I {σ : al_St} (h : al_gw σ) (x u : Int32) : (¬ al_isN σ 0 x = 0 → ¬ al_isN σ 0 u = 0 → ¬ x = 0 → al_inB σ u x = 0 → ¬ al_rg (σ.1 (2 * 0)) x = u → al_lOK (al_set (al_record σ 0) (2 * 0) x u)) ∧ al_okr σ (al_graft σ x u) := by
  obtain ⟨E, d, q, hg, ht⟩ := al_gw_tr h
  have key : ¬ al_isN σ 0 x = 0 → ¬ al_isN σ 0 u = 0 → ¬ x = 0 → al_inB σ u x = 0 → al_lOK (al_set (al_record σ 0) (2 * 0) x u) ∧ al_gw (al_look (al_set (al_record σ 0) (2 * 0) x u)) ∧ al_und σ (al_look (al_set (al_record σ 0) (2 * 0) x u)) ∧ ¬ al_rg (σ.1 (2 * 0)) x < 0 := by
    intro c1 c2 c3 c4
    obtain ⟨v, rfl, hv, hv9⟩ := al_node_in hg.1 hg.2.1 c1
    obtain ⟨w, rfl, hw, hw9⟩ := al_node_in hg.1 hg.2.1 c2
    have hv0 : v ≠ 0 := fun e => c3 (by rw [e]; rfl)
    have hnb := (al_inB_I hg.1 (fun a ha => al_GG_d hg ha) hg.2.2.2.2.2.2.1 hw hv).mp c4
    have r2 := (al_record_I h.1).2.1
    have g1 := al_setP_td (y := nI w) hv9 r2
    obtain ⟨k1, k2, k3, k4⟩ := al_act_I h.1 (al_fr0_set (σ := al_record σ 0) (i := 2 * 0) (x := nI v) (v := nI w) (by omega)) ⟨E, _, by
      rw [g1]
      refine al_trS_par ht (al_graft_T hg.1 hv hv0 hw hnb) (fun a ha => ⟨ha.1, ?_⟩)
      by_cases e : a = v
      · rw [e]; exact hv.2
      · have := ha.2
        rw [al_upd_n e] at this
        exact this⟩
    obtain ⟨p1, p2, -⟩ := al_par_nd hg.1 hv hv0
    refine ⟨k1, k2, k3, ?_⟩
    rw [show σ.1 (2 * 0) = σ.1 0 from rfl, al_rg_lt hv9, p1]
    exact nI_pos (by have := al_nd_lt hg.1 p2; omega)
  refine ⟨fun a b c e _ => (key a b c e).1, ?_⟩
  rw [al_graft]
  split
  · exact al_okr_neg (by decide)
  · split
    · exact al_okr_neg (by decide)
    · split
      · exact al_okr_neg (by decide)
      · split
        · split
          · exact al_okr_neg (by decide)
          · rename_i a b c e _
            obtain ⟨k1, k2, k3, k4⟩ := key a b c e
            exact al_okr_pos k4 k2 k3
        · exact al_okr_neg (by decide)
theorem al_setLen_I {σ : al_St} (h : al_gw σ) (x b : Int32) : (¬ al_isN σ 0 x = 0 → ¬ al_isLen b = 0 → ¬ x = 0 → ¬ al_rg (σ.1 (2 * 0 + 1)) x = b → al_lOK (al_stretch (al_record σ 0) 0 x b (al_toF b))) ∧ al_okr σ (al_setLen σ x b) := by
  obtain ⟨E, d, q, hg, ht⟩ := al_gw_tr h
  have key : ¬ al_isN σ 0 x = 0 → ¬ al_isLen b = 0 → al_lOK (al_stretch (al_record σ 0) 0 x b (al_toF b)) ∧ al_gw (al_look (al_stretch (al_record σ 0) 0 x b (al_toF b))) ∧ al_und σ (al_look (al_stretch (al_record σ 0) 0 x b (al_toF b))) ∧ ¬ al_rg (σ.1 (2 * 0 + 1)) x < 0 := by
    intro c1 c2
    obtain ⟨v, rfl, hv, hv9⟩ := al_node_in hg.1 hg.2.1 c1
    have r2 := (al_record_I h.1).2.1
    obtain ⟨g1, g2⟩ := al_stretch_td (σ := al_record σ 0) (b := b) (w := al_toF b) hv9
    have e1 : (al_record σ 0).1 0 = (al_td σ 0).1 := congrArg (fun D : al_TD => D.1) r2
    have e2 : (al_record σ 0).1 1 = (al_td σ 0).2.1 := congrArg (fun D : al_TD => D.2.1) r2
    have e3 : (al_record σ 0).2.1 0 = (al_td σ 0).2.2.1 := congrArg (fun D : al_TD => D.2.2.1) r2
    have e4 : (al_record σ 0).2.2.1 0 = (al_td σ 0).2.2.2 := congrArg (fun D : al_TD => D.2.2.2) r2
    rw [e1, e2, e3, e4] at g1
    obtain ⟨k1, k2, k3, k4⟩ := al_act_I h.1 g2 ⟨E, d, by
      rw [g1]
      refine ⟨hg.1, hg.2.1, al_len_set ht.2.2.1 (al_toF_ok c2), fun a ha => ?_⟩
      show ¬ upd (al_td σ 0).2.1 v b a < 0
      by_cases e : a = v
      · rw [e, al_upd_s]; exact (al_len_ok c2).1
      · rw [al_upd_n e]; exact ht.2.2.2 a ha⟩
    refine ⟨k1, k2, k3, ?_⟩
    rw [show σ.1 (2 * 0 + 1) = (al_td σ 0).2.1 from rfl, al_rg_lt hv9]
    exact ht.2.2.2 v hv
  refine ⟨fun a b _ _ => (key a b).1, ?_⟩
  rw [al_setLen]
  split
  · exact al_okr_neg (by decide)
  · split
    · exact al_okr_neg (by decide)
    · split
      · exact al_okr_neg (by decide)
      · split
        · exact al_okr_neg (by decide)
        · rename_i a b c e
          obtain ⟨k1, k2, k3, k4⟩ := key a b
          exact al_okr_pos k4 k2 k3
