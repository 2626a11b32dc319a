/-! what each act leaves -/
/-- all but tree 0 (and what the look around writes) as it was -/
def al_fr0 (σ σ' : al_St) : Prop := (∀ s, 1 ≤ s → s < 6 → al_td σ' s = al_td σ s) ∧ σ'.2.2.2 = σ.2.2.2 ∧ (∀ k, 6 ≤ k → σ'.2.2.1 k = σ.2.2.1 k) ∧ (∀ j, 12 ≤ j → σ'.1 j = σ.1 j) ∧ ∀ j, 6 ≤ j → σ'.2.1 j = σ.2.1 j
theorem al_fr0.rf {σ : al_St} : al_fr0 σ σ := ⟨fun _ _ _ => rfl, rfl, fun _ _ => rfl, fun _ _ => rfl, fun _ _ => rfl⟩
theorem al_fr0.tr {a b c : al_St} (h1 : al_fr0 a b) (h2 : al_fr0 b c) : al_fr0 a c := ⟨fun s x y => (h2.1 s x y).trans (h1.1 s x y), h2.2.1.trans h1.2.1, fun k x => (h2.2.2.1 k x).trans (h1.2.2.1 k x), fun k x => (h2.2.2.2.1 k x).trans (h1.2.2.2.1 k x), fun k x => (h2.2.2.2.2 k x).trans (h1.2.2.2.2 k x)⟩
theorem al_FB_congr {σ σ' : al_St} (h6 : σ'.2.1 6 = σ.2.1 6) (h7 : σ'.2.1 7 = σ.2.1 7) (h : al_FB σ) : al_FB σ' := fun j => by rw [h6, h7]; exact h j
theorem al_td_of {σ σ' : al_St} {s t : Nat} (h1 : σ'.1 (2 * s) = σ.1 (2 * t)) (h2 : σ'.1 (2 * s + 1) = σ.1 (2 * t + 1)) (h3 : σ'.2.1 s = σ.2.1 t) (h4 : σ'.2.2.1 s = σ.2.2.1 t) : al_td σ' s = al_td σ t := by
  simp only [al_td]
  rw [h1, h2, h3, h4]
theorem al_copyT_td {σ : al_St} {t u s : Nat} (ht : t < 6) (hu : u < 6) (hs : s < 6) : al_td (al_copyT σ t u) s = if s = t then al_td σ u else al_td σ s := by
  have hr : ∀ i, (al_copyT σ t u).1 i = if i = 2 * t + 1 then (if 2 * u + 1 = 2 * t then σ.1 (2 * u) else σ.1 (2 * u + 1)) else if i = 2 * t then σ.1 (2 * u) else σ.1 i := fun i => rfl
  have hf : ∀ i, (al_copyT σ t u).2.1 i = if i = t then σ.2.1 u else σ.2.1 i := fun i => rfl
  have hv : ∀ i, (al_copyT σ t u).2.2.1 i = if i = t then σ.2.2.1 u else σ.2.2.1 i := fun i => rfl
  by_cases h : s = t
  · subst h
    rw [if_pos rfl]
    refine al_td_of ?_ ?_ ?_ ?_
    · rw [hr, if_neg (by omega), if_pos rfl]
    · rw [hr, if_pos rfl, if_neg (by omega)]
    · rw [hf, if_pos rfl]
    · rw [hv, if_pos rfl]
  · rw [if_neg h]
    refine al_td_of ?_ ?_ ?_ ?_
    · rw [hr, if_neg (by omega), if_neg (by omega)]
    · rw [hr, if_neg (by omega), if_neg (by omega)]
    · rw [hf, if_neg h]
    · rw [hv, if_neg h]
theorem al_copyT_fr {σ : al_St} {t u : Nat} (ht : t < 6) : (al_copyT σ t u).2.2.2 = σ.2.2.2 ∧ (∀ k, 6 ≤ k → (al_copyT σ t u).2.2.1 k = σ.2.2.1 k) ∧ (∀ j, 12 ≤ j → (al_copyT σ t u).1 j = σ.1 j) ∧ ∀ j, 6 ≤ j → (al_copyT σ t u).2.1 j = σ.2.1 j := by
  refine ⟨rfl, fun k hk => ?_, fun j hj => ?_, fun j hj => ?_⟩
  · show (if k = t then _ else _) = _
    rw [if_neg (by omega)]
    rfl
  · show (if j = 2 * t + 1 then _ else (if j = 2 * t then _ else _)) = _
    rw [if_neg (by omega), if_neg (by omega)]
  · show (if j = t then _ else _) = _
    rw [if_neg (by omega)]
    rfl
theorem al_td_sV {σ : al_St} {k s : Nat} {x : Int32} (hk : 6 ≤ k) (hs : s < 6) : al_td (al_sV σ k x) s = al_td σ s := by
  refine al_td_of rfl rfl rfl ?_
  rw [al_sV_V, if_neg (by omega)]
theorem al_td_sT {σ : al_St} {f : Nat → Nat} {s : Nat} : al_td (al_sT σ f) s = al_td σ s := rfl
/-- what a record leaves -/
def al_rcd (σ σ' : al_St) : Prop := al_pre σ' ∧ al_td σ' 0 = al_td σ 0 ∧ al_td σ' 5 = al_td σ 5 ∧ (∀ k, 6 ≤ k → k ≠ 7 → σ'.2.2.1 k = σ.2.2.1 k) ∧ (∀ j, 12 ≤ j → σ'.1 j = σ.1 j) ∧ (∀ j, 6 ≤ j → σ'.2.1 j = σ.2.1 j) ∧ ∃ U : Nat, U < 4 ∧ σ'.2.2.1 7 = nI (U + 1) ∧ al_td σ' (σ'.2.2.2 U) = al_td σ 0
theorem al_rec1_I {σ : al_St} (h : al_pre σ) {U : Nat} (hU : U < 4) (h7 : σ.2.2.1 7 = nI U) : al_rcd σ (al_rec1 σ 0) := by
  obtain ⟨h1, h2, h3, h4⟩ := h
  have hc : (σ.2.2.1 7).toNatClampNeg = U := by rw [h7, nI_clamp (by omega)]
  obtain ⟨t1, t2⟩ := h3 U hU
  obtain ⟨f1, f2, f3, f4⟩ := al_copyT_fr (σ := σ) (t := σ.2.2.2 U) (u := 0) (by omega)
  have e : al_rec1 σ 0 = al_sV (al_copyT σ (σ.2.2.2 U) 0) 7 (nI (U + 1)) := by
    rw [al_rec1, hc, f2 7 (by decide), h7, nI_1]
  have htd : ∀ s, s < 6 → al_td (al_rec1 σ 0) s = if s = σ.2.2.2 U then al_td σ 0 else al_td σ s := fun s hs => by
    rw [e, al_td_sV (by decide) hs, al_copyT_td (by omega) (by omega) hs]
  have eT : (al_rec1 σ 0).2.2.2 = σ.2.2.2 := by rw [e]; exact f1
  have eV : ∀ k, (al_rec1 σ 0).2.2.1 k = if k = 7 then nI (U + 1) else (al_copyT σ (σ.2.2.2 U) 0).2.2.1 k := fun k => by rw [e]; rfl
  have eF : ∀ j, 6 ≤ j → (al_rec1 σ 0).2.1 j = σ.2.1 j := fun j hj => by rw [e]; exact f4 j hj
  refine ⟨⟨fun t ht => ?_, ⟨U + 1, by omega, by rw [eV, if_pos rfl]⟩, fun j hj => by rw [eT]; exact h3 j hj, al_FB_congr (eF 6 (by decide)) (eF 7 (by decide)) h4⟩, ?_, ?_, fun k hk hk7 => ?_, fun j hj => by rw [e]; exact f3 j hj, eF, U, hU, by rw [eV, if_pos rfl], ?_⟩
  · rw [htd t ht]
    split
    · exact h1 0 (by omega)
    · exact h1 t ht
  · rw [htd 0 (by omega), if_neg (by omega)]
  · rw [htd 5 (by omega), if_neg (by omega)]
  · rw [eV, if_neg hk7]; exact f2 k hk
  · rw [eT, htd _ (by omega), if_pos rfl]
theorem al_record_I {σ : al_St} (h : al_pre σ) : al_rcd σ (al_record σ 0) := by
  have h0 := h
  obtain ⟨h1, ⟨U, hU, h7⟩, h3, h4⟩ := h
  rw [al_record]
  by_cases hc : σ.2.2.1 7 < 4
  · rw [if_pos hc]
    rw [h7] at hc
    exact al_rec1_I h0 ((nI_ltI (a := U) (b := 4) (by omega) (by omega)).mp hc) h7
  · rw [if_neg hc]
    have hd : al_pre (al_drop σ) := ⟨fun t ht => by
        rw [al_drop, al_td_sV (by decide) ht]
        exact h1 t ht, ⟨3, by decide, rfl⟩, fun j hj => by
        have e : (al_drop σ).2.2.2 = al_tup (al_tup (al_tup (al_tup σ.2.2.2 0 (σ.2.2.2 1)) 1 (σ.2.2.2 2)) 2 (σ.2.2.2 3)) 3 (σ.2.2.2 0) := rfl
        rw [e]
        have a0 := h3 0 (by omega)
        have a1 := h3 1 (by omega)
        have a2 := h3 2 (by omega)
        have a3 := h3 3 (by omega)
        rcases (show j = 0 ∨ j = 1 ∨ j = 2 ∨ j = 3 by omega) with rfl | rfl | rfl | rfl
        · exact a1
        · exact a2
        · exact a3
        · exact a0, h4⟩
    obtain ⟨g1, g2, g3, g4, g5, g6, g7⟩ := al_rec1_I hd (U := 3) (by omega) rfl
    refine ⟨g1, g2.trans (al_td_sV (by decide) (by omega)), g3.trans (al_td_sV (by decide) (by omega)), fun k hk hk7 => (g4 k hk hk7).trans ?_, g5, g6, ?_⟩
    · rw [al_drop, al_sV_V, if_neg hk7]; rfl
    · obtain ⟨U2, u1, u2, u3⟩ := g7
      exact ⟨U2, u1, u2, u3.trans (al_td_sV (by decide) (by omega))⟩
/-- an act that can be undone -/
def al_und (σ σ' : al_St) : Prop := (∃ U : Nat, U < 4 ∧ σ'.2.2.1 7 = nI (U + 1) ∧ al_td σ' (σ'.2.2.2 U) = al_td σ 0) ∧ al_td σ' 5 = al_td σ 5 ∧ σ'.2.2.1 6 = σ.2.2.1 6 ∧ σ'.2.2.1 8 = σ.2.2.1 8 ∧ σ'.1 25 = σ.1 25
theorem al_act_I {σ σ1 : al_St} (h : al_pre σ) (hf : al_fr0 (al_record σ 0) σ1) (ht : ∃ E d, al_trS (al_td σ1 0) E d) : al_lOK σ1 ∧ al_gw (al_look σ1) ∧ al_und σ (al_look σ1) ∧ al_frL σ1 (al_look σ1) := by
  obtain ⟨⟨a1, a2, a3, a4⟩, r2, r3, r4, r5, r6, U, u1, u2, u3⟩ := al_record_I h
  obtain ⟨f1, f2, f3, f4, f5⟩ := hf
  have hp : al_pre σ1 := by
    refine ⟨fun t ht' => ?_, by rw [f3 7 (by decide)]; exact a2, fun j hj => by rw [f2]; exact a3 j hj, al_FB_congr (f5 6 (by decide)) (f5 7 (by decide)) a4⟩
    by_cases h0 : t = 0
    · rw [h0]; exact ht
    · rw [f1 t (by omega) ht']; exact a1 t ht'
  obtain ⟨g1, g2, g3⟩ := al_look_gw hp
  refine ⟨g1, g3, ⟨⟨U, u1, ?_, ?_⟩, ?_, ?_, ?_, ?_⟩, g2⟩
  · rw [g2.2.2.1 7 (by decide), f3 7 (by decide)]; exact u2
  · have := a3 U u1
    rw [g2.2.2.2, f2, al_td_look g2 (by omega), f1 _ (by omega) (by omega)]; exact u3
  · rw [al_td_look g2 (by omega), f1 _ (by omega) (by omega)]; exact r3
  · rw [g2.2.2.1 6 (by decide), f3 6 (by decide), r4 6 (by decide) (by decide)]
  · rw [g2.2.2.1 8 (by decide), f3 8 (by decide), r4 8 (by decide) (by decide)]
  · rw [g2.1 25 (Or.inr (by decide)), f4 25 (by decide), r5 25 (by decide)]
/-- what an act answers and leaves -/
def al_okr (σ : al_St) (r : Int32 × al_St) : Prop := (r.1 < 0 ∧ r.2 = σ) ∨ (¬ r.1 < 0 ∧ al_gw r.2 ∧ al_und σ r.2)
theorem al_okr_neg {σ : al_St} {x : Int32} (h : x < 0) : al_okr σ (x, σ) := Or.inl ⟨h, rfl⟩
theorem al_fr0_set {σ : al_St} {i : Nat} {x v : Int32} (hi : i < 2) : al_fr0 σ (al_set σ i x v) := by
  refine ⟨fun s h1 h2 => al_td_of ?_ ?_ rfl rfl, rfl, fun _ _ => rfl, fun j hj => ?_, fun _ _ => rfl⟩
  · rw [al_set_1, if_neg (by omega)]
  · rw [al_set_1, if_neg (by omega)]
  · rw [al_set_1, if_neg (by omega)]
theorem al_fr0_fset {σ : al_St} {x : Int32} {w : UInt32} : al_fr0 σ (al_fset σ 0 x w) := by
  have e : ∀ j, j ≠ 0 → (al_fset σ 0 x w).2.1 j = σ.2.1 j := fun j hj => by
    show (if j = 0 then _ else _) = _
    rw [if_neg hj]
  exact ⟨fun s h1 h2 => al_td_of rfl rfl (e s (by omega)) rfl, rfl, fun _ _ => rfl, fun _ _ => rfl, fun j hj => e j (by omega)⟩
theorem al_fr0_sV {σ : al_St} {x : Int32} : al_fr0 σ (al_sV σ 0 x) := by
  have e : ∀ j, j ≠ 0 → (al_sV σ 0 x).2.2.1 j = σ.2.2.1 j := fun j hj => by rw [al_sV_V, if_neg hj]
  exact ⟨fun s h1 h2 => al_td_of rfl rfl rfl (e s (by omega)), rfl, fun k hk => e k (by omega), fun _ _ => rfl, fun _ _ => rfl⟩
theorem al_stretch_td {σ : al_St} {x : Nat} {b : Int32} {w : UInt32} (hx : x < 90) : al_td (al_stretch σ 0 (nI x) b w) 0 = (σ.1 0, upd (σ.1 1) x b, vf_upd (σ.2.1 0) x w, σ.2.2.1 0) ∧ al_fr0 σ (al_stretch σ 0 (nI x) b w) := by
  refine ⟨?_, (al_fr0_set (by omega)).tr al_fr0_fset⟩
  have e1 := al_rs_lt (f := σ.1 1) (v := b) hx
  have e2 := al_fs_lt (f := σ.2.1 0) (v := w) hx
  show (σ.1 0, al_rs (σ.1 1) (nI x) b, al_fs (σ.2.1 0) (nI x) w, σ.2.2.1 0) = _
  rw [e1, e2]
theorem al_append_td {σ : al_St} {E : Nat} {u b : Int32} {w : UInt32} (hE : E < 90) (h0 : σ.2.2.1 0 = nI E) : al_td (al_append σ 0 u b w) 0 = (upd (σ.1 0) E u, upd (σ.1 1) E b, vf_upd (σ.2.1 0) E w, nI (E + 1)) ∧ al_fr0 σ (al_append σ 0 u b w) := by
  rw [al_append, h0, nI_1]
  obtain ⟨g1, g2⟩ := al_stretch_td (σ := al_set (al_sV σ 0 (nI (E + 1))) (2 * 0) (nI E) u) (b := b) (w := w) hE
  refine ⟨g1.trans ?_, al_fr0_sV.tr ((al_fr0_set (by omega)).tr g2)⟩
  show (al_rs (σ.1 0) (nI E) u, _, _, _) = _
  rw [al_rs_lt hE]
  rfl
theorem al_len_set {P : Nat → Int32} {E x : Nat} {Ln : Nat → UInt32} {w : UInt32} (h : al_lenOK P E Ln) (hw : al_B w ∧ al_z w ≤ (1024 : Nat) * al_one) : al_lenOK P E (vf_upd Ln x w) := fun v hv => by
  by_cases e : v = x
  · rw [e, al_vupd_s]; exact hw
  · rw [al_vupd_n e]; exact h v hv
theorem al_trS_append {D : al_TD} {E p : Nat} {d : Nat → Nat} {b : Int32} {w : UInt32} (h : al_trS D E d) (hp : al_nd D.1 E p) (hE : E + 1 ≤ 90) (hw : al_B w ∧ al_z w ≤ (1024 : Nat) * al_one) (hb : ¬ b < 0) : al_trS (upd D.1 E (nI p), upd D.2.1 E b, vf_upd D.2.2.1 E w, nI (E + 1)) (E + 1) (fun v => if v = E then d p + 1 else d v) := by
  obtain ⟨h1, h2, h3, h4⟩ := h
  have hd : ∀ v, v ≠ E → al_nd (upd D.1 E (nI p)) (E + 1) v → al_nd D.1 E v := fun v e hv => ⟨by have := hv.1; omega, by have := hv.2; rw [al_upd_n e] at this; exact this⟩
  refine ⟨al_append_T h1 hp hE, rfl, fun v hv => ?_, fun v hv => ?_⟩
  · by_cases e : v = E
    · show al_B (vf_upd D.2.2.1 E w v) ∧ al_z (vf_upd D.2.2.1 E w v) ≤ _
      rw [e, al_vupd_s]; exact hw
    · show al_B (vf_upd D.2.2.1 E w v) ∧ al_z (vf_upd D.2.2.1 E w v) ≤ _
      rw [al_vupd_n e]; exact h3 v (hd v e hv)
  · by_cases e : v = E
    · show ¬ upd D.2.1 E b v < 0
      rw [e, al_upd_s]; exact hb
    · show ¬ upd D.2.1 E b v < 0
      rw [al_upd_n e]; exact h4 v (hd v e hv)
