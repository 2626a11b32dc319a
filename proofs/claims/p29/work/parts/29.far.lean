/-! meetings of one node with all; the farthest node; the pair that stands farthest apart -/
section ALF
variable {E : Nat} {d : Nat → Nat} {q : List Nat}
theorem al_mkL_m1 {σ : al_St} : ∀ (n : Nat), al_mkL n (-1) σ = σ
  | 0 => rfl
  | n + 1 => by rw [al_mkL, if_pos rfl]
theorem al_mkL_I {P : Nat → Int32} (hT : al_TOK P E d) : ∀ (n a : Nat) (σ : al_St), σ.1 0 = P → al_nd P E a → d a < n → (∀ v, al_nd P E v → (al_mkL n (nI a) σ).1 22 v = if al_br P d v a then 1 else σ.1 22 v) ∧ ∀ j, j ≠ 22 → (al_mkL n (nI a) σ).1 j = σ.1 j
  | 0, a, σ, hP, ha, hn => absurd hn (Nat.not_lt_zero _)
  | n + 1, a, σ, hP, ha, hn => by
    have ha9 := al_nd_lt hT ha
    have e0 : (al_set σ 22 (nI a) 1).1 0 = P := by rw [al_set_1, if_neg (by decide)]; exact hP
    have e22 : (al_set σ 22 (nI a) 1).1 22 = upd (σ.1 22) a 1 := by rw [al_set_1, if_pos rfl, al_rs_lt ha9]
    have ej : ∀ j, j ≠ 22 → (al_set σ 22 (nI a) 1).1 j = σ.1 j := fun j hj => by rw [al_set_1, if_neg hj]
    rw [al_mkL, if_neg (al_nI_m1 (by omega))]
    by_cases h0 : a = 0
    · subst h0
      have en : al_rg ((al_set σ 22 (nI 0) 1).1 (2 * 0)) (nI 0) = -1 := by
        rw [show (al_set σ 22 (nI 0) 1).1 (2 * 0) = P from e0, al_rg_lt (by omega)]
        exact hT.2.2.1
      rw [en, al_mkL_m1]
      refine ⟨fun v hv => ?_, ej⟩
      rw [e22]
      by_cases e : v = 0
      · subst e
        rw [al_upd_s, if_pos al_br_self]
      · rw [al_upd_n e, if_neg]
        intro h
        have h1 := h.1
        rw [hT.2.2.2.1] at h1
        exact e (al_d0 hT hv (by omega))
    · obtain ⟨p1, p2, p3⟩ := al_par_nd hT ha h0
      have en : al_rg ((al_set σ 22 (nI a) 1).1 (2 * 0)) (nI a) = nI (al_par P a) := by
        rw [show (al_set σ 22 (nI a) 1).1 (2 * 0) = P from e0, al_rg_lt ha9]
        exact p1
      rw [en]
      obtain ⟨i1, i2⟩ := al_mkL_I hT n (al_par P a) (al_set σ 22 (nI a) 1) e0 p2 (by omega)
      refine ⟨fun v hv => ?_, fun j hj => (i2 j hj).trans (ej j hj)⟩
      rw [i1 v hv, e22]
      by_cases e : v = a
      · subst e
        rw [al_upd_s, if_pos al_br_self]
        split <;> rfl
      · rw [al_upd_n e]
        by_cases hb : al_br P d v a
        · rw [if_pos hb, if_pos ((al_br_par hT ha h0 (Ne.symm e)).mp hb)]
        · rw [if_neg hb, if_neg (fun h => hb ((al_br_par hT ha h0 (Ne.symm e)).mpr h))]
/-- the path length of the meeting of x and v -/
def al_M7 (P : Nat → Int32) (E : Nat) (d : Nat → Nat) (Ln : Nat → UInt32) (x v : Nat) (w : UInt32) : Prop := ∃ m, al_com P E d x v m ∧ w = al_Pt P Ln m
theorem al_mp1_set {σ : al_St} {X : Nat} (hX : X < 90) (w : UInt32) : al_fset σ 7 (nI X) w = al_sF σ 7 (vf_upd (σ.2.1 7) X w) := by rw [al_fset, al_fs_lt hX]
theorem al_mp1_I {σ : al_St} (hg : al_GG σ E d q) {x X : Nat} (hM : ∀ v, al_nd (σ.1 0) E v → σ.1 22 v = if al_br (σ.1 0) d v x then 1 else 0) (hX : al_nd (σ.1 0) E X) (hp : X ≠ 0 → al_M7 (σ.1 0) E d (σ.2.1 0) x (al_par (σ.1 0) X) (σ.2.1 7 (al_par (σ.1 0) X))) (hx : al_nd (σ.1 0) E x) : ∃ w, al_mp1 σ (nI X) = al_sF σ 7 (vf_upd (σ.2.1 7) X w) ∧ al_M7 (σ.1 0) E d (σ.2.1 0) x X w := by
  have hX9 := al_nd_lt hg.1 hX
  have e22 : al_rg (σ.1 22) (nI X) = if al_br (σ.1 0) d X x then 1 else 0 := by rw [al_rg_lt hX9]; exact hM X hX
  rw [al_mp1, e22]
  by_cases hb : al_br (σ.1 0) d X x
  · rw [if_pos hb, if_pos rfl, al_mp1_set hX9, al_GG_f6 hg hX]
    exact ⟨_, rfl, X, ⟨⟨hX, hb, al_br_self⟩, fun c _ _ h => h.1⟩, rfl⟩
  · have h0 : X ≠ 0 := fun e => hb (by rw [e]; exact al_br_root hg.1 hx)
    obtain ⟨-, p2, p3⟩ := al_par_nd hg.1 hX h0
    obtain ⟨m, ⟨⟨m1, m2, m3⟩, m4⟩, m5⟩ := hp h0
    rw [if_neg hb, if_neg (by decide), al_mp1_set hX9, al_GG_par hg hX h0, al_fg_lt (al_nd_lt hg.1 p2)]
    have hXm : X ≠ m := fun e => by
      have := m3.1
      rw [← e] at this
      omega
    refine ⟨_, rfl, m, ⟨⟨m1, m2, (al_br_par hg.1 hX h0 hXm).mpr m3⟩, fun c c1 c2 c3 => ?_⟩, m5⟩
    have hXc : X ≠ c := fun e => hb (by rw [e]; exact c2)
    exact m4 c c1 c2 ((al_br_par hg.1 hX h0 hXc).mp c3)
theorem al_Rl_f7 {σ : al_St} {f : Nat → UInt32} (h : al_FB (al_sF σ 7 f)) : al_Rl σ (al_sF σ 7 f) := ⟨fun _ _ => rfl, fun j hj => by
  show (if j = 7 then _ else _) = _
  rw [if_neg hj], fun _ _ => rfl, rfl, h⟩
theorem al_mpL_I {x : Nat} : ∀ (n k : Nat) (σ : al_St), k + n = 90 → k ≤ q.length → al_GG σ E d q → al_nd (σ.1 0) E x → (∀ v, al_nd (σ.1 0) E v → σ.1 22 v = if al_br (σ.1 0) d v x then 1 else 0) → (∀ (j a : Nat), j < k → q[j]? = some a → al_M7 (σ.1 0) E d (σ.2.1 0) x a (σ.2.1 7 a)) → (∀ a, al_nd (σ.1 0) E a → al_M7 (σ.1 0) E d (σ.2.1 0) x a ((al_mpL n k σ).2.1 7 a)) ∧ al_Rl σ (al_mpL n k σ)
  | 0, k, σ, hk, hkl, hg, hx, hM, h => ⟨fun a ha => by
      obtain ⟨j, hj⟩ := List.getElem?_of_mem ((hg.2.2.2.1.2.1 a).mpr ha)
      have := (List.getElem?_eq_some_iff.mp hj).1
      have := hg.2.2.2.2.1.2.1
      exact h j a (by omega) hj, al_Rl.rf hg.2.2.2.2.2.2.2.2.2.2⟩
  | n + 1, k, σ, hk, hkl, hg, hx, hM, h => by
    have hQ := hg.2.2.2.2.1
    have hq := hg.2.2.2.1
    have hl9 := hQ.2.1
    by_cases hke : k = q.length
    · have hc : σ.2.2.1 9 ≤ nI k := by
        rw [hQ.1, hke]
        exact nI_le (Nat.le_refl _) (by omega)
      rw [al_mpL, if_pos hc]
      refine ⟨fun a ha => ?_, al_Rl.rf hg.2.2.2.2.2.2.2.2.2.2⟩
      obtain ⟨j, hj⟩ := List.getElem?_of_mem ((hq.2.1 a).mpr ha)
      have := (List.getElem?_eq_some_iff.mp hj).1
      exact h j a (by omega) hj
    · have hc : ¬ σ.2.2.1 9 ≤ nI k := by
        rw [hQ.1]
        exact nI_ge (by omega) (by omega)
      obtain ⟨X, hX⟩ : ∃ X, q[k]? = some X := ⟨_, List.getElem?_eq_getElem (by omega)⟩
      have hXn := (hq.2.1 X).mp (List.mem_of_getElem? hX)
      have e1 : al_rg (σ.1 14) (nI k) = nI X := by
        rw [al_rg_lt (by omega)]
        exact hQ.2.2 k X hX
      obtain ⟨w, e2, hw⟩ := al_mp1_I hg hM hXn (fun h0 => by
        obtain ⟨i, b, i1, i2, i3⟩ := hq.2.2.2 k X hX h0
        have hb := (hq.2.1 b).mp (List.mem_of_getElem? i2)
        rw [al_par_eq i3 (by have := al_nd_lt hg.1 hb; omega)]
        exact h i b i1 i2) hx
      have hB : al_FB (al_mp1 σ (nI X)) := al_FB_mp1 hg.2.2.2.2.2.2.2.2.2.2
      rw [e2] at hB
      have hR := al_Rl_f7 hB
      rw [al_mpL, if_neg hc, e1, e2]
      obtain ⟨g1, g2⟩ := al_mpL_I n (k + 1) (al_sF σ 7 (vf_upd (σ.2.1 7) X w)) (by omega) (by omega) (hR.GG hg) hx hM (fun j a hj hja => by
        show al_M7 (σ.1 0) E d (σ.2.1 0) x a (vf_upd (σ.2.1 7) X w a)
        by_cases hjk : j = k
        · subst hjk
          rw [hX] at hja
          cases hja
          rw [al_vupd_s]
          exact hw
        · rw [al_vupd_n (fun (e : a = X) => hjk (al_inj_getElem hq.1 (by rw [← e]; exact hja) hX))]
          exact h j a (by omega) hja)
      exact ⟨g1, hR.tr g2⟩
theorem al_meets_I {σ : al_St} (hg : al_GG σ E d q) {x : Nat} (hx : al_nd (σ.1 0) E x) : (∀ a, al_nd (σ.1 0) E a → al_M7 (σ.1 0) E d (σ.2.1 0) x a ((al_meets σ (nI x)).2.1 7 a)) ∧ al_Rl σ (al_meets σ (nI x)) := by
  obtain ⟨m1, m2⟩ := al_mkL_I hg.1 90 x (al_fillR σ 22 0) rfl hx (al_GG_dd hg x hx)
  have m3 := al_mkL_2 90 (nI x) (al_fillR σ 22 0)
  obtain ⟨s, hs⟩ : ∃ s, s = al_mkL 90 (nI x) (al_fillR σ 22 0) := ⟨_, rfl⟩
  have em : al_meets σ (nI x) = al_mpL 90 0 s := by rw [al_meets, hs]
  rw [← hs] at m1 m2 m3
  have r1 : ∀ j, j ≠ 22 → s.1 j = σ.1 j := fun j hj => (m2 j hj).trans (by rw [al_fillR_1, if_neg hj])
  have hR : al_Rl σ s := ⟨fun j hj => r1 j (by omega), fun j _ => by rw [m3]; rfl, fun k _ => by rw [m3]; rfl, by rw [m3]; rfl, fun j => by rw [m3]; exact hg.2.2.2.2.2.2.2.2.2.2 j⟩
  have e0 : s.1 0 = σ.1 0 := r1 0 (by decide)
  have eL : s.2.1 0 = σ.2.1 0 := by rw [m3]; rfl
  have hl := hg.2.2.2.2.1.2.1
  obtain ⟨g1, g2⟩ := al_mpL_I (q := q) (x := x) 90 0 s (by omega) (Nat.zero_le _) (hR.GG hg) (by rw [e0]; exact hx) (by
    rw [e0]
    intro v hv
    rw [m1 v hv]
    congr 1
    show al_fill 90 0 (σ.1 22) v = 0
    simp only [al_fill, al_nd_lt hg.1 hv, if_true]) (fun j a hj _ => absurd hj (Nat.not_lt_zero _))
  rw [e0, eL] at g1
  rw [em]
  exact ⟨g1, hR.tr g2⟩
/-- what is measured is the distance -/
theorem al_meas_I {τ σ : al_St} (hg : al_GG τ E d q) (hR : al_Rl τ σ) {x k : Nat} (hx : al_nd (τ.1 0) E x) (hk : al_nd (τ.1 0) E k) : al_meas (al_meets σ (nI x)) (nI x) (nI k) = al_dist τ (nI x) (nI k) := by
  have e0 : σ.1 0 = τ.1 0 := hR.1 0 (by decide)
  have eL : σ.2.1 0 = τ.2.1 0 := hR.2.1 0 (by decide)
  obtain ⟨g1, g2⟩ := al_meets_I (hR.GG hg) (x := x) (by rw [e0]; exact hx)
  rw [e0, eL] at g1
  obtain ⟨m, m1, m2⟩ := g1 k hk
  have e6 : (al_meets σ (nI x)).2.1 6 = τ.2.1 6 := (g2.2.1 6 (by decide)).trans (hR.2.1 6 (by decide))
  rw [al_meas, e6, al_GG_f6 hg hx, al_GG_f6 hg hk, al_fg_lt (al_nd_lt hg.1 hk), m2, al_dist_of hg hx hk m1]
/-- what a search for the greatest has found: nothing yet, or r with the value g, and nothing greater among the nodes from K up to k -/
def al_best (P : Nat → Int32) (E : Nat) (V : Nat → UInt32) (K k : Nat) (g : UInt32) (r0 r : Int32) : Prop := (g = 3212836864 ∧ r = r0 ∧ ∀ j, K ≤ j → j < k → ¬ al_nd P E j) ∨ ∃ b, r = nI b ∧ al_nd P E b ∧ K ≤ b ∧ b < k ∧ g = V b ∧ ∀ j, K ≤ j → j < k → al_nd P E j → al_z (V j) ≤ al_z g
theorem al_farL_I {τ σ : al_St} (hg : al_GG τ E d q) (hR : al_Rl τ σ) {x : Nat} (hx : al_nd (τ.1 0) E x) {K : Nat} {r0 : Int32} : ∀ (n k : Nat) (g : UInt32) (r : Int32), k + n = 90 → K ≤ k → al_best (τ.1 0) E (fun j => al_dist τ (nI x) (nI j)) K k g r0 r → ∃ g', al_best (τ.1 0) E (fun j => al_dist τ (nI x) (nI j)) K 90 g' r0 (al_farL (al_meets σ (nI x)) (nI x) n k g r)
  | 0, k, g, r, hk, hK, h => ⟨g, by rw [show k = 90 by omega] at h; exact h⟩
  | n + 1, k, g, r, hk, hK, h => by
    have hR2 : al_Rl τ (al_meets σ (nI x)) := hR.tr (al_meets_I (hR.GG hg) (x := x) (by rw [hR.1 0 (by decide)]; exact hx)).2
    rw [al_farL, hR2.isN]
    by_cases hn : al_nd (τ.1 0) E k
    · rw [if_neg (al_GG_in hg hn), al_meas_I hg hR hx hn]
      have hok := al_dist_ok hg hx hn
      have hgn : FP.Core.val32 g ≠ .nan := by
        rcases h with ⟨e, -⟩ | ⟨b, -, hb, -, -, e, -⟩
        · rw [e]; exact al_m1_nn
        · rw [e]; exact (al_dist_ok hg hx hb).1
      split
      · rename_i c
        have c2 := (al_cmp hok.1 hgn).mp c
        refine al_farL_I hg hR hx n (k + 1) g r (by omega) (by omega) ?_
        rcases h with ⟨e, -⟩ | ⟨b, h1, h2, h3, h4, h5, h6⟩
        · rw [e] at c2
          have := al_m1_z
          omega
        · refine Or.inr ⟨b, h1, h2, h3, by omega, h5, fun j j1 j2 j3 => ?_⟩
          by_cases e : j = k
          · rw [e]; exact c2
          · exact h6 j j1 (by omega) j3
      · rename_i c
        have c2 : al_z g < al_z (al_dist τ (nI x) (nI k)) := Int.lt_of_not_ge (fun h => c ((al_cmp hok.1 hgn).mpr h))
        refine al_farL_I hg hR hx n (k + 1) _ _ (by omega) (by omega) (Or.inr ⟨k, rfl, hn, hK, by omega, rfl, fun j j1 j2 j3 => ?_⟩)
        by_cases e : j = k
        · rw [e]; exact Int.le_refl _
        · rcases h with ⟨-, -, e3⟩ | ⟨b, h1, h2, h3, h4, h5, h6⟩
          · exact absurd j3 (e3 j j1 (by omega))
          · exact Int.le_trans (h6 j j1 (by omega) j3) (Int.le_of_lt c2)
    · rw [if_pos (al_GG_out hg (by omega) hn)]
      refine al_farL_I hg hR hx n (k + 1) g r (by omega) (by omega) ?_
      rcases h with ⟨e1, e2, e3⟩ | ⟨b, h1, h2, h3, h4, h5, h6⟩
      · refine Or.inl ⟨e1, e2, fun j j1 j2 => ?_⟩
        by_cases e : j = k
        · rw [e]; exact hn
        · exact e3 j j1 (by omega)
      · refine Or.inr ⟨b, h1, h2, h3, by omega, h5, fun j j1 j2 j3 => ?_⟩
        exact h6 j j1 (by have : j ≠ k := fun e => hn (e ▸ j3); omega) j3
theorem al_farOn_I {τ σ : al_St} (hg : al_GG τ E d q) (hR : al_Rl τ σ) {x : Nat} (hx : al_nd (τ.1 0) E x) {K : Nat} (hK : ∃ j, K ≤ j ∧ al_nd (τ.1 0) E j) : ∃ b, al_farOn (al_meets σ (nI x)) (nI x) K = nI b ∧ al_nd (τ.1 0) E b ∧ K ≤ b ∧ ∀ j, K ≤ j → al_nd (τ.1 0) E j → al_z (al_dist τ (nI x) (nI j)) ≤ al_z (al_dist τ (nI x) (nI b)) := by
  obtain ⟨j0, k1, k2⟩ := hK
  have := al_nd_lt hg.1 k2
  obtain ⟨g', h⟩ := al_farL_I hg hR hx (K := K) (r0 := nI x) (90 - K) K 3212836864 (nI x) (by omega) (Nat.le_refl _) (Or.inl ⟨rfl, rfl, fun j h1 h2 => absurd h1 (by omega)⟩)
  rcases h with ⟨-, -, e3⟩ | ⟨b, h1, h2, h3, h4, h5, h6⟩
  · exact absurd k2 (e3 j0 k1 (by omega))
  · refine ⟨b, h1, h2, h3, fun j j1 j2 => ?_⟩
    have := h6 j j1 (al_nd_lt hg.1 j2) j2
    rw [h5] at this
    exact this
theorem al_far_I {τ σ : al_St} (hg : al_GG τ E d q) (hR : al_Rl τ σ) {x : Nat} (hx : al_nd (τ.1 0) E x) : ∃ b, (al_far σ (nI x)).1 = nI b ∧ al_nd (τ.1 0) E b ∧ ∀ j, al_nd (τ.1 0) E j → al_z (al_dist τ (nI x) (nI j)) ≤ al_z (al_dist τ (nI x) (nI b)) := by
  obtain ⟨b, h1, h2, -, h4⟩ := al_farOn_I hg hR hx (K := 0) ⟨0, Nat.le_refl _, al_root_nd hg.1⟩
  refine ⟨b, ?_, h2, fun j hj => h4 j (Nat.zero_le _) hj⟩
  rw [al_far, hR.isN, if_neg (al_GG_in hg hx)]
  exact h1
theorem al_far_Rl {τ σ : al_St} (hg : ∃ E d q, al_GG τ E d q) (hR : al_Rl τ σ) (x : Int32) : al_Rl τ (al_far σ x).2 := by
  obtain ⟨E, d, q, hg⟩ := hg
  rw [al_far, hR.isN]
  split
  · exact hR
  · rename_i h
    obtain ⟨v, rfl, hv⟩ := al_isN_node hg.2.1 hg.1.2.1 h
    exact hR.tr (al_meets_I (hR.GG hg) (x := v) (by rw [hR.1 0 (by decide)]; exact hv)).2
/-- what the search for the pair has found -/
def al_pair (τ : al_St) (E k : Nat) (g : UInt32) (σ : al_St) : Prop := (g = 3212836864 ∧ ∀ j, j < k → ¬ al_nd (τ.1 0) E j) ∨ ∃ a b, σ.2.2.1 10 = nI a ∧ σ.2.2.1 11 = nI b ∧ al_nd (τ.1 0) E a ∧ al_nd (τ.1 0) E b ∧ a ≤ b ∧ g = al_dist τ (nI a) (nI b) ∧ ∀ i j, i < k → i ≤ j → al_nd (τ.1 0) E i → al_nd (τ.1 0) E j → al_z (al_dist τ (nI i) (nI j)) ≤ al_z g
theorem al_pair_congr {τ σ σ' : al_St} {E k : Nat} {g : UInt32} (h1 : σ'.2.2.1 10 = σ.2.2.1 10) (h2 : σ'.2.2.1 11 = σ.2.2.1 11) (h : al_pair τ E k g σ) : al_pair τ E k g σ' := by
  unfold al_pair at h ⊢
  rw [h1, h2]
  exact h
theorem al_meets_V {σ : al_St} (x : Int32) : (al_meets σ x).2.2 = σ.2.2 := by
  have h1 : ∀ (σ : al_St) (x : Int32), (al_mp1 σ x).2.2 = σ.2.2 := fun σ x => by
    rw [al_mp1]
    split <;> rfl
  have h2 : ∀ (n k : Nat) (σ : al_St), (al_mpL n k σ).2.2 = σ.2.2 := by
    intro n
    induction n with
    | zero => intro k σ; rfl
    | succ n ih =>
      intro k σ
      rw [al_mpL]
      split
      · rfl
      · rw [ih, h1]
  rw [al_meets, h2, al_mkL_2]
  rfl
theorem al_fpL_I {τ : al_St} (hg : al_GG τ E d q) : ∀ (n k : Nat) (g : UInt32) (σ : al_St), k + n = 90 → al_Rl τ σ → al_pair τ E k g σ → ∃ g', al_pair τ E 90 g' (al_fpL n k g σ) ∧ al_Rl τ (al_fpL n k g σ)
  | 0, k, g, σ, hk, hR, h => ⟨g, by rw [show k = 90 by omega] at h; exact h, hR⟩
  | n + 1, k, g, σ, hk, hR, h => by
    rw [al_fpL, hR.isN]
    by_cases hn : al_nd (τ.1 0) E k
    · rw [if_neg (al_GG_in hg hn)]
      have hR2 : al_Rl τ (al_meets σ (nI k)) := hR.tr (al_meets_I (hR.GG hg) (x := k) (by rw [hR.1 0 (by decide)]; exact hn)).2
      have hV := al_meets_V (σ := σ) (nI k)
      obtain ⟨b, b1, b2, b3, b4⟩ := al_farOn_I hg hR hn (K := k) ⟨k, Nat.le_refl _, hn⟩
      rw [b1, al_meas_I hg hR hn b2]
      have hok := al_dist_ok hg hn b2
      have hgn : FP.Core.val32 g ≠ .nan := by
        rcases h with ⟨e, -⟩ | ⟨a, b, -, -, ha, hb, -, e, -⟩
        · rw [e]; exact al_m1_nn
        · rw [e]; exact (al_dist_ok hg ha hb).1
      split
      · rename_i c
        have c2 := (al_cmp hok.1 hgn).mp c
        refine al_fpL_I hg n (k + 1) g _ (by omega) hR2 (al_pair_congr (σ := σ) (by rw [hV]) (by rw [hV]) ?_)
        rcases h with ⟨e, -⟩ | ⟨a, b', h1, h2, h3, h4, h5, h6, h7⟩
        · rw [e] at c2
          have := al_m1_z
          omega
        · refine Or.inr ⟨a, b', h1, h2, h3, h4, h5, h6, fun i j i1 i2 i3 i4 => ?_⟩
          by_cases e : i = k
          · subst e
            exact Int.le_trans (b4 j i2 i4) c2
          · exact h7 i j (by omega) i2 i3 i4
      · rename_i c
        have c2 : al_z g < al_z (al_dist τ (nI k) (nI b)) := Int.lt_of_not_ge (fun h => c ((al_cmp hok.1 hgn).mpr h))
        refine al_fpL_I hg n (k + 1) _ _ (by omega) ?_ (Or.inr ⟨k, b, rfl, rfl, hn, b2, b3, rfl, fun i j i1 i2 i3 i4 => ?_⟩)
        · refine hR2.tr ⟨fun _ _ => rfl, fun _ _ => rfl, fun i hi => ?_, rfl, hR2.2.2.2.2⟩
          rw [al_sV_V, if_neg (by omega), al_sV_V, if_neg (by omega)]
        · by_cases e : i = k
          · subst e
            exact b4 j i2 i4
          · rcases h with ⟨-, e3⟩ | ⟨a, b', h1, h2, h3, h4, h5, h6, h7⟩
            · exact absurd i3 (e3 i (by omega))
            · exact Int.le_trans (h7 i j (by omega) i2 i3 i4) (Int.le_of_lt c2)
    · rw [if_pos (al_GG_out hg (by omega) hn)]
      refine al_fpL_I hg n (k + 1) g σ (by omega) hR ?_
      rcases h with ⟨e1, e3⟩ | ⟨a, b', h1, h2, h3, h4, h5, h6, h7⟩
      · refine Or.inl ⟨e1, fun j j2 => ?_⟩
        by_cases e : j = k
        · rw [e]; exact hn
        · exact e3 j (by omega)
      · refine Or.inr ⟨a, b', h1, h2, h3, h4, h5, h6, fun i j i1 i2 i3 i4 => ?_⟩
        exact h7 i j (by have : i ≠ k := fun e => hn (e ▸ i3); omega) i2 i3 i4
theorem al_findPair_I {τ σ : al_St} (hg : al_GG τ E d q) (hR : al_Rl τ σ) : al_Rl τ (al_findPair σ) ∧ ∃ a b, (al_findPair σ).2.2.1 10 = nI a ∧ (al_findPair σ).2.2.1 11 = nI b ∧ al_nd (τ.1 0) E a ∧ al_nd (τ.1 0) E b ∧ a ≤ b ∧ ∀ i j, al_nd (τ.1 0) E i → al_nd (τ.1 0) E j → al_z (al_dist τ (nI i) (nI j)) ≤ al_z (al_dist τ (nI a) (nI b)) := by
  obtain ⟨g', h1, h2⟩ := al_fpL_I hg 90 0 3212836864 σ (by omega) hR (Or.inl ⟨rfl, fun j hj => absurd hj (Nat.not_lt_zero _)⟩)
  refine ⟨h2, ?_⟩
  rcases h1 with ⟨-, e⟩ | ⟨a, b, k1, k2, k3, k4, k5, k6, k7⟩
  · exact absurd (al_root_nd hg.1) (e 0 (by omega))
  · refine ⟨a, b, k1, k2, k3, k4, k5, fun i j hi hj => ?_⟩
    rw [← k6]
    rcases Nat.le_total i j with h | h
    · exact k7 i j (al_nd_lt hg.1 hi) h hi hj
    · rw [al_dist_sym hg hi hj]
      exact k7 j i (al_nd_lt hg.1 hj) h hj hi
end ALF
