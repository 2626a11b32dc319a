/-! L2: WHAT IT MEANS. A tree by its parents' row P and the count E of numbers given out -/
def al_nd (P : Nat → Int32) (E v : Nat) : Prop := v < E ∧ P v ≠ -2
/-- a sound tree; d: depths -/
def al_TOK (P : Nat → Int32) (E : Nat) (d : Nat → Nat) : Prop := 1 ≤ E ∧ E ≤ 90 ∧ P 0 = -1 ∧ d 0 = 0 ∧ ∀ v, v ≠ 0 → al_nd P E v → ∃ p, P v = nI p ∧ al_nd P E p ∧ d v = d p + 1
theorem al_set_1 (σ : al_St) (i j : Nat) (x v : Int32) : (al_set σ i x v).1 j = if j = i then al_rs (σ.1 i) x v else σ.1 j := rfl
theorem al_set_2 (σ : al_St) (i : Nat) (x v : Int32) : (al_set σ i x v).2 = σ.2 := rfl
theorem al_sV_1 (σ : al_St) (i : Nat) (x : Int32) : (al_sV σ i x).1 = σ.1 := rfl
theorem al_sV_F (σ : al_St) (i : Nat) (x : Int32) : (al_sV σ i x).2.1 = σ.2.1 := rfl
theorem al_sV_V (σ : al_St) (i j : Nat) (x : Int32) : (al_sV σ i x).2.2.1 j = if j = i then x else σ.2.2.1 j := rfl
theorem al_sV_T (σ : al_St) (i : Nat) (x : Int32) : (al_sV σ i x).2.2.2 = σ.2.2.2 := rfl
theorem al_fillR_1 (σ : al_St) (i j : Nat) (v : Int32) : (al_fillR σ i v).1 j = if j = i then al_fill 90 v (σ.1 i) else σ.1 j := rfl
theorem al_fillR_2 (σ : al_St) (i : Nat) (v : Int32) : (al_fillR σ i v).2 = σ.2 := rfl
theorem al_rs_lt {f : Nat → Int32} {n : Nat} {v : Int32} (h : n < 90) : al_rs f (nI n) v = upd f n v := by
  have h1 : ¬ nI n < 0 := nI_pos (by omega)
  have h2 : ¬ (90 : Int32) ≤ nI n := al_90 h
  simp only [al_rs, h1, h2, if_false, nI_clamp (show n < 2 ^ 31 by omega)]
theorem al_upd_s {f : Nat → Int32} {k : Nat} {x : Int32} : upd f k x k = x := pk_us
theorem al_upd_n {f : Nat → Int32} {k j : Nat} {x : Int32} (h : j ≠ k) : upd f k x j = f j := pk_un h
theorem al_nI_inj {a b : Nat} (ha : a < 2 ^ 31) (hb : b < 2 ^ 31) (h : nI a = nI b) : a = b := (nI_eq ha hb).mp h
theorem al_nI_m1 {a : Nat} (ha : a < 2 ^ 31) : nI a ≠ -1 := fun h => by
  have h1 := nI_pos ha
  rw [h] at h1
  exact h1 (by decide)
theorem al_nI_m2 {a : Nat} (ha : a < 2 ^ 31) : nI a ≠ -2 := fun h => by
  have h1 := nI_pos ha
  rw [h] at h1
  exact h1 (by decide)
theorem al_rg_m1 {f : Nat → Int32} : al_rg f (-1) = -1 := by
  have h : (-1 : Int32) < 0 := by decide
  simp only [al_rg, h, if_true]
/-- isNode, as the class says it -/
theorem al_isN_01 (σ : al_St) (t : Nat) (x : Int32) : al_isN σ t x = 0 ∨ al_isN σ t x = 1 := by
  simp only [al_isN]
  split
  · exact Or.inl rfl
  · split
    · exact Or.inl rfl
    · split
      · exact Or.inl rfl
      · exact Or.inr rfl
theorem al_isN_nI {σ : al_St} {E v : Nat} (hE : σ.2.2.1 0 = nI E) (hE9 : E ≤ 90) (hv : v < 2 ^ 31) : al_isN σ 0 (nI v) = 0 ↔ ¬ al_nd (σ.1 0) E v := by
  have h1 : ¬ nI v < 0 := nI_pos hv
  simp only [al_isN, h1, if_false, hE, Nat.mul_zero]
  by_cases h2 : v < E
  · have h3 : ¬ nI E ≤ nI v := nI_ge h2 (by omega)
    rw [if_neg h3, al_rg_lt (by omega)]
    by_cases h4 : σ.1 0 v = -2
    · rw [if_pos h4]
      exact ⟨fun _ h => h.2 h4, fun _ => rfl⟩
    · rw [if_neg h4]
      exact ⟨fun h => absurd h (by decide), fun h => absurd ⟨h2, h4⟩ h⟩
  · have h3 : nI E ≤ nI v := nI_le (by omega) hv
    rw [if_pos h3]
    exact ⟨fun _ h => h2 h.1, fun _ => rfl⟩
theorem al_isN_node {σ : al_St} {E : Nat} {x : Int32} (hE : σ.2.2.1 0 = nI E) (hE9 : E ≤ 90) (h : ¬ al_isN σ 0 x = 0) : ∃ v, x = nI v ∧ al_nd (σ.1 0) E v := by
  have h1 : ¬ x < 0 := fun h1 => h (by simp only [al_isN, h1, if_true])
  obtain ⟨v, hv, rfl⟩ := nI_of h1
  refine ⟨v, rfl, ?_⟩
  rcases Classical.em (al_nd (σ.1 0) E v) with q | q
  · exact q
  · exact absurd ((al_isN_nI hE hE9 hv).mpr q) h
/-- the children of p with the numbers a, a + 1 .. (m of them) -/
def al_kd (P : Nat → Int32) (E p : Nat) : Nat → Nat → List Nat
  | 0, _ => []
  | m + 1, a => if a < E ∧ P a = nI p then a :: al_kd P E p m (a + 1) else al_kd P E p m (a + 1)
theorem al_kd_mem {P : Nat → Int32} {E p : Nat} : ∀ (m a b : Nat), b ∈ al_kd P E p m a ↔ (a ≤ b ∧ b < a + m ∧ b < E ∧ P b = nI p)
  | 0, a, b => by simp [al_kd]; omega
  | m + 1, a, b => by
    rw [al_kd]
    split
    · rename_i h
      rw [List.mem_cons, al_kd_mem m (a + 1) b]
      constructor
      · rintro (rfl | ⟨h1, h2, h3⟩)
        · exact ⟨by omega, by omega, h⟩
        · exact ⟨by omega, by omega, h3⟩
      · rintro ⟨h1, h2, h3⟩
        by_cases e : b = a
        · exact Or.inl e
        · exact Or.inr ⟨by omega, by omega, h3⟩
    · rename_i h
      rw [al_kd_mem m (a + 1) b]
      constructor
      · rintro ⟨h1, h2, h3⟩
        exact ⟨by omega, by omega, h3⟩
      · rintro ⟨h1, h2, h3⟩
        have e : b ≠ a := fun e => h (e ▸ h3)
        exact ⟨by omega, by omega, h3⟩
theorem al_kd_len {P : Nat → Int32} {E p : Nat} : ∀ (m a : Nat), (al_kd P E p m a).length ≤ m
  | 0, _ => Nat.le_refl _
  | m + 1, a => by
    rw [al_kd]
    have := al_kd_len (P := P) (E := E) (p := p) m (a + 1)
    split
    · simp only [List.length_cons]; omega
    · omega
theorem al_kd_sorted {P : Nat → Int32} {E p : Nat} : ∀ (m a : Nat), (al_kd P E p m a).Pairwise (· < ·)
  | 0, _ => List.Pairwise.nil
  | m + 1, a => by
    rw [al_kd]
    have h1 := al_kd_sorted (P := P) (E := E) (p := p) m (a + 1)
    split
    · refine List.Pairwise.cons (fun b hb => ?_) h1
      have := (al_kd_mem m (a + 1) b).mp hb
      omega
    · exact h1
/-- all children of p -/
def al_kids (P : Nat → Int32) (E p : Nat) : List Nat := al_kd P E p 89 1
/-- a chain of nodes by 'next' -/
def al_ch (nx : Nat → Int32) : Int32 → List Nat → Prop
  | c, [] => c = -1
  | c, a :: l => c = nI a ∧ a < 90 ∧ al_ch nx (nx a) l
theorem al_ch_congr {nx nx' : Nat → Int32} : ∀ (l : List Nat) (c : Int32), (∀ a, a ∈ l → nx' a = nx a) → al_ch nx c l → al_ch nx' c l
  | [], _, _, h => h
  | a :: l, c, hc, h => ⟨h.1, h.2.1, by
    rw [hc a List.mem_cons_self]
    exact al_ch_congr l _ (fun b hb => hc b (List.mem_cons_of_mem _ hb)) h.2.2⟩
/-- what linkChildren leaves, when the numbers n, n - 1 .. 1 are still to come -/
def al_lkI (P : Nat → Int32) (E n : Nat) (σ : al_St) : Prop := ∀ p, p < 90 → al_ch (σ.1 13) (σ.1 12 p) (al_kd P E p (89 - n) (n + 1)) ∧ σ.1 17 p = nI (al_kd P E p (89 - n) (n + 1)).length
theorem al_link1_0 {σ : al_St} {x : Int32} (h : al_isN σ 0 x = 0) : al_link1 σ x = σ := by rw [al_link1, if_pos h]
theorem al_link1_fr (σ : al_St) (x : Int32) : (al_link1 σ x).2 = σ.2 ∧ ∀ j, j ≠ 12 → j ≠ 13 → j ≠ 17 → (al_link1 σ x).1 j = σ.1 j := by
  rw [al_link1]
  split
  · exact ⟨rfl, fun _ _ _ _ => rfl⟩
  · refine ⟨rfl, fun j h1 h2 h3 => ?_⟩
    simp only [al_set_1, h1, h2, h3, if_false]
theorem al_linkL_fr : ∀ (n : Nat) (σ : al_St), (al_linkL n σ).2 = σ.2 ∧ ∀ j, j ≠ 12 → j ≠ 13 → j ≠ 17 → (al_linkL n σ).1 j = σ.1 j
  | 0, _ => ⟨rfl, fun _ _ _ _ => rfl⟩
  | n + 1, σ => by
    obtain ⟨h1, h2⟩ := al_link1_fr σ (nI (n + 1))
    obtain ⟨h3, h4⟩ := al_linkL_fr n (al_link1 σ (nI (n + 1)))
    rw [al_linkL]
    exact ⟨h3.trans h1, fun j a b c => (h4 j a b c).trans (h2 j a b c)⟩
theorem al_link1_I {P : Nat → Int32} {E n : Nat} {d : Nat → Nat} {σ : al_St} (hT : al_TOK P E d) (hP : σ.1 0 = P) (hE : σ.2.2.1 0 = nI E) (hn : n + 1 ≤ 89) (h : al_lkI P E (n + 1) σ) : al_lkI P E n (al_link1 σ (nI (n + 1))) := by
  have hE9 := hT.2.1
  have hm : 89 - n = (89 - (n + 1)) + 1 := by omega
  by_cases hN : al_nd P E (n + 1)
  · obtain ⟨q, hq, hqn, -⟩ := hT.2.2.2.2 (n + 1) (by omega) hN
    have hq9 : q < 90 := Nat.lt_of_lt_of_le hqn.1 hE9
    have hne : ¬ al_isN σ 0 (nI (n + 1)) = 0 := fun h0 => ((al_isN_nI hE hE9 (by omega)).mp h0) (by rw [hP]; exact hN)
    have e0 : al_rg (σ.1 (2 * 0)) (nI (n + 1)) = nI q := by
      rw [show σ.1 (2 * 0) = P from hP, al_rg_lt (by omega)]
      exact hq
    intro p hp
    obtain ⟨h1, h2⟩ := h p hp
    rw [al_link1, if_neg hne]
    simp only [e0, al_set_1, al_rg_lt hq9]
    simp only [show ¬ (13 : Nat) = 17 by decide, show ¬ (13 : Nat) = 12 by decide, show ¬ (12 : Nat) = 17 by decide, show ¬ (12 : Nat) = 13 by decide, show ¬ (17 : Nat) = 12 by decide, show ¬ (17 : Nat) = 13 by decide, if_true, if_false]
    rw [al_rs_lt (show n + 1 < 90 by omega), al_rs_lt hq9, al_rs_lt hq9]
    by_cases hpq : p = q
    · subst hpq
      rw [hm, al_kd, if_pos ⟨hN.1, hq⟩]
      refine ⟨?_, ?_⟩
      · rw [al_upd_s]
        refine ⟨rfl, by omega, ?_⟩
        rw [al_upd_s]
        refine al_ch_congr _ _ (fun b hb => ?_) h1
        have := (al_kd_mem _ _ b).mp hb
        exact al_upd_n (by omega)
      · rw [al_upd_s, h2]
        simp only [List.length_cons]
        rw [nI_succ]
    · have hne2 : ¬ (n + 1 < E ∧ P (n + 1) = nI p) := fun h3 => hpq (al_nI_inj (by omega) (by omega) (h3.2.symm.trans hq))
      rw [hm, al_kd, if_neg hne2]
      rw [al_upd_n hpq, al_upd_n hpq]
      refine ⟨al_ch_congr _ _ (fun b hb => ?_) h1, h2⟩
      have := (al_kd_mem _ _ b).mp hb
      exact al_upd_n (by omega)
  · have h0 : al_isN σ 0 (nI (n + 1)) = 0 := (al_isN_nI hE hE9 (by omega)).mpr (by rw [hP]; exact hN)
    rw [al_link1_0 h0]
    intro p hp
    have hne2 : ¬ (n + 1 < E ∧ P (n + 1) = nI p) := fun h3 => hN ⟨h3.1, by rw [h3.2]; exact al_nI_m2 (by omega)⟩
    rw [hm, al_kd, if_neg hne2]
    exact h p hp
theorem al_linkL_I {P : Nat → Int32} {E : Nat} {d : Nat → Nat} (hT : al_TOK P E d) : ∀ (n : Nat) (σ : al_St), n ≤ 89 → σ.1 0 = P → σ.2.2.1 0 = nI E → al_lkI P E n σ → al_lkI P E 0 (al_linkL n σ)
  | 0, _, _, _, _, h => h
  | n + 1, σ, hn, hP, hE, h => by
    rw [al_linkL]
    have hf := al_link1_fr σ (nI (n + 1))
    exact al_linkL_I hT n _ (by omega) ((hf.2 0 (by decide) (by decide) (by decide)).trans hP) (by rw [hf.1]; exact hE) (al_link1_I hT hP hE (by omega) h)
/-- what linkChildren leaves -/
def al_kidsOK (P : Nat → Int32) (E : Nat) (σ : al_St) : Prop := ∀ p, p < 90 → al_ch (σ.1 13) (σ.1 12 p) (al_kids P E p) ∧ σ.1 17 p = nI (al_kids P E p).length
theorem al_linkC_fr (σ : al_St) : (al_linkC σ).2 = σ.2 ∧ ∀ j, j ≠ 12 → j ≠ 13 → j ≠ 17 → (al_linkC σ).1 j = σ.1 j := by
  obtain ⟨h1, h2⟩ := al_linkL_fr 89 (al_fillR (al_fillR (al_fillR σ 12 (-1)) 13 (-1)) 17 0)
  refine ⟨h1, fun j a b c => ?_⟩
  rw [al_linkC, h2 j a b c, al_fillR_1, if_neg c, al_fillR_1, if_neg b, al_fillR_1, if_neg a]
theorem al_linkC_I {P : Nat → Int32} {E : Nat} {d : Nat → Nat} {σ : al_St} (hT : al_TOK P E d) (hP : σ.1 0 = P) (hE : σ.2.2.1 0 = nI E) : al_kidsOK P E (al_linkC σ) := by
  have h0 : al_lkI P E 89 (al_fillR (al_fillR (al_fillR σ 12 (-1)) 13 (-1)) 17 0) := by
    intro p hp
    refine ⟨?_, ?_⟩
    · show al_fill 90 (-1) (σ.1 12) p = -1
      simp only [al_fill, hp, if_true]
    · show al_fill 90 0 (σ.1 17) p = nI 0
      simp only [al_fill, hp, if_true]
      rfl
  have h1 := al_linkL_I hT 89 (al_fillR (al_fillR (al_fillR σ 12 (-1)) 13 (-1)) 17 0) (Nat.le_refl _) hP hE h0
  rw [al_linkC]
  intro p hp
  exact h1 p hp
