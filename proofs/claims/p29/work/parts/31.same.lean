/-! shapes asked; kinds; two searches for the pair find the same; same trees answer the same -/
section ALQ
variable {τ σ : al_St} {E : Nat} {d : Nat → Nat} {q : List Nat}
theorem al_18_cmp (hg : al_GG τ E d q) {v : Nat} (hv : al_nd (τ.1 0) E v) : al_rg (τ.1 18) (nI v) ≤ 15 ↔ al_S (τ.1 0) E v ≤ 15 := by
  have hb : al_S (τ.1 0) E v ≤ 90 := by
    have key : ∀ (m v : Nat), d v = m → al_nd (τ.1 0) E v → al_S (τ.1 0) E v ≤ al_S (τ.1 0) E 0 := by
      intro m
      induction m with
      | zero =>
        intro v hm hv
        rw [al_d0 hg.1 hv hm]
        exact Nat.le_refl _
      | succ m ih =>
        intro v hm hv
        have h0 : v ≠ 0 := fun e => by rw [e, hg.1.2.2.2.1] at hm; omega
        obtain ⟨p1, p2, p3⟩ := al_par_nd hg.1 hv h0
        have := al_S_kid hg.1 (al_GG_dd hg) p2 ((al_kids_mem hg.1 (al_nd_lt hg.1 p2)).mpr ⟨hv.1, p1⟩)
        have := ih _ (by omega) p2
        omega
    have h2 := key _ v rfl hv
    rw [al_S0 hg.1 hg.2.2.2.1] at h2
    have := hg.2.2.2.2.1.2.1
    omega
  rw [al_GG_18 hg hv]
  exact nI_leI (a := al_S (τ.1 0) E v) (b := 15) (by omega) (by omega)
theorem al_shape_Rl (hg : al_GG τ E d q) (hR : al_Rl τ σ) (x : Int32) : al_Rl τ (al_shape σ x).2 := by
  rw [al_shape]
  split
  · exact hR
  · split
    · exact (al_write_I hg hR).2
    · exact hR
theorem al_alike_Rl (hg : al_GG τ E d q) (hR : al_Rl τ σ) (x : Int32) : al_Rl τ (al_alike σ x).2 := by
  rw [al_alike]
  split
  · exact hR
  · split
    · exact (al_write_I hg hR).2
    · exact hR
theorem al_shape_out (hg : al_GG τ E d q) (hR : al_Rl τ σ) {x : Int32} (h : al_isN τ 0 x = 0) : (al_shape σ x).1 = -1 := by
  rw [al_shape, hR.isN, if_pos h]
theorem al_alike_out (hg : al_GG τ E d q) (hR : al_Rl τ σ) {x : Int32} (h : al_isN τ 0 x = 0) : (al_alike σ x).1 = -1 := by
  rw [al_alike, hR.isN, if_pos h]
theorem al_shape_I (hg : al_GG τ E d q) (hR : al_Rl τ σ) {v : Nat} (hv : al_nd (τ.1 0) E v) : (al_shape σ (nI v)).1 = if al_S (τ.1 0) E v ≤ 15 then nI (al_Sc (τ.1 0) E v) else -5 := by
  have h9 := al_nd_lt hg.1 hv
  rw [al_shape, hR.isN, if_neg (al_GG_in hg hv), hR.1 18 (by decide)]
  by_cases c : al_S (τ.1 0) E v ≤ 15
  · rw [if_pos ((al_18_cmp hg hv).mpr c), if_pos c]
    show al_rg ((al_write σ).1 23) (nI v) = _
    rw [al_rg_lt h9, (al_write_I hg hR).1 v h9, if_pos ((hg.2.2.2.1.2.1 v).mpr hv), al_sv, if_pos c]
  · rw [if_neg (fun h => c ((al_18_cmp hg hv).mp h)), if_neg c]
theorem al_likeL_I {σ : al_St} {x : Int32} : ∀ (n k a : Nat), ∃ b, al_likeL σ x n k (nI a) = nI b ∧ a ≤ b ∧ b ≤ a + n ∧ ∀ j, k ≤ j → j < k + n → al_rg (σ.1 23) (nI j) = al_rg (σ.1 23) x → a < b
  | 0, k, a => ⟨a, rfl, Nat.le_refl _, Nat.le_refl _, fun j h1 h2 => absurd h1 (by omega)⟩
  | n + 1, k, a => by
    rw [al_likeL]
    split
    · rename_i h
      rw [nI_1]
      obtain ⟨b, b1, b2, b3, b4⟩ := al_likeL_I (σ := σ) (x := x) n (k + 1) (a + 1)
      exact ⟨b, b1, by omega, by omega, fun j _ _ _ => by omega⟩
    · rename_i h
      obtain ⟨b, b1, b2, b3, b4⟩ := al_likeL_I (σ := σ) (x := x) n (k + 1) a
      refine ⟨b, b1, by omega, by omega, fun j h1 h2 h3 => ?_⟩
      by_cases e : j = k
      · rw [e] at h3
        exact absurd h3 h
      · exact b4 j (by omega) (by omega) h3
theorem al_alike_I (hg : al_GG τ E d q) (hR : al_Rl τ σ) {v : Nat} (hv : al_nd (τ.1 0) E v) (hS : al_S (τ.1 0) E v ≤ 15) : ¬ (al_alike σ (nI v)).1 < 1 := by
  have h9 := al_nd_lt hg.1 hv
  rw [al_alike, hR.isN, if_neg (al_GG_in hg hv), hR.1 18 (by decide), if_pos ((al_18_cmp hg hv).mpr hS)]
  show ¬ al_likeL (al_write σ) (nI v) 90 0 0 < 1
  obtain ⟨b, b1, b2, b3, b4⟩ := al_likeL_I (σ := al_write σ) (x := nI v) 90 0 0
  have hb := b4 v (Nat.zero_le _) (by omega) rfl
  rw [show (0 : Int32) = nI 0 from rfl, b1]
  exact nI_nlt (a := b) (b := 1) hb (by omega)
/-! kinds -/
theorem al_rg_rs {f : Nat → Int32} {a b : Nat} {v : Int32} (ha : a < 2 ^ 31) (hb : b < 2 ^ 31) : al_rg (al_rs f (nI a) v) (nI b) = if a = b ∧ a < 90 then v else al_rg f (nI b) := by
  by_cases h : a < 90
  · rw [al_rs_lt h]
    by_cases e : a = b
    · subst e
      rw [if_pos ⟨rfl, h⟩, al_rg_lt h, al_upd_s]
    · rw [if_neg (fun q => e q.1)]
      by_cases h2 : b < 90
      · rw [al_rg_lt h2, al_rg_lt h2, al_upd_n (Ne.symm e)]
      · have h3 : (90 : Int32) ≤ nI b := nI_le (a := 90) (by omega) hb
        simp only [al_rg, nI_pos hb, h3, if_true, if_false]
  · have h3 : (90 : Int32) ≤ nI a := nI_le (a := 90) (by omega) ha
    rw [if_neg (fun q => h q.2)]
    simp only [al_rs, nI_pos ha, h3, if_true, if_false]
/-- the same shapes, as many kinds, the same table so far -/
def al_tb (K : Nat) (σ σ' : al_St) : Prop := (∀ k, k < 90 → al_rg (σ'.1 23) (nI k) = al_rg (σ.1 23) (nI k)) ∧ σ.2.2.1 12 = nI K ∧ σ'.2.2.1 12 = nI K ∧ ∀ j, j < K → al_rg (σ'.1 24) (nI j) = al_rg (σ.1 24) (nI j)
theorem al_enP_R {σ σ' : al_St} {v : Int32} : ∀ (n k : Nat), (∀ j, j < k + n → al_rg (σ'.1 24) (nI j) = al_rg (σ.1 24) (nI j)) → al_enP σ' v n k = al_enP σ v n k
  | 0, _, _ => rfl
  | n + 1, k, h => by rw [al_enP, al_enP, h k (by omega), al_enP_R n (k + 1) (fun j hj => h j (by omega))]
theorem al_enS_R {k K : Nat} (hK : K ≤ 90) : ∀ (n : Nat) (σ σ' : al_St), k + n ≤ K → (∀ j, j ≤ K → j ≠ k + n → al_rg (σ'.1 24) (nI j) = al_rg (σ.1 24) (nI j)) → (∀ j, j ≤ K → j ≠ k → al_rg ((al_enS k n σ').1 24) (nI j) = al_rg ((al_enS k n σ).1 24) (nI j)) ∧ (∀ j, j ≠ 24 → (al_enS k n σ).1 j = σ.1 j) ∧ (∀ j, j ≠ 24 → (al_enS k n σ').1 j = σ'.1 j)
  | 0, σ, σ', _, h => ⟨h, fun _ _ => rfl, fun _ _ => rfl⟩
  | n + 1, σ, σ', hn, h => by
    rw [al_enS, al_enS, show k + (n + 1) = (k + n) + 1 by omega, nI_pred]
    obtain ⟨g1, g2, g3⟩ := al_enS_R (k := k) hK n (al_set σ 24 (nI (k + n + 1)) (al_rg (σ.1 24) (nI (k + n)))) (al_set σ' 24 (nI (k + n + 1)) (al_rg (σ'.1 24) (nI (k + n)))) (by omega) (fun j hj hne => by
      rw [al_set_1, if_pos rfl, al_set_1, if_pos rfl, al_rg_rs (a := k + n + 1) (b := j) (by omega) (by omega), al_rg_rs (a := k + n + 1) (b := j) (by omega) (by omega), h (k + n) (by omega) (by omega)]
      by_cases e : k + n + 1 = j ∧ k + n + 1 < 90
      · rw [if_pos e, if_pos e]
      · rw [if_neg e, if_neg e]
        by_cases e2 : j = k + n + 1
        · have h90 : (90 : Int32) ≤ nI j := nI_le (a := 90) (by omega) (by omega)
          simp only [al_rg, nI_pos (show j < 2 ^ 31 by omega), h90, if_true, if_false]
        · exact h j hj (by omega))
    exact ⟨g1, fun j hj => (g2 j hj).trans (by rw [al_set_1, if_neg hj]), fun j hj => (g3 j hj).trans (by rw [al_set_1, if_neg hj])⟩
theorem al_enter_R {σ σ' : al_St} {v : Int32} {K : Nat} (hK : K < 90) (h : al_tb K σ σ') : ∃ K', K' ≤ K + 1 ∧ al_tb K' (al_enter σ v) (al_enter σ' v) := by
  obtain ⟨h1, h2, h3, h4⟩ := h
  have eK : (σ.2.2.1 12).toNatClampNeg = K := by rw [h2, nI_clamp (by omega)]
  have eK' : (σ'.2.2.1 12).toNatClampNeg = K := by rw [h3, nI_clamp (by omega)]
  have hP : al_enP σ' v K 0 = al_enP σ v K 0 := al_enP_R K 0 (fun j hj => h4 j (by omega))
  have hle := al_enP_le σ v K 0
  obtain ⟨k, hk⟩ : ∃ k, k = al_enP σ v K 0 := ⟨_, rfl⟩
  rw [← hk] at hP hle
  have key : ∃ K', K' ≤ K + 1 ∧ al_tb K' (al_en2 σ v k) (al_en2 σ' v k) := by
    obtain ⟨g1, g2, g3⟩ := al_enS_R (k := k) (K := K) (by omega) (K - k) σ σ' (by omega) (fun j hj hne => h4 j (by omega))
    have v1 := al_enS_V k (K - k) σ
    have v2 := al_enS_V k (K - k) σ'
    refine ⟨K + 1, Nat.le_refl _, fun i hi => ?_, ?_, ?_, fun j hj => ?_⟩
    · rw [al_en2, al_en2, al_sV_1, al_sV_1, al_set_1, al_set_1, if_neg (by decide), if_neg (by decide), eK, eK', g2 23 (by decide), g3 23 (by decide)]
      exact h1 i hi
    · rw [al_en2, al_sV_V, if_pos rfl, eK]
      show (al_enS k (K - k) σ).2.2.1 12 + 1 = _
      rw [v1, h2, nI_1]
    · rw [al_en2, al_sV_V, if_pos rfl, eK']
      show (al_enS k (K - k) σ').2.2.1 12 + 1 = _
      rw [v2, h3, nI_1]
    · rw [al_en2, al_en2, al_sV_1, al_sV_1, al_set_1, al_set_1, if_pos rfl, if_pos rfl, eK, eK', al_rg_rs (a := k) (b := j) (by omega) (by omega), al_rg_rs (a := k) (b := j) (by omega) (by omega)]
      by_cases e : k = j ∧ k < 90
      · rw [if_pos e, if_pos e]
      · rw [if_neg e, if_neg e]
        exact g1 j (by omega) (by omega)
  rw [al_enter, al_enter, eK, eK', hP, ← hk, al_en1, al_en1, h2, h3]
  by_cases c : nI K ≤ nI k
  · rw [if_pos c, if_pos c]
    exact key
  · rw [if_neg c, if_neg c]
    have hkK : k < K := Nat.lt_of_not_le fun h => c (nI_le h (by omega))
    rw [h4 k hkK]
    by_cases c2 : al_rg (σ.1 24) (nI k) = v
    · rw [if_pos c2, if_pos c2]
      exact ⟨K, by omega, h1, h2, h3, h4⟩
    · rw [if_neg c2, if_neg c2]
      exact key
theorem al_sortL_R : ∀ (n k : Nat) (σ σ' : al_St) (K : Nat), k + n = 90 → K ≤ k → al_tb K σ σ' → ∃ K', al_tb K' (al_sortL n k σ) (al_sortL n k σ')
  | 0, k, σ, σ', K, hk, hK, h => ⟨K, h⟩
  | n + 1, k, σ, σ', K, hk, hK, h => by
    rw [al_sortL, al_sortL, h.1 k (by omega)]
    split
    · exact al_sortL_R n (k + 1) _ _ K (by omega) (by omega) h
    · obtain ⟨K', h1, h2⟩ := al_enter_R (v := al_rg (σ.1 23) (nI k)) (by omega) h
      exact al_sortL_R n (k + 1) _ _ K' (by omega) (by omega) h2
theorem al_sort_R {σ σ' : al_St} (h : ∀ k, k < 90 → al_rg (σ'.1 23) (nI k) = al_rg (σ.1 23) (nI k)) : (al_sort σ').2.2.1 12 = (al_sort σ).2.2.1 12 := by
  obtain ⟨K', -, h2, h3, -⟩ := al_sortL_R 90 0 (al_sV σ 12 0) (al_sV σ' 12 0) 0 (by omega) (Nat.le_refl _) ⟨h, rfl, rfl, fun j hj => absurd hj (Nat.not_lt_zero _)⟩
  rw [al_sort, al_sort, h2, h3]
theorem al_sort_Rl {τ σ : al_St} (h : al_Rl τ σ) : al_Rl τ (al_sort σ) := by
  have s24 : ∀ (σ : al_St) (x v : Int32), al_Rl τ σ → al_Rl τ (al_set σ 24 x v) := fun σ x v h => ⟨fun j hj => by rw [al_set_1, if_neg (by omega)]; exact h.1 j hj, h.2.1, h.2.2.1, h.2.2.2.1, h.2.2.2.2⟩
  have s12 : ∀ (σ : al_St) (x : Int32), al_Rl τ σ → al_Rl τ (al_sV σ 12 x) := fun σ x h => ⟨h.1, h.2.1, fun k hk => by rw [al_sV_V, if_neg (by omega)]; exact h.2.2.1 k hk, h.2.2.2.1, h.2.2.2.2⟩
  have sS : ∀ (k n : Nat) (σ : al_St), al_Rl τ σ → al_Rl τ (al_enS k n σ) := by
    intro k n
    induction n with
    | zero => intro σ h; exact h
    | succ n ih => intro σ h; rw [al_enS]; exact ih _ (s24 _ _ _ h)
  have s2 : ∀ (σ : al_St) (v : Int32) (k : Nat), al_Rl τ σ → al_Rl τ (al_en2 σ v k) := fun σ v k h => by
    rw [al_en2]
    exact s12 _ _ (s24 _ _ _ (sS _ _ _ h))
  have sE : ∀ (σ : al_St) (v : Int32), al_Rl τ σ → al_Rl τ (al_enter σ v) := fun σ v h => by
    rw [al_enter, al_en1]
    split
    · exact s2 _ _ _ h
    · split
      · exact h
      · exact s2 _ _ _ h
  have sL : ∀ (n k : Nat) (σ : al_St), al_Rl τ σ → al_Rl τ (al_sortL n k σ) := by
    intro n
    induction n with
    | zero => intro k σ h; exact h
    | succ n ih =>
      intro k σ h
      rw [al_sortL]
      split
      · exact ih _ _ h
      · exact ih _ _ (sE _ _ h)
  exact sL 90 0 _ (s12 _ _ h)
/-! sums over the queue -/
def al_qL (σ : al_St) (F : Int32 → Int32) : Nat → Nat → Int32 → Int32
  | 0, _, a => a
  | n + 1, k, a => if σ.2.2.1 9 ≤ nI k then a else al_qL σ F n (k + 1) (a + F (al_rg (σ.1 14) (nI k)))
theorem al_cLv_q {σ : al_St} : ∀ (n k : Nat) (a : Int32), al_cLv σ n k a = al_qL σ (fun x => if al_isLf σ x = 0 then 0 else 1) n k a
  | 0, _, _ => rfl
  | n + 1, k, a => by
    rw [al_cLv, al_qL, al_cLv_q n (k + 1), al_cLv_q n (k + 1)]
    by_cases c : σ.2.2.1 9 ≤ nI k
    · rw [if_pos c, if_pos c]
    · rw [if_neg c, if_neg c]
      by_cases c2 : al_isLf σ (al_rg (σ.1 14) (nI k)) = 0
      · rw [if_pos c2]
        simp only [c2, if_true, Int32.add_zero]
      · rw [if_neg c2]
        simp only [c2, if_false]
theorem al_cLd_q {σ : al_St} : ∀ (n k : Nat) (a : Int32), al_cLd σ n k a = al_qL σ (fun x => if al_isLf σ x = 0 then 0 else al_lad σ x) n k a
  | 0, _, _ => rfl
  | n + 1, k, a => by
    rw [al_cLd, al_qL, al_cLd_q n (k + 1), al_cLd_q n (k + 1)]
    by_cases c : σ.2.2.1 9 ≤ nI k
    · rw [if_pos c, if_pos c]
    · rw [if_neg c, if_neg c]
      by_cases c2 : al_isLf σ (al_rg (σ.1 14) (nI k)) = 0
      · rw [if_pos c2]
        simp only [c2, if_true, Int32.add_zero]
      · rw [if_neg c2]
        simp only [c2, if_false]
theorem al_cJm_q {σ : al_St} : ∀ (n k : Nat) (a : Int32), al_cJm σ n k a = al_qL σ (fun x => if al_isLf σ x = 0 then 0 else al_jmpL (al_rg (σ.1 15) x) 7 0 0) n k a
  | 0, _, _ => rfl
  | n + 1, k, a => by
    rw [al_cJm, al_qL, al_cJm_q n (k + 1), al_cJm_q n (k + 1)]
    by_cases c : σ.2.2.1 9 ≤ nI k
    · rw [if_pos c, if_pos c]
    · rw [if_neg c, if_neg c]
      by_cases c2 : al_isLf σ (al_rg (σ.1 14) (nI k)) = 0
      · rw [if_pos c2]
        simp only [c2, if_true, Int32.add_zero]
      · rw [if_neg c2]
        simp only [c2, if_false]
theorem al_qL_I {σ : al_St} {F : Int32 → Int32} {q : List Nat} (hQ : al_Q σ q) : ∀ (n k : Nat) (a : Int32), k + n = 90 → k ≤ q.length → al_qL σ F n k a = a + al_isum (fun v => F (nI v)) (q.drop k)
  | 0, k, a, hk, hl => by
    have := hQ.2.1
    rw [al_qL, show k = q.length by omega, List.drop_length, al_isum, Int32.add_zero]
  | n + 1, k, a, hk, hl => by
    have hl9 := hQ.2.1
    rw [al_qL]
    by_cases hke : k = q.length
    · have hc : σ.2.2.1 9 ≤ nI k := by
        rw [hQ.1, hke]
        exact nI_le (Nat.le_refl _) (by omega)
      rw [if_pos hc, hke, List.drop_length, al_isum, Int32.add_zero]
    · have hc : ¬ σ.2.2.1 9 ≤ nI k := by
        rw [hQ.1]
        exact nI_ge (by omega) (by omega)
      have hlt : k < q.length := by omega
      have e1 : al_rg (σ.1 14) (nI k) = nI q[k] := by
        rw [al_rg_lt (by omega)]
        exact hQ.2.2 k _ (List.getElem?_eq_getElem hlt)
      rw [if_neg hc, e1, al_qL_I hQ n (k + 1) _ (by omega) (by omega), List.drop_eq_getElem_cons hlt, al_isum, Int32.add_assoc]
theorem al_isLf_I (hg : al_GG τ E d q) {v : Nat} (hv : al_nd (τ.1 0) E v) : al_isLf τ (nI v) = if al_kids (τ.1 0) E v = [] then 1 else 0 := by
  have hl := al_kd_len (P := τ.1 0) (E := E) (p := v) 89 1
  rw [al_isLf, al_GG_17 hg hv]
  by_cases c : al_kids (τ.1 0) E v = []
  · rw [if_pos c, c, if_pos (show nI ([] : List Nat).length = 0 from rfl)]
  · rw [if_neg c, if_neg (nI_ne0 (List.length_pos_iff.mpr c) (by rw [al_kids] at *; omega))]
end ALQ
