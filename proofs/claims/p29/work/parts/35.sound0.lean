/-! isSound -/
theorem al_kd_snoc {P : Nat → Int32} {E p : Nat} : ∀ (m a : Nat), al_kd P E p (m + 1) a = al_kd P E p m a ++ (if a + m < E ∧ P (a + m) = nI p then [a + m] else [])
  | 0, a => by
    rw [al_kd, al_kd, al_kd, Nat.add_zero, List.nil_append]
  | m + 1, a => by
    rw [al_kd, al_kd_snoc m (a + 1), al_kd, show a + 1 + m = a + (m + 1) by omega]
    split <;> simp
theorem al_hl_snoc {f : Nat → Nat} {c : Nat} : ∀ (l : List Nat) (b : Nat) (d : Int32), (al_hl f (l ++ [c]) b d).1 = if f c + 1 ≤ (al_hl f l b d).1 then (al_hl f l b d).1 else f c + 1
  | [], b, d => by
    rw [List.nil_append, al_hl, al_hl]
    split
    · rfl
    · rw [al_hl]
  | a :: l, b, d => by
    rw [List.cons_append, al_hl, al_hl]
    split
    · exact al_hl_snoc l b d
    · exact al_hl_snoc l _ _
def al_k1 (P : Nat → Int32) (E v j : Nat) : Int32 := nI (al_kd P E v j 1).length
def al_k2 (P : Nat → Int32) (E v j : Nat) : Int32 := nI (1 + ((al_kd P E v j 1).map (al_S P E)).sum)
def al_k3 (P : Nat → Int32) (E v j : Nat) : Int32 := nI (al_hl (al_Hh P E) (al_kd P E v j 1) 0 (-1)).1
def al_lfv (P : Nat → Int32) (E v : Nat) : Int32 := if al_kids P E v = [] then 1 else 0
def al_ldv (P : Nat → Int32) (E : Nat) (d : Nat → Nat) (v : Nat) : Int32 := if al_kids P E v = [] then nI (al_ld P E d v) else 0
def al_wyv (P : Nat → Int32) (E v : Nat) : Int32 := if al_kids P E v = [] then nI (al_wy P E v) else 0
theorem al_kd_full {P : Nat → Int32} {E v : Nat} : ∀ (i m : Nat), E ≤ m + 1 → al_kd P E v (m + i) 1 = al_kd P E v m 1
  | 0, m, h => rfl
  | i + 1, m, h => by
    rw [← Nat.add_assoc, al_kd_snoc, if_neg (fun q => by omega), List.append_nil, al_kd_full i m h]
section ALIS
variable {τ : al_St} {E : Nat} {d : Nat → Nat} {q : List Nat}
theorem al_isv_in (hg : al_GG τ E d q) {v : Nat} (hv : al_nd (τ.1 0) E v) : al_isv τ (nI v) = 1 := by
  rw [al_isv, al_n1 hg hv, if_neg (nI_pos (by have := al_GG_dd hg v hv; omega))]
theorem al_isv_out (hg : al_GG τ E d q) {v : Nat} (h9 : v < 2 ^ 31) (hv : ¬ al_nd (τ.1 0) E v) : al_isv τ (nI v) = 0 := by
  rw [al_isv, al_node, if_pos (al_GG_out hg h9 hv), if_pos (by decide)]
theorem al_k_in {P : Nat → Int32} {v j : Nat} (h : j + 1 < E ∧ P (j + 1) = nI v) : al_k1 P E v (j + 1) = al_k1 P E v j + 1 ∧ al_k2 P E v (j + 1) = al_k2 P E v j + nI (al_S P E (j + 1)) ∧ (al_hl (al_Hh P E) (al_kd P E v (j + 1) 1) 0 (-1)).1 = if al_Hh P E (j + 1) + 1 ≤ (al_hl (al_Hh P E) (al_kd P E v j 1) 0 (-1)).1 then (al_hl (al_Hh P E) (al_kd P E v j 1) 0 (-1)).1 else al_Hh P E (j + 1) + 1 := by
  have e : al_kd P E v (j + 1) 1 = al_kd P E v j 1 ++ [j + 1] := by rw [al_kd_snoc, Nat.add_comm 1 j, if_pos h]
  refine ⟨?_, ?_, ?_⟩
  · rw [al_k1, al_k1, e, List.length_append]
    exact nI_succ _
  · rw [al_k2, al_k2, e, List.map_append, List.sum_append_nat, nI_add]
    congr 1
    simp only [List.map_cons, List.map_nil, List.sum_cons, List.sum_nil]
    omega
  · rw [e, al_hl_snoc]
theorem al_k_out {P : Nat → Int32} {v j : Nat} (h : ¬ (j + 1 < E ∧ P (j + 1) = nI v)) : al_k1 P E v (j + 1) = al_k1 P E v j + 0 ∧ al_k2 P E v (j + 1) = al_k2 P E v j + 0 ∧ al_k3 P E v (j + 1) = al_k3 P E v j := by
  have e : al_kd P E v (j + 1) 1 = al_kd P E v j 1 := by rw [al_kd_snoc, Nat.add_comm 1 j, if_neg h, List.append_nil]
  rw [al_k1, al_k1, al_k2, al_k2, al_k3, al_k3, e, Int32.add_zero, Int32.add_zero]
  exact ⟨rfl, rfl, rfl⟩
theorem al_k_lt (hg : al_GG τ E d q) {v j : Nat} (hv : al_nd (τ.1 0) E v) : (al_hl (al_Hh (τ.1 0) E) (al_kd (τ.1 0) E v j 1) 0 (-1)).1 ≤ 90 := by
  rcases al_hl_cases (f := al_Hh (τ.1 0) E) (al_kd (τ.1 0) E v j 1) 0 (-1) with ⟨h1, -⟩ | ⟨c, h1, h2, -⟩
  · rw [h1]; exact Nat.zero_le _
  · rw [h2]
    have hm := (al_kd_mem j 1 c).mp h1
    have hc : al_nd (τ.1 0) E c := ⟨hm.2.2.1, by rw [hm.2.2.2]; exact al_nI_m2 (by have := al_nd_lt hg.1 hv; omega)⟩
    have := al_Hh_lt hg.1 (al_GG_dd hg) hc
    show al_Hh (τ.1 0) E c + 1 ≤ 90
    omega
theorem al_k_le (hg : al_GG τ E d q) {v j : Nat} (hv : al_nd (τ.1 0) E v) (h : j + 1 < E ∧ τ.1 0 (j + 1) = nI v) (c : nI (al_Hh (τ.1 0) E (j + 1)) + 1 ≤ al_k3 (τ.1 0) E v j) : al_k3 (τ.1 0) E v (j + 1) = al_k3 (τ.1 0) E v j := by
  have hb := al_k_lt hg (j := j) hv
  have hn : al_nd (τ.1 0) E (j + 1) := ⟨h.1, by rw [h.2]; exact al_nI_m2 (by have := al_nd_lt hg.1 hv; omega)⟩
  have := al_Hh_lt hg.1 (al_GG_dd hg) hn
  rw [al_k3, nI_1] at c
  rw [al_k3, al_k3, (al_k_in h).2.2, if_pos ((nI_leI (by omega) (by omega)).mp c)]
theorem al_k_gt (hg : al_GG τ E d q) {v j : Nat} (hv : al_nd (τ.1 0) E v) (h : j + 1 < E ∧ τ.1 0 (j + 1) = nI v) (c : ¬ nI (al_Hh (τ.1 0) E (j + 1)) + 1 ≤ al_k3 (τ.1 0) E v j) : al_k3 (τ.1 0) E v (j + 1) = nI (al_Hh (τ.1 0) E (j + 1)) + 1 := by
  have hb := al_k_lt hg (j := j) hv
  rw [al_k3, nI_1] at c
  rw [al_k3, (al_k_in h).2.2, if_neg (fun h => c (nI_le h (by omega))), nI_1]
theorem al_kid_n0 (hg : al_GG τ E d q) {v k : Nat} (hv : al_nd (τ.1 0) E v) (h : k < E ∧ τ.1 0 k = nI v) : al_nd (τ.1 0) E k ∧ al_node τ (nI k) 0 = nI v := by
  have h9 := al_nd_lt hg.1 hv
  have hk := al_kids_nd hg.1 h9 ((al_kids_mem hg.1 h9).mpr h)
  refine ⟨hk.1, ?_⟩
  rw [al_n0 hg hk.1, if_neg hk.2.1, al_par_eq h.2 (by omega)]
theorem al_kid_ne (hg : al_GG τ E d q) {v k : Nat} (hv : al_nd (τ.1 0) E v) (hk : al_nd (τ.1 0) E k) (h : ¬ (k < E ∧ τ.1 0 k = nI v)) : ¬ al_node τ (nI k) 0 = nI v := by
  have h9 := al_nd_lt hg.1 hv
  rw [al_n0 hg hk]
  split
  · intro e
    have h1 := nI_pos (show v < 2 ^ 31 by omega)
    rw [← e] at h1
    exact h1 (by decide)
  · rename_i h0
    intro e
    exact h ⟨hk.1, (al_par_nd hg.1 hk h0).1.trans e⟩
theorem al_k_end (hg : al_GG τ E d q) {v j : Nat} (hv : al_nd (τ.1 0) E v) (hj : j + 1 = E) : al_k1 (τ.1 0) E v j = nI (al_kids (τ.1 0) E v).length ∧ al_k2 (τ.1 0) E v j = nI (al_S (τ.1 0) E v) ∧ al_k3 (τ.1 0) E v j = nI (al_Hh (τ.1 0) E v) := by
  have hE := hg.1.2.1
  have e : al_kids (τ.1 0) E v = al_kd (τ.1 0) E v j 1 := by
    rw [al_kids, show 89 = j + (89 - j) by omega]
    exact al_kd_full (89 - j) j (by omega)
  rw [al_k1, al_k2, al_k3, al_S_eq hg.1 (al_GG_dd hg) hv, al_Hh_eq hg.1 (al_GG_dd hg) hv, e]
  exact ⟨rfl, rfl, rfl⟩
theorem al_ns_in {P : Nat → Int32} {v : Nat} (h : P v ≠ -2) : al_ns P (v + 1) = al_ns P v ++ [v] := by rw [al_ns, if_neg h]
theorem al_ns_out {P : Nat → Int32} {v : Nat} (h : P v = -2) : al_ns P (v + 1) = al_ns P v := by rw [al_ns, if_pos h]
theorem al_dm_in {P : Nat → Int32} {v : Nat} (h : P v ≠ -2) : al_dm P d (v + 1) = if al_dm P d v < d v then d v else al_dm P d v := by rw [al_dm, if_neg h]
theorem al_dm_out {P : Nat → Int32} {v : Nat} (h : P v = -2) : al_dm P d (v + 1) = al_dm P d v := by rw [al_dm, if_pos h]
theorem al_dm_lt (hg : al_GG τ E d q) {v : Nat} (hv : v ≤ E) : al_dm (τ.1 0) d v < 90 := by
  rcases (al_dm_I (P := τ.1 0) (d := d) v).2 with h | ⟨u, h1, h2, h3⟩
  · rw [h]; omega
  · rw [h3]; exact al_GG_dd hg u ⟨by omega, h2⟩
/-- the long child, as the law looks at it -/
theorem al_long (hg : al_GG τ E d q) {v : Nat} (hv : al_nd (τ.1 0) E v) (hk : ¬ al_kids (τ.1 0) E v = []) : ∃ c, al_nd (τ.1 0) E c ∧ al_node τ (nI v) 5 = nI c ∧ al_node τ (nI c) 0 = nI v ∧ al_node τ (nI c) 2 = nI (al_Hh (τ.1 0) E c) ∧ nI (al_Hh (τ.1 0) E c) = nI (al_Hh (τ.1 0) E v) - 1 ∧ al_node τ (nI c) 6 = nI (al_Tp (τ.1 0) E v) ∧ al_node τ (nI c) 7 = nI (al_Ft (τ.1 0) E v) := by
  have hv9 := al_nd_lt hg.1 hv
  rcases al_L_cases hg.1 (al_GG_dd hg) hv with ⟨-, l2, -⟩ | ⟨c, l1, l2, l3⟩
  · exact absurd l2 hk
  · have hc := al_kids_nd hg.1 hv9 l1
    have hc9 := al_nd_lt hg.1 hc.1
    have hm := (al_kids_mem hg.1 hv9).mp l1
    have hp : al_par (τ.1 0) c = v := al_par_eq hm.2 (by omega)
    refine ⟨c, hc.1, ?_, (al_kid_n0 hg hv hm).2, al_n2 hg hc.1, by rw [l3, nI_pred], ?_, ?_⟩
    · rw [al_n5 hg hv, l2, al_orN, if_neg (al_nI_m1 (by omega))]
    · rw [al_n6 hg hc.1, al_Tp_eq hg.1 (al_GG_dd hg) hc.1, hp, if_pos ⟨hc.2.1, l2⟩]
    · rw [al_n7 hg hc.1, al_Ft_eq hg.1 (al_GG_dd hg) hv, l2, if_neg (al_nI_m1 (by omega)), nI_clamp (by omega)]
theorem al_leaf5 (hg : al_GG τ E d q) {v : Nat} (hv : al_nd (τ.1 0) E v) (hk : al_kids (τ.1 0) E v = []) : al_node τ (nI v) 5 = -5 := by
  rcases al_L_cases hg.1 (al_GG_dd hg) hv with ⟨l1, -, -⟩ | ⟨c, l1, -, -⟩
  · rw [al_n5 hg hv, l1]; rfl
  · rw [hk] at l1; exact absurd l1 List.not_mem_nil
theorem al_shape_small (hg : al_GG τ E d q) {v : Nat} (hv : al_nd (τ.1 0) E v) (hS : al_S (τ.1 0) E v ≤ 15) : (al_shape τ (nI v)).1 = nI (al_Sc (τ.1 0) E v) := by
  rw [al_shape_I hg (al_Rl.rf hg.2.2.2.2.2.2.2.2.2.2) hv, if_pos hS]
theorem al_shape_big (hg : al_GG τ E d q) {v : Nat} (hv : al_nd (τ.1 0) E v) (hS : ¬ al_S (τ.1 0) E v ≤ 15) : (al_shape τ (nI v)).1 = -5 := by
  rw [al_shape_I hg (al_Rl.rf hg.2.2.2.2.2.2.2.2.2.2) hv, if_neg hS]
theorem al_S_90 (hg : al_GG τ E d q) {v : Nat} (hv : al_nd (τ.1 0) E v) : al_S (τ.1 0) E v ≤ 90 := by
  have key : ∀ (m v : Nat), d v = m → al_nd (τ.1 0) E v → al_S (τ.1 0) E v ≤ al_S (τ.1 0) E 0 := by
    intro m
    induction m with
    | zero =>
      intro v hm hv
      rw [al_d0 hg.1 hv hm]
      exact Nat.le_refl _
    | succ m ih =>
      intro v hm hv
      have h0 : v ≠ 0 := fun e => by rw [e, hg.1.2.2.2.1] at hm; omega
      obtain ⟨p1, p2, p3⟩ := al_par_nd hg.1 hv h0
      have := al_S_kid hg.1 (al_GG_dd hg) p2 ((al_kids_mem hg.1 (al_nd_lt hg.1 p2)).mpr ⟨hv.1, p1⟩)
      have := ih _ (by omega) p2
      omega
  have h2 := key _ v rfl hv
  rw [al_S0 hg.1 hg.2.2.2.1] at h2
  have := hg.2.2.2.2.1.2.1
  omega
theorem al_Sc_facts (hg : al_GG τ E d q) {v : Nat} (hv : al_nd (τ.1 0) E v) (hS : al_S (τ.1 0) E v ≤ 15) : ¬ nI (al_Sc (τ.1 0) E v) = -5 ∧ ¬ nI (al_Sc (τ.1 0) E v) ≤ 0 ∧ nI (al_Sc (τ.1 0) E v) >>> ((2 * nI (al_S (τ.1 0) E v) - 1) &&& 31) = 1 ∧ nI (al_Sc (τ.1 0) E v) &&& 1 = 0 := by
  obtain ⟨h1, h2⟩ := al_Sc_bd hg.1 (al_GG_dd hg) _ v (Nat.le_refl _) hv
  have h3 := al_p30 hS
  have h4 := al_S_pos hg.1 (al_GG_dd hg) hv
  have hp : 0 < 2 ^ (2 * al_S (τ.1 0) E v - 1) := Nat.two_pow_pos _
  have hlt : al_Sc (τ.1 0) E v < 2 ^ 31 := by omega
  refine ⟨fun e => ?_, nI_nle (by omega) hlt, ?_, ?_⟩
  · have h := nI_pos hlt
    rw [e] at h
    exact h (by decide)
  · obtain ⟨s, hs⟩ : ∃ s, s = 2 * al_S (τ.1 0) E v - 1 := ⟨_, rfl⟩
    have e1 : 2 * nI (al_S (τ.1 0) E v) - 1 = nI s := by
      rw [show (2 : Int32) * nI (al_S (τ.1 0) E v) = nI (2 * al_S (τ.1 0) E v) from pk_mul 2 _, show 2 * al_S (τ.1 0) E v = s + 1 by omega, nI_pred]
    have e31 : nI s &&& 31 = nI s := by
      rw [pk_andN (m := 31) (by omega) 5 (by decide), Nat.mod_eq_of_lt (by omega)]
    have hsm : ((nI s).toBitVec.smod 32).toNat = s := by
      have : ∀ s, s < 32 → ((nI s).toBitVec.smod 32).toNat = s := by decide +kernel
      exact this s (by omega)
    rw [e1, e31, pk_shrN hlt _ s hsm]
    rw [← hs] at h1
    have e2 : 2 * al_S (τ.1 0) E v = s + 1 := by omega
    rw [e2, Nat.pow_succ] at h2
    have : al_Sc (τ.1 0) E v / 2 ^ s = 1 := Nat.div_eq_of_lt_le (by omega) (by omega)
    rw [this]
    rfl
  · rw [pk_andN (m := 1) (by omega) 1 (by decide), al_Sc_eq hg.1 (al_GG_dd hg) hv, Nat.pow_one, Nat.mul_mod_right]
    rfl
theorem al_one_le {x : Int32} (h : ¬ x < 1) : 1 ≤ x := by
  rw [Int32.le_iff_toInt_le]
  rw [Int32.lt_iff_toInt_lt] at h
  omega
/-! the counts, as the law sums them -/
theorem al_cnt0 (hg : al_GG τ E d q) : (al_count τ 0).1 = nI ((al_ns (τ.1 0) E).length) := by
  rw [al_count, if_pos rfl]
  show τ.2.2.1 9 = _
  rw [hg.2.2.2.2.1.1, (al_ns_perm hg.2.2.2.1).length_eq]
theorem al_cnt2' (hg : al_GG τ E d q) : al_cLv τ 90 0 0 = al_isum (al_lfv (τ.1 0) E) (al_ns (τ.1 0) E) := by
  rw [al_cLv_q, al_qL_I hg.2.2.2.2.1 90 0 0 (by omega) (Nat.zero_le _), List.drop_zero, Int32.zero_add, ← al_isum_perm (al_ns_perm hg.2.2.2.1)]
  refine al_isum_congr q (fun v hv => ?_)
  rw [al_isLf_I hg ((hg.2.2.2.1.2.1 v).mp hv), al_lfv]
  by_cases c : al_kids (τ.1 0) E v = []
  · rw [if_pos c]; rfl
  · rw [if_neg c]; rfl
theorem al_cnt2 (hg : al_GG τ E d q) : (al_count τ 2).1 = al_isum (al_lfv (τ.1 0) E) (al_ns (τ.1 0) E) := by
  rw [al_count, if_neg (by decide), if_neg (by decide), if_pos rfl]
  exact al_cnt2' hg
theorem al_cnt3 (hg : al_GG τ E d q) : (al_count τ 3).1 = al_isum (al_lfv (τ.1 0) E) (al_ns (τ.1 0) E) := by
  rw [al_count, if_neg (by decide), if_neg (by decide), if_neg (by decide), if_pos rfl]
  exact al_cnt2' hg
theorem al_cnt4 (hg : al_GG τ E d q) : (al_count τ 4).1 = al_isum (al_ldv (τ.1 0) E d) (al_ns (τ.1 0) E) := by
  rw [al_count, if_neg (by decide), if_neg (by decide), if_neg (by decide), if_neg (by decide), if_pos rfl]
  show al_cLd τ 90 0 0 = _
  rw [al_cLd_q, al_qL_I hg.2.2.2.2.1 90 0 0 (by omega) (Nat.zero_le _), List.drop_zero, Int32.zero_add, ← al_isum_perm (al_ns_perm hg.2.2.2.1)]
  refine al_isum_congr q (fun v hv => ?_)
  have hvn := (hg.2.2.2.1.2.1 v).mp hv
  rw [al_isLf_I hg hvn, al_ldv]
  by_cases c : al_kids (τ.1 0) E v = []
  · rw [if_pos c, if_pos c, if_neg (by decide), al_lad_I hg hvn]
  · rw [if_neg c, if_neg c]; rfl
theorem al_cnt6 (hg : al_GG τ E d q) : (al_count τ 6).1 = nI (al_dm (τ.1 0) d E) := by
  rw [al_count, if_neg (by decide), if_neg (by decide), if_neg (by decide), if_neg (by decide), if_neg (by decide), if_neg (by decide), if_pos rfl]
  show al_rg (τ.1 16) 0 = _
  rw [show (0 : Int32) = nI 0 from rfl, al_GG_16 hg (al_root_nd hg.1), al_deep hg.1 (al_GG_dd hg)]
theorem al_cntw (hg : al_GG τ E d q) : al_isum (al_wyv (τ.1 0) E) (al_ns (τ.1 0) E) = nI ((al_ns (τ.1 0) E).length) := by
  have e : al_isum (al_wyv (τ.1 0) E) (al_ns (τ.1 0) E) = al_isum (fun v => nI (if al_kids (τ.1 0) E v = [] then al_Hh (τ.1 0) E (al_Tp (τ.1 0) E v) + 1 else 0)) (al_ns (τ.1 0) E) := by
    refine al_isum_congr _ (fun v _ => ?_)
    rw [al_wyv]
    by_cases c : al_kids (τ.1 0) E v = []
    · rw [if_pos c, if_pos c]; rfl
    · rw [if_neg c, if_neg c]; rfl
  rw [e, ← al_isum_perm (al_ns_perm hg.2.2.2.1), al_isum_nI, al_ways hg.1 hg.2.2.2.1, (al_ns_perm hg.2.2.2.1).length_eq]
end ALIS
