/-! what is answered of nodes -/
theorem al_isN_out {σ : al_St} {E : Nat} {v : Nat} (hE : σ.2.2.1 0 = nI E) (hE9 : E ≤ 90) (hv : v < 2 ^ 31) (h : ¬ al_nd (σ.1 0) E v) : al_isN σ 0 (nI v) = 0 := (al_isN_nI hE hE9 hv).mpr h
theorem al_isN_in {σ : al_St} {E : Nat} {v : Nat} (hE : σ.2.2.1 0 = nI E) (hE9 : E ≤ 90) (hv : v < 2 ^ 31) (h : al_nd (σ.1 0) E v) : ¬ al_isN σ 0 (nI v) = 0 := fun h2 => (al_isN_nI hE hE9 hv).mp h2 h
theorem al_min_nI {a b : Nat} (ha : a < 2 ^ 31) (hb : b < 2 ^ 31) : al_min (nI a) (nI b) = nI (if b < a then b else a) := by
  rw [al_min]
  by_cases h : b < a
  · rw [if_pos (nI_lt h ha), if_pos h]
  · rw [if_neg (nI_nlt (by omega) hb), if_neg h]
/-- the long way's length, the ladder's length -/
def al_wy (P : Nat → Int32) (E v : Nat) : Nat := al_Hh P E (al_Tp P E v) + 1
def al_ld (P : Nat → Int32) (E : Nat) (d : Nat → Nat) (v : Nat) : Nat := al_wy P E v + if d (al_Tp P E v) < al_wy P E v then d (al_Tp P E v) else al_wy P E v
section ALK
variable {σ : al_St} {E : Nat} {d : Nat → Nat} {q : List Nat}
theorem al_GG_dd (hg : al_GG σ E d q) : ∀ v, al_nd (σ.1 0) E v → d v < 90 := fun v hv => al_GG_d hg hv
theorem al_GG_in (hg : al_GG σ E d q) {v : Nat} (hv : al_nd (σ.1 0) E v) : ¬ al_isN σ 0 (nI v) = 0 := al_isN_in hg.2.1 hg.1.2.1 (by have := al_nd_lt hg.1 hv; omega) hv
theorem al_GG_out (hg : al_GG σ E d q) {v : Nat} (hv : v < 2 ^ 31) (h : ¬ al_nd (σ.1 0) E v) : al_isN σ 0 (nI v) = 0 := al_isN_out hg.2.1 hg.1.2.1 hv h
theorem al_GG_par (hg : al_GG σ E d q) {v : Nat} (hv : al_nd (σ.1 0) E v) (h0 : v ≠ 0) : al_rg (σ.1 (2 * 0)) (nI v) = nI (al_par (σ.1 0) v) := by
  rw [show σ.1 (2 * 0) = σ.1 0 from rfl, al_rg_lt (al_nd_lt hg.1 hv)]
  exact (al_par_nd hg.1 hv h0).1
theorem al_GG_root (hg : al_GG σ E d q) : al_rg (σ.1 (2 * 0)) (nI 0) = -1 := by
  rw [show σ.1 (2 * 0) = σ.1 0 from rfl, al_rg_lt (by omega)]
  exact hg.1.2.2.1
theorem al_GG_15 (hg : al_GG σ E d q) {v : Nat} (hv : al_nd (σ.1 0) E v) : al_rg (σ.1 15) (nI v) = nI (d v) := by
  rw [al_rg_lt (al_nd_lt hg.1 hv)]
  exact hg.2.2.2.2.2.2.1 v hv
theorem al_GG_16 (hg : al_GG σ E d q) {v : Nat} (hv : al_nd (σ.1 0) E v) : al_rg (σ.1 16) (nI v) = nI (al_Hh (σ.1 0) E v) := by
  rw [al_rg_lt (al_nd_lt hg.1 hv)]
  exact (hg.2.2.2.2.2.2.2.1 v hv).2.1
theorem al_GG_17 (hg : al_GG σ E d q) {v : Nat} (hv : al_nd (σ.1 0) E v) : al_rg (σ.1 17) (nI v) = nI (al_kids (σ.1 0) E v).length := by
  rw [al_rg_lt (al_nd_lt hg.1 hv)]
  exact (hg.2.2.2.2.2.1 v (al_nd_lt hg.1 hv)).2
theorem al_GG_18 (hg : al_GG σ E d q) {v : Nat} (hv : al_nd (σ.1 0) E v) : al_rg (σ.1 18) (nI v) = nI (al_S (σ.1 0) E v) := by
  rw [al_rg_lt (al_nd_lt hg.1 hv)]
  exact (hg.2.2.2.2.2.2.2.1 v hv).1
theorem al_GG_19 (hg : al_GG σ E d q) {v : Nat} (hv : al_nd (σ.1 0) E v) : al_rg (σ.1 19) (nI v) = al_L (σ.1 0) E v := by
  rw [al_rg_lt (al_nd_lt hg.1 hv)]
  exact (hg.2.2.2.2.2.2.2.1 v hv).2.2.1
theorem al_GG_20 (hg : al_GG σ E d q) {v : Nat} (hv : al_nd (σ.1 0) E v) : al_rg (σ.1 20) (nI v) = nI (al_Tp (σ.1 0) E v) := by
  rw [al_rg_lt (al_nd_lt hg.1 hv)]
  exact hg.2.2.2.2.2.2.2.2.1 v hv
theorem al_GG_21 (hg : al_GG σ E d q) {v : Nat} (hv : al_nd (σ.1 0) E v) : al_rg (σ.1 21) (nI v) = nI (al_Ft (σ.1 0) E v) := by
  rw [al_rg_lt (al_nd_lt hg.1 hv)]
  exact (hg.2.2.2.2.2.2.2.1 v hv).2.2.2
theorem al_GG_f6 (hg : al_GG σ E d q) {v : Nat} (hv : al_nd (σ.1 0) E v) : al_fg (σ.2.1 6) (nI v) = al_Pt (σ.1 0) (σ.2.1 0) v := by
  rw [al_fg_lt (al_nd_lt hg.1 hv)]
  exact hg.2.2.2.2.2.2.2.2.2.1 v hv
theorem al_way_I (hg : al_GG σ E d q) {v : Nat} (hv : al_nd (σ.1 0) E v) : al_way σ (nI v) = nI (al_wy (σ.1 0) E v) := by
  have ht := (al_Tp_I hg.1 (al_GG_dd hg) _ v rfl hv).1
  rw [al_way, al_GG_20 hg hv, al_GG_16 hg ht, nI_1]
  rfl
theorem al_wy_lt (hg : al_GG σ E d q) {v : Nat} (hv : al_nd (σ.1 0) E v) : al_wy (σ.1 0) E v ≤ 90 := by
  have ht := (al_Tp_I hg.1 (al_GG_dd hg) _ v rfl hv).1
  have := al_Hh_lt hg.1 (al_GG_dd hg) ht
  rw [al_wy]
  omega
theorem al_lad_I (hg : al_GG σ E d q) {v : Nat} (hv : al_nd (σ.1 0) E v) : al_lad σ (nI v) = nI (al_ld (σ.1 0) E d v) := by
  have ht := (al_Tp_I hg.1 (al_GG_dd hg) _ v rfl hv).1
  have h9 := al_wy_lt hg hv
  have hd9 := al_GG_dd hg _ ht
  rw [al_lad, al_way_I hg hv, al_GG_20 hg hv, al_GG_15 hg ht, al_min_nI (by omega) (by omega), nI_add]
  rfl
theorem al_ld_lt (hg : al_GG σ E d q) {v : Nat} (hv : al_nd (σ.1 0) E v) : al_ld (σ.1 0) E d v ≤ 180 := by
  have h9 := al_wy_lt hg hv
  rw [al_ld]
  split <;> omega
theorem al_n0 (hg : al_GG σ E d q) {v : Nat} (hv : al_nd (σ.1 0) E v) : al_node σ (nI v) 0 = if v = 0 then -5 else nI (al_par (σ.1 0) v) := by
  rw [al_node, if_neg (al_GG_in hg hv), if_pos rfl]
  by_cases h0 : v = 0
  · subst h0
    rw [al_GG_root hg, if_pos rfl]; rfl
  · rw [al_GG_par hg hv h0, if_neg h0, al_orN, if_neg (al_nI_m1 (by have := al_nd_lt hg.1 (al_par_nd hg.1 hv h0).2.1; omega))]
theorem al_n1 (hg : al_GG σ E d q) {v : Nat} (hv : al_nd (σ.1 0) E v) : al_node σ (nI v) 1 = nI (d v) := by
  rw [al_node, if_neg (al_GG_in hg hv), if_neg (by decide), if_pos rfl, al_GG_15 hg hv]
theorem al_n2 (hg : al_GG σ E d q) {v : Nat} (hv : al_nd (σ.1 0) E v) : al_node σ (nI v) 2 = nI (al_Hh (σ.1 0) E v) := by
  rw [al_node, if_neg (al_GG_in hg hv), if_neg (by decide), if_neg (by decide), if_pos rfl, al_GG_16 hg hv]
theorem al_n3 (hg : al_GG σ E d q) {v : Nat} (hv : al_nd (σ.1 0) E v) : al_node σ (nI v) 3 = nI (al_kids (σ.1 0) E v).length := by
  rw [al_node, if_neg (al_GG_in hg hv), if_neg (by decide), if_neg (by decide), if_neg (by decide), if_pos rfl, al_GG_17 hg hv]
theorem al_n4 (hg : al_GG σ E d q) {v : Nat} (hv : al_nd (σ.1 0) E v) : al_node σ (nI v) 4 = nI (al_S (σ.1 0) E v) := by
  rw [al_node, if_neg (al_GG_in hg hv), if_neg (by decide), if_neg (by decide), if_neg (by decide), if_neg (by decide), if_pos rfl, al_GG_18 hg hv]
theorem al_n5 (hg : al_GG σ E d q) {v : Nat} (hv : al_nd (σ.1 0) E v) : al_node σ (nI v) 5 = al_orN (al_L (σ.1 0) E v) := by
  rw [al_node, if_neg (al_GG_in hg hv), if_neg (by decide), if_neg (by decide), if_neg (by decide), if_neg (by decide), if_neg (by decide), if_pos rfl, al_GG_19 hg hv]
theorem al_n6 (hg : al_GG σ E d q) {v : Nat} (hv : al_nd (σ.1 0) E v) : al_node σ (nI v) 6 = nI (al_Tp (σ.1 0) E v) := by
  rw [al_node, if_neg (al_GG_in hg hv), if_neg (by decide), if_neg (by decide), if_neg (by decide), if_neg (by decide), if_neg (by decide), if_neg (by decide), if_pos rfl, al_GG_20 hg hv]
theorem al_n7 (hg : al_GG σ E d q) {v : Nat} (hv : al_nd (σ.1 0) E v) : al_node σ (nI v) 7 = nI (al_Ft (σ.1 0) E v) := by
  rw [al_node, if_neg (al_GG_in hg hv), if_neg (by decide), if_neg (by decide), if_neg (by decide), if_neg (by decide), if_neg (by decide), if_neg (by decide), if_neg (by decide), if_pos rfl, al_GG_21 hg hv]
theorem al_n8 (hg : al_GG σ E d q) {v : Nat} (hv : al_nd (σ.1 0) E v) : al_node σ (nI v) 8 = nI (al_wy (σ.1 0) E v) := by
  rw [al_node, if_neg (al_GG_in hg hv), if_neg (by decide), if_neg (by decide), if_neg (by decide), if_neg (by decide), if_neg (by decide), if_neg (by decide), if_neg (by decide), if_neg (by decide), if_pos rfl, al_way_I hg hv]
theorem al_n9 (hg : al_GG σ E d q) {v : Nat} (hv : al_nd (σ.1 0) E v) : al_node σ (nI v) 9 = nI (al_ld (σ.1 0) E d v) := by
  rw [al_node, if_neg (al_GG_in hg hv), if_neg (by decide), if_neg (by decide), if_neg (by decide), if_neg (by decide), if_neg (by decide), if_neg (by decide), if_neg (by decide), if_neg (by decide), if_neg (by decide), if_pos rfl, al_lad_I hg hv]
/-- ancestors, step by step -/
theorem al_cl_I (hg : al_GG σ E d q) {v k : Nat} (hv : al_nd (σ.1 0) E v) (hk : k ≤ d v) : al_cl σ (nI v) (nI k) = nI (al_up (σ.1 0) k v) := by
  have := al_GG_dd hg v hv
  rw [al_cl, nI_clamp (by omega), al_climb_I hg.1 rfl k v hv, if_pos hk]
theorem al_anc_I (hg : al_GG σ E d q) {v k : Nat} (hv : al_nd (σ.1 0) E v) (hk : k ≤ d v) : al_anc σ (nI v) (nI k) = nI (al_up (σ.1 0) k v) := by
  have := al_GG_dd hg v hv
  rw [al_anc, if_neg (al_GG_in hg hv), if_pos (nI_pos' (by omega)), al_GG_15 hg hv, if_pos (nI_le hk (by omega)), al_cl_I hg hv hk]
theorem al_anc_far (hg : al_GG σ E d q) {v : Nat} (hv : al_nd (σ.1 0) E v) : al_anc σ (nI v) (nI (d v + 1)) = -5 := by
  have := al_GG_dd hg v hv
  rw [al_anc, if_neg (al_GG_in hg hv), if_pos (nI_pos' (by omega)), al_GG_15 hg hv, if_neg (nI_ge (by omega) (by omega))]
theorem al_lks_far (hg : al_GG σ E d q) {v : Nat} (hv : al_nd (σ.1 0) E v) : al_lks σ (nI v) (nI (d v + 1)) = -5 := by
  have := al_GG_dd hg v hv
  rw [al_lks, if_neg (al_GG_in hg hv), if_pos (nI_pos' (by omega)), al_GG_15 hg hv, if_neg (nI_ge (by omega) (by omega))]
theorem al_lks_0 (hg : al_GG σ E d q) {v : Nat} (hv : al_nd (σ.1 0) E v) : al_lks σ (nI v) 0 = 0 := by
  have := al_GG_dd hg v hv
  rw [al_lks, if_neg (al_GG_in hg hv), if_pos (by decide), al_GG_15 hg hv, if_pos (show (0 : Int32) ≤ nI (d v) from nI_pos' (by omega)), al_looks, if_pos rfl]
theorem al_lks_I (hg : al_GG σ E d q) {v k : Nat} (hv : al_nd (σ.1 0) E v) (hk : k ≤ d v) (h1 : 1 ≤ k) : al_lks σ (nI v) (nI k) = 1 ∨ al_lks σ (nI v) (nI k) = 2 ∨ al_lks σ (nI v) (nI k) = 3 := by
  have := al_GG_dd hg v hv
  rw [al_lks, if_neg (al_GG_in hg hv), if_pos (nI_pos' (by omega)), al_GG_15 hg hv, if_pos (nI_le hk (by omega)), al_looks, if_neg (nI_ne0 (by omega) (by omega))]
  split
  · split
    · exact Or.inr (Or.inl rfl)
    · exact Or.inr (Or.inr rfl)
  · exact Or.inl rfl
theorem al_up_par (hg : al_GG σ E d q) {v k : Nat} (hv : al_nd (σ.1 0) E v) (hk : k + 1 ≤ d v) : al_node σ (nI (al_up (σ.1 0) k v)) 0 = nI (al_up (σ.1 0) (k + 1) v) := by
  obtain ⟨h1, h2⟩ := al_up_nd hg.1 k v hv (by omega)
  rw [al_n0 hg h1, if_neg, al_up_s]
  intro e
  rw [e, hg.1.2.2.2.1] at h2
  omega
theorem al_up_root (hg : al_GG σ E d q) {v : Nat} (hv : al_nd (σ.1 0) E v) : al_up (σ.1 0) (d v) v = 0 := by
  obtain ⟨h1, h2⟩ := al_up_nd hg.1 (d v) v hv (Nat.le_refl _)
  exact al_d0 hg.1 h1 (by omega)
/-- feet and ladders -/
theorem al_Ft_I (hT : al_TOK (σ.1 0) E d) (hd : ∀ v, al_nd (σ.1 0) E v → d v < 90) : ∀ (m v : Nat), al_Hh (σ.1 0) E v = m → al_nd (σ.1 0) E v → al_nd (σ.1 0) E (al_Ft (σ.1 0) E v) ∧ d (al_Ft (σ.1 0) E v) = d v + al_Hh (σ.1 0) E v ∧ al_up (σ.1 0) (al_Hh (σ.1 0) E v) (al_Ft (σ.1 0) E v) = v := by
  intro m
  induction m with
  | zero =>
    intro v hm hv
    rcases al_L_cases hT hd hv with ⟨l1, -, -⟩ | ⟨c, -, -, l3⟩
    · rw [al_Ft_eq hT hd hv, if_pos l1, hm]
      exact ⟨hv, rfl, rfl⟩
    · omega
  | succ m ih =>
    intro v hm hv
    rcases al_L_cases hT hd hv with ⟨-, -, l3⟩ | ⟨c, l1, l2, l3⟩
    · omega
    · have hc := al_kids_nd hT (al_nd_lt hT hv) l1
      have hc9 := al_nd_lt hT hc.1
      obtain ⟨i1, i2, i3⟩ := ih c (by omega) hc.1
      have e : al_Ft (σ.1 0) E v = al_Ft (σ.1 0) E c := by
        rw [al_Ft_eq hT hd hv, l2, if_neg (al_nI_m1 (by omega)), nI_clamp (by omega)]
      rw [e]
      refine ⟨i1, by omega, ?_⟩
      rw [l3, al_up_s, i3]
      exact al_par_eq ((al_kids_mem hT (al_nd_lt hT hv)).mp l1).2 (by have := al_nd_lt hT hv; omega)
theorem al_lad_le (hg : al_GG σ E d q) {v : Nat} (hv : al_nd (σ.1 0) E v) : al_ld (σ.1 0) E d v ≤ d (al_Ft (σ.1 0) E v) + 1 := by
  obtain ⟨t1, t2, t3⟩ := al_Tp_I hg.1 (al_GG_dd hg) _ v rfl hv
  obtain ⟨f1, f2, f3⟩ := al_Ft_I hg.1 (al_GG_dd hg) _ v rfl hv
  rw [al_ld, al_wy]
  split <;> omega
theorem al_ladAt_I (hg : al_GG σ E d q) {v k : Nat} (hv : al_nd (σ.1 0) E v) (hk : k < al_ld (σ.1 0) E d v) : al_ladAt σ (nI v) (nI k) = nI (al_up (σ.1 0) k (al_Ft (σ.1 0) E v)) := by
  have h9 := al_ld_lt hg hv
  obtain ⟨f1, f2, f3⟩ := al_Ft_I hg.1 (al_GG_dd hg) _ v rfl hv
  have := al_lad_le hg hv
  rw [al_ladAt, if_neg (al_GG_in hg hv), if_pos (nI_pos' (by omega)), al_lad_I hg hv, if_pos (nI_lt hk (by omega)), al_GG_21 hg hv, al_cl_I hg f1 (by omega)]
theorem al_ladAt_far (hg : al_GG σ E d q) {v : Nat} (hv : al_nd (σ.1 0) E v) : al_ladAt σ (nI v) (nI (al_ld (σ.1 0) E d v)) = -5 := by
  have h9 := al_ld_lt hg hv
  rw [al_ladAt, if_neg (al_GG_in hg hv), if_pos (nI_pos' (by omega)), al_lad_I hg hv, if_neg (nI_nlt (Nat.le_refl _) (by omega))]
end ALK
/-! meetings -/
def al_com (P : Nat → Int32) (E : Nat) (d : Nat → Nat) (x y m : Nat) : Prop := (al_nd P E m ∧ al_br P d m x ∧ al_br P d m y) ∧ ∀ c, al_nd P E c → al_br P d c x → al_br P d c y → d c ≤ d m
section ALM
variable {P : Nat → Int32} {E : Nat} {d : Nat → Nat}
theorem al_com_one {x y m m' : Nat} (h : al_com P E d x y m) (h' : al_com P E d x y m') : m = m' := by
  have h1 := h.2 m' h'.1.1 h'.1.2.1 h'.1.2.2
  have h2 := h'.2 m h.1.1 h.1.2.1 h.1.2.2
  have e : d m = d m' := by omega
  have e1 := h.1.2.1.2
  have e2 := h'.1.2.1.2
  rw [e] at e1
  exact e1.symm.trans e2
theorem al_com_sym {x y m : Nat} (h : al_com P E d x y m) : al_com P E d y x m := ⟨⟨h.1.1, h.1.2.2, h.1.2.1⟩, fun c h1 h2 h3 => h.2 c h1 h3 h2⟩
theorem al_br_self {x : Nat} : al_br P d x x := ⟨Nat.le_refl _, by rw [Nat.sub_self]; rfl⟩
theorem al_br_up (hT : al_TOK P E d) {c x k : Nat} (hx : al_nd P E x) (hk : k ≤ d x) (hc : d c ≤ d x - k) : al_br P d c x ↔ al_br P d c (al_up P k x) := by
  obtain ⟨-, h2⟩ := al_up_nd hT k x hx hk
  have e : d x - d c = k + (d (al_up P k x) - d c) := by omega
  unfold al_br
  rw [e, al_up_add]
  exact ⟨fun h => ⟨by omega, h.2⟩, fun h => ⟨by omega, h.2⟩⟩
theorem al_br_root (hT : al_TOK P E d) {x : Nat} (hx : al_nd P E x) : al_br P d 0 x := by
  obtain ⟨h1, h2⟩ := al_up_nd hT (d x) x hx (Nat.le_refl _)
  refine ⟨by rw [hT.2.2.2.1]; omega, ?_⟩
  rw [hT.2.2.2.1, Nat.sub_zero]
  exact al_d0 hT h1 (by omega)
theorem al_com_up (hT : al_TOK P E d) {x y m k : Nat} (hx : al_nd P E x) (hk : k ≤ d x) (hy : d y ≤ d x - k) (h : al_com P E d (al_up P k x) y m) : al_com P E d x y m := by
  obtain ⟨⟨h1, h2, h3⟩, h4⟩ := h
  have h5 := h3.1
  exact ⟨⟨h1, (al_br_up hT hx hk (by omega)).mpr h2, h3⟩, fun c c1 c2 c3 => h4 c c1 ((al_br_up hT hx hk (by have := c3.1; omega)).mp c2) c3⟩
theorem al_meetL_I {σ : al_St} (hT : al_TOK P E d) (hP : σ.1 0 = P) : ∀ (n a b : Nat), al_nd P E a → al_nd P E b → d a = d b → d a < n → ∃ m, al_meetL σ n (nI a) (nI b) = nI m ∧ al_com P E d a b m
  | 0, a, b, ha, hb, he, hn => absurd hn (Nat.not_lt_zero _)
  | n + 1, a, b, ha, hb, he, hn => by
    have ha9 := al_nd_lt hT ha
    have hb9 := al_nd_lt hT hb
    rw [al_meetL]
    by_cases e : a = b
    · subst e
      rw [if_pos rfl]
      exact ⟨a, rfl, ⟨ha, al_br_self, al_br_self⟩, fun c _ h _ => h.1⟩
    · rw [if_neg (fun h => e (al_nI_inj (by omega) (by omega) h))]
      have ha0 : a ≠ 0 := fun h => e (by
        rw [h, hT.2.2.2.1] at he
        rw [h, al_d0 hT hb he.symm])
      have hb0 : b ≠ 0 := fun h => e (by
        rw [h, hT.2.2.2.1] at he
        rw [h, al_d0 hT ha he])
      obtain ⟨p1, p2, p3⟩ := al_par_nd hT ha ha0
      obtain ⟨r1, r2, r3⟩ := al_par_nd hT hb hb0
      have ea : al_rg (σ.1 (2 * 0)) (nI a) = nI (al_par P a) := by
        rw [show σ.1 (2 * 0) = P from hP, al_rg_lt ha9]; exact p1
      have eb : al_rg (σ.1 (2 * 0)) (nI b) = nI (al_par P b) := by
        rw [show σ.1 (2 * 0) = P from hP, al_rg_lt hb9]; exact r1
      rw [ea, eb]
      obtain ⟨m, h1, ⟨h2, h3, h4⟩, h5⟩ := al_meetL_I hT hP n (al_par P a) (al_par P b) p2 r2 (by omega) (by omega)
      have hma : a ≠ m := fun h => by
        have := h3.1
        rw [← h] at this
        omega
      have hmb : b ≠ m := fun h => by
        have := h4.1
        rw [← h] at this
        omega
      refine ⟨m, h1, ⟨h2, (al_br_par hT ha ha0 hma).mpr h3, (al_br_par hT hb hb0 hmb).mpr h4⟩, fun c c1 c2 c3 => ?_⟩
      have hca : a ≠ c := fun h => by
        subst h
        have := c3.2
        rw [he, Nat.sub_self] at this
        exact e this.symm
      have hcb : b ≠ c := fun h => by
        subst h
        have := c2.2
        rw [he, Nat.sub_self] at this
        exact e this
      exact h5 c c1 ((al_br_par hT ha ha0 hca).mp c2) ((al_br_par hT hb hb0 hcb).mp c3)
theorem al_cl_dif {σ : al_St} (hT : al_TOK P E d) (hP : σ.1 0 = P) (hd : ∀ v, al_nd P E v → d v < 90) {x y : Nat} (hx : al_nd P E x) (hy : al_nd P E y) : al_cl σ (nI x) (nI (d x) - nI (d y)) = nI (al_up P (d x - d y) x) := by
  have := hd x hx
  have := hd y hy
  rw [al_cl, al_dif (by omega) (by omega), al_climb_I hT hP _ x hx, if_pos (show d x - d y ≤ d x from Nat.sub_le _ _)]
theorem al_meet_I {σ : al_St} {q : List Nat} (hg : al_GG σ E d q) {x y : Nat} (hx : al_nd (σ.1 0) E x) (hy : al_nd (σ.1 0) E y) : ∃ m, al_meet σ (nI x) (nI y) = nI m ∧ al_com (σ.1 0) E d x y m := by
  have hd := al_GG_dd hg
  rw [al_meet, al_GG_15 hg hx, al_GG_15 hg hy, al_cl_dif hg.1 rfl hd hx hy, al_cl_dif hg.1 rfl hd hy hx]
  obtain ⟨u1, u2⟩ := al_up_nd hg.1 (d x - d y) x hx (Nat.sub_le _ _)
  obtain ⟨w1, w2⟩ := al_up_nd hg.1 (d y - d x) y hy (Nat.sub_le _ _)
  have := hd x hx
  have := hd y hy
  obtain ⟨m, h1, h2⟩ := al_meetL_I hg.1 rfl 90 _ _ u1 w1 (by omega) (by omega)
  refine ⟨m, h1, ?_⟩
  rcases Nat.le_total (d y) (d x) with hle | hle
  · have e : d y - d x = 0 := by omega
    rw [e] at h2
    exact al_com_up hg.1 hx (Nat.sub_le _ _) (by omega) h2
  · have e : d x - d y = 0 := by omega
    rw [e] at h2
    exact al_com_sym (al_com_up hg.1 hy (Nat.sub_le _ _) (by omega) (al_com_sym h2))
end ALM
