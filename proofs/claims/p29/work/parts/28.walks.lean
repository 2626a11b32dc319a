/-! ways there and back; what the queries leave; distances, the farthest ones -/
/-- all but what the queries write is as it was -/
def al_Rl (τ σ : al_St) : Prop := (∀ j, j < 22 ∨ j = 25 → σ.1 j = τ.1 j) ∧ (∀ j, j ≠ 7 → σ.2.1 j = τ.2.1 j) ∧ (∀ k, k < 10 → σ.2.2.1 k = τ.2.2.1 k) ∧ σ.2.2.2 = τ.2.2.2 ∧ al_FB σ
theorem al_Rl.rf {σ : al_St} (h : al_FB σ) : al_Rl σ σ := ⟨fun _ _ => rfl, fun _ _ => rfl, fun _ _ => rfl, rfl, h⟩
theorem al_Rl.tr {a b c : al_St} (h1 : al_Rl a b) (h2 : al_Rl b c) : al_Rl a c := ⟨fun j x => (h2.1 j x).trans (h1.1 j x), fun j x => (h2.2.1 j x).trans (h1.2.1 j x), fun j x => (h2.2.2.1 j x).trans (h1.2.2.1 j x), h2.2.2.2.1.trans h1.2.2.2.1, h2.2.2.2.2⟩
theorem al_Rl.td {τ σ : al_St} (h : al_Rl τ σ) {t : Nat} (ht : t < 6) : al_td σ t = al_td τ t := al_td_of (h.1 _ (by omega)) (h.1 _ (by omega)) (h.2.1 _ (by omega)) (h.2.2.1 _ (by omega))
theorem al_Rl.GG {τ σ : al_St} (h : al_Rl τ σ) {E : Nat} {d : Nat → Nat} {q : List Nat} (hg : al_GG τ E d q) : al_GG σ E d q :=
  al_GG_congr (h.1 0 (by decide)) (fun j _ hj => h.1 j (Or.inl hj)) (h.2.1 0 (by decide)) (h.2.1 6 (by decide)) (h.2.2.1 0 (by decide)) (h.2.2.1 9 (by decide)) h.2.2.2.2 hg
theorem al_Rl.gw {τ σ : al_St} (h : al_Rl τ σ) (hg : al_gw τ) : al_gw σ := by
  obtain ⟨⟨h1, h2, h3, h4⟩, E, d, q, hq⟩ := hg
  refine ⟨⟨fun t ht => by rw [h.td ht]; exact h1 t ht, by rw [h.2.2.1 7 (by decide)]; exact h2, fun j hj => by rw [h.2.2.2.1]; exact h3 j hj, h.2.2.2.2⟩, E, d, q, h.GG hq⟩
section ALR
variable {τ σ : al_St}
theorem al_Rl.isN (h : al_Rl τ σ) (x : Int32) : al_isN σ 0 x = al_isN τ 0 x := by
  rw [al_isN, al_isN, h.2.2.1 0 (by decide), h.1 (2 * 0) (by decide)]
theorem al_Rl.climb (h : al_Rl τ σ) : ∀ (n : Nat) (a : Int32), al_climb σ n a = al_climb τ n a
  | 0, _ => rfl
  | n + 1, a => by rw [al_climb, al_climb, h.1 (2 * 0) (by decide), al_Rl.climb h n]
theorem al_Rl.cl (h : al_Rl τ σ) (x y : Int32) : al_cl σ x y = al_cl τ x y := h.climb _ _
theorem al_Rl.meetL (h : al_Rl τ σ) : ∀ (n : Nat) (a b : Int32), al_meetL σ n a b = al_meetL τ n a b
  | 0, _, _ => rfl
  | n + 1, a, b => by rw [al_meetL, al_meetL, h.1 (2 * 0) (by decide), al_Rl.meetL h n]
theorem al_Rl.meet (h : al_Rl τ σ) (x y : Int32) : al_meet σ x y = al_meet τ x y := by
  rw [al_meet, al_meet, h.1 15 (by decide), h.cl, h.cl, h.meetL]
theorem al_Rl.way (h : al_Rl τ σ) (x : Int32) : al_way σ x = al_way τ x := by
  rw [al_way, al_way, h.1 16 (by decide), h.1 20 (by decide)]
theorem al_Rl.lad (h : al_Rl τ σ) (x : Int32) : al_lad σ x = al_lad τ x := by
  rw [al_lad, al_lad, h.way, h.1 15 (by decide), h.1 20 (by decide)]
theorem al_Rl.node (h : al_Rl τ σ) (x w : Int32) : al_node σ x w = al_node τ x w := by
  rw [al_node, al_node, h.isN, h.1 (2 * 0) (by decide), h.1 15 (by decide), h.1 16 (by decide), h.1 17 (by decide), h.1 18 (by decide), h.1 19 (by decide), h.1 20 (by decide), h.1 21 (by decide), h.way, h.lad]
theorem al_Rl.anc (h : al_Rl τ σ) (x y : Int32) : al_anc σ x y = al_anc τ x y := by
  rw [al_anc, al_anc, h.isN, h.1 15 (by decide), h.cl]
theorem al_Rl.lks (h : al_Rl τ σ) (x y : Int32) : al_lks σ x y = al_lks τ x y := by
  rw [al_lks, al_lks, h.isN, h.1 15 (by decide), al_looks, al_looks, h.lad, h.1 16 (by decide)]
theorem al_Rl.ladAt (h : al_Rl τ σ) (x y : Int32) : al_ladAt σ x y = al_ladAt τ x y := by
  rw [al_ladAt, al_ladAt, h.isN, h.1 21 (by decide), h.cl, h.lad]
theorem al_Rl.mtg (h : al_Rl τ σ) (x y : Int32) : al_mtg σ x y = al_mtg τ x y := by
  rw [al_mtg, al_mtg, h.isN, h.isN, h.meet]
theorem al_Rl.wayAt (h : al_Rl τ σ) (x y z : Int32) : al_wayAt σ x y z = al_wayAt τ x y z := by
  rw [al_wayAt, al_wayAt, h.isN, h.isN, al_onWay, al_onWay, h.1 15 (by decide), h.meet, h.cl, h.cl]
theorem al_Rl.dist (h : al_Rl τ σ) (x y : Int32) : al_dist σ x y = al_dist τ x y := by
  rw [al_dist, al_dist, h.isN, h.isN, h.2.1 6 (by decide), h.meet]
theorem al_Rl.real (h : al_Rl τ σ) (x w : Int32) : al_real σ x w = al_real τ x w := by
  rw [al_real, al_real, h.isN, h.2.1 0 (by decide), h.2.1 6 (by decide)]
theorem al_Rl.hwL (h : al_Rl τ σ) (w g : UInt32) : ∀ (n : Nat) (a : Int32), al_hwL σ w g n a = al_hwL τ w g n a
  | 0, _ => rfl
  | n + 1, a => by rw [al_hwL, al_hwL, h.1 (2 * 0) (by decide), h.2.1 6 (by decide), al_Rl.hwL h w g n]
theorem al_Rl.reach (h : al_Rl τ σ) (x b : Int32) : al_reach σ x b = al_reach τ x b := by
  rw [al_reach, al_reach, h.isN, h.2.1 6 (by decide), h.hwL]
end ALR
/-- the k-th node on the way from x to y, m their meeting -/
def al_wp (P : Nat → Int32) (d : Nat → Nat) (x y m z : Nat) : Nat := if d x - d m < z then al_up P ((d x - d m) + (d y - d m) - z) y else al_up P z x
section ALP
variable {σ : al_St} {E : Nat} {d : Nat → Nat} {q : List Nat}
theorem al_meet_of (hg : al_GG σ E d q) {x y m : Nat} (hx : al_nd (σ.1 0) E x) (hy : al_nd (σ.1 0) E y) (hm : al_com (σ.1 0) E d x y m) : al_meet σ (nI x) (nI y) = nI m := by
  obtain ⟨m', h1, h2⟩ := al_meet_I hg hx hy
  rw [h1, al_com_one h2 hm]
theorem al_mtg_of (hg : al_GG σ E d q) {x y m : Nat} (hx : al_nd (σ.1 0) E x) (hy : al_nd (σ.1 0) E y) (hm : al_com (σ.1 0) E d x y m) : al_mtg σ (nI x) (nI y) = nI m := by
  rw [al_mtg, if_neg (al_GG_in hg hx), if_neg (al_GG_in hg hy), al_meet_of hg hx hy hm]
theorem al_wayAt_I (hg : al_GG σ E d q) {x y m z : Nat} (hx : al_nd (σ.1 0) E x) (hy : al_nd (σ.1 0) E y) (hm : al_com (σ.1 0) E d x y m) (hz : z ≤ (d x - d m) + (d y - d m)) : al_wayAt σ (nI x) (nI y) (nI z) = nI (al_wp (σ.1 0) d x y m z) := by
  have dx := al_GG_dd hg x hx
  have dy := al_GG_dd hg y hy
  have mx := hm.1.2.1.1
  have my := hm.1.2.2.1
  rw [al_wayAt, if_neg (al_GG_in hg hx), if_neg (al_GG_in hg hy), if_pos (nI_pos' (by omega)), al_onWay, al_meet_of hg hx hy hm, al_GG_15 hg hx, al_GG_15 hg hy, al_GG_15 hg hm.1.1, pk_sub mx, pk_sub my, nI_add, if_pos (nI_le hz (by omega)), al_wp]
  by_cases c : d x - d m < z
  · rw [if_pos (nI_lt c (by omega)), if_pos c, pk_sub hz, al_cl_I hg hy (by omega), al_orN, if_neg (al_nI_m1 (by have := al_nd_lt hg.1 (al_up_nd hg.1 ((d x - d m) + (d y - d m) - z) y hy (by omega)).1; omega))]
  · rw [if_neg (nI_nlt (by omega) (by omega)), if_neg c, al_cl_I hg hx (by omega), al_orN, if_neg (al_nI_m1 (by have := al_nd_lt hg.1 (al_up_nd hg.1 z x hx (by omega)).1; omega))]
theorem al_wayAt_far (hg : al_GG σ E d q) {x y m : Nat} (hx : al_nd (σ.1 0) E x) (hy : al_nd (σ.1 0) E y) (hm : al_com (σ.1 0) E d x y m) : al_wayAt σ (nI x) (nI y) (nI ((d x - d m) + (d y - d m) + 1)) = -5 := by
  have dx := al_GG_dd hg x hx
  have dy := al_GG_dd hg y hy
  have mx := hm.1.2.1.1
  have my := hm.1.2.2.1
  rw [al_wayAt, if_neg (al_GG_in hg hx), if_neg (al_GG_in hg hy), if_pos (nI_pos' (by omega)), al_onWay, al_meet_of hg hx hy hm, al_GG_15 hg hx, al_GG_15 hg hy, al_GG_15 hg hm.1.1, pk_sub mx, pk_sub my, nI_add, if_neg (nI_ge (by omega) (by omega))]
  rfl
theorem al_wp_at {P : Nat → Int32} {x y m : Nat} (hm : al_com P E d x y m) : al_wp P d x y m (d x - d m) = m := by
  rw [al_wp, if_neg (Nat.lt_irrefl _)]
  exact hm.1.2.1.2
theorem al_wp_back {P : Nat → Int32} {x y m z : Nat} (hm : al_com P E d x y m) (hz : z ≤ (d x - d m) + (d y - d m)) : al_wp P d x y m z = al_wp P d y x m ((d x - d m) + (d y - d m) - z) := by
  have e : d y - d m + (d x - d m) = d x - d m + (d y - d m) := by omega
  rw [al_wp, al_wp, e]
  by_cases c : d x - d m < z
  · rw [if_pos c, if_neg (by omega)]
  · rw [if_neg c]
    by_cases c2 : z = d x - d m
    · rw [if_neg (by omega), c2, show d x - d m + (d y - d m) - (d x - d m) = d y - d m by omega]
      exact hm.1.2.1.2.trans hm.1.2.2.2.symm
    · rw [if_pos (by omega)]
      congr 1
      omega
/-- two that follow each other on a way are child and parent -/
theorem al_wp_next (hg : al_GG σ E d q) {x y m k : Nat} (hx : al_nd (σ.1 0) E x) (hy : al_nd (σ.1 0) E y) (hm : al_com (σ.1 0) E d x y m) (hk : k + 1 ≤ (d x - d m) + (d y - d m)) : al_node σ (nI (al_wp (σ.1 0) d x y m (k + 1))) 0 = nI (al_wp (σ.1 0) d x y m k) ∨ al_node σ (nI (al_wp (σ.1 0) d x y m k)) 0 = nI (al_wp (σ.1 0) d x y m (k + 1)) := by
  have mx := hm.1.2.1.1
  have my := hm.1.2.2.1
  by_cases c : d x - d m < k + 1
  · refine Or.inl ?_
    have e : al_wp (σ.1 0) d x y m k = al_up (σ.1 0) ((d x - d m) + (d y - d m) - (k + 1) + 1) y := by
      rw [al_wp]
      by_cases c2 : d x - d m < k
      · rw [if_pos c2]
        congr 1
        omega
      · rw [if_neg c2, show k = d x - d m by omega, show d x - d m + (d y - d m) - (d x - d m + 1) + 1 = d y - d m by omega]
        exact hm.1.2.1.2.trans hm.1.2.2.2.symm
    rw [e, al_wp, if_pos c]
    exact al_up_par hg hy (by omega)
  · refine Or.inr ?_
    rw [al_wp, al_wp, if_neg c, if_neg (by omega)]
    exact al_up_par hg hx (by omega)
theorem al_wp_nd (hg : al_GG σ E d q) {x y m k : Nat} (hx : al_nd (σ.1 0) E x) (hy : al_nd (σ.1 0) E y) (hm : al_com (σ.1 0) E d x y m) (hk : k ≤ (d x - d m) + (d y - d m)) : al_nd (σ.1 0) E (al_wp (σ.1 0) d x y m k) := by
  have mx := hm.1.2.1.1
  have my := hm.1.2.2.1
  rw [al_wp]
  split
  · exact (al_up_nd hg.1 _ y hy (by omega)).1
  · exact (al_up_nd hg.1 _ x hx (by omega)).1
/-! distances -/
theorem al_Pt_mono (hg : al_GG σ E d q) : ∀ (k x : Nat), al_nd (σ.1 0) E x → k ≤ d x → al_z (al_Pt (σ.1 0) (σ.2.1 0) (al_up (σ.1 0) k x)) ≤ al_z (al_Pt (σ.1 0) (σ.2.1 0) x)
  | 0, x, hx, hk => Int.le_refl _
  | k + 1, x, hx, hk => by
    have h0 : x ≠ 0 := fun e => by rw [e, hg.1.2.2.2.1] at hk; omega
    obtain ⟨q1, q2, q3⟩ := al_par_nd hg.1 hx h0
    have h1 := al_Pt_mono hg k (al_par (σ.1 0) x) q2 (by omega)
    have h2 := (al_Pt_B hg.1 (al_GG_dd hg) hg.2.2.1 _ x rfl hx).2.2 h0
    exact Int.le_trans h1 h2
theorem al_Pt_GG (hg : al_GG σ E d q) {x : Nat} (hx : al_nd (σ.1 0) E x) : al_B (al_Pt (σ.1 0) (σ.2.1 0) x) := al_Pt_ok hg.1 (al_GG_dd hg) hg.2.2.1 hx
theorem al_dist_of (hg : al_GG σ E d q) {x y m : Nat} (hx : al_nd (σ.1 0) E x) (hy : al_nd (σ.1 0) E y) (hm : al_com (σ.1 0) E d x y m) : al_dist σ (nI x) (nI y) = al_sum (al_Pt (σ.1 0) (σ.2.1 0) x) (al_Pt (σ.1 0) (σ.2.1 0) y) (al_Pt (σ.1 0) (σ.2.1 0) m) := by
  rw [al_dist, if_neg (al_GG_in hg hx), if_neg (al_GG_in hg hy), al_meet_of hg hx hy hm, al_GG_f6 hg hx, al_GG_f6 hg hy, al_GG_f6 hg hm.1.1]
theorem al_com_ex (hg : al_GG σ E d q) {x y : Nat} (hx : al_nd (σ.1 0) E x) (hy : al_nd (σ.1 0) E y) : ∃ m, al_com (σ.1 0) E d x y m := by
  obtain ⟨m, -, h⟩ := al_meet_I hg hx hy
  exact ⟨m, h⟩
theorem al_dist_sym (hg : al_GG σ E d q) {x y : Nat} (hx : al_nd (σ.1 0) E x) (hy : al_nd (σ.1 0) E y) : al_dist σ (nI x) (nI y) = al_dist σ (nI y) (nI x) := by
  obtain ⟨m, hm⟩ := al_com_ex hg hx hy
  rw [al_dist_of hg hx hy hm, al_dist_of hg hy hx (al_com_sym hm), al_sum_comm]
theorem al_dist_ok (hg : al_GG σ E d q) {x y : Nat} (hx : al_nd (σ.1 0) E x) (hy : al_nd (σ.1 0) E y) : FP.Core.val32 (al_dist σ (nI x) (nI y)) ≠ .nan ∧ 0 ≤ al_z (al_dist σ (nI x) (nI y)) := by
  obtain ⟨m, hm⟩ := al_com_ex hg hx hy
  have bx := al_Pt_GG hg hx
  have b2 := al_Pt_GG hg hy
  have bm := al_Pt_GG hg hm.1.1
  rw [al_dist_of hg hx hy hm]
  refine ⟨(al_sum_fin bx b2 bm).ne_nan, al_sum_nonneg bx b2 bm ?_ ?_⟩
  · have := al_Pt_mono hg (d x - d m) x hx (Nat.sub_le _ _)
    rw [hm.1.2.1.2] at this
    exact this
  · have := al_Pt_mono hg (d y - d m) y hy (Nat.sub_le _ _)
    rw [hm.1.2.2.2] at this
    exact this
theorem al_dist_self (hg : al_GG σ E d q) {x : Nat} (hx : al_nd (σ.1 0) E x) : al_dist σ (nI x) (nI x) = FP.fadd 0 0 := by
  rw [al_dist_of hg hx hx ⟨⟨hx, al_br_self, al_br_self⟩, fun c _ h _ => h.1⟩, al_sum_self (al_Pt_GG hg hx)]
theorem al_reach_I (hg : al_GG σ E d q) {x : Nat} (hx : al_nd (σ.1 0) E x) {b : Int32} (hb : ¬ al_isLen b = 0) : ¬ al_reach σ (nI x) b < 0 := by
  have key : ∀ (w g : UInt32) (n v : Nat), al_nd (σ.1 0) E v → ¬ al_hwL σ w g n (nI v) < 0 := by
    intro w g n
    induction n with
    | zero => intro v hv; exact nI_pos (by have := al_nd_lt hg.1 hv; omega)
    | succ n ih =>
      intro v hv
      have h9 := al_nd_lt hg.1 hv
      rw [al_hwL]
      by_cases h0 : v = 0
      · subst h0
        rw [al_GG_root hg, if_pos rfl]
        exact nI_pos (by omega)
      · have hp := (al_par_nd hg.1 hv h0).2.1
        rw [al_GG_par hg hv h0, if_neg (al_nI_m1 (by have := al_nd_lt hg.1 hp; omega))]
        split
        · exact ih _ hp
        · exact nI_pos (by omega)
  rw [al_reach, if_neg (al_GG_in hg hx), if_neg hb]
  exact key _ _ _ _ hx
theorem al_real_1 (hg : al_GG σ E d q) {x : Nat} (hx : al_nd (σ.1 0) E x) : al_real σ (nI x) 1 = al_Pt (σ.1 0) (σ.2.1 0) x := by
  rw [al_real, if_neg (al_GG_in hg hx), if_neg (by decide), if_pos (by decide), if_neg (by decide), al_GG_f6 hg hx]
end ALP
