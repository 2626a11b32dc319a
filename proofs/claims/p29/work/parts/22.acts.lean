/-! the acts: each keeps the world sound -/
def al_up (P : Nat → Int32) : Nat → Nat → Nat
  | 0, v => v
  | k + 1, v => al_up P k (al_par P v)
theorem al_up_s (P : Nat → Int32) : ∀ (k v : Nat), al_up P (k + 1) v = al_par P (al_up P k v)
  | 0, _ => rfl
  | k + 1, v => al_up_s P k (al_par P v)
theorem al_up_add (P : Nat → Int32) (a : Nat) : ∀ (b v : Nat), al_up P (b + a) v = al_up P a (al_up P b v)
  | 0, v => by rw [Nat.zero_add]; rfl
  | b + 1, v => by
    rw [show b + 1 + a = (b + a) + 1 by omega]
    exact al_up_add P a b (al_par P v)
section ALU
variable {P : Nat → Int32} {E : Nat} {d : Nat → Nat}
theorem al_d0 (hT : al_TOK P E d) {v : Nat} (hv : al_nd P E v) (h : d v = 0) : v = 0 := by
  rcases Nat.eq_zero_or_pos v with h0 | h0
  · exact h0
  · have := (al_par_nd hT hv (by omega)).2.2
    omega
theorem al_up_nd (hT : al_TOK P E d) : ∀ (k v : Nat), al_nd P E v → k ≤ d v → al_nd P E (al_up P k v) ∧ d (al_up P k v) + k = d v
  | 0, v, hv, _ => ⟨hv, rfl⟩
  | k + 1, v, hv, hk => by
    have h0 : v ≠ 0 := fun e => by rw [e, hT.2.2.2.1] at hk; omega
    obtain ⟨-, h2, h3⟩ := al_par_nd hT hv h0
    obtain ⟨g1, g2⟩ := al_up_nd hT k (al_par P v) h2 (by omega)
    exact ⟨g1, by show d (al_up P k (al_par P v)) + (k + 1) = d v; omega⟩
theorem al_climb_m1 {σ : al_St} : ∀ (k : Nat), al_climb σ k (-1) = -1
  | 0 => rfl
  | _ + 1 => by rw [al_climb, if_pos rfl]
theorem al_climb_I {σ : al_St} (hT : al_TOK P E d) (hP : σ.1 0 = P) : ∀ (k v : Nat), al_nd P E v → al_climb σ k (nI v) = if k ≤ d v then nI (al_up P k v) else -1
  | 0, v, _ => by rw [if_pos (Nat.zero_le _)]; rfl
  | k + 1, v, hv => by
    have hv9 := al_nd_lt hT hv
    rw [al_climb, if_neg (al_nI_m1 (by omega))]
    by_cases h0 : v = 0
    · subst h0
      rw [show al_rg (σ.1 (2 * 0)) (nI 0) = -1 by rw [show σ.1 (2 * 0) = P from hP, al_rg_lt (by omega)]; exact hT.2.2.1, al_climb_m1, if_neg (by rw [hT.2.2.2.1]; omega)]
    · obtain ⟨q1, q2, q3⟩ := al_par_nd hT hv h0
      rw [show al_rg (σ.1 (2 * 0)) (nI v) = nI (al_par P v) by rw [show σ.1 (2 * 0) = P from hP, al_rg_lt hv9]; exact q1, al_climb_I hT hP k _ q2, q3]
      by_cases h : k ≤ d (al_par P v)
      · rw [if_pos h, if_pos (by omega)]; rfl
      · rw [if_neg h, if_neg (by omega)]
/-- v stands in the branch of x -/
abbrev al_br (P : Nat → Int32) (d : Nat → Nat) (x v : Nat) : Prop := d x ≤ d v ∧ al_up P (d v - d x) v = x
theorem al_br_par (hT : al_TOK P E d) {x v : Nat} (hv : al_nd P E v) (h0 : v ≠ 0) (hx : v ≠ x) : al_br P d x v ↔ al_br P d x (al_par P v) := by
  have h3 := (al_par_nd hT hv h0).2.2
  constructor
  · rintro ⟨h1, h2⟩
    have hne : d v ≠ d x := fun e => by
      rw [e, Nat.sub_self] at h2
      exact hx h2
    refine ⟨by omega, ?_⟩
    rw [show d v - d x = (d (al_par P v) - d x) + 1 by omega] at h2
    exact h2
  · rintro ⟨h1, h2⟩
    refine ⟨by omega, ?_⟩
    rw [show d v - d x = (d (al_par P v) - d x) + 1 by omega]
    exact h2
theorem al_graft_T (hT : al_TOK P E d) {x u : Nat} (hx : al_nd P E x) (hx0 : x ≠ 0) (hu : al_nd P E u) (hb : ¬ al_br P d x u) : al_TOK (upd P x (nI u)) E (fun v => if al_br P d x v then d v - d x + d u + 1 else d v) := by
  have hu9 := al_nd_lt hT hu
  have hd : ∀ v, al_nd (upd P x (nI u)) E v ↔ al_nd P E v := by
    intro v
    by_cases e : v = x
    · subst e
      exact ⟨fun _ => hx, fun _ => ⟨hx.1, by rw [al_upd_s]; exact al_nI_m2 (by omega)⟩⟩
    · constructor
      · rintro ⟨h1, h2⟩
        exact ⟨h1, by rw [al_upd_n e] at h2; exact h2⟩
      · rintro ⟨h1, h2⟩
        exact ⟨h1, by rw [al_upd_n e]; exact h2⟩
  have hdx : d x ≠ 0 := fun e => hx0 (al_d0 hT hx e)
  have hb0 : ¬ al_br P d x 0 := fun h => by
    have := h.1
    rw [hT.2.2.2.1] at this
    omega
  refine ⟨hT.1, hT.2.1, ?_, ?_, fun v h0 hv => ?_⟩
  · rw [al_upd_n (Ne.symm hx0)]; exact hT.2.2.1
  · show (if al_br P d x 0 then _ else d 0) = 0
    rw [if_neg hb0]; exact hT.2.2.2.1
  · have hv2 := (hd v).mp hv
    by_cases e : v = x
    · subst e
      refine ⟨u, al_upd_s, (hd u).mpr hu, ?_⟩
      show (if al_br P d v v then _ else _) = (if al_br P d v u then _ else _) + 1
      rw [if_pos ⟨Nat.le_refl _, by rw [Nat.sub_self]; rfl⟩, if_neg hb]
      omega
    · obtain ⟨q1, q2, q3⟩ := al_par_nd hT hv2 h0
      refine ⟨al_par P v, by rw [al_upd_n e]; exact q1, (hd _).mpr q2, ?_⟩
      show (if al_br P d x v then _ else _) = (if al_br P d x (al_par P v) then _ else _) + 1
      by_cases hbv : al_br P d x v
      · have hbp := (al_br_par hT hv2 h0 e).mp hbv
        rw [if_pos hbv, if_pos hbp]
        have := hbp.1
        omega
      · rw [if_neg hbv, if_neg (fun h => hbv ((al_br_par hT hv2 h0 e).mpr h))]
        exact q3
theorem al_append_T (hT : al_TOK P E d) {p : Nat} (hp : al_nd P E p) (hE : E + 1 ≤ 90) : al_TOK (upd P E (nI p)) (E + 1) (fun v => if v = E then d p + 1 else d v) := by
  have hp9 := al_nd_lt hT hp
  have hd : ∀ v, v ≠ E → (al_nd (upd P E (nI p)) (E + 1) v ↔ al_nd P E v) := by
    intro v e
    constructor
    · rintro ⟨h1, h2⟩
      exact ⟨by omega, by rw [al_upd_n e] at h2; exact h2⟩
    · rintro ⟨h1, h2⟩
      exact ⟨by omega, by rw [al_upd_n e]; exact h2⟩
  have hE1 := hT.1
  refine ⟨by omega, hE, ?_, ?_, fun v h0 hv => ?_⟩
  · rw [al_upd_n (by omega)]; exact hT.2.2.1
  · show (if 0 = E then _ else d 0) = 0
    rw [if_neg (by omega)]; exact hT.2.2.2.1
  · have hpE : p ≠ E := Nat.ne_of_lt hp.1
    by_cases e : v = E
    · subst e
      refine ⟨p, al_upd_s, (hd p hpE).mpr hp, ?_⟩
      show (if v = v then _ else _) = (if p = v then _ else _) + 1
      rw [if_pos rfl, if_neg hpE]
    · obtain ⟨q1, q2, q3⟩ := al_par_nd hT ((hd v e).mp hv) h0
      have hqE : al_par P v ≠ E := Nat.ne_of_lt q2.1
      refine ⟨al_par P v, by rw [al_upd_n e]; exact q1, (hd _ hqE).mpr q2, ?_⟩
      show (if v = E then _ else _) = (if al_par P v = E then _ else _) + 1
      rw [if_neg e, if_neg hqE]
      exact q3
theorem al_cut_T (hT : al_TOK P E d) {x : Nat} (hx0 : x ≠ 0) (hl : ∀ v, al_nd P E v → P v ≠ nI x) : al_TOK (upd P x (-2)) E d := by
  have hd : ∀ v, v ≠ x → (al_nd (upd P x (-2)) E v ↔ al_nd P E v) := by
    intro v e
    constructor
    · rintro ⟨h1, h2⟩
      exact ⟨h1, by rw [al_upd_n e] at h2; exact h2⟩
    · rintro ⟨h1, h2⟩
      exact ⟨h1, by rw [al_upd_n e]; exact h2⟩
  refine ⟨hT.1, hT.2.1, by rw [al_upd_n (Ne.symm hx0)]; exact hT.2.2.1, hT.2.2.2.1, fun v h0 hv => ?_⟩
  have e : v ≠ x := fun e => hv.2 (by rw [e]; exact al_upd_s)
  have hv2 := (hd v e).mp hv
  obtain ⟨q1, q2, q3⟩ := al_par_nd hT hv2 h0
  have hpx : al_par P v ≠ x := fun e2 => hl v hv2 (by rw [q1, e2])
  exact ⟨al_par P v, by rw [al_upd_n e]; exact q1, (hd _ hpx).mpr q2, q3⟩
end ALU
/-! lengths -/
theorem al_tfL_le : ∀ (n j : Nat) (w : UInt32), j ≤ 24 → al_B w → al_z w ≤ al_z (al_w (2 ^ j)) → al_B (al_tfL n w) ∧ al_z (al_tfL n w) ≤ al_z (al_w (2 ^ (j - n)))
  | 0, j, w, _, hB, h => ⟨hB, h⟩
  | n + 1, j, w, hj, hB, h => by
    rw [al_tfL]
    have hp : ∀ i, i ≤ 24 → 2 ^ i ≤ 2 ^ 24 := fun i hi => Nat.pow_le_pow_right (by omega) hi
    have h2 : al_z w ≤ 2 * al_z (al_w (2 ^ (j - 1))) := by
      rw [al_w_z (hp _ hj)] at h
      rw [al_w_z (hp _ (by omega))]
      have h1 := al_one_pos
      cases j with
      | zero =>
        simp only [Nat.zero_sub, Nat.pow_zero] at h ⊢
        omega
      | succ j =>
        rw [Nat.add_sub_cancel]
        rw [Nat.pow_succ] at h
        have e : ((2 ^ j * 2 : Nat) : Int) * al_one = 2 * (((2 ^ j : Nat) : Int) * al_one) := by
          rw [Int.natCast_mul, Int.mul_comm ((2 ^ j : Nat) : Int) ((2 : Nat) : Int), Int.mul_assoc]
          rfl
        rw [e] at h
        exact h
    obtain ⟨g1, g2⟩ := al_tfL_le n (j - 1) (FP.fmul w 1056964608) (by omega) (al_half_B hB) (al_half_le hB (al_w_nn (hp _ (by omega))) h2)
    rw [show j - 1 - n = j - (n + 1) by omega] at g2
    exact ⟨g1, g2⟩
theorem al_w_up {j k : Nat} (h : j ≤ k) (hk : k ≤ 2 ^ 24) : al_z (al_w j) ≤ al_z (al_w k) := by
  rw [al_w_z (Nat.le_trans h hk), al_w_z hk]
  exact Int.mul_le_mul_of_nonneg_right (by omega) (Int.le_of_lt al_one_pos)
theorem al_toF_ok {b : Int32} (hb : ¬ al_isLen b = 0) : al_B (al_toF b) ∧ al_z (al_toF b) ≤ (1024 : Nat) * al_one := by
  have key : ∀ (n j : Nat), 14 ≤ n → j ≤ 2 ^ 24 → al_B (al_tfL n (al_w j)) ∧ al_z (al_tfL n (al_w j)) ≤ (1024 : Nat) * al_one := by
    intro n j hn hj
    obtain ⟨g1, g2⟩ := al_tfL_le n 24 (al_w j) (Nat.le_refl _) (al_w_B hj) (al_w_up hj (Nat.le_refl _))
    refine ⟨g1, Int.le_trans g2 ?_⟩
    have h1 : 2 ^ (24 - n) ≤ 1024 := Nat.le_trans (Nat.pow_le_pow_right (by omega) (show 24 - n ≤ 10 by omega)) (by decide)
    refine Int.le_trans (al_w_up h1 (by decide)) ?_
    rw [al_w_z (by decide)]
    exact Int.le_refl _
  obtain ⟨j, hj, ej⟩ := al_frac b
  obtain ⟨h1, h2⟩ := al_pow_ok hb
  rw [al_toF]
  split
  · rw [ej, al_i2f_w (by omega)]
    exact key _ _ (by omega) (by omega)
  · rw [ej, show (8388608 : Int32) = nI 8388608 from rfl, nI_add, al_i2f_w (by omega)]
    exact key _ _ (by omega) (by omega)
theorem al_one_ok : al_B FP.fconst1 ∧ al_z FP.fconst1 ≤ (1024 : Nat) * al_one := by
  have e : FP.fconst1 = al_w 1 := by decide +kernel
  rw [e]
  refine ⟨al_w_B (by decide), ?_⟩
  rw [al_w_z (by decide)]
  exact Int.mul_le_mul_of_nonneg_right (by decide) (Int.le_of_lt al_one_pos)
/-! tree data -/
abbrev al_TD : Type := (Nat → Int32) × (Nat → Int32) × (Nat → UInt32) × Int32
def al_td (σ : al_St) (t : Nat) : al_TD := (σ.1 (2 * t), σ.1 (2 * t + 1), σ.2.1 t, σ.2.2.1 t)
def al_trS (D : al_TD) (E : Nat) (d : Nat → Nat) : Prop := al_TOK D.1 E d ∧ D.2.2.2 = nI E ∧ al_lenOK D.1 E D.2.2.1 ∧ ∀ v, al_nd D.1 E v → ¬ D.2.1 v < 0
/-- a world of sound trees and a sound history -/
def al_pre (σ : al_St) : Prop := (∀ t, t < 6 → ∃ E d, al_trS (al_td σ t) E d) ∧ (∃ U : Nat, U ≤ 4 ∧ σ.2.2.1 7 = nI U) ∧ (∀ j, j < 4 → 1 ≤ σ.2.2.2 j ∧ σ.2.2.2 j ≤ 4) ∧ al_FB σ
def al_gw (σ : al_St) : Prop := al_pre σ ∧ ∃ E d q, al_GG σ E d q
theorem al_td_look {σ : al_St} (h : al_frL σ (al_look σ)) {t : Nat} (ht : t < 6) : al_td (al_look σ) t = al_td σ t := by
  simp only [al_td]
  rw [h.1 _ (Or.inl (by omega)), h.1 _ (Or.inl (by omega)), h.2.1 _ (by omega), h.2.2.1 _ (by omega)]
theorem al_look_gw {σ : al_St} (h : al_pre σ) : al_lOK σ ∧ al_frL σ (al_look σ) ∧ al_gw (al_look σ) := by
  obtain ⟨h1, h2, h3, h4⟩ := h
  obtain ⟨E, d, g⟩ := h1 0 (by omega)
  obtain ⟨a1, a2, q, a3⟩ := al_look_I (σ := σ) (E := E) (d := d) g.1 g.2.1 g.2.2.1 h4
  refine ⟨a1, a2, ⟨fun t ht => ?_, ?_, fun j hj => ?_, a3.2.2.2.2.2.2.2.2.2.2⟩, E, d, q, a3⟩
  · rw [al_td_look a2 ht]; exact h1 t ht
  · rw [a2.2.2.1 7 (by decide)]; exact h2
  · rw [a2.2.2.2]; exact h3 j hj
