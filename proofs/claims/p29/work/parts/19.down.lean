/-! the walk down: every node once, behind its parent; depths -/
theorem al_nodup_len : ∀ (n : Nat) (l : List Nat), l.Nodup → (∀ x, x ∈ l → x < n) → l.length ≤ n
  | 0, l, _, h => by
    cases l with
    | nil => exact Nat.le_refl _
    | cons a l => exact absurd (h a List.mem_cons_self) (Nat.not_lt_zero _)
  | n + 1, l, hn, h => by
    by_cases hm : n ∈ l
    · have h1 := al_nodup_len n (l.erase n) (hn.erase n) (fun x hx => by
        have h2 := (List.Nodup.mem_erase_iff hn).mp hx
        have := h x h2.2
        omega)
      rw [List.length_erase_of_mem hm] at h1
      omega
    · have h1 := al_nodup_len n l hn (fun x hx => by
        have := h x hx
        have : x ≠ n := fun e => hm (e ▸ hx)
        omega)
      omega
theorem al_inj_getElem {l : List Nat} (h : l.Nodup) {i j a : Nat} (hi : l[i]? = some a) (hj : l[j]? = some a) : i = j := by
  obtain ⟨h1, e1⟩ := List.getElem?_eq_some_iff.mp hi
  obtain ⟨h2, e2⟩ := List.getElem?_eq_some_iff.mp hj
  rw [List.Nodup, List.pairwise_iff_getElem] at h
  rcases Nat.lt_trichotomy i j with q | q | q
  · exact absurd (e1.trans e2.symm) (h i j h1 h2 q)
  · exact q
  · exact absurd (e2.trans e1.symm) (h j i h2 h1 q)
/-- the queue -/
def al_Q (σ : al_St) (q : List Nat) : Prop := σ.2.2.1 9 = nI q.length ∧ q.length ≤ 90 ∧ ∀ j a, q[j]? = some a → σ.1 14 j = nI a
def al_frD (σ σ' : al_St) : Prop := (∀ j, j ≠ 14 → j ≠ 15 → σ'.1 j = σ.1 j) ∧ σ'.2.1 = σ.2.1 ∧ (∀ k, k ≠ 9 → σ'.2.2.1 k = σ.2.2.1 k) ∧ σ'.2.2.2 = σ.2.2.2
theorem al_frD.rf {σ : al_St} : al_frD σ σ := ⟨fun _ _ _ => rfl, rfl, fun _ _ => rfl, rfl⟩
theorem al_frD.tr {a b c : al_St} (h1 : al_frD a b) (h2 : al_frD b c) : al_frD a c := ⟨fun j x y => (h2.1 j x y).trans (h1.1 j x y), h2.2.1.trans h1.2.1, fun k x => (h2.2.2.1 k x).trans (h1.2.2.1 k x), h2.2.2.2.trans h1.2.2.2⟩
theorem al_dn1_fr (σ : al_St) (x c : Int32) : al_frD σ (al_dn1 σ x c) := by
  refine ⟨fun j h1 h2 => ?_, rfl, fun k hk => ?_, rfl⟩
  · simp only [al_dn1, al_set_1, al_sV_1, h1, h2, if_false]
  · show (al_sV (al_set σ 14 (σ.2.2.1 9) c) 9 _).2.2.1 k = _
    rw [al_sV_V, if_neg hk]
    rfl
theorem al_dn1_Q {σ : al_St} {X a D : Nat} {q : List Nat} (hq : al_Q σ q) (hl : q.length < 90) (ha : a < 90) (hX : X < 90) (hXa : X ≠ a) (hD : σ.1 15 X = nI D) : al_Q (al_dn1 σ (nI X) (nI a)) (q ++ [a]) ∧ (al_dn1 σ (nI X) (nI a)).1 15 = upd (σ.1 15) a (nI (D + 1)) := by
  obtain ⟨h1, h2, h3⟩ := hq
  refine ⟨⟨?_, ?_, fun j b hj => ?_⟩, ?_⟩
  · show σ.2.2.1 9 + 1 = _
    rw [h1, nI_1, List.length_append]
    rfl
  · rw [List.length_append]
    simp only [List.length_cons, List.length_nil]
    omega
  · have e : (al_dn1 σ (nI X) (nI a)).1 14 = upd (σ.1 14) q.length (nI a) := by
      show al_rs (σ.1 14) (σ.2.2.1 9) (nI a) = _
      rw [h1, al_rs_lt hl]
    rw [e]
    by_cases hjl : j < q.length
    · rw [List.getElem?_append_left hjl] at hj
      rw [al_upd_n (by omega)]
      exact h3 j b hj
    · rw [List.getElem?_append_right (by omega)] at hj
      have hz : j - q.length < 1 := (List.getElem?_eq_some_iff.mp hj).1
      have hz0 : j = q.length := by omega
      subst hz0
      rw [Nat.sub_self] at hj
      cases hj
      exact al_upd_s
  · show al_rs (σ.1 15) (nI a) (al_rg (σ.1 15) (nI X) + 1) = _
    rw [al_rs_lt ha, al_rg_lt hX, hD, nI_1]
theorem al_dnI_spec {X D : Nat} (hX : X < 90) : ∀ (l : List Nat) (n : Nat) (c : Int32) (σ : al_St) (q : List Nat), al_ch (σ.1 13) c l → l.length ≤ n → al_Q σ q → (q ++ l).length ≤ 90 → X ∉ l → l.Nodup → σ.1 15 X = nI D → al_Q (al_dnI (nI X) n c σ) (q ++ l) ∧ (∀ a, a ∈ l → (al_dnI (nI X) n c σ).1 15 a = nI (D + 1)) ∧ (∀ a, a ∉ l → (al_dnI (nI X) n c σ).1 15 a = σ.1 15 a) ∧ al_frD σ (al_dnI (nI X) n c σ)
  | [], n, c, σ, q, hc, hn, hq, hl, hX1, hnd, hD => by
    have e : al_dnI (nI X) n c σ = σ := by
      cases n with
      | zero => rfl
      | succ n => rw [al_dnI, if_pos (show c = -1 from hc)]
    rw [e, List.append_nil]
    exact ⟨hq, fun a ha => absurd ha List.not_mem_nil, fun _ _ => rfl, al_frD.rf⟩
  | a :: l, n, c, σ, q, hc, hn, hq, hl, hX1, hnd, hD => by
    obtain ⟨rfl, ha, hc2⟩ := hc
    cases n with
    | zero => simp at hn
    | succ n =>
      have hne : ¬ nI a = -1 := al_nI_m1 (by omega)
      rw [al_dnI, if_neg hne]
      have hXa : X ≠ a := fun e => hX1 (e ▸ List.mem_cons_self)
      rw [List.length_append, List.length_cons] at hl
      rw [List.length_cons] at hn
      obtain ⟨g1, g2⟩ := al_dn1_Q (a := a) hq (by omega) ha hX hXa hD
      have g3 := al_dn1_fr σ (nI X) (nI a)
      have e13 : (al_dn1 σ (nI X) (nI a)).1 13 = σ.1 13 := g3.1 13 (by decide) (by decide)
      have hnd2 := List.nodup_cons.mp hnd
      obtain ⟨k1, k2, k3, k4⟩ := al_dnI_spec hX l n (al_rg ((al_dn1 σ (nI X) (nI a)).1 13) (nI a)) (al_dn1 σ (nI X) (nI a)) (q ++ [a]) (by rw [e13, al_rg_lt ha]; exact hc2) (by omega) g1 (by rw [List.length_append, List.length_append]; simp only [List.length_cons, List.length_nil]; omega) (fun h => hX1 (List.mem_cons_of_mem _ h)) hnd2.2 (by rw [g2, al_upd_n hXa]; exact hD)
      refine ⟨?_, fun b hb => ?_, fun b hb => ?_, g3.tr k4⟩
      · rw [show q ++ a :: l = q ++ [a] ++ l by simp]
        exact k1
      · rcases List.mem_cons.mp hb with rfl | hb
        · rw [k3 b hnd2.1, g2, al_upd_s]
        · exact k2 b hb
      · rw [k3 b (fun h => hb (List.mem_cons_of_mem _ h)), g2, al_upd_n (fun (e : b = a) => hb (by rw [e]; exact List.mem_cons_self))]
/-- what holds while the queue is walked, k places behind -/
def al_dnS (P : Nat → Int32) (E : Nat) (d : Nat → Nat) (k : Nat) (σ : al_St) (q : List Nat) : Prop := al_Q σ q ∧ k ≤ q.length ∧ q = 0 :: (q.take k).flatMap (al_kids P E) ∧ q.Nodup ∧ (∀ a, a ∈ q → al_nd P E a ∧ σ.1 15 a = nI (d a)) ∧ ∀ (j a : Nat), q[j]? = some a → a ≠ 0 → ∃ (i b : Nat), i < j ∧ q[i]? = some b ∧ P a = nI b
theorem al_kids_mem {P : Nat → Int32} {E p : Nat} {d : Nat → Nat} (hT : al_TOK P E d) (hp : p < 90) {b : Nat} : b ∈ al_kids P E p ↔ (b < E ∧ P b = nI p) := by
  rw [al_kids, al_kd_mem]
  constructor
  · rintro ⟨_, _, h⟩
    exact h
  · intro h
    have h0 : b ≠ 0 := fun e => by
      rw [e, hT.2.2.1] at h
      exact al_nI_m1 (show p < 2 ^ 31 by omega) h.2.symm
    have := hT.2.1
    exact ⟨by omega, by omega, h⟩
theorem al_kids_nd {P : Nat → Int32} {E p : Nat} {d : Nat → Nat} (hT : al_TOK P E d) (hp : p < 90) {b : Nat} (h : b ∈ al_kids P E p) : al_nd P E b ∧ b ≠ 0 ∧ d b = d p + 1 := by
  have h1 := (al_kids_mem hT hp).mp h
  have h0 : b ≠ 0 := fun e => by
    rw [e, hT.2.2.1] at h1
    exact al_nI_m1 (show p < 2 ^ 31 by omega) h1.2.symm
  have hnd : al_nd P E b := ⟨h1.1, by rw [h1.2]; exact al_nI_m2 (by omega)⟩
  obtain ⟨q, hq, hqn, hd⟩ := hT.2.2.2.2 b h0 hnd
  have hqp : q = p := by
    have := hT.2.1
    exact al_nI_inj (by have := hqn.1; omega) (by omega) (hq.symm.trans h1.2)
  rw [hqp] at hd
  exact ⟨hnd, h0, hd⟩
theorem al_kids_nodup {P : Nat → Int32} {E p : Nat} : (al_kids P E p).Nodup := (al_kd_sorted 89 1).imp (fun h => Nat.ne_of_lt h)
theorem al_dnS_step {P : Nat → Int32} {E k X : Nat} {d : Nat → Nat} {σ : al_St} {q : List Nat} (hT : al_TOK P E d) (hK : al_kidsOK P E σ) (h : al_dnS P E d k σ q) (hk : q[k]? = some X) : al_dnS P E d (k + 1) (al_dnI (nI X) 90 (σ.1 12 X) σ) (q ++ al_kids P E X) ∧ al_frD σ (al_dnI (nI X) 90 (σ.1 12 X) σ) := by
  obtain ⟨h1, h2, h3, h4, h5, h6⟩ := h
  have hE9 := hT.2.1
  have hkl : k < q.length := (List.getElem?_eq_some_iff.mp hk).1
  have hXq : X ∈ q := List.mem_of_getElem? hk
  have hX9 : X < 90 := Nat.lt_of_lt_of_le (h5 X hXq).1.1 hE9
  have hdis : ∀ b, b ∈ q → b ∉ al_kids P E X := by
    intro b hb hbk
    obtain ⟨g1, g2, -⟩ := al_kids_nd hT hX9 hbk
    rw [h3] at hb
    rcases List.mem_cons.mp hb with rfl | hb
    · exact g2 rfl
    · obtain ⟨Y, hY, hbY⟩ := List.mem_flatMap.mp hb
      have hYq : Y ∈ q := List.mem_of_mem_take hY
      have hY9 : Y < 90 := Nat.lt_of_lt_of_le (h5 Y hYq).1.1 hE9
      have e1 := ((al_kids_mem hT hX9).mp hbk).2
      have e2 := ((al_kids_mem hT hY9).mp hbY).2
      have e3 : X = Y := al_nI_inj (by omega) (by omega) (e1.symm.trans e2)
      subst e3
      obtain ⟨i, hi⟩ := List.getElem?_of_mem hY
      have hi2 : i < k := by
        have := (List.getElem?_eq_some_iff.mp hi).1
        rw [List.length_take] at this
        omega
      rw [List.getElem?_take_of_lt hi2] at hi
      exact absurd (al_inj_getElem h4 hi hk) (by omega)
  have hnd : (q ++ al_kids P E X).Nodup := List.nodup_append.mpr ⟨h4, al_kids_nodup, fun a ha b hb e => hdis a ha (e ▸ hb)⟩
  have hmem : ∀ a, a ∈ q ++ al_kids P E X → al_nd P E a := fun a ha => by
    rcases List.mem_append.mp ha with ha | ha
    · exact (h5 a ha).1
    · exact (al_kids_nd hT hX9 ha).1
  have hlen : (q ++ al_kids P E X).length ≤ 90 := al_nodup_len 90 _ hnd (fun a ha => Nat.lt_of_lt_of_le (hmem a ha).1 hE9)
  obtain ⟨g1, g2, g3, g4⟩ := al_dnI_spec (D := d X) hX9 (al_kids P E X) 90 (σ.1 12 X) σ q (hK X hX9).1 (by have := al_kd_len (P := P) (E := E) (p := X) 89 1; exact Nat.le_trans this (by omega)) h1 hlen (hdis X hXq) al_kids_nodup (h5 X hXq).2
  refine ⟨⟨g1, by rw [List.length_append]; omega, ?_, hnd, fun a ha => ⟨hmem a ha, ?_⟩, fun j a hj ha => ?_⟩, g4⟩
  · have e : (q ++ al_kids P E X).take (k + 1) = q.take k ++ [X] := by
      rw [List.take_append_of_le_length (by omega), List.take_succ, hk]
      rfl
    rw [e, List.flatMap_append]
    have e2 : [X].flatMap (al_kids P E) = al_kids P E X := by simp
    rw [e2, ← List.cons_append, ← h3]
  · rcases List.mem_append.mp ha with ha2 | ha2
    · rw [g3 a (hdis a ha2)]
      exact (h5 a ha2).2
    · rw [g2 a ha2, (al_kids_nd hT hX9 ha2).2.2]
  · by_cases hjl : j < q.length
    · rw [List.getElem?_append_left hjl] at hj
      obtain ⟨i, b, e1, e2, e3⟩ := h6 j a hj ha
      exact ⟨i, b, e1, by rw [List.getElem?_append_left (by omega)]; exact e2, e3⟩
    · rw [List.getElem?_append_right (by omega)] at hj
      have := (al_kids_mem hT hX9).mp (List.mem_of_getElem? hj)
      exact ⟨k, X, by omega, by rw [List.getElem?_append_left hkl]; exact hk, this.2⟩
theorem al_dnO_spec {P : Nat → Int32} {E : Nat} {d : Nat → Nat} (hT : al_TOK P E d) : ∀ (n k : Nat) (σ : al_St) (q : List Nat), k + n = 90 → al_kidsOK P E σ → al_dnS P E d k σ q → ∃ q' : List Nat, al_dnS P E d q'.length (al_dnO n k σ) q' ∧ al_frD σ (al_dnO n k σ)
  | 0, k, σ, q, hk, hK, h => ⟨q, by
      have h1 := h.1.2.1
      have h2 := h.2.1
      have e : q.length = k := by omega
      rw [e]
      exact h, al_frD.rf⟩
  | n + 1, k, σ, q, hk, hK, h => by
    have h1 := h.1.1
    have h2 := h.2.1
    have h3 := h.1.2.1
    by_cases hkl : k = q.length
    · have hc : σ.2.2.1 9 ≤ nI k := by
        rw [h1, hkl]
        exact nI_le (Nat.le_refl _) (by omega)
      rw [al_dnO, if_pos hc]
      exact ⟨q, hkl ▸ h, al_frD.rf⟩
    · have hc : ¬ σ.2.2.1 9 ≤ nI k := by
        rw [h1]
        exact nI_ge (by omega) (by omega)
      obtain ⟨X, hX⟩ : ∃ X, q[k]? = some X := ⟨_, List.getElem?_eq_getElem (by omega)⟩
      have e1 : al_rg (σ.1 14) (nI k) = nI X := by
        rw [al_rg_lt (by omega)]
        exact h.1.2.2 k X hX
      have hXn := (h.2.2.2.2.1 X (List.mem_of_getElem? hX)).1
      have e2 : al_rg (σ.1 12) (nI X) = σ.1 12 X := al_rg_lt (Nat.lt_of_lt_of_le hXn.1 hT.2.1)
      obtain ⟨g1, g2⟩ := al_dnS_step hT hK h hX
      have hK2 : al_kidsOK P E (al_dnI (nI X) 90 (σ.1 12 X) σ) := fun p hp => by
        rw [g2.1 13 (by decide) (by decide), g2.1 12 (by decide) (by decide), g2.1 17 (by decide) (by decide)]
        exact hK p hp
      rw [al_dnO, if_neg hc, e1, e2]
      obtain ⟨q', g3, g4⟩ := al_dnO_spec hT n (k + 1) _ _ (by omega) hK2 g1
      exact ⟨q', g3, g2.tr g4⟩
/-- what goDown leaves: the nodes in an order, each behind its parent; their depths -/
def al_ord (P : Nat → Int32) (E : Nat) (q : List Nat) : Prop := q.Nodup ∧ (∀ v, v ∈ q ↔ al_nd P E v) ∧ q[0]? = some 0 ∧ ∀ (j a : Nat), q[j]? = some a → a ≠ 0 → ∃ (i b : Nat), i < j ∧ q[i]? = some b ∧ P a = nI b
theorem al_root_nd {P : Nat → Int32} {E : Nat} {d : Nat → Nat} (hT : al_TOK P E d) : al_nd P E 0 := ⟨by have := hT.1; omega, by rw [hT.2.2.1]; decide⟩
theorem al_goDown_I {P : Nat → Int32} {E : Nat} {d : Nat → Nat} {σ : al_St} (hT : al_TOK P E d) (hK : al_kidsOK P E σ) : ∃ q : List Nat, al_Q (al_goDown σ) q ∧ al_ord P E q ∧ (∀ a, al_nd P E a → (al_goDown σ).1 15 a = nI (d a)) ∧ al_frD σ (al_goDown σ) := by
  have hr := al_root_nd hT
  have h0 : al_dnS P E d 0 (al_sV (al_set (al_set σ 14 0 0) 15 0 0) 9 1) [0] := by
    have e14 : al_rs (σ.1 14) 0 0 = upd (σ.1 14) 0 0 := al_rs_lt (n := 0) (by decide)
    have e15 : al_rs (σ.1 15) 0 0 = upd (σ.1 15) 0 0 := al_rs_lt (n := 0) (by decide)
    refine ⟨⟨rfl, by decide, fun j a hj => ?_⟩, Nat.zero_le _, rfl, by simp, fun a ha => ?_, fun j a hj ha => ?_⟩
    · cases j with
      | zero =>
        cases hj
        show al_rs (σ.1 14) 0 0 0 = nI 0
        rw [e14, al_upd_s]
        rfl
      | succ j => simp at hj
    · have : a = 0 := by simpa using ha
      subst this
      refine ⟨hr, ?_⟩
      show al_rs (σ.1 15) 0 0 0 = nI (d 0)
      rw [e15, al_upd_s, hT.2.2.2.1]
      rfl
    · cases j with
      | zero =>
        cases hj
        exact absurd rfl ha
      | succ j => simp at hj
  have f0 : al_frD σ (al_sV (al_set (al_set σ 14 0 0) 15 0 0) 9 1) := by
    refine ⟨fun j h1 h2 => ?_, rfl, fun k hk => ?_, rfl⟩
    · simp only [al_sV_1, al_set_1, h1, h2, if_false]
    · rw [al_sV_V, if_neg hk]
      rfl
  have hK0 : al_kidsOK P E (al_sV (al_set (al_set σ 14 0 0) 15 0 0) 9 1) := fun p hp => by
    rw [f0.1 13 (by decide) (by decide), f0.1 12 (by decide) (by decide), f0.1 17 (by decide) (by decide)]
    exact hK p hp
  obtain ⟨q, h1, h2⟩ := al_dnO_spec hT 90 0 _ [0] (by omega) hK0 h0
  have hfull : q = 0 :: q.flatMap (al_kids P E) := by
    have := h1.2.2.1
    rwa [List.take_length] at this
  have hall : ∀ (m v : Nat), d v = m → al_nd P E v → v ∈ q := by
    intro m
    induction m with
    | zero =>
      intro v hd hv
      by_cases hv0 : v = 0
      · rw [hfull, hv0]
        exact List.mem_cons_self
      · obtain ⟨p, _, _, h3⟩ := hT.2.2.2.2 v hv0 hv
        omega
    | succ m ih =>
      intro v hd hv
      have hv0 : v ≠ 0 := fun e => by rw [e, hT.2.2.2.1] at hd; omega
      obtain ⟨p, hp1, hp2, h3⟩ := hT.2.2.2.2 v hv0 hv
      have hpq := ih p (by omega) hp2
      rw [hfull]
      exact List.mem_cons_of_mem _ (List.mem_flatMap.mpr ⟨p, hpq, (al_kids_mem hT (Nat.lt_of_lt_of_le hp2.1 hT.2.1)).mpr ⟨hv.1, hp1⟩⟩)
  refine ⟨q, h1.1, ⟨h1.2.2.2.1, fun v => ⟨fun h => (h1.2.2.2.2.1 v h).1, fun h => hall _ v rfl h⟩, by rw [hfull]; rfl, h1.2.2.2.2.2⟩, fun a ha => (h1.2.2.2.2.1 a (hall _ a rfl ha)).2, f0.tr h2⟩
/-- a depth is less than its place in the order -/
theorem al_ord_d {P : Nat → Int32} {E : Nat} {d : Nat → Nat} {q : List Nat} (hT : al_TOK P E d) (h : al_ord P E q) : ∀ (j a : Nat), q[j]? = some a → d a ≤ j := by
  intro j
  induction j using Nat.strongRecOn with
  | ind j ih =>
    intro a hj
    by_cases ha : a = 0
    · rw [ha, hT.2.2.2.1]
      exact Nat.zero_le _
    · obtain ⟨i, b, h1, h2, h3⟩ := h.2.2.2 j a hj ha
      have h4 := ih i h1 b h2
      obtain ⟨p, hp1, hp2, h5⟩ := hT.2.2.2.2 a ha ((h.2.1 a).mp (List.mem_of_getElem? hj))
      have hb := ((h.2.1 b).mp (List.mem_of_getElem? h2)).1
      have := hT.2.1
      have e : p = b := al_nI_inj (by have := hp2.1; omega) (by omega) (hp1.symm.trans h3)
      subst e
      omega
theorem al_ord_len {P : Nat → Int32} {E : Nat} {d : Nat → Nat} {q : List Nat} (hT : al_TOK P E d) (h : al_ord P E q) : q.length ≤ 90 := al_nodup_len 90 q h.1 (fun x hx => Nat.lt_of_lt_of_le ((h.2.1 x).mp hx).1 hT.2.1)
theorem al_d_lt {P : Nat → Int32} {E : Nat} {d : Nat → Nat} {q : List Nat} (hT : al_TOK P E d) (h : al_ord P E q) {v : Nat} (hv : al_nd P E v) : d v < 90 := by
  obtain ⟨j, hj⟩ := List.getElem?_of_mem ((h.2.1 v).mpr hv)
  have h1 := al_ord_d hT h j v hj
  have h2 := (List.getElem?_eq_some_iff.mp hj).1
  have h3 := al_ord_len hT h
  omega
