/-! shapes: what is written of small branches -/
theorem al_shl_or {a b s : Nat} (hs : s < 32) (ha : a * 2 ^ s < 2 ^ 31) (hb : b < 2 ^ s) : (nI a <<< (nI s &&& 31)) ||| nI b = nI (a * 2 ^ s + b) := by
  have e31 : nI s &&& 31 = nI s := by
    rw [pk_andN (m := 31) (by omega) 5 (by decide), Nat.mod_eq_of_lt (by omega)]
  have hsm : ((nI s).toBitVec.smod 32).toNat = s := by
    have : ∀ s, s < 32 → ((nI s).toBitVec.smod 32).toNat = s := by decide +kernel
    exact this s hs
  have hb31 : b < 2 ^ 31 := Nat.lt_of_lt_of_le hb (Nat.pow_le_pow_right (by omega) (by omega))
  rw [e31, pk_shlN _ s hsm (by omega)]
  refine Int32.toBitVec_inj.mp (BitVec.eq_of_toNat_eq ?_)
  show ((nI (a * 2 ^ s)).toBitVec ||| (nI b).toBitVec).toNat = _
  have h2 : a * 2 ^ s + b = a * 2 ^ s ||| b := by
    rw [Nat.mul_comm, Nat.two_pow_add_eq_or_of_lt hb]
  rw [BitVec.toNat_or, pk_tn (by omega), pk_tn (by omega), ← h2, pk_tn ?_]
  have h3 : a * 2 ^ s + b < 2 ^ 32 := by omega
  exact h3
/-- the joining of children's shapes -/
def al_jl (S f : Nat → Nat) : List Nat → Nat → Nat
  | [], a => a
  | c :: l, a => al_jl S f l (a * 2 ^ (2 * S c) + f c)
theorem al_jl_congr {S f g : Nat → Nat} : ∀ (l : List Nat) (a : Nat), (∀ c, c ∈ l → f c = g c) → al_jl S f l a = al_jl S g l a
  | [], _, _ => rfl
  | c :: l, a, h => by rw [al_jl, al_jl, h c List.mem_cons_self, al_jl_congr l _ (fun x hx => h x (List.mem_cons_of_mem _ hx))]
theorem al_jl_bd {S f : Nat → Nat} : ∀ (l : List Nat) (a m : Nat), 2 ^ (2 * m) ≤ a → a < 2 ^ (2 * m + 1) → (∀ c, c ∈ l → f c < 2 ^ (2 * S c)) → 2 ^ (2 * (m + (l.map S).sum)) ≤ al_jl S f l a ∧ al_jl S f l a < 2 ^ (2 * (m + (l.map S).sum) + 1)
  | [], a, m, h1, h2, _ => by
    rw [al_jl, List.map_nil, List.sum_nil, Nat.add_zero]
    exact ⟨h1, h2⟩
  | c :: l, a, m, h1, h2, h => by
    have hc := h c List.mem_cons_self
    rw [al_jl, List.map_cons, List.sum_cons, ← Nat.add_assoc]
    refine al_jl_bd l _ (m + S c) ?_ ?_ (fun x hx => h x (List.mem_cons_of_mem _ hx))
    · rw [Nat.mul_add, Nat.pow_add]
      have := Nat.mul_le_mul_right (2 ^ (2 * S c)) h1
      omega
    · rw [show 2 * (m + S c) + 1 = (2 * m + 1) + 2 * S c by omega, Nat.pow_add]
      have h3 : (a + 1) * 2 ^ (2 * S c) ≤ 2 ^ (2 * m + 1) * 2 ^ (2 * S c) := Nat.mul_le_mul_right _ h2
      rw [Nat.add_mul, Nat.one_mul] at h3
      omega
def al_Sc (P : Nat → Int32) (E : Nat) : Nat → Nat := al_fix 0 (fun f v => 2 * al_jl (al_S P E) f (al_kids P E v) 1)
section ALS
variable {P : Nat → Int32} {E : Nat} {d : Nat → Nat} {q : List Nat}
theorem al_Sc_eq (hT : al_TOK P E d) (hd : ∀ v, al_nd P E v → d v < 90) {v : Nat} (hv : al_nd P E v) : al_Sc P E v = 2 * al_jl (al_S P E) (al_Sc P E) (al_kids P E v) 1 :=
  al_fix_dn (z := 0) (Φ := fun f v => 2 * al_jl (al_S P E) f (al_kids P E v) 1) hT hd (fun f g v _ h => by
    show 2 * al_jl (al_S P E) f (al_kids P E v) 1 = 2 * al_jl (al_S P E) g (al_kids P E v) 1
    rw [al_jl_congr _ _ h]) hv
theorem al_S_pos (hT : al_TOK P E d) (hd : ∀ v, al_nd P E v → d v < 90) {v : Nat} (hv : al_nd P E v) : 1 ≤ al_S P E v := by
  rw [al_S_eq hT hd hv]
  omega
theorem al_mem_sum {f : Nat → Nat} : ∀ (l : List Nat) (c : Nat), c ∈ l → f c ≤ (l.map f).sum
  | [], c, h => absurd h List.not_mem_nil
  | a :: l, c, h => by
    rw [List.map_cons, List.sum_cons]
    rcases List.mem_cons.mp h with rfl | h
    · omega
    · have := al_mem_sum (f := f) l c h
      omega
theorem al_len_sum {f : Nat → Nat} : ∀ (l : List Nat), (∀ c, c ∈ l → 1 ≤ f c) → l.length ≤ (l.map f).sum
  | [], _ => Nat.le_refl _
  | a :: l, h => by
    rw [List.map_cons, List.sum_cons, List.length_cons]
    have := al_len_sum (f := f) l (fun c hc => h c (List.mem_cons_of_mem _ hc))
    have := h a List.mem_cons_self
    omega
theorem al_S_kid (hT : al_TOK P E d) (hd : ∀ v, al_nd P E v → d v < 90) {v c : Nat} (hv : al_nd P E v) (hc : c ∈ al_kids P E v) : al_S P E c < al_S P E v := by
  rw [al_S_eq hT hd hv]
  have := al_mem_sum (f := al_S P E) _ c hc
  omega
theorem al_Sc_bd (hT : al_TOK P E d) (hd : ∀ v, al_nd P E v → d v < 90) : ∀ (m v : Nat), al_S P E v ≤ m → al_nd P E v → 2 ^ (2 * al_S P E v - 1) ≤ al_Sc P E v ∧ al_Sc P E v < 2 ^ (2 * al_S P E v)
  | 0, v, hm, hv => by have := al_S_pos hT hd hv; omega
  | m + 1, v, hm, hv => by
    have hk : ∀ c, c ∈ al_kids P E v → al_Sc P E c < 2 ^ (2 * al_S P E c) := fun c hc => (al_Sc_bd hT hd m c (by have := al_S_kid hT hd hv hc; omega) (al_kids_nd hT (al_nd_lt hT hv) hc).1).2
    have hb := al_jl_bd (S := al_S P E) (f := al_Sc P E) (al_kids P E v) 1 0 (Nat.le_refl _) (by decide) hk
    rw [al_Sc_eq hT hd hv]
    have hS := al_S_eq hT hd hv
    have e1 : 2 * al_S P E v - 1 = 2 * (0 + ((al_kids P E v).map (al_S P E)).sum) + 1 := by omega
    have e2 : 2 * al_S P E v = 2 * (0 + ((al_kids P E v).map (al_S P E)).sum) + 1 + 1 := by omega
    rw [e1]
    constructor
    · rw [Nat.pow_succ]
      have := hb.1
      omega
    · rw [e2, Nat.pow_succ]
      have := hb.2
      omega
theorem al_p30 {n : Nat} (h : n ≤ 15) : 2 ^ (2 * n) ≤ 2 ^ 30 := Nat.pow_le_pow_right (by omega) (by omega)
/-- what is written of v -/
def al_sv (P : Nat → Int32) (E v : Nat) : Int32 := if al_S P E v ≤ 15 then nI (al_Sc P E v) else 0
theorem al_joinL_I {σ : al_St} (hT : al_TOK P E d) (hd : ∀ v, al_nd P E v → d v < 90) : ∀ (l : List Nat) (n : Nat) (c : Int32) (a m : Nat), al_ch (σ.1 13) c l → l.length ≤ n → 2 ^ (2 * m) ≤ a → a < 2 ^ (2 * m + 1) → m + (l.map (al_S P E)).sum ≤ 14 → (∀ x, x ∈ l → al_nd P E x ∧ σ.1 18 x = nI (al_S P E x) ∧ σ.1 23 x = nI (al_Sc P E x)) → al_joinL σ n c (nI a) = nI (al_jl (al_S P E) (al_Sc P E) l a)
  | [], n, c, a, m, hc, hn, h1, h2, h3, h => by
    have hc : c = -1 := hc
    cases n with
    | zero => rfl
    | succ n => rw [al_joinL, if_pos hc]; rfl
  | x :: l, n, c, a, m, hc, hn, h1, h2, h3, h => by
    obtain ⟨rfl, hx, hc2⟩ := hc
    rw [List.map_cons, List.sum_cons] at h3
    cases n with
    | zero => simp at hn
    | succ n =>
      rw [List.length_cons] at hn
      obtain ⟨k1, k2, k3⟩ := h x List.mem_cons_self
      have hsc := (al_Sc_bd hT hd _ x (Nat.le_refl _) k1).2
      have hup : (a + 1) * 2 ^ (2 * al_S P E x) ≤ 2 ^ (2 * m + 1) * 2 ^ (2 * al_S P E x) := Nat.mul_le_mul_right _ h2
      have hle : 2 ^ (2 * m + 1) * 2 ^ (2 * al_S P E x) ≤ 2 ^ 29 := by
        rw [← Nat.pow_add]
        exact Nat.pow_le_pow_right (by omega) (by omega)
      rw [Nat.add_mul, Nat.one_mul] at hup
      rw [al_joinL, if_neg (al_nI_m1 (by omega)), al_rg_lt hx, al_rg_lt hx, al_rg_lt hx, k2, k3, show (2 : Int32) * nI (al_S P E x) = nI (2 * al_S P E x) from pk_mul 2 _, al_shl_or (by omega) (by omega) hsc, al_jl]
      refine al_joinL_I hT hd l n _ _ (m + al_S P E x) hc2 (by omega) ?_ ?_ (by omega) (fun y hy => h y (List.mem_cons_of_mem _ hy))
      · rw [Nat.mul_add, Nat.pow_add]
        have := Nat.mul_le_mul_right (2 ^ (2 * al_S P E x)) h1
        omega
      · rw [show 2 * (m + al_S P E x) + 1 = (2 * m + 1) + 2 * al_S P E x by omega, Nat.pow_add]
        omega
theorem al_join_I {σ : al_St} (hT : al_TOK P E d) (hd : ∀ v, al_nd P E v → d v < 90) (hK : al_kidsOK P E σ) {X : Nat} (hX : al_nd P E X) (hS : al_S P E X ≤ 15) (h : ∀ x, x ∈ al_kids P E X → σ.1 18 x = nI (al_S P E x) ∧ σ.1 23 x = nI (al_Sc P E x)) : al_join σ (nI X) = nI (al_Sc P E X) := by
  have hX9 := al_nd_lt hT hX
  have e := al_S_eq hT hd hX
  have hl := al_len_sum (f := al_S P E) (al_kids P E X) (fun c hc => al_S_pos hT hd (al_kids_nd hT hX9 hc).1)
  have h1 := al_joinL_I (σ := σ) hT hd (al_kids P E X) 15 (σ.1 12 X) 1 0 (hK X hX9).1 (by omega) (Nat.le_refl _) (by decide) (by omega) (fun x hx => ⟨(al_kids_nd hT hX9 hx).1, h x hx⟩)
  have hb := (al_Sc_bd hT hd _ X (Nat.le_refl _) hX).2
  have h15 := al_p30 hS
  rw [al_Sc_eq hT hd hX] at hb ⊢
  rw [al_join, al_rg_lt hX9, show (1 : Int32) = nI 1 from rfl, h1, show nI 1 &&& 31 = (1 : Int32) from by decide, pk_shlN (1 : Int32) 1 (by decide) (by omega), Nat.mul_comm]
end ALS
section ALV
variable {E : Nat} {d : Nat → Nat} {q : List Nat}
theorem al_Rl_23 {τ σ : al_St} {f : Nat → Int32} (h : al_Rl τ σ) : al_Rl τ (al_sR σ 23 f) := ⟨fun j hj => by
  show (if j = 23 then _ else _) = _
  rw [if_neg (by omega)]
  exact h.1 j hj, h.2.1, h.2.2.1, h.2.2.2.1, h.2.2.2.2⟩
theorem al_wrL_I {τ : al_St} (hg : al_GG τ E d q) : ∀ (n : Nat) (σ : al_St), n ≤ q.length → al_Rl τ σ → (∀ w, w < 90 → σ.1 23 w = if w ∈ q.drop n then al_sv (τ.1 0) E w else 0) → (∀ w, w < 90 → (al_wrL n σ).1 23 w = if w ∈ q then al_sv (τ.1 0) E w else 0) ∧ al_Rl τ (al_wrL n σ)
  | 0, σ, hn, hR, h => ⟨h, hR⟩
  | n + 1, σ, hn, hR, h => by
    have hg2 := hR.GG hg
    have e0 : σ.1 0 = τ.1 0 := hR.1 0 (by decide)
    obtain ⟨X, hX⟩ : ∃ X, q[n]? = some X := ⟨_, List.getElem?_eq_getElem (by omega)⟩
    have hq := hg.2.2.2.1
    have hXn := (hq.2.1 X).mp (List.mem_of_getElem? hX)
    have hX9 := al_nd_lt hg.1 hXn
    have hXn2 : al_nd (σ.1 0) E X := by rw [e0]; exact hXn
    have e1 : al_rg (σ.1 14) (nI (n + 1) - 1) = nI X := by
      rw [nI_pred, al_rg_lt (by have := hg.2.2.2.2.1.2.1; omega)]
      exact hg2.2.2.2.2.1.2.2 n X hX
    have hdr : q.drop n = X :: q.drop (n + 1) := by
      have hlt : n < q.length := hn
      rw [List.drop_eq_getElem_cons hlt]
      congr 1
      have := List.getElem?_eq_getElem hlt
      rw [this] at hX
      exact Option.some.inj hX
    have hnot : X ∉ q.drop (n + 1) := by
      have : (q.drop n).Nodup := List.Nodup.sublist (List.drop_sublist n q) hq.1
      rw [hdr] at this
      exact (List.nodup_cons.mp this).1
    rw [al_wrL, e1, al_wr1, al_GG_18 hg2 hXn2]
    by_cases hS : al_S (σ.1 0) E X ≤ 15
    · rw [if_neg (show ¬ (15 : Int32) < nI (al_S (σ.1 0) E X) from nI_nlt (a := 15) hS (by omega))]
      have hj : al_join σ (nI X) = nI (al_Sc (σ.1 0) E X) := al_join_I hg2.1 (al_GG_dd hg2) hg2.2.2.2.2.2.1 hXn2 hS (fun x hx => by
        have hxn := al_kids_nd hg2.1 hX9 hx
        have hx9 := al_nd_lt hg2.1 hxn.1
        refine ⟨(hg2.2.2.2.2.2.2.2.1 x hxn.1).1, ?_⟩
        obtain ⟨j, hj⟩ := List.getElem?_of_mem ((hg2.2.2.2.1.2.1 x).mpr hxn.1)
        obtain ⟨i, b, i1, i2, i3⟩ := hg2.2.2.2.1.2.2.2 j x hj hxn.2.1
        have hb := (hg2.2.2.2.1.2.1 b).mp (List.mem_of_getElem? i2)
        have hbX : b = X := al_nI_inj (by have := al_nd_lt hg2.1 hb; omega) (by omega) (i3.symm.trans ((al_kids_mem hg2.1 hX9).mp hx).2)
        rw [hbX] at i2
        have hin := al_inj_getElem hq.1 i2 hX
        have hmem : x ∈ q.drop (n + 1) := by
          refine List.mem_of_getElem? (i := j - (n + 1)) ?_
          rw [List.getElem?_drop, show n + 1 + (j - (n + 1)) = j by omega]
          exact hj
        have hSx := al_S_kid hg2.1 (al_GG_dd hg2) hXn2 hx
        rw [h x hx9, if_pos hmem, al_sv, ← e0, if_pos (by omega)])
      rw [hj]
      have hs : al_set σ 23 (nI X) (nI (al_Sc (σ.1 0) E X)) = al_sR σ 23 (upd (σ.1 23) X (nI (al_Sc (σ.1 0) E X))) := by rw [al_set, al_rs_lt hX9]
      rw [hs]
      refine al_wrL_I hg n _ (by omega) (al_Rl_23 hR) (fun w hw => ?_)
      show upd (σ.1 23) X (nI (al_Sc (σ.1 0) E X)) w = _
      rw [hdr]
      by_cases e : w = X
      · subst e
        rw [al_upd_s, if_pos List.mem_cons_self, al_sv, ← e0, if_pos hS]
      · rw [al_upd_n e, h w hw]
        by_cases m : w ∈ q.drop (n + 1)
        · rw [if_pos m, if_pos (List.mem_cons_of_mem _ m)]
        · rw [if_neg m, if_neg (fun hc => (List.mem_cons.mp hc).elim e m)]
    · rw [if_pos (show (15 : Int32) < nI (al_S (σ.1 0) E X) from nI_lt (a := 15) (by omega) (by
        have h1 := (hg2.2.2.2.2.2.2.2.1 X hXn2).1
        have h2 : al_S (σ.1 0) E X ≤ al_S (σ.1 0) E 0 := by
          have key : ∀ (m v : Nat), d v = m → al_nd (σ.1 0) E v → al_S (σ.1 0) E v ≤ al_S (σ.1 0) E 0 := by
            intro m
            induction m with
            | zero =>
              intro v hm hv
              rw [al_d0 hg2.1 hv hm]
              exact Nat.le_refl _
            | succ m ih =>
              intro v hm hv
              have h0 : v ≠ 0 := fun e => by rw [e, hg2.1.2.2.2.1] at hm; omega
              obtain ⟨p1, p2, p3⟩ := al_par_nd hg2.1 hv h0
              have := al_S_kid hg2.1 (al_GG_dd hg2) p2 ((al_kids_mem hg2.1 (al_nd_lt hg2.1 p2)).mpr ⟨hv.1, p1⟩)
              have := ih _ (by omega) p2
              omega
          exact key _ X rfl hXn2
        rw [al_S0 hg2.1 hg2.2.2.2.1] at h2
        have := hg2.2.2.2.2.1.2.1
        omega))]
      refine al_wrL_I hg n σ (by omega) hR (fun w hw => ?_)
      rw [hdr]
      by_cases e : w = X
      · subst e
        rw [h w hw, if_neg hnot, if_pos List.mem_cons_self, al_sv, ← e0, if_neg hS]
      · rw [h w hw]
        by_cases m : w ∈ q.drop (n + 1)
        · rw [if_pos m, if_pos (List.mem_cons_of_mem _ m)]
        · rw [if_neg m, if_neg (fun hc => (List.mem_cons.mp hc).elim e m)]
theorem al_write_I {τ σ : al_St} (hg : al_GG τ E d q) (hR : al_Rl τ σ) : (∀ w, w < 90 → (al_write σ).1 23 w = if w ∈ q then al_sv (τ.1 0) E w else 0) ∧ al_Rl τ (al_write σ) := by
  have hQ := hg.2.2.2.2.1
  have e9 : (σ.2.2.1 9).toNatClampNeg = q.length := by rw [hR.2.2.1 9 (by decide), hQ.1, nI_clamp (by have := hQ.2.1; omega)]
  rw [al_write, e9]
  refine al_wrL_I hg q.length _ (Nat.le_refl _) (al_Rl_23 hR) (fun w hw => ?_)
  rw [List.drop_length, if_neg List.not_mem_nil]
  show al_fill 90 0 (σ.1 23) w = 0
  simp only [al_fill, hw, if_true]
end ALV
