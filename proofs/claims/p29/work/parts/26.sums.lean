/-! sums over the nodes, in any order -/
def al_ns (P : Nat → Int32) : Nat → List Nat
  | 0 => []
  | m + 1 => if P m = -2 then al_ns P m else al_ns P m ++ [m]
theorem al_ns_mem {P : Nat → Int32} : ∀ (m v : Nat), v ∈ al_ns P m ↔ v < m ∧ P v ≠ -2
  | 0, v => by simp [al_ns]
  | m + 1, v => by
    rw [al_ns]
    split
    · rename_i h
      rw [al_ns_mem m v]
      constructor
      · rintro ⟨h1, h2⟩; exact ⟨by omega, h2⟩
      · rintro ⟨h1, h2⟩
        have : v ≠ m := fun e => h2 (e ▸ h)
        exact ⟨by omega, h2⟩
    · rename_i h
      rw [List.mem_append, al_ns_mem m v, List.mem_singleton]
      constructor
      · rintro (⟨h1, h2⟩ | rfl)
        · exact ⟨by omega, h2⟩
        · exact ⟨by omega, h⟩
      · rintro ⟨h1, h2⟩
        by_cases e : v = m
        · exact Or.inr e
        · exact Or.inl ⟨by omega, h2⟩
theorem al_ns_nodup {P : Nat → Int32} : ∀ (m : Nat), (al_ns P m).Nodup
  | 0 => List.nodup_nil
  | m + 1 => by
    rw [al_ns]
    split
    · exact al_ns_nodup m
    · refine List.nodup_append.mpr ⟨al_ns_nodup m, List.nodup_cons.mpr ⟨List.not_mem_nil, List.nodup_nil⟩, fun a ha b hb e => ?_⟩
      have h1 := (al_ns_mem m a).mp ha
      have h2 := List.mem_singleton.mp hb
      omega
theorem al_ns_perm {P : Nat → Int32} {E : Nat} {q : List Nat} (hq : al_ord P E q) : q.Perm (al_ns P E) :=
  (List.perm_ext_iff_of_nodup hq.1 (al_ns_nodup E)).mpr (fun a => (hq.2.1 a).trans (al_ns_mem E a).symm)
def al_isum (f : Nat → Int32) : List Nat → Int32
  | [] => 0
  | a :: l => f a + al_isum f l
theorem al_isum_app {f : Nat → Int32} : ∀ (l l' : List Nat), al_isum f (l ++ l') = al_isum f l + al_isum f l'
  | [], l' => by rw [List.nil_append, al_isum, Int32.zero_add]
  | a :: l, l' => by rw [List.cons_append, al_isum, al_isum, al_isum_app l l', Int32.add_assoc]
theorem al_isum_one {f : Nat → Int32} {l : List Nat} {a : Nat} : al_isum f (l ++ [a]) = al_isum f l + f a := by
  rw [al_isum_app, al_isum, al_isum, Int32.add_zero]
theorem al_isum_perm {f : Nat → Int32} {l l' : List Nat} (h : l.Perm l') : al_isum f l = al_isum f l' := by
  induction h with
  | nil => rfl
  | cons a _ ih => rw [al_isum, al_isum, ih]
  | swap a b l => rw [al_isum, al_isum, al_isum, al_isum, ← Int32.add_assoc, ← Int32.add_assoc, Int32.add_comm (f b) (f a)]
  | trans _ _ h1 h2 => exact h1.trans h2
theorem al_isum_congr {f g : Nat → Int32} : ∀ (l : List Nat), (∀ a, a ∈ l → f a = g a) → al_isum f l = al_isum g l
  | [], _ => rfl
  | a :: l, h => by rw [al_isum, al_isum, h a List.mem_cons_self, al_isum_congr l (fun b hb => h b (List.mem_cons_of_mem _ hb))]
theorem al_isum_nI {f : Nat → Nat} : ∀ (l : List Nat), al_isum (fun a => nI (f a)) l = nI (l.map f).sum
  | [] => rfl
  | a :: l => by rw [al_isum, al_isum_nI l, nI_add, List.map_cons, List.sum_cons]
theorem al_fm_sum {g : Nat → List Nat} {F : Nat → Nat} : ∀ (l : List Nat), ((l.flatMap g).map F).sum = (l.map (fun p => ((g p).map F).sum)).sum
  | [] => rfl
  | a :: l => by rw [List.flatMap_cons, List.map_append, List.sum_append_nat, al_fm_sum l, List.map_cons, List.sum_cons]
theorem al_add_sum {F G : Nat → Nat} : ∀ (l : List Nat), (l.map (fun p => F p + G p)).sum = (l.map F).sum + (l.map G).sum
  | [] => rfl
  | a :: l => by
    rw [List.map_cons, List.map_cons, List.map_cons, List.sum_cons, List.sum_cons, List.sum_cons, al_add_sum l]
    omega
theorem al_map_sum_congr {F G : Nat → Nat} : ∀ (l : List Nat), (∀ a, a ∈ l → F a = G a) → (l.map F).sum = (l.map G).sum
  | [], _ => rfl
  | a :: l, h => by rw [List.map_cons, List.map_cons, List.sum_cons, List.sum_cons, h a List.mem_cons_self, al_map_sum_congr l (fun b hb => h b (List.mem_cons_of_mem _ hb))]
theorem al_one_sum : ∀ (l : List Nat), (l.map (fun _ => 1)).sum = l.length
  | [] => rfl
  | a :: l => by
    rw [List.map_cons, List.sum_cons, al_one_sum l, List.length_cons]
    omega
/-- a list with one that counts more -/
theorem al_spot_sum {W c : Nat} : ∀ (l : List Nat), l.Nodup → (l.map (fun a => 1 + if a = c then W else 0)).sum = l.length + if c ∈ l then W else 0
  | [], _ => by simp
  | a :: l, h => by
    have h2 := List.nodup_cons.mp h
    rw [List.map_cons, List.sum_cons, al_spot_sum l h2.2, List.length_cons]
    by_cases e : a = c
    · subst e
      rw [if_pos rfl, if_neg h2.1, if_pos List.mem_cons_self]
      omega
    · rw [if_neg e]
      by_cases m : c ∈ l
      · rw [if_pos m, if_pos (List.mem_cons_of_mem _ m)]
        omega
      · rw [if_neg m, if_neg (fun hc => (List.mem_cons.mp hc).elim (fun q => e q.symm) m)]
        omega
section ALN
variable {P : Nat → Int32} {E : Nat} {d : Nat → Nat} {q : List Nat}
/-- every node but the root is the child of one node -/
theorem al_full (hT : al_TOK P E d) (hq : al_ord P E q) : q.Perm (0 :: q.flatMap (al_kids P E)) := by
  have hk : ∀ p, p ∈ q → p < 90 := fun p hp => al_nd_lt hT ((hq.2.1 p).mp hp)
  refine (List.perm_ext_iff_of_nodup hq.1 (List.nodup_cons.mpr ⟨fun h => ?_, ?_⟩)).mpr (fun a => ?_)
  · obtain ⟨p, hp, h2⟩ := List.mem_flatMap.mp h
    exact (al_kids_nd hT (hk p hp) h2).2.1 rfl
  · refine List.pairwise_flatMap.mpr ⟨fun p _ => al_kids_nodup, ?_⟩
    refine List.Pairwise.imp_of_mem ?_ hq.1
    intro p r hp hr hne x hx y hy e
    subst e
    have e1 := ((al_kids_mem hT (hk p hp)).mp hx).2
    have e2 := ((al_kids_mem hT (hk r hr)).mp hy).2
    exact hne (al_nI_inj (by have := hk p hp; omega) (by have := hk r hr; omega) (e1.symm.trans e2))
  · rw [hq.2.1 a, List.mem_cons, List.mem_flatMap]
    constructor
    · intro ha
      by_cases h0 : a = 0
      · exact Or.inl h0
      · obtain ⟨q1, q2, -⟩ := al_par_nd hT ha h0
        exact Or.inr ⟨al_par P a, (hq.2.1 _).mpr q2, (al_kids_mem hT (al_nd_lt hT q2)).mpr ⟨ha.1, q1⟩⟩
    · rintro (rfl | ⟨p, hp, h2⟩)
      · exact al_root_nd hT
      · exact (al_kids_nd hT (hk p hp) h2).1
theorem al_tel (hT : al_TOK P E d) (hq : al_ord P E q) (F : Nat → Nat) : (q.map F).sum = F 0 + (q.map (fun p => ((al_kids P E p).map F).sum)).sum := by
  rw [((al_full hT hq).map F).sum_nat, List.map_cons, List.sum_cons, al_fm_sum]
theorem al_kids_sum (hT : al_TOK P E d) (hq : al_ord P E q) : q.length = 1 + (q.map (fun p => (al_kids P E p).length)).sum := by
  have h := al_tel hT hq (fun _ => 1)
  rw [al_one_sum] at h
  rw [h]
  congr 1
  exact al_map_sum_congr _ (fun p _ => al_one_sum _)
theorem al_S0 (hT : al_TOK P E d) (hq : al_ord P E q) : al_S P E 0 = q.length := by
  have hd : ∀ v, al_nd P E v → d v < 90 := fun v hv => al_d_lt hT hq hv
  have h := al_tel hT hq (al_S P E)
  have h2 : (q.map (al_S P E)).sum = (q.map (fun p => 1 + ((al_kids P E p).map (al_S P E)).sum)).sum := al_map_sum_congr _ (fun p hp => al_S_eq hT hd ((hq.2.1 p).mp hp))
  rw [al_add_sum, al_one_sum] at h2
  omega
/-- the top of a way: above, and as high as the way is long -/
theorem al_Tp_I (hT : al_TOK P E d) (hd : ∀ v, al_nd P E v → d v < 90) : ∀ (m v : Nat), d v = m → al_nd P E v → al_nd P E (al_Tp P E v) ∧ d (al_Tp P E v) ≤ d v ∧ al_Hh P E (al_Tp P E v) + d (al_Tp P E v) = al_Hh P E v + d v := by
  intro m
  induction m with
  | zero =>
    intro v hm hv
    have h0 := al_d0 hT hv hm
    rw [al_Tp_eq hT hd hv, if_neg (fun h => h.1 h0)]
    exact ⟨hv, Nat.le_refl _, rfl⟩
  | succ m ih =>
    intro v hm hv
    have h0 : v ≠ 0 := fun e => by rw [e, hT.2.2.2.1] at hm; omega
    obtain ⟨q1, q2, q3⟩ := al_par_nd hT hv h0
    rw [al_Tp_eq hT hd hv]
    by_cases c : al_L P E (al_par P v) = nI v
    · rw [if_pos ⟨h0, c⟩]
      obtain ⟨i1, i2, i3⟩ := ih (al_par P v) (by omega) q2
      refine ⟨i1, by omega, ?_⟩
      rcases al_L_cases hT hd q2 with ⟨l1, -⟩ | ⟨x, l1, l2, l3⟩
      · rw [c] at l1
        exact absurd l1 (al_nI_m1 (by have := al_nd_lt hT hv; omega))
      · have hx := al_kids_nd hT (al_nd_lt hT q2) l1
        have : x = v := al_nI_inj (by have := al_nd_lt hT hx.1; omega) (by have := al_nd_lt hT hv; omega) (l2.symm.trans c)
        subst this
        omega
    · rw [if_neg (fun h => c h.2)]
      exact ⟨hv, Nat.le_refl _, rfl⟩
/-- how far a node stands below the top of its way, and itself -/
def al_ww (P : Nat → Int32) (E : Nat) (d : Nat → Nat) (v : Nat) : Nat := d v - d (al_Tp P E v) + 1
theorem al_ww_kids (hT : al_TOK P E d) (hd : ∀ v, al_nd P E v → d v < 90) {p : Nat} (hp : al_nd P E p) : ((al_kids P E p).map (al_ww P E d)).sum = (al_kids P E p).length + if al_kids P E p = [] then 0 else al_ww P E d p := by
  have hp9 := al_nd_lt hT hp
  rcases al_L_cases hT hd hp with ⟨l1, l2, -⟩ | ⟨x, l1, l2, l3⟩
  · rw [l2, if_pos rfl]; rfl
  · have hne : al_kids P E p ≠ [] := fun e => by rw [e] at l1; exact absurd l1 List.not_mem_nil
    have hx := al_kids_nd hT hp9 l1
    rw [if_neg hne, ← if_pos (c := x ∈ al_kids P E p) (t := al_ww P E d p) (e := 0) l1, ← al_spot_sum _ al_kids_nodup]
    refine al_map_sum_congr _ (fun c hc => ?_)
    have hcn := al_kids_nd hT hp9 hc
    have hpar : al_par P c = p := al_par_eq ((al_kids_mem hT hp9).mp hc).2 (by omega)
    rw [al_ww, al_Tp_eq hT hd hcn.1, hpar]
    by_cases e : c = x
    · subst e
      rw [if_pos ⟨hcn.2.1, l2⟩, if_pos rfl, al_ww]
      have := (al_Tp_I hT hd _ p rfl hp).2.1
      have := hcn.2.2
      omega
    · rw [if_neg (fun h => e (al_nI_inj (by have := al_nd_lt hT hcn.1; omega) (by have := al_nd_lt hT hx.1; omega) (h.2.symm.trans l2))), if_neg e]
      omega
/-- the long ways of the leaves share out all nodes -/
theorem al_ways (hT : al_TOK P E d) (hq : al_ord P E q) : (q.map (fun v => if al_kids P E v = [] then al_Hh P E (al_Tp P E v) + 1 else 0)).sum = q.length := by
  have hd : ∀ v, al_nd P E v → d v < 90 := fun v hv => al_d_lt hT hq hv
  have h1 := al_tel hT hq (al_ww P E d)
  have h2 : (q.map (fun p => ((al_kids P E p).map (al_ww P E d)).sum)).sum = (q.map (fun p => (al_kids P E p).length + if al_kids P E p = [] then 0 else al_ww P E d p)).sum := al_map_sum_congr _ (fun p hp => al_ww_kids hT hd ((hq.2.1 p).mp hp))
  rw [al_add_sum] at h2
  have h3 := al_kids_sum hT hq
  have h4 : (q.map (al_ww P E d)).sum = (q.map (fun v => (if al_kids P E v = [] then al_Hh P E (al_Tp P E v) + 1 else 0) + if al_kids P E v = [] then 0 else al_ww P E d v)).sum := by
    refine al_map_sum_congr _ (fun p hp => ?_)
    have hpn := (hq.2.1 p).mp hp
    by_cases e : al_kids P E p = []
    · rw [if_pos e, if_pos e]
      obtain ⟨-, t2, t3⟩ := al_Tp_I hT hd _ p rfl hpn
      have : al_Hh P E p = 0 := by rw [al_Hh_eq hT hd hpn, e]; rfl
      rw [al_ww]
      omega
    · rw [if_neg e, if_neg e]
      omega
  rw [al_add_sum] at h4
  have h5 : al_ww P E d 0 = 1 := by
    rw [al_ww, al_Tp_eq hT hd (al_root_nd hT), if_neg (fun h => h.1 rfl)]
    omega
  omega
/-- the height of the root is the greatest depth -/
theorem al_Hh_up (hT : al_TOK P E d) (hd : ∀ v, al_nd P E v → d v < 90) : ∀ (m v : Nat), d v = m → al_nd P E v → d v + al_Hh P E v ≤ al_Hh P E 0 := by
  intro m
  induction m with
  | zero =>
    intro v hm hv
    rw [al_d0 hT hv hm, hT.2.2.2.1]
    omega
  | succ m ih =>
    intro v hm hv
    have h0 : v ≠ 0 := fun e => by rw [e, hT.2.2.2.1] at hm; omega
    obtain ⟨q1, q2, q3⟩ := al_par_nd hT hv h0
    have h1 := ih (al_par P v) (by omega) q2
    have h2 := (al_hl_ge (f := al_Hh P E) (al_kids P E (al_par P v)) 0 (-1)).2 v ((al_kids_mem hT (al_nd_lt hT q2)).mpr ⟨hv.1, q1⟩)
    rw [← al_Hh_eq hT hd q2] at h2
    omega
theorem al_Hh_at (hT : al_TOK P E d) (hd : ∀ v, al_nd P E v → d v < 90) : ∀ (m v : Nat), al_Hh P E v = m → al_nd P E v → ∃ u, al_nd P E u ∧ d u = d v + al_Hh P E v := by
  intro m
  induction m with
  | zero => intro v hm hv; exact ⟨v, hv, by omega⟩
  | succ m ih =>
    intro v hm hv
    rcases al_L_cases hT hd hv with ⟨-, -, l3⟩ | ⟨c, l1, l2, l3⟩
    · omega
    · have hc := al_kids_nd hT (al_nd_lt hT hv) l1
      obtain ⟨u, hu1, hu2⟩ := ih c (by omega) hc.1
      exact ⟨u, hu1, by omega⟩
def al_dm (P : Nat → Int32) (d : Nat → Nat) : Nat → Nat
  | 0 => 0
  | m + 1 => if P m = -2 then al_dm P d m else if al_dm P d m < d m then d m else al_dm P d m
theorem al_dm_I : ∀ (m : Nat), (∀ v, v < m → P v ≠ -2 → d v ≤ al_dm P d m) ∧ (al_dm P d m = 0 ∨ ∃ v, v < m ∧ P v ≠ -2 ∧ al_dm P d m = d v)
  | 0 => ⟨fun v h => absurd h (Nat.not_lt_zero _), Or.inl rfl⟩
  | m + 1 => by
    obtain ⟨h1, h2⟩ := al_dm_I m
    rw [al_dm]
    split
    · rename_i h
      refine ⟨fun v hv hn => h1 v ?_ hn, h2.imp id (fun ⟨v, a, b, c⟩ => ⟨v, by omega, b, c⟩)⟩
      have : v ≠ m := fun e => hn (e ▸ h)
      omega
    · rename_i h
      split
      · rename_i hl
        refine ⟨fun v hv hn => ?_, Or.inr ⟨m, by omega, h, rfl⟩⟩
        by_cases e : v = m
        · rw [e]; exact Nat.le_refl _
        · have := h1 v (by omega) hn
          omega
      · rename_i hl
        refine ⟨fun v hv hn => ?_, h2.imp id (fun ⟨v, a, b, c⟩ => ⟨v, by omega, b, c⟩)⟩
        by_cases e : v = m
        · rw [e]; omega
        · exact h1 v (by omega) hn
theorem al_deep (hT : al_TOK P E d) (hd : ∀ v, al_nd P E v → d v < 90) : al_dm P d E = al_Hh P E 0 := by
  obtain ⟨h1, h2⟩ := al_dm_I (P := P) (d := d) E
  obtain ⟨u, hu1, hu2⟩ := al_Hh_at hT hd _ 0 rfl (al_root_nd hT)
  rw [hT.2.2.2.1] at hu2
  have h3 := h1 u hu1.1 hu1.2
  rcases h2 with h2 | ⟨v, a, b, c⟩
  · omega
  · have := al_Hh_up hT hd _ v rfl ⟨a, b⟩
    omega
end ALN
