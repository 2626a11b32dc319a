/-! the walk up: sizes, heights, long children, feet; and tops. Each is a function of the tree alone, by recursion with fuel -/
def al_it {α : Type} (z : α) (Φ : (Nat → α) → Nat → α) : Nat → Nat → α
  | 0, _ => z
  | m + 1, v => Φ (al_it z Φ m) v
def al_fix {α : Type} (z : α) (Φ : (Nat → α) → Nat → α) (v : Nat) : α := al_it z Φ 90 v
/-- down: what is said of a node by what is said of its children -/
theorem al_it_dn {α : Type} {z : α} {Φ : (Nat → α) → Nat → α} {P : Nat → Int32} {E : Nat} {d : Nat → Nat} (hT : al_TOK P E d) (hd : ∀ v, al_nd P E v → d v < 90) (hΦ : ∀ (f g : Nat → α) (v : Nat), al_nd P E v → (∀ c, c ∈ al_kids P E v → f c = g c) → Φ f v = Φ g v) : ∀ (m v : Nat), al_nd P E v → 90 - d v ≤ m → al_it z Φ m v = al_it z Φ (m + 1) v
  | 0, v, hv, h => by have := hd v hv; omega
  | m + 1, v, hv, h => by
    show Φ (al_it z Φ m) v = Φ (al_it z Φ (m + 1)) v
    refine hΦ _ _ v hv (fun c hc => ?_)
    have h1 := al_kids_nd hT (Nat.lt_of_lt_of_le hv.1 hT.2.1) hc
    exact al_it_dn hT hd hΦ m c h1.1 (by omega)
theorem al_fix_dn {α : Type} {z : α} {Φ : (Nat → α) → Nat → α} {P : Nat → Int32} {E : Nat} {d : Nat → Nat} (hT : al_TOK P E d) (hd : ∀ v, al_nd P E v → d v < 90) (hΦ : ∀ (f g : Nat → α) (v : Nat), al_nd P E v → (∀ c, c ∈ al_kids P E v → f c = g c) → Φ f v = Φ g v) {v : Nat} (hv : al_nd P E v) : al_fix z Φ v = Φ (al_fix z Φ) v := al_it_dn hT hd hΦ 90 v hv (by omega)
/-- up: what is said of a node by what is said of its parent -/
def al_par (P : Nat → Int32) (v : Nat) : Nat := (P v).toNatClampNeg
theorem al_par_eq {P : Nat → Int32} {v p : Nat} (h : P v = nI p) (hp : p < 2 ^ 31) : al_par P v = p := by
  rw [al_par, h, nI_clamp hp]
theorem al_par_nd {P : Nat → Int32} {E : Nat} {d : Nat → Nat} (hT : al_TOK P E d) {v : Nat} (hv : al_nd P E v) (h0 : v ≠ 0) : P v = nI (al_par P v) ∧ al_nd P E (al_par P v) ∧ d v = d (al_par P v) + 1 := by
  obtain ⟨p, h1, h2, h3⟩ := hT.2.2.2.2 v h0 hv
  have e := al_par_eq h1 (by have := h2.1; have := hT.2.1; omega)
  rw [e]
  exact ⟨h1, h2, h3⟩
theorem al_it_up {α : Type} {z : α} {Φ : (Nat → α) → Nat → α} {P : Nat → Int32} {E : Nat} {d : Nat → Nat} (hT : al_TOK P E d) (hΦ : ∀ (f g : Nat → α) (v : Nat), al_nd P E v → (v ≠ 0 → f (al_par P v) = g (al_par P v)) → Φ f v = Φ g v) : ∀ (m v : Nat), al_nd P E v → d v < m → al_it z Φ m v = al_it z Φ (m + 1) v
  | 0, v, hv, h => absurd h (Nat.not_lt_zero _)
  | m + 1, v, hv, h => by
    show Φ (al_it z Φ m) v = Φ (al_it z Φ (m + 1)) v
    refine hΦ _ _ v hv (fun h0 => ?_)
    obtain ⟨-, h1, h2⟩ := al_par_nd hT hv h0
    exact al_it_up hT hΦ m _ h1 (by omega)
theorem al_fix_up {α : Type} {z : α} {Φ : (Nat → α) → Nat → α} {P : Nat → Int32} {E : Nat} {d : Nat → Nat} (hT : al_TOK P E d) (hd : ∀ v, al_nd P E v → d v < 90) (hΦ : ∀ (f g : Nat → α) (v : Nat), al_nd P E v → (v ≠ 0 → f (al_par P v) = g (al_par P v)) → Φ f v = Φ g v) {v : Nat} (hv : al_nd P E v) : al_fix z Φ v = Φ (al_fix z Φ) v := al_it_up hT hΦ 90 v hv (hd v hv)
/-- the greatest height among children, and the first child that has it -/
def al_hl (f : Nat → Nat) : List Nat → Nat → Int32 → Nat × Int32
  | [], b, d => (b, d)
  | c :: l, b, d => if f c + 1 ≤ b then al_hl f l b d else al_hl f l (f c + 1) (nI c)
theorem al_hl_congr {f g : Nat → Nat} : ∀ (l : List Nat) (b : Nat) (d : Int32), (∀ c, c ∈ l → f c = g c) → al_hl f l b d = al_hl g l b d
  | [], _, _, _ => rfl
  | c :: l, b, d, h => by
    rw [al_hl, al_hl, h c List.mem_cons_self, al_hl_congr l b d (fun x hx => h x (List.mem_cons_of_mem _ hx)), al_hl_congr l _ _ (fun x hx => h x (List.mem_cons_of_mem _ hx))]
theorem al_hl_ge {f : Nat → Nat} : ∀ (l : List Nat) (b : Nat) (d : Int32), b ≤ (al_hl f l b d).1 ∧ ∀ c, c ∈ l → f c + 1 ≤ (al_hl f l b d).1
  | [], b, d => ⟨Nat.le_refl _, fun c hc => absurd hc List.not_mem_nil⟩
  | a :: l, b, d => by
    rw [al_hl]
    split
    · rename_i h
      obtain ⟨h1, h2⟩ := al_hl_ge (f := f) l b d
      exact ⟨h1, fun c hc => by
        rcases List.mem_cons.mp hc with rfl | hc
        · omega
        · exact h2 c hc⟩
    · rename_i h
      obtain ⟨h1, h2⟩ := al_hl_ge (f := f) l (f a + 1) (nI a)
      exact ⟨by omega, fun c hc => by
        rcases List.mem_cons.mp hc with rfl | hc
        · omega
        · exact h2 c hc⟩
theorem al_hl_cases {f : Nat → Nat} : ∀ (l : List Nat) (b : Nat) (d : Int32), (al_hl f l b d = (b, d) ∧ ∀ c, c ∈ l → f c + 1 ≤ b) ∨ ∃ c, c ∈ l ∧ al_hl f l b d = (f c + 1, nI c) ∧ b < f c + 1
  | [], b, d => Or.inl ⟨rfl, fun c hc => absurd hc List.not_mem_nil⟩
  | a :: l, b, d => by
    rw [al_hl]
    split
    · rename_i h
      rcases al_hl_cases (f := f) l b d with ⟨h1, h2⟩ | ⟨c, h1, h2, h3⟩
      · exact Or.inl ⟨h1, fun c hc => by
          rcases List.mem_cons.mp hc with rfl | hc
          · exact h
          · exact h2 c hc⟩
      · exact Or.inr ⟨c, List.mem_cons_of_mem _ h1, h2, h3⟩
    · rename_i h
      rcases al_hl_cases (f := f) l (f a + 1) (nI a) with ⟨h1, h2⟩ | ⟨c, h1, h2, h3⟩
      · exact Or.inr ⟨a, List.mem_cons_self, h1, by omega⟩
      · exact Or.inr ⟨c, List.mem_cons_of_mem _ h1, h2, by omega⟩
def al_S (P : Nat → Int32) (E : Nat) : Nat → Nat := al_fix 0 (fun f v => 1 + ((al_kids P E v).map f).sum)
def al_Hh (P : Nat → Int32) (E : Nat) : Nat → Nat := al_fix 0 (fun f v => (al_hl f (al_kids P E v) 0 (-1)).1)
def al_L (P : Nat → Int32) (E v : Nat) : Int32 := (al_hl (al_Hh P E) (al_kids P E v) 0 (-1)).2
def al_Ft (P : Nat → Int32) (E : Nat) : Nat → Nat := al_fix 0 (fun f v => if al_L P E v = -1 then v else f (al_L P E v).toNatClampNeg)
def al_Tp (P : Nat → Int32) (E : Nat) : Nat → Nat := al_fix 0 (fun f v => if v ≠ 0 ∧ al_L P E (al_par P v) = nI v then f (al_par P v) else v)
section ALU
variable {P : Nat → Int32} {E : Nat} {d : Nat → Nat}
theorem al_S_eq (hT : al_TOK P E d) (hd : ∀ v, al_nd P E v → d v < 90) {v : Nat} (hv : al_nd P E v) : al_S P E v = 1 + ((al_kids P E v).map (al_S P E)).sum :=
  al_fix_dn (z := 0) (Φ := fun f v => 1 + ((al_kids P E v).map f).sum) hT hd (fun f g v _ h => by
    show 1 + ((al_kids P E v).map f).sum = 1 + ((al_kids P E v).map g).sum
    rw [List.map_congr_left h]) hv
theorem al_Hh_eq (hT : al_TOK P E d) (hd : ∀ v, al_nd P E v → d v < 90) {v : Nat} (hv : al_nd P E v) : al_Hh P E v = (al_hl (al_Hh P E) (al_kids P E v) 0 (-1)).1 :=
  al_fix_dn (z := 0) (Φ := fun f v => (al_hl f (al_kids P E v) 0 (-1)).1) hT hd (fun f g v _ h => by
    show (al_hl f (al_kids P E v) 0 (-1)).1 = (al_hl g (al_kids P E v) 0 (-1)).1
    rw [al_hl_congr _ _ _ h]) hv
/-- a node has no long child, or a child of its own of the height below its own -/
theorem al_L_cases (hT : al_TOK P E d) (hd : ∀ v, al_nd P E v → d v < 90) {v : Nat} (hv : al_nd P E v) : (al_L P E v = -1 ∧ al_kids P E v = [] ∧ al_Hh P E v = 0) ∨ ∃ c, c ∈ al_kids P E v ∧ al_L P E v = nI c ∧ al_Hh P E v = al_Hh P E c + 1 := by
  have e := al_Hh_eq hT hd hv
  rcases al_hl_cases (f := al_Hh P E) (al_kids P E v) 0 (-1) with ⟨h1, h2⟩ | ⟨c, h1, h2, h3⟩
  · refine Or.inl ⟨by rw [al_L, h1], ?_, by rw [e, h1]⟩
    cases hk : al_kids P E v with
    | nil => rfl
    | cons a l =>
      rw [hk] at h2
      have := h2 a List.mem_cons_self
      omega
  · exact Or.inr ⟨c, h1, by rw [al_L, h2], by rw [e, h2]⟩
theorem al_nd_lt (hT : al_TOK P E d) {v : Nat} (hv : al_nd P E v) : v < 90 := Nat.lt_of_lt_of_le hv.1 hT.2.1
theorem al_Ft_eq (hT : al_TOK P E d) (hd : ∀ v, al_nd P E v → d v < 90) {v : Nat} (hv : al_nd P E v) : al_Ft P E v = if al_L P E v = -1 then v else al_Ft P E (al_L P E v).toNatClampNeg :=
  al_fix_dn (z := 0) (Φ := fun f v => if al_L P E v = -1 then v else f (al_L P E v).toNatClampNeg) hT hd (fun f g v hv h => by
    show (if al_L P E v = -1 then v else f (al_L P E v).toNatClampNeg) = if al_L P E v = -1 then v else g (al_L P E v).toNatClampNeg
    rcases al_L_cases hT hd hv with ⟨h1, -⟩ | ⟨c, h1, h2, -⟩
    · rw [if_pos h1, if_pos h1]
    · have hc := (al_kids_nd hT (al_nd_lt hT hv) h1).1
      rw [h2, nI_clamp (by have := al_nd_lt hT hc; omega), h c h1]) hv
theorem al_Tp_eq (hT : al_TOK P E d) (hd : ∀ v, al_nd P E v → d v < 90) {v : Nat} (hv : al_nd P E v) : al_Tp P E v = if v ≠ 0 ∧ al_L P E (al_par P v) = nI v then al_Tp P E (al_par P v) else v :=
  al_fix_up (z := 0) (Φ := fun f v => if v ≠ 0 ∧ al_L P E (al_par P v) = nI v then f (al_par P v) else v) hT hd (fun f g v hv h => by
    show (if v ≠ 0 ∧ al_L P E (al_par P v) = nI v then f (al_par P v) else v) = if v ≠ 0 ∧ al_L P E (al_par P v) = nI v then g (al_par P v) else v
    by_cases h0 : v = 0
    · rw [if_neg (fun q => q.1 h0), if_neg (fun q => q.1 h0)]
    · rw [h h0]) hv
/-- height and depth together stay below 90 -/
theorem al_Hh_d (hT : al_TOK P E d) (hd : ∀ v, al_nd P E v → d v < 90) : ∀ (m v : Nat), al_nd P E v → 90 - d v ≤ m → al_Hh P E v + d v < 90
  | 0, v, hv, h => by have := hd v hv; omega
  | m + 1, v, hv, h => by
    rcases al_L_cases hT hd hv with ⟨-, -, h3⟩ | ⟨c, h1, -, h3⟩
    · have := hd v hv
      omega
    · have h4 := al_kids_nd hT (al_nd_lt hT hv) h1
      have h5 := al_Hh_d hT hd m c h4.1 (by omega)
      omega
theorem al_Hh_lt (hT : al_TOK P E d) (hd : ∀ v, al_nd P E v → d v < 90) {v : Nat} (hv : al_nd P E v) : al_Hh P E v + d v < 90 := al_Hh_d hT hd 90 v hv (by omega)
/-- the rows that the walk up writes, at the node a -/
def al_upR (P : Nat → Int32) (E : Nat) (σ : al_St) (a : Nat) : Prop := σ.1 18 a = nI (al_S P E a) ∧ σ.1 16 a = nI (al_Hh P E a) ∧ σ.1 19 a = al_L P E a ∧ σ.1 21 a = nI (al_Ft P E a)
def al_frU (σ σ' : al_St) : Prop := (∀ j, j ≠ 16 → j ≠ 18 → j ≠ 19 → j ≠ 21 → σ'.1 j = σ.1 j) ∧ σ'.2 = σ.2
theorem al_meaL_spec {σ : al_St} {S H : Nat → Nat} : ∀ (l : List Nat) (n : Nat) (c : Int32) (a b : Nat) (dd : Int32), al_ch (σ.1 13) c l → l.length ≤ n → b < 2 ^ 30 → (∀ x, x ∈ l → σ.1 18 x = nI (S x) ∧ σ.1 16 x = nI (H x) ∧ H x < 2 ^ 20) → al_meaL σ n c (nI a) (nI b) dd = (nI (a + (l.map S).sum), nI (al_hl H l b dd).1, (al_hl H l b dd).2)
  | [], n, c, a, b, dd, hc, hn, hb, h => by
    have hc : c = -1 := hc
    cases n with
    | zero => rfl
    | succ n => rw [al_meaL, if_pos hc]; rfl
  | x :: l, n, c, a, b, dd, hc, hn, hb, h => by
    obtain ⟨rfl, hx, hc2⟩ := hc
    cases n with
    | zero => simp at hn
    | succ n =>
      rw [List.length_cons] at hn
      obtain ⟨h1, h2, h3⟩ := h x List.mem_cons_self
      have hne : ¬ nI x = -1 := al_nI_m1 (by omega)
      have ih : ∀ (a b : Nat) (dd : Int32), b < 2 ^ 30 → _ := fun a b dd hb => al_meaL_spec (σ := σ) (S := S) (H := H) l n (σ.1 13 x) a b dd hc2 (by omega) hb (fun y hy => h y (List.mem_cons_of_mem _ hy))
      rw [al_meaL, if_neg hne, al_rg_lt hx, al_rg_lt hx, al_rg_lt hx, h1, h2, nI_1, nI_add, al_hl, List.map_cons, List.sum_cons]
      by_cases hle : H x + 1 ≤ b
      · have hle2 : nI (H x + 1) ≤ nI b := nI_le hle (by omega)
        rw [if_pos hle2, if_pos hle, ih _ _ _ hb, Nat.add_assoc]
      · have hle2 : ¬ nI (H x + 1) ≤ nI b := nI_ge (by omega) (by omega)
        rw [if_neg hle2, if_neg hle, ih _ _ _ (by omega), Nat.add_assoc]
theorem al_measure_I {σ : al_St} (hT : al_TOK P E d) (hd : ∀ v, al_nd P E v → d v < 90) (hK : al_kidsOK P E σ) {X : Nat} (hX : al_nd P E X) (h : ∀ c, c ∈ al_kids P E X → al_upR P E σ c) : al_upR P E (al_measure σ (nI X)) X ∧ (∀ a, a ≠ X → a < 90 → al_upR P E σ a → al_upR P E (al_measure σ (nI X)) a) ∧ al_frU σ (al_measure σ (nI X)) := by
  have hX9 := al_nd_lt hT hX
  have e0 : al_rg (σ.1 12) (nI X) = σ.1 12 X := al_rg_lt hX9
  have e1 := al_meaL_spec (σ := σ) (S := al_S P E) (H := al_Hh P E) (al_kids P E X) 90 (σ.1 12 X) 1 0 (-1) (hK X hX9).1 (by have := al_kd_len (P := P) (E := E) (p := X) 89 1; exact Nat.le_trans this (by omega)) (by omega) (fun x hx => ⟨(h x hx).1, (h x hx).2.1, by
    have h1 := (al_kids_nd hT hX9 hx).1
    have := al_Hh_lt hT hd h1
    omega⟩)
  have e2 : al_meaL σ 90 (σ.1 12 X) 1 0 (-1) = (nI (al_S P E X), nI (al_Hh P E X), al_L P E X) := by
    rw [al_S_eq hT hd hX, al_Hh_eq hT hd hX]
    exact e1
  rw [al_measure, e0, e2]
  show al_upR P E (al_mea1 σ (nI X) (nI (al_S P E X)) (nI (al_Hh P E X)) (al_L P E X)) X ∧ (∀ a, a ≠ X → a < 90 → al_upR P E σ a → al_upR P E (al_mea1 σ (nI X) (nI (al_S P E X)) (nI (al_Hh P E X)) (al_L P E X)) a) ∧ al_frU σ (al_mea1 σ (nI X) (nI (al_S P E X)) (nI (al_Hh P E X)) (al_L P E X))
  have key : ∀ w : Int32, w = nI (al_Ft P E X) → al_upR P E (al_set (al_set (al_set (al_set σ 18 (nI X) (nI (al_S P E X))) 16 (nI X) (nI (al_Hh P E X))) 19 (nI X) (al_L P E X)) 21 (nI X) w) X ∧ (∀ a, a ≠ X → a < 90 → al_upR P E σ a → al_upR P E (al_set (al_set (al_set (al_set σ 18 (nI X) (nI (al_S P E X))) 16 (nI X) (nI (al_Hh P E X))) 19 (nI X) (al_L P E X)) 21 (nI X) w) a) ∧ al_frU σ (al_set (al_set (al_set (al_set σ 18 (nI X) (nI (al_S P E X))) 16 (nI X) (nI (al_Hh P E X))) 19 (nI X) (al_L P E X)) 21 (nI X) w) := by
    intro w hw
    refine ⟨?_, fun a ha ha9 q => ?_, fun j h1 h2 h3 h4 => ?_, rfl⟩
    · unfold al_upR
      simp only [al_set_1, show ¬ (18 : Nat) = 21 by decide, show ¬ (18 : Nat) = 19 by decide, show ¬ (18 : Nat) = 16 by decide, show ¬ (16 : Nat) = 21 by decide, show ¬ (16 : Nat) = 19 by decide, show ¬ (16 : Nat) = 18 by decide, show ¬ (19 : Nat) = 21 by decide, show ¬ (19 : Nat) = 16 by decide, show ¬ (19 : Nat) = 18 by decide, show ¬ (21 : Nat) = 16 by decide, show ¬ (21 : Nat) = 18 by decide, show ¬ (21 : Nat) = 19 by decide, if_true, if_false, al_rs_lt hX9, al_upd_s]
      exact ⟨trivial, trivial, trivial, hw⟩
    · unfold al_upR at q ⊢
      simp only [al_set_1, show ¬ (18 : Nat) = 21 by decide, show ¬ (18 : Nat) = 19 by decide, show ¬ (18 : Nat) = 16 by decide, show ¬ (16 : Nat) = 21 by decide, show ¬ (16 : Nat) = 19 by decide, show ¬ (16 : Nat) = 18 by decide, show ¬ (19 : Nat) = 21 by decide, show ¬ (19 : Nat) = 16 by decide, show ¬ (19 : Nat) = 18 by decide, show ¬ (21 : Nat) = 16 by decide, show ¬ (21 : Nat) = 18 by decide, show ¬ (21 : Nat) = 19 by decide, if_true, if_false, al_rs_lt hX9, al_upd_n ha]
      exact q
    · simp only [al_set_1, h1, h2, h3, h4, if_false]
  unfold al_mea1
  rcases al_L_cases hT hd hX with ⟨h1, h2, -⟩ | ⟨c, h1, h2, -⟩
  · rw [if_pos h1]
    exact key _ (by rw [al_Ft_eq hT hd hX, if_pos h1])
  · have hc := (al_kids_nd hT hX9 h1).1
    have hne : ¬ al_L P E X = -1 := by
      rw [h2]
      exact al_nI_m1 (by have := al_nd_lt hT hc; omega)
    rw [if_neg hne]
    refine key _ ?_
    rw [al_Ft_eq hT hd hX, if_neg hne, h2, nI_clamp (by have := al_nd_lt hT hc; omega), al_rg_lt (al_nd_lt hT hc)]
    exact (h c h1).2.2.2
theorem al_upL_I {q : List Nat} (hT : al_TOK P E d) (hq : al_ord P E q) (hd : ∀ v, al_nd P E v → d v < 90) : ∀ (n : Nat) (σ : al_St), n ≤ q.length → al_kidsOK P E σ → (∀ (j a : Nat), q[j]? = some a → σ.1 14 j = nI a) → (∀ (j a : Nat), n ≤ j → q[j]? = some a → al_upR P E σ a) → (∀ a, al_nd P E a → al_upR P E (al_upL n σ) a) ∧ al_frU σ (al_upL n σ)
  | 0, σ, hn, hK, h14, h => ⟨fun a ha => by
      obtain ⟨j, hj⟩ := List.getElem?_of_mem ((hq.2.1 a).mpr ha)
      exact h j a (Nat.zero_le _) hj, fun _ _ _ _ _ => rfl, rfl⟩
  | n + 1, σ, hn, hK, h14, h => by
    obtain ⟨X, hX⟩ : ∃ X, q[n]? = some X := ⟨_, List.getElem?_eq_getElem (by omega)⟩
    have hXn := (hq.2.1 X).mp (List.mem_of_getElem? hX)
    have hl9 := al_ord_len hT hq
    have e : al_rg (σ.1 14) (nI (n + 1) - 1) = nI X := by
      rw [nI_pred, al_rg_lt (by omega)]
      exact h14 n X hX
    rw [al_upL, e]
    obtain ⟨g1, g2, g3⟩ := al_measure_I hT hd hK hXn (fun c hc => by
      obtain ⟨k1, k2, k3⟩ := al_kids_nd hT (al_nd_lt hT hXn) hc
      obtain ⟨j, hj⟩ := List.getElem?_of_mem ((hq.2.1 c).mpr k1)
      obtain ⟨i, b, i1, i2, i3⟩ := hq.2.2.2 j c hj k2
      have e3 := ((al_kids_mem hT (al_nd_lt hT hXn)).mp hc).2
      have hb := (hq.2.1 b).mp (List.mem_of_getElem? i2)
      have e4 : b = X := al_nI_inj (by have := al_nd_lt hT hb; omega) (by have := al_nd_lt hT hXn; omega) (i3.symm.trans e3)
      subst e4
      have e5 := al_inj_getElem hq.1 i2 hX
      exact h j c (by omega) hj)
    obtain ⟨k1, k2, k3⟩ := al_upL_I hT hq hd n (al_measure σ (nI X)) (by omega) (fun p hp => by
      rw [g3.1 13 (by decide) (by decide) (by decide) (by decide), g3.1 12 (by decide) (by decide) (by decide) (by decide), g3.1 17 (by decide) (by decide) (by decide) (by decide)]
      exact hK p hp) (fun j a hj => by
      rw [g3.1 14 (by decide) (by decide) (by decide) (by decide)]
      exact h14 j a hj) (fun j a hj hja => by
      by_cases hjn : j = n
      · subst hjn
        rw [hX] at hja
        cases hja
        exact g1
      · have ha := (hq.2.1 a).mp (List.mem_of_getElem? hja)
        exact g2 a (fun e => hjn (al_inj_getElem hq.1 (e ▸ hja) hX)) (al_nd_lt hT ha) (h j a (by omega) hja))
    exact ⟨k1, fun j a1 a2 a3 a4 => (k2 j a1 a2 a3 a4).trans (g3.1 j a1 a2 a3 a4), k3.trans g3.2⟩
theorem al_goUp_I {σ : al_St} {q : List Nat} (hT : al_TOK P E d) (hq : al_ord P E q) (hQ : al_Q σ q) (hK : al_kidsOK P E σ) : (∀ a, al_nd P E a → al_upR P E (al_goUp σ) a) ∧ al_frU σ (al_goUp σ) := by
  have hd : ∀ v, al_nd P E v → d v < 90 := fun v hv => al_d_lt hT hq hv
  have e : (σ.2.2.1 9).toNatClampNeg = q.length := by rw [hQ.1, nI_clamp (by have := hQ.2.1; omega)]
  rw [al_goUp, e]
  exact al_upL_I hT hq hd q.length σ (Nat.le_refl _) hK hQ.2.2 (fun j a hj hja => by
    have := (List.getElem?_eq_some_iff.mp hja).1
    omega)
end ALU
