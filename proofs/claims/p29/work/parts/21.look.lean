/-! tops and path lengths; what holds behind each change of the tree -/
def al_Pt (P : Nat → Int32) (Ln : Nat → UInt32) : Nat → UInt32 := al_fix FP.fconst0 (fun f v => if v = 0 then FP.fconst0 else FP.fadd (f (al_par P v)) (Ln v))
/-- lengths that a path can bear -/
def al_lenOK (P : Nat → Int32) (E : Nat) (Ln : Nat → UInt32) : Prop := ∀ v, al_nd P E v → al_B (Ln v) ∧ al_z (Ln v) ≤ (1024 : Nat) * al_one
def al_frT (i : Nat) (σ σ' : al_St) : Prop := (∀ j, j ≠ i → σ'.1 j = σ.1 j) ∧ σ'.2 = σ.2
section ALT
variable {P : Nat → Int32} {E : Nat} {d : Nat → Nat}
theorem al_top1_I {σ : al_St} (hT : al_TOK P E d) (hd : ∀ v, al_nd P E v → d v < 90) (hP : σ.1 0 = P) (hL : ∀ a, al_nd P E a → σ.1 19 a = al_L P E a) {X : Nat} (hX : al_nd P E X) (hp : X ≠ 0 → σ.1 20 (al_par P X) = nI (al_Tp P E (al_par P X))) : al_top1 σ (nI X) = al_sR σ 20 (upd (σ.1 20) X (nI (al_Tp P E X))) := by
  have hX9 := al_nd_lt hT hX
  have hs : ∀ w : Int32, al_set σ 20 (nI X) w = al_sR σ 20 (upd (σ.1 20) X w) := fun w => by rw [al_set, al_rs_lt hX9]
  by_cases h0 : X = 0
  · subst h0
    rw [al_top1, if_pos (show nI 0 = 0 from rfl), hs, al_Tp_eq hT hd hX, if_neg (fun q => q.1 rfl)]
  · have hne : ¬ nI X = 0 := nI_ne0 (by omega) (by omega)
    obtain ⟨q1, q2, -⟩ := al_par_nd hT hX h0
    have e1 : al_rg (σ.1 (2 * 0)) (nI X) = nI (al_par P X) := by
      rw [show σ.1 (2 * 0) = P from hP, al_rg_lt hX9]
      exact q1
    have hp9 := al_nd_lt hT q2
    have e2 : al_rg (σ.1 19) (nI (al_par P X)) = al_L P E (al_par P X) := by rw [al_rg_lt hp9, hL _ q2]
    have e3 : al_rg (σ.1 20) (nI (al_par P X)) = nI (al_Tp P E (al_par P X)) := by rw [al_rg_lt hp9, hp h0]
    rw [al_top1, if_neg hne, e1, e2, e3, hs, hs, al_Tp_eq hT hd hX]
    by_cases hc : al_L P E (al_par P X) = nI X
    · rw [if_pos hc, if_pos ⟨h0, hc⟩]
    · rw [if_neg hc, if_neg (fun q => hc q.2)]
theorem al_topL_I {q : List Nat} (hT : al_TOK P E d) (hq : al_ord P E q) (hd : ∀ v, al_nd P E v → d v < 90) : ∀ (n k : Nat) (σ : al_St), k + n = 90 → k ≤ q.length → σ.1 0 = P → al_Q σ q → (∀ a, al_nd P E a → σ.1 19 a = al_L P E a) → (∀ (j a : Nat), j < k → q[j]? = some a → σ.1 20 a = nI (al_Tp P E a)) → (∀ a, al_nd P E a → (al_topL n k σ).1 20 a = nI (al_Tp P E a)) ∧ al_frT 20 σ (al_topL n k σ)
  | 0, k, σ, hk, hkl, hP, hQ, hL, h => ⟨fun a ha => by
      obtain ⟨j, hj⟩ := List.getElem?_of_mem ((hq.2.1 a).mpr ha)
      have := (List.getElem?_eq_some_iff.mp hj).1
      have := hQ.2.1
      exact h j a (by omega) hj, fun _ _ => rfl, rfl⟩
  | n + 1, k, σ, hk, hkl, hP, hQ, hL, h => by
    have hl9 := hQ.2.1
    by_cases hke : k = q.length
    · have hc : σ.2.2.1 9 ≤ nI k := by
        rw [hQ.1, hke]
        exact nI_le (Nat.le_refl _) (by omega)
      rw [al_topL, if_pos hc]
      refine ⟨fun a ha => ?_, fun _ _ => rfl, rfl⟩
      obtain ⟨j, hj⟩ := List.getElem?_of_mem ((hq.2.1 a).mpr ha)
      have := (List.getElem?_eq_some_iff.mp hj).1
      exact h j a (by omega) hj
    · have hc : ¬ σ.2.2.1 9 ≤ nI k := by
        rw [hQ.1]
        exact nI_ge (by omega) (by omega)
      obtain ⟨X, hX⟩ : ∃ X, q[k]? = some X := ⟨_, List.getElem?_eq_getElem (by omega)⟩
      have hXn := (hq.2.1 X).mp (List.mem_of_getElem? hX)
      have e1 : al_rg (σ.1 14) (nI k) = nI X := by
        rw [al_rg_lt (by omega)]
        exact hQ.2.2 k X hX
      have e2 := al_top1_I hT hd hP hL hXn (fun h0 => by
        obtain ⟨i, b, i1, i2, i3⟩ := hq.2.2.2 k X hX h0
        have hb := (hq.2.1 b).mp (List.mem_of_getElem? i2)
        rw [al_par_eq i3 (by have := al_nd_lt hT hb; omega)]
        exact h i b i1 i2)
      rw [al_topL, if_neg hc, e1, e2]
      obtain ⟨g1, g2, g3⟩ := al_topL_I hT hq hd n (k + 1) (al_sR σ 20 (upd (σ.1 20) X (nI (al_Tp P E X)))) (by omega) (by omega) hP hQ hL (fun j a hj hja => by
        show upd (σ.1 20) X (nI (al_Tp P E X)) a = _
        by_cases hjk : j = k
        · subst hjk
          rw [hX] at hja
          cases hja
          exact al_upd_s
        · rw [al_upd_n (fun (e : a = X) => hjk (al_inj_getElem hq.1 (by rw [← e]; exact hja) hX))]
          exact h j a (by omega) hja)
      refine ⟨g1, fun j hj => (g2 j hj).trans ?_, g3⟩
      simp only [al_sR, hj, if_false]
theorem al_Pt_eq {Ln : Nat → UInt32} (hT : al_TOK P E d) (hd : ∀ v, al_nd P E v → d v < 90) {v : Nat} (hv : al_nd P E v) : al_Pt P Ln v = if v = 0 then FP.fconst0 else FP.fadd (al_Pt P Ln (al_par P v)) (Ln v) :=
  al_fix_up (z := FP.fconst0) (Φ := fun f v => if v = 0 then FP.fconst0 else FP.fadd (f (al_par P v)) (Ln v)) hT hd (fun f g v hv h => by
    show (if v = 0 then FP.fconst0 else FP.fadd (f (al_par P v)) (Ln v)) = if v = 0 then FP.fconst0 else FP.fadd (g (al_par P v)) (Ln v)
    by_cases h0 : v = 0
    · rw [if_pos h0, if_pos h0]
    · rw [if_neg h0, if_neg h0, h h0]) hv
/-- a path is bounded, and not less than that of its parent -/
theorem al_Pt_B {Ln : Nat → UInt32} (hT : al_TOK P E d) (hd : ∀ v, al_nd P E v → d v < 90) (hl : al_lenOK P E Ln) : ∀ (m v : Nat), d v = m → al_nd P E v → al_B (al_Pt P Ln v) ∧ al_z (al_Pt P Ln v) ≤ (1024 * d v : Nat) * al_one ∧ (v ≠ 0 → al_z (al_Pt P Ln (al_par P v)) ≤ al_z (al_Pt P Ln v)) := by
  intro m
  induction m with
  | zero =>
    intro v hm hv
    have h0 : v = 0 := by
      rcases Nat.eq_zero_or_pos v with h0 | h0
      · exact h0
      · have := (al_par_nd hT hv (by omega)).2.2
        omega
    subst h0
    rw [al_Pt_eq hT hd hv, if_pos rfl, hm]
    refine ⟨al_B0, ?_, fun h => absurd rfl h⟩
    rw [show FP.fconst0 = (0 : UInt32) from rfl, al_z0]
    simp
  | succ m ih =>
    intro v hm hv
    have h0 : v ≠ 0 := fun e => by rw [e, hT.2.2.2.1] at hm; omega
    obtain ⟨-, q2, q3⟩ := al_par_nd hT hv h0
    obtain ⟨i1, i2, -⟩ := ih (al_par P v) (by omega) q2
    obtain ⟨l1, l2⟩ := hl v hv
    have hd9 := hd v hv
    have hb : al_z (al_Pt P Ln (al_par P v)) + al_z (Ln v) ≤ (1024 * d v : Nat) * al_one := by
      have e : ((1024 * d v : Nat) : Int) * al_one = ((1024 * d (al_par P v) : Nat) : Int) * al_one + ((1024 : Nat) : Int) * al_one := by
        rw [← Int.add_mul, q3]
        congr 1
      rw [e]
      omega
    obtain ⟨g1, g2, g3⟩ := al_add_B i1 l1 (K := d v) (by omega) hb
    rw [al_Pt_eq hT hd hv, if_neg h0]
    exact ⟨g1, g3, fun _ => g2⟩
theorem al_Pt_ok {Ln : Nat → UInt32} (hT : al_TOK P E d) (hd : ∀ v, al_nd P E v → d v < 90) (hl : al_lenOK P E Ln) {v : Nat} (hv : al_nd P E v) : al_B (al_Pt P Ln v) := (al_Pt_B hT hd hl _ v rfl hv).1
theorem al_fs_lt {f : Nat → UInt32} {n : Nat} {v : UInt32} (h : n < 90) : al_fs f (nI n) v = vf_upd f n v := by
  have h1 : ¬ nI n < 0 := nI_pos (by omega)
  have h2 : ¬ (90 : Int32) ≤ nI n := al_90 h
  simp only [al_fs, h1, h2, if_false, nI_clamp (show n < 2 ^ 31 by omega)]
theorem al_vupd_s {f : Nat → UInt32} {k : Nat} {x : UInt32} : vf_upd f k x k = x := by simp [vf_upd]
theorem al_vupd_n {f : Nat → UInt32} {k j : Nat} {x : UInt32} (h : j ≠ k) : vf_upd f k x j = f j := by simp [vf_upd, h]
theorem al_FB_fset6 {σ : al_St} {x : Int32} {v : UInt32} (h : al_FB σ) (hv : al_B v) : al_FB (al_fset σ 6 x v) := by
  intro j
  refine ⟨?_, (h j).2⟩
  show al_B (al_fg (al_fs (σ.2.1 6) x v) j)
  rcases al_fg_fs (σ.2.1 6) x v j with e | e <;> rw [e]
  · exact hv
  · exact (h j).1
/-- only the row of paths changes -/
def al_frP (σ σ' : al_St) : Prop := σ'.1 = σ.1 ∧ (∀ j, j ≠ 6 → σ'.2.1 j = σ.2.1 j) ∧ σ'.2.2 = σ.2.2
theorem al_wt1_I {σ : al_St} {Ln : Nat → UInt32} (hT : al_TOK P E d) (hd : ∀ v, al_nd P E v → d v < 90) (hl : al_lenOK P E Ln) (hP : σ.1 0 = P) (hLn : σ.2.1 0 = Ln) {X : Nat} (hX : al_nd P E X) (h0 : X ≠ 0) (hp : σ.2.1 6 (al_par P X) = al_Pt P Ln (al_par P X)) : FP.fadd (al_fg (σ.2.1 6) (al_rg (σ.1 (2 * 0)) (nI X))) (al_fg (σ.2.1 0) (nI X)) = al_Pt P Ln X ∧ al_wt1 σ (nI X) = al_sF σ 6 (vf_upd (σ.2.1 6) X (al_Pt P Ln X)) := by
  have hX9 := al_nd_lt hT hX
  obtain ⟨q1, q2, -⟩ := al_par_nd hT hX h0
  have hp9 := al_nd_lt hT q2
  have e1 : al_rg (σ.1 (2 * 0)) (nI X) = nI (al_par P X) := by
    rw [show σ.1 (2 * 0) = P from hP, al_rg_lt hX9]
    exact q1
  have e2 : FP.fadd (al_fg (σ.2.1 6) (al_rg (σ.1 (2 * 0)) (nI X))) (al_fg (σ.2.1 0) (nI X)) = al_Pt P Ln X := by
    rw [e1, al_fg_lt hp9, al_fg_lt hX9, hp, hLn, al_Pt_eq hT hd hX, if_neg h0]
  refine ⟨e2, ?_⟩
  rw [al_wt1, e2, al_fset, al_fs_lt hX9]
theorem al_wtL_I {q : List Nat} {Ln : Nat → UInt32} (hT : al_TOK P E d) (hq : al_ord P E q) (hd : ∀ v, al_nd P E v → d v < 90) (hl : al_lenOK P E Ln) : ∀ (n k : Nat) (σ : al_St), k + n = 90 → 1 ≤ k → k ≤ q.length → σ.1 0 = P → σ.2.1 0 = Ln → al_Q σ q → al_FB σ → (∀ (j a : Nat), j < k → q[j]? = some a → σ.2.1 6 a = al_Pt P Ln a) → al_wtOK n k σ ∧ (∀ a, al_nd P E a → (al_wtL n k σ).2.1 6 a = al_Pt P Ln a) ∧ al_FB (al_wtL n k σ) ∧ al_frP σ (al_wtL n k σ)
  | 0, k, σ, hk, h1, hkl, hP, hLn, hQ, hB, h => ⟨trivial, fun a ha => by
      obtain ⟨j, hj⟩ := List.getElem?_of_mem ((hq.2.1 a).mpr ha)
      have := (List.getElem?_eq_some_iff.mp hj).1
      have := hQ.2.1
      exact h j a (by omega) hj, hB, rfl, fun _ _ => rfl, rfl⟩
  | n + 1, k, σ, hk, h1, hkl, hP, hLn, hQ, hB, h => by
    have hl9 := hQ.2.1
    by_cases hke : k = q.length
    · have hc : σ.2.2.1 9 ≤ nI k := by
        rw [hQ.1, hke]
        exact nI_le (Nat.le_refl _) (by omega)
      rw [al_wtL, if_pos hc]
      refine ⟨fun hn => absurd hc hn, fun a ha => ?_, hB, rfl, fun _ _ => rfl, rfl⟩
      obtain ⟨j, hj⟩ := List.getElem?_of_mem ((hq.2.1 a).mpr ha)
      have := (List.getElem?_eq_some_iff.mp hj).1
      exact h j a (by omega) hj
    · have hc : ¬ σ.2.2.1 9 ≤ nI k := by
        rw [hQ.1]
        exact nI_ge (by omega) (by omega)
      obtain ⟨X, hX⟩ : ∃ X, q[k]? = some X := ⟨_, List.getElem?_eq_getElem (by omega)⟩
      have hXn := (hq.2.1 X).mp (List.mem_of_getElem? hX)
      have hX0 : X ≠ 0 := fun e => by
        have := al_inj_getElem hq.1 (e ▸ hX) hq.2.2.1
        omega
      have e1 : al_rg (σ.1 14) (nI k) = nI X := by
        rw [al_rg_lt (by omega)]
        exact hQ.2.2 k X hX
      obtain ⟨e2, e3⟩ := al_wt1_I hT hd hl hP hLn hXn hX0 (by
        obtain ⟨i, b, i1, i2, i3⟩ := hq.2.2.2 k X hX hX0
        have hb := (hq.2.1 b).mp (List.mem_of_getElem? i2)
        rw [al_par_eq i3 (by have := al_nd_lt hT hb; omega)]
        exact h i b i1 i2)
      have hBX := al_Pt_ok hT hd hl hXn
      have hB2 : al_FB (al_sF σ 6 (vf_upd (σ.2.1 6) X (al_Pt P Ln X))) := by
        rw [← al_fs_lt (al_nd_lt hT hXn)]
        exact al_FB_fset6 hB hBX
      obtain ⟨g0, g1, g2, g3, g4, g5⟩ := al_wtL_I hT hq hd hl n (k + 1) (al_sF σ 6 (vf_upd (σ.2.1 6) X (al_Pt P Ln X))) (by omega) (by omega) (by omega) hP hLn hQ hB2 (fun j a hj hja => by
        show vf_upd (σ.2.1 6) X (al_Pt P Ln X) a = _
        by_cases hjk : j = k
        · subst hjk
          rw [hX] at hja
          cases hja
          exact al_vupd_s
        · rw [al_vupd_n (fun (e : a = X) => hjk (al_inj_getElem hq.1 (by rw [← e]; exact hja) hX))]
          exact h j a (by omega) hja)
      refine ⟨fun _ => ?_, ?_, ?_, ?_, ?_, ?_⟩
      · rw [e1, e2, e3]
        exact ⟨al_n32 (by have := al_B_mag hBX; omega), g0⟩
      · rw [al_wtL, if_neg hc, e1, e3]
        exact g1
      · rw [al_wtL, if_neg hc, e1, e3]
        exact g2
      · rw [al_wtL, if_neg hc, e1, e3]
        exact g3
      · rw [al_wtL, if_neg hc, e1, e3]
        intro j hj
        refine (g4 j hj).trans ?_
        simp only [al_sF, hj, if_false]
      · rw [al_wtL, if_neg hc, e1, e3]
        exact g5
end ALT
/-- what holds of a state behind each change -/
def al_GG (σ : al_St) (E : Nat) (d : Nat → Nat) (q : List Nat) : Prop :=
  al_TOK (σ.1 0) E d ∧ σ.2.2.1 0 = nI E ∧ al_lenOK (σ.1 0) E (σ.2.1 0) ∧ al_ord (σ.1 0) E q ∧ al_Q σ q ∧ al_kidsOK (σ.1 0) E σ ∧ (∀ a, al_nd (σ.1 0) E a → σ.1 15 a = nI (d a)) ∧ (∀ a, al_nd (σ.1 0) E a → al_upR (σ.1 0) E σ a) ∧ (∀ a, al_nd (σ.1 0) E a → σ.1 20 a = nI (al_Tp (σ.1 0) E a)) ∧ (∀ a, al_nd (σ.1 0) E a → σ.2.1 6 a = al_Pt (σ.1 0) (σ.2.1 0) a) ∧ al_FB σ
/-- what the look around leaves as it was -/
def al_frL (σ σ' : al_St) : Prop := (∀ j, j < 12 ∨ 22 ≤ j → σ'.1 j = σ.1 j) ∧ (∀ j, j ≠ 6 → σ'.2.1 j = σ.2.1 j) ∧ (∀ k, k ≠ 9 → σ'.2.2.1 k = σ.2.2.1 k) ∧ σ'.2.2.2 = σ.2.2.2
theorem al_look_I {σ : al_St} {E : Nat} {d : Nat → Nat} (hT : al_TOK (σ.1 0) E d) (hE : σ.2.2.1 0 = nI E) (hL : al_lenOK (σ.1 0) E (σ.2.1 0)) (hB : al_FB σ) : al_lOK σ ∧ al_frL σ (al_look σ) ∧ ∃ q, al_GG (al_look σ) E d q := by
  obtain ⟨P, hP⟩ : ∃ P, P = σ.1 0 := ⟨_, rfl⟩
  obtain ⟨Ln, hLn⟩ : ∃ Ln, Ln = σ.2.1 0 := ⟨_, rfl⟩
  rw [← hP] at hT hL
  rw [← hLn] at hL
  -- links
  have a1 := al_linkC_fr σ
  have aK := al_linkC_I hT hP.symm hE
  obtain ⟨s1, e1⟩ : ∃ s, s = al_linkC σ := ⟨_, rfl⟩
  rw [← e1] at a1 aK
  -- down
  obtain ⟨q, b1, b2, b3, b4⟩ := al_goDown_I hT aK
  obtain ⟨s2, e2⟩ : ∃ s, s = al_goDown s1 := ⟨_, rfl⟩
  rw [← e2] at b1 b3 b4
  have hd : ∀ v, al_nd P E v → d v < 90 := fun v hv => al_d_lt hT b2 hv
  have bK : al_kidsOK P E s2 := fun p hp => by
    rw [b4.1 13 (by decide) (by decide), b4.1 12 (by decide) (by decide), b4.1 17 (by decide) (by decide)]
    exact aK p hp
  -- up
  obtain ⟨c1, c2⟩ := al_goUp_I hT b2 b1 bK
  obtain ⟨s3, e3⟩ : ∃ s, s = al_goUp s2 := ⟨_, rfl⟩
  rw [← e3] at c1 c2
  have P3 : s3.1 0 = P := by rw [c2.1 0 (by decide) (by decide) (by decide) (by decide), b4.1 0 (by decide) (by decide), a1.2 0 (by decide) (by decide) (by decide), hP]
  have Q3 : al_Q s3 q := ⟨by rw [c2.2]; exact b1.1, b1.2.1, fun j a hj => by rw [c2.1 14 (by decide) (by decide) (by decide) (by decide)]; exact b1.2.2 j a hj⟩
  -- tops
  obtain ⟨d1, d2⟩ := al_topL_I hT b2 hd 90 0 s3 (by omega) (Nat.zero_le _) P3 Q3 (fun a ha => (c1 a ha).2.2.1) (fun j a hj => absurd hj (Nat.not_lt_zero _))
  obtain ⟨s4, e4⟩ : ∃ s, s = al_findTops s3 := ⟨_, rfl⟩
  rw [show al_topL 90 0 s3 = s4 from e4.symm] at d1 d2
  have et : al_take σ = s4 := by rw [al_take, ← e1, ← e2, ← e3, ← e4]
  have F4 : ∀ j, s4.2.1 j = σ.2.1 j := fun j => by rw [d2.2, c2.2, b4.2.1, a1.1]
  have R4 : ∀ j, j < 12 ∨ 22 ≤ j → s4.1 j = σ.1 j := fun j hj => by
    rw [d2.1 j (by omega), c2.1 j (by omega) (by omega) (by omega) (by omega), b4.1 j (by omega) (by omega), a1.2 j (by omega) (by omega) (by omega)]
  have V4 : ∀ k, k ≠ 9 → s4.2.2.1 k = σ.2.2.1 k := fun k hk => by rw [d2.2, c2.2, b4.2.2.1 k hk, a1.1]
  have T4 : s4.2.2.2 = σ.2.2.2 := by rw [d2.2, c2.2, b4.2.2.2, a1.1]
  have P4 : s4.1 0 = P := by rw [R4 0 (Or.inl (by decide)), hP]
  have Q4 : al_Q s4 q := ⟨by rw [d2.2]; exact Q3.1, Q3.2.1, fun j a hj => by rw [d2.1 14 (by decide)]; exact Q3.2.2 j a hj⟩
  have B4 : al_FB s4 := fun j => by rw [F4 6, F4 7]; exact hB j
  -- paths
  have L4 : s4.2.1 0 = Ln := by rw [F4 0, hLn]
  have hr := al_root_nd hT
  have fs0 : al_fs (s4.2.1 6) 0 FP.fconst0 = vf_upd (s4.2.1 6) 0 FP.fconst0 := al_fs_lt (n := 0) (by decide)
  obtain ⟨g0, g1, g2, g3⟩ := al_wtL_I hT b2 hd hL 89 1 (al_fset s4 6 0 FP.fconst0) (by omega) (by omega) (by have := (List.getElem?_eq_some_iff.mp b2.2.2.1).1; omega) P4 L4 Q4 (al_FB_fset6 B4 al_B0) (fun j a hj hja => by
    have hj0 : j = 0 := by omega
    subst hj0
    rw [b2.2.2.1] at hja
    cases hja
    show al_fs (s4.2.1 6) 0 FP.fconst0 0 = _
    rw [fs0, al_vupd_s, al_Pt_eq hT hd hr, if_pos rfl])
  have el : al_look σ = al_wtL 89 1 (al_fset s4 6 0 FP.fconst0) := by rw [al_look, et, al_wtake]
  obtain ⟨s5, e5⟩ : ∃ s, s = al_wtL 89 1 (al_fset s4 6 0 FP.fconst0) := ⟨_, rfl⟩
  rw [← e5] at g1 g2 g3 el
  rw [el]
  have f1 : s5.1 = s4.1 := g3.1
  have f2 : ∀ j, j ≠ 6 → s5.2.1 j = s4.2.1 j := fun j hj => by
    rw [g3.2.1 j hj]
    simp only [al_fset, al_sF, hj, if_false]
  have f3 : s5.2.2 = s4.2.2 := g3.2.2
  refine ⟨?_, ⟨fun j hj => ?_, fun j hj => ?_, fun k hk => ?_, ?_⟩, q, ?_⟩
  · rw [al_lOK, et]
    exact g0
  · rw [f1]; exact R4 j hj
  · rw [f2 j hj, F4 j]
  · rw [f3]; exact V4 k hk
  · rw [f3]; exact T4
  · have P5 : s5.1 0 = P := by rw [f1]; exact P4
    have L5 : s5.2.1 0 = Ln := by rw [f2 0 (by decide)]; exact L4
    unfold al_GG
    rw [P5, L5]
    refine ⟨hT, by rw [f3, V4 0 (by decide)]; exact hE, hL, b2, ⟨by rw [f3]; exact Q4.1, Q4.2.1, fun j a hj => by rw [f1]; exact Q4.2.2 j a hj⟩, fun p hp => ?_, fun a ha => ?_, fun a ha => ?_, fun a ha => ?_, g1, g2⟩
    · rw [f1, d2.1 13 (by decide), d2.1 12 (by decide), d2.1 17 (by decide), c2.1 13 (by decide) (by decide) (by decide) (by decide), c2.1 12 (by decide) (by decide) (by decide) (by decide), c2.1 17 (by decide) (by decide) (by decide) (by decide)]
      exact bK p hp
    · rw [f1, d2.1 15 (by decide), c2.1 15 (by decide) (by decide) (by decide) (by decide)]
      exact b3 a ha
    · have := c1 a ha
      unfold al_upR at this ⊢
      rw [f1, d2.1 16 (by decide), d2.1 18 (by decide), d2.1 19 (by decide), d2.1 21 (by decide)]
      exact this
    · rw [f1]
      exact d1 a ha
