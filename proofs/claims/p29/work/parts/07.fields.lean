/-! updates of the state; reads and writes of a row; a row for each field -/
def al_sR (σ : al_St) (i : Nat) (f : Nat → Int32) : al_St := (fun k => if k = i then f else σ.1 k, σ.2)
def al_sF (σ : al_St) (i : Nat) (f : Nat → UInt32) : al_St := (σ.1, fun k => if k = i then f else σ.2.1 k, σ.2.2)
def al_sV (σ : al_St) (i : Nat) (x : Int32) : al_St := (σ.1, σ.2.1, fun k => if k = i then x else σ.2.2.1 k, σ.2.2.2)
def al_sT (σ : al_St) (f : Nat → Nat) : al_St := (σ.1, σ.2.1, σ.2.2.1, f)
def al_rg (f : Nat → Int32) (x : Int32) : Int32 := if x < 0 then -1 else if 90 ≤ x then -1 else f x.toNatClampNeg
def al_fg (f : Nat → UInt32) (x : Int32) : UInt32 := if x < 0 then FP.fconst0 else if 90 ≤ x then FP.fconst0 else f x.toNatClampNeg
def al_rs (f : Nat → Int32) (x v : Int32) : Nat → Int32 := if x < 0 then f else if 90 ≤ x then f else upd f x.toNatClampNeg v
def al_fs (f : Nat → UInt32) (x : Int32) (v : UInt32) : Nat → UInt32 := if x < 0 then f else if 90 ≤ x then f else vf_upd f x.toNatClampNeg v
/-- the row i with v at the place x -/
def al_set (σ : al_St) (i : Nat) (x v : Int32) : al_St := al_sR σ i (al_rs (σ.1 i) x v)
def al_fset (σ : al_St) (i : Nat) (x : Int32) (v : UInt32) : al_St := al_sF σ i (al_fs (σ.2.1 i) x v)
theorem al_vin {x N : Int32} {n : Nat} (hN : N.toInt = n) (h1 : ¬ x < 0) (h2 : ¬ N ≤ x) : vp_in x n := by
  rw [vp_in_iff]
  have a : ¬ x.toInt < 0 := fun h => h1 (by rw [Int32.lt_iff_toInt_lt]; exact h)
  have b : ¬ N.toInt ≤ x.toInt := fun h => h2 (by rw [Int32.le_iff_toInt_le]; exact h)
  omega
theorem al_sR_sR (σ : al_St) (i : Nat) (f g : Nat → Int32) : al_sR (al_sR σ i f) i g = al_sR σ i g := by
  simp only [al_sR]
  refine Prod.ext ?_ rfl
  funext k
  by_cases h : k = i <;> simp [h]
theorem al_sF_sF (σ : al_St) (i : Nat) (f g : Nat → UInt32) : al_sF (al_sF σ i f) i g = al_sF σ i g := by
  simp only [al_sF]
  refine Prod.ext rfl (Prod.ext ?_ rfl)
  funext k
  by_cases h : k = i <;> simp [h]
theorem al_sR_self (σ : al_St) (i : Nat) : al_sR σ i (σ.1 i) = σ := by
  simp only [al_sR]
  refine Prod.ext ?_ rfl
  funext k
  by_cases h : k = i <;> simp [h]
theorem al_sF_self (σ : al_St) (i : Nat) : al_sF σ i (σ.2.1 i) = σ := by
  simp only [al_sF]
  refine Prod.ext rfl (Prod.ext ?_ rfl)
  funext k
  by_cases h : k = i <;> simp [h]
theorem al_cE_big {cy : al_CY} {ad : Nat → Nat} {σ σ' : al_St} (h1 : σ'.1 = σ.1) (h2 : σ'.2.1 = σ.2.1) {k : Nat} (hk : ¬ k < 14) : al_cE cy ad σ' k = al_cE cy ad σ k := by
  simp only [al_cE, hk, if_false, h1, h2]
theorem al_cE_small {cy : al_CY} {ad : Nat → Nat} {σ σ' : al_St} {k : Nat} (hk : k < 14) (h : al_c0 cy ad σ' k = al_c0 cy ad σ k) : al_cE cy ad σ' k = al_cE cy ad σ k := by
  simp only [al_cE, hk, if_true, h]
theorem al_c0_out {P : Nat → Prop} (h0 : P 0) (h1 : P 1) (h2 : P 2) (h3 : P 3) (h4 : P 4) (h5 : P 5) (h6 : P 6) (h7 : P 7) (h8 : P 8) (h9 : P 9) (h10 : P 10) (h11 : P 11) (h12 : P 12) (h13 : P 13) : ∀ k, k < 14 → P k := by
  intro k hk
  have h : k = 0 ∨ k = 1 ∨ k = 2 ∨ k = 3 ∨ k = 4 ∨ k = 5 ∨ k = 6 ∨ k = 7 ∨ k = 8 ∨ k = 9 ∨ k = 10 ∨ k = 11 ∨ k = 12 ∨ k = 13 := by omega
  rcases h with rfl | rfl | rfl | rfl | rfl | rfl | rfl | rfl | rfl | rfl | rfl | rfl | rfl | rfl <;> assumption
theorem al_c0_congr {cy : al_CY} {ad : Nat → Nat} {σ σ' : al_St} (h25 : σ'.1 25 = σ.1 25) (h3 : σ'.2.2 = σ.2.2) : ∀ k, k < 14 → al_c0 cy ad σ' k = al_c0 cy ad σ k := by
  refine al_c0_out ?_ ?_ ?_ ?_ ?_ ?_ ?_ ?_ ?_ ?_ ?_ ?_ ?_ ?_ <;> simp only [al_c0, h25, h3]
/-- another int row: only its array's cell changes -/
theorem al_W_sR (cy : al_CY) (ad : Nat → Nat) (σ : al_St) {i : Nat} (hi : i < 25) (g : Nat → Int32) : (al_W cy ad σ).set (15 + 2 * i) (ad (15 + 2 * i), .inl (cy.1, 90, .inl g)) = al_W cy ad (al_sR σ i g) := by
  refine al_W_set cy ad σ _ ?_ (fun j hj hne => ?_)
  · rw [al_cE_arr cy ad _ hi]
    simp [al_sR]
  · by_cases h1 : j < 14
    · have h25 : ¬ 25 = i := by omega
      exact al_cE_small h1 (al_c0_congr (σ := σ) (σ' := al_sR σ i g) (by simp [al_sR, h25]) rfl j h1)
    · by_cases h2 : j < 64
      · by_cases h3 : j % 2 = 0
        · simp only [al_cE, h1, h2, h3, if_true, if_false]
        · have h4 : ¬ (j - 15) / 2 = i := by omega
          simp only [al_cE, h1, h2, h3, if_true, if_false, al_sR, h4]
      · simp only [al_cE, h1, h2, if_false, al_sR]
theorem al_W_sF (cy : al_CY) (ad : Nat → Nat) (σ : al_St) {i : Nat} (g : Nat → UInt32) : (al_W cy ad σ).set (65 + 2 * i) (ad (65 + 2 * i), .inl (cy.2.1, 90, .inr (.inr (.inl g)))) = al_W cy ad (al_sF σ i g) := by
  refine al_W_set cy ad σ _ ?_ (fun j hj hne => ?_)
  · rw [al_cE_farr cy ad _]
    simp [al_sF]
  · by_cases h1 : j < 14
    · exact al_cE_small h1 (al_c0_congr (σ := σ) (σ' := al_sF σ i g) rfl rfl j h1)
    · by_cases h2 : j < 64
      · simp only [al_cE, h1, h2, if_true, if_false, al_sF]
      · by_cases h3 : j % 2 = 0
        · simp only [al_cE, h1, h2, h3, if_true, if_false]
        · have h4 : ¬ (j - 65) / 2 = i := by omega
          simp only [al_cE, h1, h2, h3, if_false, al_sF, h4]
/-- the text's signs are the row 25 -/
theorem al_W_sg (cy : al_CY) (ad : Nat → Nat) (σ : al_St) (g : Nat → Int32) : (al_W cy ad σ).set 2 (ad 2, .inl (cy.2.2.1, 60, .inl g)) = al_W cy ad (al_sR σ 25 g) := by
  have key : ∀ k, k < 14 → (k ≠ 2 → al_c0 cy ad (al_sR σ 25 g) k = al_c0 cy ad σ k) := by
    refine al_c0_out ?_ ?_ ?_ ?_ ?_ ?_ ?_ ?_ ?_ ?_ ?_ ?_ ?_ ?_ <;> first | exact fun _ => rfl | exact fun h => absurd rfl h
  refine al_W_set cy ad σ _ ?_ (fun j hj hne => ?_)
  · simp [al_cE, al_c0, al_sR]
  · by_cases h1 : j < 14
    · exact al_cE_small h1 (key j h1 hne)
    · by_cases h2 : j < 64
      · by_cases h3 : j % 2 = 0
        · simp only [al_cE, h1, h2, h3, if_true, if_false]
        · have h4 : ¬ (j - 15) / 2 = 25 := by omega
          simp only [al_cE, h1, h2, h3, if_true, if_false, al_sR, h4]
      · simp only [al_cE, h1, h2, if_false, al_sR]
/-- a scalar changes its own object alone -/
theorem al_W_sV (cy : al_CY) (ad : Nat → Nat) (σ : al_St) {i q : Nat} {x : Int32} {e : va_E} (he : al_cE cy ad (al_sV σ i x) q = e) (h : ∀ k, k < 14 → (k ≠ q → al_c0 cy ad (al_sV σ i x) k = al_c0 cy ad σ k)) : (al_W cy ad σ).set q (ad q, e) = al_W cy ad (al_sV σ i x) := by
  refine al_W_set cy ad σ _ he (fun j hj hne => ?_)
  by_cases h1 : j < 14
  · exact al_cE_small h1 (h j h1 hne)
  · exact al_cE_big (σ := σ) (σ' := al_sV σ i x) rfl rfl h1
theorem al_H.sV {D : va_G} {cy : al_CY} {ad : Nat → Nat} {σ : al_St} {H H1 : Heap} {i q : Nat} {x : Int32} {e : va_E} (h0 : al_H D cy ad σ H) (h : va_P D vwCl ((al_W cy ad σ).set q (ad q, e)) H1) (he : al_cE cy ad (al_sV σ i x) q = e) (hk : ∀ k, k < 14 → (k ≠ q → al_c0 cy ad (al_sV σ i x) k = al_c0 cy ad σ k)) : al_H D cy ad (al_sV σ i x) H1 := by
  rw [al_W_sV cy ad σ he hk] at h
  exact ⟨h, h0.2.1, h0.2.2⟩
theorem al_H.sR {D : va_G} {cy : al_CY} {ad : Nat → Nat} {σ : al_St} {H H1 : Heap} {i : Nat} {g : Nat → Int32} (h0 : al_H D cy ad σ H) (hi : i < 25) (h : va_P D vwCl ((al_W cy ad σ).set (15 + 2 * i) (ad (15 + 2 * i), .inl (cy.1, 90, .inl g))) H1) : al_H D cy ad (al_sR σ i g) H1 := by
  rw [al_W_sR cy ad σ hi g] at h
  exact ⟨h, h0.2.1, h0.2.2⟩
theorem al_H.sG {D : va_G} {cy : al_CY} {ad : Nat → Nat} {σ : al_St} {H H1 : Heap} {g : Nat → Int32} (h0 : al_H D cy ad σ H) (h : va_P D vwCl ((al_W cy ad σ).set 2 (ad 2, .inl (cy.2.2.1, 60, .inl g))) H1) : al_H D cy ad (al_sR σ 25 g) H1 := by
  rw [al_W_sg cy ad σ g] at h
  exact ⟨h, h0.2.1, h0.2.2⟩
theorem al_H.sF {D : va_G} {cy : al_CY} {ad : Nat → Nat} {σ : al_St} {H H1 : Heap} {i : Nat} {g : Nat → UInt32} (h0 : al_H D cy ad σ H) (h : va_P D vwCl ((al_W cy ad σ).set (65 + 2 * i) (ad (65 + 2 * i), .inl (cy.2.1, 90, .inr (.inr (.inl g))))) H1) : al_H D cy ad (al_sF σ i g) H1 := by
  rw [al_W_sF cy ad σ g] at h
  exact ⟨h, h0.2.1, h0.2.2⟩
theorem al_arrV {cA : ClassId} {n : Nat} {f g : Nat → Value} (h : ∀ j, j < n → f j = g j) : arrV cA n f = arrV cA n g := by
  simp only [arrV]
  congr 1
  apply Array.ext
  · simp
  · intro i h1 h2
    simp only [Array.getElem_ofFn]
    exact h i (by simpa using h1)
/-- a state that has the same rows below their ends -/
theorem al_H.congr {D : va_G} {cy : al_CY} {ad : Nat → Nat} {σ σ' : al_St} {H : Heap} (h : al_H D cy ad σ H) (h1 : ∀ i j, i < 25 → j < 90 → σ'.1 i j = σ.1 i j) (h25 : σ'.1 25 = σ.1 25) (h2 : ∀ i j, j < 90 → σ'.2.1 i j = σ.2.1 i j) (h3 : σ'.2.2 = σ.2.2) : al_H D cy ad σ' H := by
  refine ⟨fun k q hq => ?_, h.2.1, fun j => by rw [h3]; exact h.2.2 j⟩
  have hl := (List.getElem?_eq_some_iff.mp hq).1
  have hk : k < 80 := by simpa [al_W] using hl
  rw [al_W_at cy ad σ' hk] at hq
  cases hq
  have h0 := h.1 k _ (al_W_at cy ad σ hk)
  by_cases a1 : k < 14
  · have e : al_cE cy ad σ' k = al_cE cy ad σ k := al_cE_small a1 (al_c0_congr h25 h3 k a1)
    rw [e]
    exact h0
  · by_cases a2 : k < 64
    · by_cases a3 : k % 2 = 0
      · have e : al_cE cy ad σ' k = al_cE cy ad σ k := by simp only [al_cE, a1, a2, a3, if_true, if_false]
        rw [e]
        exact h0
      · simp only [al_cE, a1, a2, a3, if_true, if_false] at h0 ⊢
        have h0 : H[ad k]? = some (vp_cell cy.1 (90, .inl (σ.1 ((k - 15) / 2)))) := h0
        have e : vp_cell cy.1 (90, .inl (σ.1 ((k - 15) / 2))) = vp_cell cy.1 (90, .inl (σ'.1 ((k - 15) / 2))) := by
          rw [vp_cell_i, vp_cell_i]
          refine al_arrV (fun j hj => ?_)
          rw [h1 ((k - 15) / 2) j (by omega) hj]
        rw [e] at h0
        exact h0
    · by_cases a3 : k % 2 = 0
      · have e : al_cE cy ad σ' k = al_cE cy ad σ k := by simp only [al_cE, a1, a2, a3, if_true, if_false]
        rw [e]
        exact h0
      · simp only [al_cE, a1, a2, a3, if_false] at h0 ⊢
        have h0 : H[ad k]? = some (vp_cell cy.2.1 (90, .inr (.inr (.inl (σ.2.1 ((k - 65) / 2)))))) := h0
        have e : vp_cell cy.2.1 (90, .inr (.inr (.inl (σ.2.1 ((k - 65) / 2))))) = vp_cell cy.2.1 (90, .inr (.inr (.inl (σ'.2.1 ((k - 65) / 2))))) := by
          rw [vp_cell_f, vp_cell_f]
          refine al_arrV (fun j hj => ?_)
          rw [h2 ((k - 65) / 2) j hj]
        rw [e] at h0
        exact h0
theorem al_rc_R (D : va_G) (cy : al_CY) (ad : Nat → Nat) (σ : al_St) {i : Nat} (hi : i < 25) : al_rc D cy ad σ (14 + 2 * i) RX2 := ⟨by omega, 2, _, TX2, 1, al_cE_row cy ad σ hi, rfl⟩
theorem al_rc_F (D : va_G) (cy : al_CY) (ad : Nat → Nat) (σ : al_St) {i : Nat} (hi : i < 8) : al_rc D cy ad σ (64 + 2 * i) RX0 := ⟨by omega, 0, _, TX0, 1, al_cE_frow cy ad σ, rfl⟩
theorem al_rc_T (D : va_G) (cy : al_CY) (ad : Nat → Nat) (σ : al_St) {t : Nat} (ht : t < 6) : al_rc D cy ad σ (8 + t) RX6 := ⟨by omega, 6, _, TX6, 4, al_cE_tree cy ad σ ht, rfl⟩
theorem al_rc_8 (D : va_G) (cy : al_CY) (ad : Nat → Nat) (σ : al_St) : al_rc D cy ad σ 0 RX8 := ⟨by decide, 8, _, TX8, 6, rfl, rfl⟩
theorem al_rc_5 (D : va_G) (cy : al_CY) (ad : Nat → Nat) (σ : al_St) : al_rc D cy ad σ 1 RX5 := ⟨by decide, 5, _, TX5, 2, rfl, rfl⟩
theorem al_rc_1 (D : va_G) (cy : al_CY) (ad : Nat → Nat) (σ : al_St) : al_rc D cy ad σ 3 RX1 := ⟨by decide, 1, _, TX1, 4, rfl, rfl⟩
theorem al_rc_4 (D : va_G) (cy : al_CY) (ad : Nat → Nat) (σ : al_St) : al_rc D cy ad σ 5 RX4 := ⟨by decide, 4, _, TX4, 12, rfl, rfl⟩
theorem al_rc_7 (D : va_G) (cy : al_CY) (ad : Nat → Nat) (σ : al_St) : al_rc D cy ad σ 6 RX7 := ⟨by decide, 7, _, TX7, 7, rfl, rfl⟩
theorem al_rc_3 (D : va_G) (cy : al_CY) (ad : Nat → Nat) (σ : al_St) : al_rc D cy ad σ 7 RX3 := ⟨by decide, 3, _, TX3, 5, rfl, rfl⟩
theorem al_inc (k : Nat) : nI k + Int32.ofInt 1 = nI (k + 1) := nI_1 k
section ALF
variable {p : Program} {l : Launch} {e : Env} {R : Room} {s : State} {m : MethodId} {args : Array Value} {below : List Frame} {meth : Method} {c : Code} {H : Heap} {locs : List Loc} {cells slots : Nat} {Q : State → Prop}
variable {cc : ByteArray} {nL n pc : Nat} {own : String} {rest : List Value} {ls : Array Slot}
variable {D : va_G} {cy : al_CY} {ad : Nat → Nat} {σ : al_St} {H0 : Heap} {x v : Int32} {w : UInt32}
theorem al_ialen (S : CallFix p m c cc nL s args al_G own) (hK : va_K D vwCl (al_tys cy) s) (hW : al_H D cy ad σ H) {i : Nat} (hi : i < 25) (hdg : decode cc pc = .ok (.arraylength, 1)) (kk : W p l e R s m args below meth c H locs cells slots Q (F0 m (pc + 1) ls (.int 90 :: rest))) : W p l e R s m args below meth c H locs cells slots Q (F0 m pc ls (.ref (ad (15 + 2 * i)) :: rest)) :=
  va_alen S.1 S.2.1 hK hW.1 (15 + 2 * i) 0 (hW.cell (by omega) (al_cE_arr cy ad σ hi)) rfl rfl hdg kk
theorem al_iald (S : CallFix p m c cc nL s args al_G own) (hK : va_K D vwCl (al_tys cy) s) (hW : al_H D cy ad σ H) {i : Nat} (hi : i < 25) (h1 : ¬ x < 0) (h2 : ¬ 90 ≤ x) (hdg : decode cc pc = .ok (.iaload, 1)) (kk : W p l e R s m args below meth c H locs cells slots Q (F0 m (pc + 1) ls (.int (σ.1 i x.toNatClampNeg) :: rest))) : W p l e R s m args below meth c H locs cells slots Q (F0 m pc ls (.int x :: .ref (ad (15 + 2 * i)) :: rest)) :=
  va_iald S.1 S.2.1 hK hW.1 (15 + 2 * i) 0 (hW.cell (by omega) (al_cE_arr cy ad σ hi)) rfl (al_vin rfl h1 h2) hdg kk
theorem al_iast (S : CallFix p m c cc nL s args al_G own) (hK : va_K D vwCl (al_tys cy) s) (hW : al_H D cy ad σ H) (hS : va_S (al_A ad) H0 H locs) {i : Nat} (hi : i < 25) (h1 : ¬ x < 0) (h2 : ¬ 90 ≤ x) (hdg : decode cc pc = .ok (.iastore, 1)) (kk : ∀ (H1 : Heap) (locs1 : List Loc), al_H D cy ad (al_sR σ i (upd (σ.1 i) x.toNatClampNeg v)) H1 → va_S (al_A ad) H0 H1 locs1 → W p l e R s m args below meth c H1 locs1 cells slots Q (F0 m (pc + 1) ls rest)) : W p l e R s m args below meth c H locs cells slots Q (F0 m pc ls (.int v :: .int x :: .ref (ad (15 + 2 * i)) :: rest)) :=
  va_iast S.1 S.2.1 hK hW.1 (al_W_D hW.2.1) hS (15 + 2 * i) 0 (hW.cell (by omega) (al_cE_arr cy ad σ hi)) rfl (al_vin rfl h1 h2) hdg (fun H1 locs1 a _ b => kk H1 locs1 (hW.sR hi a) b)
theorem al_falen (S : CallFix p m c cc nL s args al_G own) (hK : va_K D vwCl (al_tys cy) s) (hW : al_H D cy ad σ H) {i : Nat} (hi : i < 8) (hdg : decode cc pc = .ok (.arraylength, 1)) (kk : W p l e R s m args below meth c H locs cells slots Q (F0 m (pc + 1) ls (.int 90 :: rest))) : W p l e R s m args below meth c H locs cells slots Q (F0 m pc ls (.ref (ad (65 + 2 * i)) :: rest)) :=
  va_alen S.1 S.2.1 hK hW.1 (65 + 2 * i) 1 (hW.cell (by omega) (al_cE_farr cy ad σ)) rfl rfl hdg kk
theorem al_fald (S : CallFix p m c cc nL s args al_G own) (hK : va_K D vwCl (al_tys cy) s) (hW : al_H D cy ad σ H) {i : Nat} (hi : i < 8) (h1 : ¬ x < 0) (h2 : ¬ 90 ≤ x) (hdg : decode cc pc = .ok (.faload, 1)) (kk : W p l e R s m args below meth c H locs cells slots Q (F0 m (pc + 1) ls (.float (σ.2.1 i x.toNatClampNeg) :: rest))) : W p l e R s m args below meth c H locs cells slots Q (F0 m pc ls (.int x :: .ref (ad (65 + 2 * i)) :: rest)) :=
  va_fald S.1 S.2.1 hK hW.1 (65 + 2 * i) 1 (hW.cell (by omega) (al_cE_farr cy ad σ)) rfl (al_vin rfl h1 h2) hdg kk
theorem al_fast (S : CallFix p m c cc nL s args al_G own) (hK : va_K D vwCl (al_tys cy) s) (hW : al_H D cy ad σ H) (hS : va_S (al_A ad) H0 H locs) {i : Nat} (hi : i < 8) (h1 : ¬ x < 0) (h2 : ¬ 90 ≤ x) (hdg : decode cc pc = .ok (.fastore, 1)) (kk : ∀ (H1 : Heap) (locs1 : List Loc), al_H D cy ad (al_sF σ i (vf_upd (σ.2.1 i) x.toNatClampNeg w)) H1 → va_S (al_A ad) H0 H1 locs1 → W p l e R s m args below meth c H1 locs1 cells slots Q (F0 m (pc + 1) ls rest)) : W p l e R s m args below meth c H locs cells slots Q (F0 m pc ls (.float w :: .int x :: .ref (ad (65 + 2 * i)) :: rest)) :=
  va_fast S.1 S.2.1 hK hW.1 (al_W_D hW.2.1) hS (65 + 2 * i) 1 (hW.cell (by omega) (al_cE_farr cy ad σ)) rfl (al_vin rfl h1 h2) hdg (fun H1 locs1 a _ b => kk H1 locs1 (hW.sF a) b)
theorem al_calen (S : CallFix p m c cc nL s args al_G own) (hK : va_K D vwCl (al_tys cy) s) (hW : al_H D cy ad σ H) (hdg : decode cc pc = .ok (.arraylength, 1)) (kk : W p l e R s m args below meth c H locs cells slots Q (F0 m (pc + 1) ls (.int 60 :: rest))) : W p l e R s m args below meth c H locs cells slots Q (F0 m pc ls (.ref (ad 2) :: rest)) :=
  va_alen S.1 S.2.1 hK hW.1 2 2 (hW.cell (by decide) rfl) rfl rfl hdg kk
theorem al_cald (S : CallFix p m c cc nL s args al_G own) (hK : va_K D vwCl (al_tys cy) s) (hW : al_H D cy ad σ H) (h1 : ¬ x < 0) (h2 : ¬ 60 ≤ x) (hdg : decode cc pc = .ok (.caload, 1)) (kk : W p l e R s m args below meth c H locs cells slots Q (F0 m (pc + 1) ls (.int (σ.1 25 x.toNatClampNeg) :: rest))) : W p l e R s m args below meth c H locs cells slots Q (F0 m pc ls (.int x :: .ref (ad 2) :: rest)) :=
  va_cald S.1 S.2.1 hK hW.1 2 2 (hW.cell (by decide) rfl) rfl (al_vin rfl h1 h2) hdg kk
theorem al_qalen (S : CallFix p m c cc nL s args al_G own) (hK : va_K D vwCl (al_tys cy) s) (hW : al_H D cy ad σ H) (hdg : decode cc pc = .ok (.arraylength, 1)) (kk : W p l e R s m args below meth c H locs cells slots Q (F0 m (pc + 1) ls (.int 4 :: rest))) : W p l e R s m args below meth c H locs cells slots Q (F0 m pc ls (.ref (ad 4) :: rest)) :=
  va_alen S.1 S.2.1 hK hW.1 4 3 (hW.cell (by decide) rfl) rfl rfl hdg kk
theorem al_qald (S : CallFix p m c cc nL s args al_G own) (hK : va_K D vwCl (al_tys cy) s) (hW : al_H D cy ad σ H) (h1 : ¬ x < 0) (h2 : ¬ 4 ≤ x) (hdg : decode cc pc = .ok (.aaload, 1)) (kk : W p l e R s m args below meth c H locs cells slots Q (F0 m (pc + 1) ls (.ref (ad (8 + σ.2.2.2 x.toNatClampNeg)) :: rest))) : W p l e R s m args below meth c H locs cells slots Q (F0 m pc ls (.int x :: .ref (ad 4) :: rest)) :=
  va_aldq S.1 S.2.1 hK hW.1 4 3 (hW.cell (by decide) rfl) rfl (al_vin rfl h1 h2) hdg kk
/-- AncestorLooks$Row.cells -/
theorem al_g_RX2_9 (S : CallFix p m c cc nL s args al_G RX2) (hK : va_K D vwCl (al_tys cy) s) (hW : al_H D cy ad σ H) {i : Nat} (hi : i < 25) (hdg : decode cc pc = .ok (.getfield 9, 3)) (kk : W p l e R s m args below meth c H locs cells slots Q (F0 m (pc + 3) ls (.ref (ad (15 + 2 * i)) :: rest))) : W p l e R s m args below meth c H locs cells slots Q (F0 m pc ls (.ref (ad (14 + 2 * i)) :: rest)) :=
  va_get S.1 S.2.1 S.2.2.2.2 al_in2 S.2.2.2.1 hK hW.1 (14 + 2 * i) (hW.cell (by omega) (al_cE_row cy ad σ hi)) rfl 0 (by decide) (S.2.2.2.2 _ al_fl_RX2_9) (fun _ h9 => h9) rfl hdg kk
/-- AncestorLooks$FloatRow.cells -/
theorem al_g_RX0_9 (S : CallFix p m c cc nL s args al_G RX0) (hK : va_K D vwCl (al_tys cy) s) (hW : al_H D cy ad σ H) {i : Nat} (hi : i < 8) (hdg : decode cc pc = .ok (.getfield 9, 3)) (kk : W p l e R s m args below meth c H locs cells slots Q (F0 m (pc + 3) ls (.ref (ad (65 + 2 * i)) :: rest))) : W p l e R s m args below meth c H locs cells slots Q (F0 m pc ls (.ref (ad (64 + 2 * i)) :: rest)) :=
  va_get S.1 S.2.1 S.2.2.2.2 al_in0 S.2.2.2.1 hK hW.1 (64 + 2 * i) (hW.cell (by omega) (al_cE_frow cy ad σ)) rfl 0 (by decide) (S.2.2.2.2 _ al_fl_RX0_9) (fun _ h9 => h9) rfl hdg kk
/-- AncestorLooks$Tree.parents -/
theorem al_g_RX6_12 (S : CallFix p m c cc nL s args al_G RX6) (hK : va_K D vwCl (al_tys cy) s) (hW : al_H D cy ad σ H) {t : Nat} (ht : t < 6) (hdg : decode cc pc = .ok (.getfield 12, 3)) (kk : W p l e R s m args below meth c H locs cells slots Q (F0 m (pc + 3) ls (.ref (ad (14 + 2 * (2 * t))) :: rest))) : W p l e R s m args below meth c H locs cells slots Q (F0 m pc ls (.ref (ad (8 + t)) :: rest)) :=
  va_get S.1 S.2.1 S.2.2.2.2 al_in6 S.2.2.2.1 hK hW.1 (8 + t) (hW.cell (by omega) (al_cE_tree cy ad σ ht)) rfl 0 (by decide) (S.2.2.2.2 _ al_fl_RX6_12) (fun _ h9 => h9) rfl hdg kk
/-- AncestorLooks$Tree.bits -/
theorem al_g_RX6_18 (S : CallFix p m c cc nL s args al_G RX6) (hK : va_K D vwCl (al_tys cy) s) (hW : al_H D cy ad σ H) {t : Nat} (ht : t < 6) (hdg : decode cc pc = .ok (.getfield 18, 3)) (kk : W p l e R s m args below meth c H locs cells slots Q (F0 m (pc + 3) ls (.ref (ad (14 + 2 * (2 * t + 1))) :: rest))) : W p l e R s m args below meth c H locs cells slots Q (F0 m pc ls (.ref (ad (8 + t)) :: rest)) :=
  va_get S.1 S.2.1 S.2.2.2.2 al_in6 S.2.2.2.1 hK hW.1 (8 + t) (hW.cell (by omega) (al_cE_tree cy ad σ ht)) rfl 1 (by decide) (S.2.2.2.2 _ al_fl_RX6_18) (fun _ h9 => h9) rfl hdg kk
/-- AncestorLooks$Tree.lengths -/
theorem al_g_RX6_24 (S : CallFix p m c cc nL s args al_G RX6) (hK : va_K D vwCl (al_tys cy) s) (hW : al_H D cy ad σ H) {t : Nat} (ht : t < 6) (hdg : decode cc pc = .ok (.getfield 24, 3)) (kk : W p l e R s m args below meth c H locs cells slots Q (F0 m (pc + 3) ls (.ref (ad (64 + 2 * t)) :: rest))) : W p l e R s m args below meth c H locs cells slots Q (F0 m pc ls (.ref (ad (8 + t)) :: rest)) :=
  va_get S.1 S.2.1 S.2.2.2.2 al_in6 S.2.2.2.1 hK hW.1 (8 + t) (hW.cell (by omega) (al_cE_tree cy ad σ ht)) rfl 2 (by decide) (S.2.2.2.2 _ al_fl_RX6_24) (fun _ h9 => h9) rfl hdg kk
/-- AncestorLooks$Tree.ever -/
theorem al_g_RX6_32 (S : CallFix p m c cc nL s args al_G RX6) (hK : va_K D vwCl (al_tys cy) s) (hW : al_H D cy ad σ H) {t : Nat} (ht : t < 6) (hdg : decode cc pc = .ok (.getfield 32, 3)) (kk : W p l e R s m args below meth c H locs cells slots Q (F0 m (pc + 3) ls (.int (σ.2.2.1 t) :: rest))) : W p l e R s m args below meth c H locs cells slots Q (F0 m pc ls (.ref (ad (8 + t)) :: rest)) :=
  va_get S.1 S.2.1 S.2.2.2.2 al_in6 S.2.2.2.1 hK hW.1 (8 + t) (hW.cell (by omega) (al_cE_tree cy ad σ ht)) rfl 3 (by decide) (S.2.2.2.2 _ al_fl_RX6_32) (fun _ h9 => h9) rfl hdg kk
theorem al_V_tree {t : Nat} {x : Int32} (ht : t < 6) : ∀ k, k < 14 → (k ≠ 8 + t → al_c0 cy ad (al_sV σ t x) k = al_c0 cy ad σ k) := by
      have h : t = 0 ∨ t = 1 ∨ t = 2 ∨ t = 3 ∨ t = 4 ∨ t = 5 := by omega
      rcases h with rfl | rfl | rfl | rfl | rfl | rfl <;> (refine al_c0_out ?_ ?_ ?_ ?_ ?_ ?_ ?_ ?_ ?_ ?_ ?_ ?_ ?_ ?_ <;> first | exact fun _ => rfl | exact fun h => absurd rfl h)
theorem al_p_RX6_32 (S : CallFix p m c cc nL s args al_G RX6) (hK : va_K D vwCl (al_tys cy) s) (hW : al_H D cy ad σ H) (hS : va_S (al_A ad) H0 H locs) {t : Nat} (ht : t < 6) (hdg : decode cc pc = .ok (.putfield 32, 3)) (kk : ∀ (H1 : Heap) (locs1 : List Loc), al_H D cy ad (al_sV σ t v) H1 → va_S (al_A ad) H0 H1 locs1 → W p l e R s m args below meth c H1 locs1 cells slots Q (F0 m (pc + 3) ls (rest))) : W p l e R s m args below meth c H locs cells slots Q (F0 m pc ls (.int v :: .ref (ad (8 + t)) :: rest)) :=
  va_put S.1 S.2.1 S.2.2.2.2 al_in6 tyX6 tyX6_ok nmX6 S.2.2.2.1 hK hW.1 (al_W_D hW.2.1) hS (8 + t) (hW.cell (by omega) (al_cE_tree cy ad σ ht)) rfl 3 (by decide) (S.2.2.2.2 _ al_fl_RX6_32) (fun _ h9 => h9) rfl (tyX6_ok 3 (by decide)) rfl rfl (Nat.le_of_ble_eq_true rfl) hdg (fun H1 locs1 a _ b => kk H1 locs1 (hW.sV a (by rw [al_cE_tree cy ad _ ht]; simp [al_sV]) (al_V_tree ht)) b)
/-- AncestorLooks$Text.signs -/
theorem al_g_RX5_9 (S : CallFix p m c cc nL s args al_G RX5) (hK : va_K D vwCl (al_tys cy) s) (hW : al_H D cy ad σ H) (hdg : decode cc pc = .ok (.getfield 9, 3)) (kk : W p l e R s m args below meth c H locs cells slots Q (F0 m (pc + 3) ls (.ref (ad (2)) :: rest))) : W p l e R s m args below meth c H locs cells slots Q (F0 m pc ls (.ref (ad (1)) :: rest)) :=
  va_get S.1 S.2.1 S.2.2.2.2 al_in5 S.2.2.2.1 hK hW.1 (1) (hW.cell (by decide) rfl) rfl 0 (by decide) (S.2.2.2.2 _ al_fl_RX5_9) (fun _ h9 => h9) rfl hdg kk
/-- AncestorLooks$Text.used -/
theorem al_g_RX5_15 (S : CallFix p m c cc nL s args al_G RX5) (hK : va_K D vwCl (al_tys cy) s) (hW : al_H D cy ad σ H) (hdg : decode cc pc = .ok (.getfield 15, 3)) (kk : W p l e R s m args below meth c H locs cells slots Q (F0 m (pc + 3) ls (.int (σ.2.2.1 6) :: rest))) : W p l e R s m args below meth c H locs cells slots Q (F0 m pc ls (.ref (ad (1)) :: rest)) :=
  va_get S.1 S.2.1 S.2.2.2.2 al_in5 S.2.2.2.1 hK hW.1 (1) (hW.cell (by decide) rfl) rfl 1 (by decide) (S.2.2.2.2 _ al_fl_RX5_15) (fun _ h9 => h9) rfl hdg kk
theorem al_p_RX5_15 (S : CallFix p m c cc nL s args al_G RX5) (hK : va_K D vwCl (al_tys cy) s) (hW : al_H D cy ad σ H) (hS : va_S (al_A ad) H0 H locs) (hdg : decode cc pc = .ok (.putfield 15, 3)) (kk : ∀ (H1 : Heap) (locs1 : List Loc), al_H D cy ad (al_sV σ 6 v) H1 → va_S (al_A ad) H0 H1 locs1 → W p l e R s m args below meth c H1 locs1 cells slots Q (F0 m (pc + 3) ls (rest))) : W p l e R s m args below meth c H locs cells slots Q (F0 m pc ls (.int v :: .ref (ad (1)) :: rest)) :=
  va_put S.1 S.2.1 S.2.2.2.2 al_in5 tyX5 tyX5_ok nmX5 S.2.2.2.1 hK hW.1 (al_W_D hW.2.1) hS (1) (hW.cell (by decide) rfl) rfl 1 (by decide) (S.2.2.2.2 _ al_fl_RX5_15) (fun _ h9 => h9) rfl (tyX5_ok 1 (by decide)) rfl rfl (Nat.le_of_ble_eq_true rfl) hdg (fun H1 locs1 a _ b => kk H1 locs1 (hW.sV a rfl (al_c0_out (fun _ => rfl) (fun h => absurd rfl h) (fun _ => rfl) (fun _ => rfl) (fun _ => rfl) (fun _ => rfl) (fun _ => rfl) (fun _ => rfl) (fun _ => rfl) (fun _ => rfl) (fun _ => rfl) (fun _ => rfl) (fun _ => rfl) (fun _ => rfl))) b)
/-- AncestorLooks$History.states -/
theorem al_g_RX1_11 (S : CallFix p m c cc nL s args al_G RX1) (hK : va_K D vwCl (al_tys cy) s) (hW : al_H D cy ad σ H) (hdg : decode cc pc = .ok (.getfield 11, 3)) (kk : W p l e R s m args below meth c H locs cells slots Q (F0 m (pc + 3) ls (.ref (ad (4)) :: rest))) : W p l e R s m args below meth c H locs cells slots Q (F0 m pc ls (.ref (ad (3)) :: rest)) :=
  va_get S.1 S.2.1 S.2.2.2.2 al_in1 S.2.2.2.1 hK hW.1 (3) (hW.cell (by decide) rfl) rfl 0 (by decide) (S.2.2.2.2 _ al_fl_RX1_11) (fun _ h9 => h9) rfl hdg kk
/-- AncestorLooks$History.snapshot -/
theorem al_g_RX1_18 (S : CallFix p m c cc nL s args al_G RX1) (hK : va_K D vwCl (al_tys cy) s) (hW : al_H D cy ad σ H) (hdg : decode cc pc = .ok (.getfield 18, 3)) (kk : W p l e R s m args below meth c H locs cells slots Q (F0 m (pc + 3) ls (.ref (ad (13)) :: rest))) : W p l e R s m args below meth c H locs cells slots Q (F0 m pc ls (.ref (ad (3)) :: rest)) :=
  va_get S.1 S.2.1 S.2.2.2.2 al_in1 S.2.2.2.1 hK hW.1 (3) (hW.cell (by decide) rfl) rfl 1 (by decide) (S.2.2.2.2 _ al_fl_RX1_18) (fun _ h9 => h9) rfl hdg kk
/-- AncestorLooks$History.used -/
theorem al_g_RX1_22 (S : CallFix p m c cc nL s args al_G RX1) (hK : va_K D vwCl (al_tys cy) s) (hW : al_H D cy ad σ H) (hdg : decode cc pc = .ok (.getfield 22, 3)) (kk : W p l e R s m args below meth c H locs cells slots Q (F0 m (pc + 3) ls (.int (σ.2.2.1 7) :: rest))) : W p l e R s m args below meth c H locs cells slots Q (F0 m pc ls (.ref (ad (3)) :: rest)) :=
  va_get S.1 S.2.1 S.2.2.2.2 al_in1 S.2.2.2.1 hK hW.1 (3) (hW.cell (by decide) rfl) rfl 2 (by decide) (S.2.2.2.2 _ al_fl_RX1_22) (fun _ h9 => h9) rfl hdg kk
theorem al_p_RX1_22 (S : CallFix p m c cc nL s args al_G RX1) (hK : va_K D vwCl (al_tys cy) s) (hW : al_H D cy ad σ H) (hS : va_S (al_A ad) H0 H locs) (hdg : decode cc pc = .ok (.putfield 22, 3)) (kk : ∀ (H1 : Heap) (locs1 : List Loc), al_H D cy ad (al_sV σ 7 v) H1 → va_S (al_A ad) H0 H1 locs1 → W p l e R s m args below meth c H1 locs1 cells slots Q (F0 m (pc + 3) ls (rest))) : W p l e R s m args below meth c H locs cells slots Q (F0 m pc ls (.int v :: .ref (ad (3)) :: rest)) :=
  va_put S.1 S.2.1 S.2.2.2.2 al_in1 tyX1 tyX1_ok nmX1 S.2.2.2.1 hK hW.1 (al_W_D hW.2.1) hS (3) (hW.cell (by decide) rfl) rfl 2 (by decide) (S.2.2.2.2 _ al_fl_RX1_22) (fun _ h9 => h9) rfl (tyX1_ok 2 (by decide)) rfl rfl (Nat.le_of_ble_eq_true rfl) hdg (fun H1 locs1 a _ b => kk H1 locs1 (hW.sV a rfl (al_c0_out (fun _ => rfl) (fun _ => rfl) (fun _ => rfl) (fun h => absurd rfl h) (fun _ => rfl) (fun _ => rfl) (fun _ => rfl) (fun _ => rfl) (fun _ => rfl) (fun _ => rfl) (fun _ => rfl) (fun _ => rfl) (fun _ => rfl) (fun _ => rfl))) b)
/-- AncestorLooks$History.kept -/
theorem al_g_RX1_26 (S : CallFix p m c cc nL s args al_G RX1) (hK : va_K D vwCl (al_tys cy) s) (hW : al_H D cy ad σ H) (hdg : decode cc pc = .ok (.getfield 26, 3)) (kk : W p l e R s m args below meth c H locs cells slots Q (F0 m (pc + 3) ls (.int (σ.2.2.1 8) :: rest))) : W p l e R s m args below meth c H locs cells slots Q (F0 m pc ls (.ref (ad (3)) :: rest)) :=
  va_get S.1 S.2.1 S.2.2.2.2 al_in1 S.2.2.2.1 hK hW.1 (3) (hW.cell (by decide) rfl) rfl 3 (by decide) (S.2.2.2.2 _ al_fl_RX1_26) (fun _ h9 => h9) rfl hdg kk
theorem al_p_RX1_26 (S : CallFix p m c cc nL s args al_G RX1) (hK : va_K D vwCl (al_tys cy) s) (hW : al_H D cy ad σ H) (hS : va_S (al_A ad) H0 H locs) (hn : narrow .boolean (.int v) = .int v) (hf : fits .boolean (.int v) = true) (hdg : decode cc pc = .ok (.putfield 26, 3)) (kk : ∀ (H1 : Heap) (locs1 : List Loc), al_H D cy ad (al_sV σ 8 v) H1 → va_S (al_A ad) H0 H1 locs1 → W p l e R s m args below meth c H1 locs1 cells slots Q (F0 m (pc + 3) ls (rest))) : W p l e R s m args below meth c H locs cells slots Q (F0 m pc ls (.int v :: .ref (ad (3)) :: rest)) :=
  va_put S.1 S.2.1 S.2.2.2.2 al_in1 tyX1 tyX1_ok nmX1 S.2.2.2.1 hK hW.1 (al_W_D hW.2.1) hS (3) (hW.cell (by decide) rfl) rfl 3 (by decide) (S.2.2.2.2 _ al_fl_RX1_26) (fun _ h9 => h9) rfl (tyX1_ok 3 (by decide)) hn hf (Nat.le_of_ble_eq_true rfl) hdg (fun H1 locs1 a _ b => kk H1 locs1 (hW.sV a rfl (al_c0_out (fun _ => rfl) (fun _ => rfl) (fun _ => rfl) (fun h => absurd rfl h) (fun _ => rfl) (fun _ => rfl) (fun _ => rfl) (fun _ => rfl) (fun _ => rfl) (fun _ => rfl) (fun _ => rfl) (fun _ => rfl) (fun _ => rfl) (fun _ => rfl))) b)
/-- AncestorLooks$Survey.tree -/
theorem al_g_RX4_9 (S : CallFix p m c cc nL s args al_G RX4) (hK : va_K D vwCl (al_tys cy) s) (hW : al_H D cy ad σ H) (hdg : decode cc pc = .ok (.getfield 9, 3)) (kk : W p l e R s m args below meth c H locs cells slots Q (F0 m (pc + 3) ls (.ref (ad (8)) :: rest))) : W p l e R s m args below meth c H locs cells slots Q (F0 m pc ls (.ref (ad (5)) :: rest)) :=
  va_get S.1 S.2.1 S.2.2.2.2 al_in4 S.2.2.2.1 hK hW.1 (5) (hW.cell (by decide) rfl) rfl 0 (by decide) (S.2.2.2.2 _ al_fl_RX4_9) (fun _ h9 => h9) rfl hdg kk
/-- AncestorLooks$Survey.firstChild -/
theorem al_g_RX4_18 (S : CallFix p m c cc nL s args al_G RX4) (hK : va_K D vwCl (al_tys cy) s) (hW : al_H D cy ad σ H) (hdg : decode cc pc = .ok (.getfield 18, 3)) (kk : W p l e R s m args below meth c H locs cells slots Q (F0 m (pc + 3) ls (.ref (ad (14 + 2 * 12)) :: rest))) : W p l e R s m args below meth c H locs cells slots Q (F0 m pc ls (.ref (ad (5)) :: rest)) :=
  va_get S.1 S.2.1 S.2.2.2.2 al_in4 S.2.2.2.1 hK hW.1 (5) (hW.cell (by decide) rfl) rfl 1 (by decide) (S.2.2.2.2 _ al_fl_RX4_18) (fun _ h9 => h9) rfl hdg kk
/-- AncestorLooks$Survey.nextChild -/
theorem al_g_RX4_22 (S : CallFix p m c cc nL s args al_G RX4) (hK : va_K D vwCl (al_tys cy) s) (hW : al_H D cy ad σ H) (hdg : decode cc pc = .ok (.getfield 22, 3)) (kk : W p l e R s m args below meth c H locs cells slots Q (F0 m (pc + 3) ls (.ref (ad (14 + 2 * 13)) :: rest))) : W p l e R s m args below meth c H locs cells slots Q (F0 m pc ls (.ref (ad (5)) :: rest)) :=
  va_get S.1 S.2.1 S.2.2.2.2 al_in4 S.2.2.2.1 hK hW.1 (5) (hW.cell (by decide) rfl) rfl 2 (by decide) (S.2.2.2.2 _ al_fl_RX4_22) (fun _ h9 => h9) rfl hdg kk
/-- AncestorLooks$Survey.downward -/
theorem al_g_RX4_25 (S : CallFix p m c cc nL s args al_G RX4) (hK : va_K D vwCl (al_tys cy) s) (hW : al_H D cy ad σ H) (hdg : decode cc pc = .ok (.getfield 25, 3)) (kk : W p l e R s m args below meth c H locs cells slots Q (F0 m (pc + 3) ls (.ref (ad (14 + 2 * 14)) :: rest))) : W p l e R s m args below meth c H locs cells slots Q (F0 m pc ls (.ref (ad (5)) :: rest)) :=
  va_get S.1 S.2.1 S.2.2.2.2 al_in4 S.2.2.2.1 hK hW.1 (5) (hW.cell (by decide) rfl) rfl 3 (by decide) (S.2.2.2.2 _ al_fl_RX4_25) (fun _ h9 => h9) rfl hdg kk
/-- AncestorLooks$Survey.depths -/
theorem al_g_RX4_28 (S : CallFix p m c cc nL s args al_G RX4) (hK : va_K D vwCl (al_tys cy) s) (hW : al_H D cy ad σ H) (hdg : decode cc pc = .ok (.getfield 28, 3)) (kk : W p l e R s m args below meth c H locs cells slots Q (F0 m (pc + 3) ls (.ref (ad (14 + 2 * 15)) :: rest))) : W p l e R s m args below meth c H locs cells slots Q (F0 m pc ls (.ref (ad (5)) :: rest)) :=
  va_get S.1 S.2.1 S.2.2.2.2 al_in4 S.2.2.2.1 hK hW.1 (5) (hW.cell (by decide) rfl) rfl 4 (by decide) (S.2.2.2.2 _ al_fl_RX4_28) (fun _ h9 => h9) rfl hdg kk
/-- AncestorLooks$Survey.heights -/
theorem al_g_RX4_31 (S : CallFix p m c cc nL s args al_G RX4) (hK : va_K D vwCl (al_tys cy) s) (hW : al_H D cy ad σ H) (hdg : decode cc pc = .ok (.getfield 31, 3)) (kk : W p l e R s m args below meth c H locs cells slots Q (F0 m (pc + 3) ls (.ref (ad (14 + 2 * 16)) :: rest))) : W p l e R s m args below meth c H locs cells slots Q (F0 m pc ls (.ref (ad (5)) :: rest)) :=
  va_get S.1 S.2.1 S.2.2.2.2 al_in4 S.2.2.2.1 hK hW.1 (5) (hW.cell (by decide) rfl) rfl 5 (by decide) (S.2.2.2.2 _ al_fl_RX4_31) (fun _ h9 => h9) rfl hdg kk
/-- AncestorLooks$Survey.children -/
theorem al_g_RX4_34 (S : CallFix p m c cc nL s args al_G RX4) (hK : va_K D vwCl (al_tys cy) s) (hW : al_H D cy ad σ H) (hdg : decode cc pc = .ok (.getfield 34, 3)) (kk : W p l e R s m args below meth c H locs cells slots Q (F0 m (pc + 3) ls (.ref (ad (14 + 2 * 17)) :: rest))) : W p l e R s m args below meth c H locs cells slots Q (F0 m pc ls (.ref (ad (5)) :: rest)) :=
  va_get S.1 S.2.1 S.2.2.2.2 al_in4 S.2.2.2.1 hK hW.1 (5) (hW.cell (by decide) rfl) rfl 6 (by decide) (S.2.2.2.2 _ al_fl_RX4_34) (fun _ h9 => h9) rfl hdg kk
/-- AncestorLooks$Survey.sizes -/
theorem al_g_RX4_37 (S : CallFix p m c cc nL s args al_G RX4) (hK : va_K D vwCl (al_tys cy) s) (hW : al_H D cy ad σ H) (hdg : decode cc pc = .ok (.getfield 37, 3)) (kk : W p l e R s m args below meth c H locs cells slots Q (F0 m (pc + 3) ls (.ref (ad (14 + 2 * 18)) :: rest))) : W p l e R s m args below meth c H locs cells slots Q (F0 m pc ls (.ref (ad (5)) :: rest)) :=
  va_get S.1 S.2.1 S.2.2.2.2 al_in4 S.2.2.2.1 hK hW.1 (5) (hW.cell (by decide) rfl) rfl 7 (by decide) (S.2.2.2.2 _ al_fl_RX4_37) (fun _ h9 => h9) rfl hdg kk
/-- AncestorLooks$Survey.longChildren -/
theorem al_g_RX4_40 (S : CallFix p m c cc nL s args al_G RX4) (hK : va_K D vwCl (al_tys cy) s) (hW : al_H D cy ad σ H) (hdg : decode cc pc = .ok (.getfield 40, 3)) (kk : W p l e R s m args below meth c H locs cells slots Q (F0 m (pc + 3) ls (.ref (ad (14 + 2 * 19)) :: rest))) : W p l e R s m args below meth c H locs cells slots Q (F0 m pc ls (.ref (ad (5)) :: rest)) :=
  va_get S.1 S.2.1 S.2.2.2.2 al_in4 S.2.2.2.1 hK hW.1 (5) (hW.cell (by decide) rfl) rfl 8 (by decide) (S.2.2.2.2 _ al_fl_RX4_40) (fun _ h9 => h9) rfl hdg kk
/-- AncestorLooks$Survey.tops -/
theorem al_g_RX4_43 (S : CallFix p m c cc nL s args al_G RX4) (hK : va_K D vwCl (al_tys cy) s) (hW : al_H D cy ad σ H) (hdg : decode cc pc = .ok (.getfield 43, 3)) (kk : W p l e R s m args below meth c H locs cells slots Q (F0 m (pc + 3) ls (.ref (ad (14 + 2 * 20)) :: rest))) : W p l e R s m args below meth c H locs cells slots Q (F0 m pc ls (.ref (ad (5)) :: rest)) :=
  va_get S.1 S.2.1 S.2.2.2.2 al_in4 S.2.2.2.1 hK hW.1 (5) (hW.cell (by decide) rfl) rfl 9 (by decide) (S.2.2.2.2 _ al_fl_RX4_43) (fun _ h9 => h9) rfl hdg kk
/-- AncestorLooks$Survey.feet -/
theorem al_g_RX4_46 (S : CallFix p m c cc nL s args al_G RX4) (hK : va_K D vwCl (al_tys cy) s) (hW : al_H D cy ad σ H) (hdg : decode cc pc = .ok (.getfield 46, 3)) (kk : W p l e R s m args below meth c H locs cells slots Q (F0 m (pc + 3) ls (.ref (ad (14 + 2 * 21)) :: rest))) : W p l e R s m args below meth c H locs cells slots Q (F0 m pc ls (.ref (ad (5)) :: rest)) :=
  va_get S.1 S.2.1 S.2.2.2.2 al_in4 S.2.2.2.1 hK hW.1 (5) (hW.cell (by decide) rfl) rfl 10 (by decide) (S.2.2.2.2 _ al_fl_RX4_46) (fun _ h9 => h9) rfl hdg kk
/-- AncestorLooks$Survey.present -/
theorem al_g_RX4_49 (S : CallFix p m c cc nL s args al_G RX4) (hK : va_K D vwCl (al_tys cy) s) (hW : al_H D cy ad σ H) (hdg : decode cc pc = .ok (.getfield 49, 3)) (kk : W p l e R s m args below meth c H locs cells slots Q (F0 m (pc + 3) ls (.int (σ.2.2.1 9) :: rest))) : W p l e R s m args below meth c H locs cells slots Q (F0 m pc ls (.ref (ad (5)) :: rest)) :=
  va_get S.1 S.2.1 S.2.2.2.2 al_in4 S.2.2.2.1 hK hW.1 (5) (hW.cell (by decide) rfl) rfl 11 (by decide) (S.2.2.2.2 _ al_fl_RX4_49) (fun _ h9 => h9) rfl hdg kk
theorem al_p_RX4_49 (S : CallFix p m c cc nL s args al_G RX4) (hK : va_K D vwCl (al_tys cy) s) (hW : al_H D cy ad σ H) (hS : va_S (al_A ad) H0 H locs) (hdg : decode cc pc = .ok (.putfield 49, 3)) (kk : ∀ (H1 : Heap) (locs1 : List Loc), al_H D cy ad (al_sV σ 9 v) H1 → va_S (al_A ad) H0 H1 locs1 → W p l e R s m args below meth c H1 locs1 cells slots Q (F0 m (pc + 3) ls (rest))) : W p l e R s m args below meth c H locs cells slots Q (F0 m pc ls (.int v :: .ref (ad (5)) :: rest)) :=
  va_put S.1 S.2.1 S.2.2.2.2 al_in4 tyX4 tyX4_ok nmX4 S.2.2.2.1 hK hW.1 (al_W_D hW.2.1) hS (5) (hW.cell (by decide) rfl) rfl 11 (by decide) (S.2.2.2.2 _ al_fl_RX4_49) (fun _ h9 => h9) rfl (tyX4_ok 11 (by decide)) rfl rfl (Nat.le_of_ble_eq_true rfl) hdg (fun H1 locs1 a _ b => kk H1 locs1 (hW.sV a rfl (al_c0_out (fun _ => rfl) (fun _ => rfl) (fun _ => rfl) (fun _ => rfl) (fun _ => rfl) (fun h => absurd rfl h) (fun _ => rfl) (fun _ => rfl) (fun _ => rfl) (fun _ => rfl) (fun _ => rfl) (fun _ => rfl) (fun _ => rfl) (fun _ => rfl))) b)
/-- AncestorLooks$Ways.tree -/
theorem al_g_RX7_9 (S : CallFix p m c cc nL s args al_G RX7) (hK : va_K D vwCl (al_tys cy) s) (hW : al_H D cy ad σ H) (hdg : decode cc pc = .ok (.getfield 9, 3)) (kk : W p l e R s m args below meth c H locs cells slots Q (F0 m (pc + 3) ls (.ref (ad (8)) :: rest))) : W p l e R s m args below meth c H locs cells slots Q (F0 m pc ls (.ref (ad (6)) :: rest)) :=
  va_get S.1 S.2.1 S.2.2.2.2 al_in7 S.2.2.2.1 hK hW.1 (6) (hW.cell (by decide) rfl) rfl 0 (by decide) (S.2.2.2.2 _ al_fl_RX7_9) (fun _ h9 => h9) rfl hdg kk
/-- AncestorLooks$Ways.survey -/
theorem al_g_RX7_15 (S : CallFix p m c cc nL s args al_G RX7) (hK : va_K D vwCl (al_tys cy) s) (hW : al_H D cy ad σ H) (hdg : decode cc pc = .ok (.getfield 15, 3)) (kk : W p l e R s m args below meth c H locs cells slots Q (F0 m (pc + 3) ls (.ref (ad (5)) :: rest))) : W p l e R s m args below meth c H locs cells slots Q (F0 m pc ls (.ref (ad (6)) :: rest)) :=
  va_get S.1 S.2.1 S.2.2.2.2 al_in7 S.2.2.2.1 hK hW.1 (6) (hW.cell (by decide) rfl) rfl 1 (by decide) (S.2.2.2.2 _ al_fl_RX7_15) (fun _ h9 => h9) rfl hdg kk
/-- AncestorLooks$Ways.paths -/
theorem al_g_RX7_22 (S : CallFix p m c cc nL s args al_G RX7) (hK : va_K D vwCl (al_tys cy) s) (hW : al_H D cy ad σ H) (hdg : decode cc pc = .ok (.getfield 22, 3)) (kk : W p l e R s m args below meth c H locs cells slots Q (F0 m (pc + 3) ls (.ref (ad (64 + 2 * 6)) :: rest))) : W p l e R s m args below meth c H locs cells slots Q (F0 m pc ls (.ref (ad (6)) :: rest)) :=
  va_get S.1 S.2.1 S.2.2.2.2 al_in7 S.2.2.2.1 hK hW.1 (6) (hW.cell (by decide) rfl) rfl 2 (by decide) (S.2.2.2.2 _ al_fl_RX7_22) (fun _ h9 => h9) rfl hdg kk
/-- AncestorLooks$Ways.meetingPaths -/
theorem al_g_RX7_26 (S : CallFix p m c cc nL s args al_G RX7) (hK : va_K D vwCl (al_tys cy) s) (hW : al_H D cy ad σ H) (hdg : decode cc pc = .ok (.getfield 26, 3)) (kk : W p l e R s m args below meth c H locs cells slots Q (F0 m (pc + 3) ls (.ref (ad (64 + 2 * 7)) :: rest))) : W p l e R s m args below meth c H locs cells slots Q (F0 m pc ls (.ref (ad (6)) :: rest)) :=
  va_get S.1 S.2.1 S.2.2.2.2 al_in7 S.2.2.2.1 hK hW.1 (6) (hW.cell (by decide) rfl) rfl 3 (by decide) (S.2.2.2.2 _ al_fl_RX7_26) (fun _ h9 => h9) rfl hdg kk
/-- AncestorLooks$Ways.marks -/
theorem al_g_RX7_32 (S : CallFix p m c cc nL s args al_G RX7) (hK : va_K D vwCl (al_tys cy) s) (hW : al_H D cy ad σ H) (hdg : decode cc pc = .ok (.getfield 32, 3)) (kk : W p l e R s m args below meth c H locs cells slots Q (F0 m (pc + 3) ls (.ref (ad (14 + 2 * 22)) :: rest))) : W p l e R s m args below meth c H locs cells slots Q (F0 m pc ls (.ref (ad (6)) :: rest)) :=
  va_get S.1 S.2.1 S.2.2.2.2 al_in7 S.2.2.2.1 hK hW.1 (6) (hW.cell (by decide) rfl) rfl 4 (by decide) (S.2.2.2.2 _ al_fl_RX7_32) (fun _ h9 => h9) rfl hdg kk
/-- AncestorLooks$Ways.pairFirst -/
theorem al_g_RX7_36 (S : CallFix p m c cc nL s args al_G RX7) (hK : va_K D vwCl (al_tys cy) s) (hW : al_H D cy ad σ H) (hdg : decode cc pc = .ok (.getfield 36, 3)) (kk : W p l e R s m args below meth c H locs cells slots Q (F0 m (pc + 3) ls (.int (σ.2.2.1 10) :: rest))) : W p l e R s m args below meth c H locs cells slots Q (F0 m pc ls (.ref (ad (6)) :: rest)) :=
  va_get S.1 S.2.1 S.2.2.2.2 al_in7 S.2.2.2.1 hK hW.1 (6) (hW.cell (by decide) rfl) rfl 5 (by decide) (S.2.2.2.2 _ al_fl_RX7_36) (fun _ h9 => h9) rfl hdg kk
theorem al_p_RX7_36 (S : CallFix p m c cc nL s args al_G RX7) (hK : va_K D vwCl (al_tys cy) s) (hW : al_H D cy ad σ H) (hS : va_S (al_A ad) H0 H locs) (hdg : decode cc pc = .ok (.putfield 36, 3)) (kk : ∀ (H1 : Heap) (locs1 : List Loc), al_H D cy ad (al_sV σ 10 v) H1 → va_S (al_A ad) H0 H1 locs1 → W p l e R s m args below meth c H1 locs1 cells slots Q (F0 m (pc + 3) ls (rest))) : W p l e R s m args below meth c H locs cells slots Q (F0 m pc ls (.int v :: .ref (ad (6)) :: rest)) :=
  va_put S.1 S.2.1 S.2.2.2.2 al_in7 tyX7 tyX7_ok nmX7 S.2.2.2.1 hK hW.1 (al_W_D hW.2.1) hS (6) (hW.cell (by decide) rfl) rfl 5 (by decide) (S.2.2.2.2 _ al_fl_RX7_36) (fun _ h9 => h9) rfl (tyX7_ok 5 (by decide)) rfl rfl (Nat.le_of_ble_eq_true rfl) hdg (fun H1 locs1 a _ b => kk H1 locs1 (hW.sV a rfl (al_c0_out (fun _ => rfl) (fun _ => rfl) (fun _ => rfl) (fun _ => rfl) (fun _ => rfl) (fun _ => rfl) (fun h => absurd rfl h) (fun _ => rfl) (fun _ => rfl) (fun _ => rfl) (fun _ => rfl) (fun _ => rfl) (fun _ => rfl) (fun _ => rfl))) b)
/-- AncestorLooks$Ways.pairSecond -/
theorem al_g_RX7_40 (S : CallFix p m c cc nL s args al_G RX7) (hK : va_K D vwCl (al_tys cy) s) (hW : al_H D cy ad σ H) (hdg : decode cc pc = .ok (.getfield 40, 3)) (kk : W p l e R s m args below meth c H locs cells slots Q (F0 m (pc + 3) ls (.int (σ.2.2.1 11) :: rest))) : W p l e R s m args below meth c H locs cells slots Q (F0 m pc ls (.ref (ad (6)) :: rest)) :=
  va_get S.1 S.2.1 S.2.2.2.2 al_in7 S.2.2.2.1 hK hW.1 (6) (hW.cell (by decide) rfl) rfl 6 (by decide) (S.2.2.2.2 _ al_fl_RX7_40) (fun _ h9 => h9) rfl hdg kk
theorem al_p_RX7_40 (S : CallFix p m c cc nL s args al_G RX7) (hK : va_K D vwCl (al_tys cy) s) (hW : al_H D cy ad σ H) (hS : va_S (al_A ad) H0 H locs) (hdg : decode cc pc = .ok (.putfield 40, 3)) (kk : ∀ (H1 : Heap) (locs1 : List Loc), al_H D cy ad (al_sV σ 11 v) H1 → va_S (al_A ad) H0 H1 locs1 → W p l e R s m args below meth c H1 locs1 cells slots Q (F0 m (pc + 3) ls (rest))) : W p l e R s m args below meth c H locs cells slots Q (F0 m pc ls (.int v :: .ref (ad (6)) :: rest)) :=
  va_put S.1 S.2.1 S.2.2.2.2 al_in7 tyX7 tyX7_ok nmX7 S.2.2.2.1 hK hW.1 (al_W_D hW.2.1) hS (6) (hW.cell (by decide) rfl) rfl 6 (by decide) (S.2.2.2.2 _ al_fl_RX7_40) (fun _ h9 => h9) rfl (tyX7_ok 6 (by decide)) rfl rfl (Nat.le_of_ble_eq_true rfl) hdg (fun H1 locs1 a _ b => kk H1 locs1 (hW.sV a rfl (al_c0_out (fun _ => rfl) (fun _ => rfl) (fun _ => rfl) (fun _ => rfl) (fun _ => rfl) (fun _ => rfl) (fun h => absurd rfl h) (fun _ => rfl) (fun _ => rfl) (fun _ => rfl) (fun _ => rfl) (fun _ => rfl) (fun _ => rfl) (fun _ => rfl))) b)
/-- AncestorLooks$Shapes.tree -/
theorem al_g_RX3_9 (S : CallFix p m c cc nL s args al_G RX3) (hK : va_K D vwCl (al_tys cy) s) (hW : al_H D cy ad σ H) (hdg : decode cc pc = .ok (.getfield 9, 3)) (kk : W p l e R s m args below meth c H locs cells slots Q (F0 m (pc + 3) ls (.ref (ad (8)) :: rest))) : W p l e R s m args below meth c H locs cells slots Q (F0 m pc ls (.ref (ad (7)) :: rest)) :=
  va_get S.1 S.2.1 S.2.2.2.2 al_in3 S.2.2.2.1 hK hW.1 (7) (hW.cell (by decide) rfl) rfl 0 (by decide) (S.2.2.2.2 _ al_fl_RX3_9) (fun _ h9 => h9) rfl hdg kk
/-- AncestorLooks$Shapes.survey -/
theorem al_g_RX3_15 (S : CallFix p m c cc nL s args al_G RX3) (hK : va_K D vwCl (al_tys cy) s) (hW : al_H D cy ad σ H) (hdg : decode cc pc = .ok (.getfield 15, 3)) (kk : W p l e R s m args below meth c H locs cells slots Q (F0 m (pc + 3) ls (.ref (ad (5)) :: rest))) : W p l e R s m args below meth c H locs cells slots Q (F0 m pc ls (.ref (ad (7)) :: rest)) :=
  va_get S.1 S.2.1 S.2.2.2.2 al_in3 S.2.2.2.1 hK hW.1 (7) (hW.cell (by decide) rfl) rfl 1 (by decide) (S.2.2.2.2 _ al_fl_RX3_15) (fun _ h9 => h9) rfl hdg kk
/-- AncestorLooks$Shapes.shapes -/
theorem al_g_RX3_22 (S : CallFix p m c cc nL s args al_G RX3) (hK : va_K D vwCl (al_tys cy) s) (hW : al_H D cy ad σ H) (hdg : decode cc pc = .ok (.getfield 22, 3)) (kk : W p l e R s m args below meth c H locs cells slots Q (F0 m (pc + 3) ls (.ref (ad (14 + 2 * 23)) :: rest))) : W p l e R s m args below meth c H locs cells slots Q (F0 m pc ls (.ref (ad (7)) :: rest)) :=
  va_get S.1 S.2.1 S.2.2.2.2 al_in3 S.2.2.2.1 hK hW.1 (7) (hW.cell (by decide) rfl) rfl 2 (by decide) (S.2.2.2.2 _ al_fl_RX3_22) (fun _ h9 => h9) rfl hdg kk
/-- AncestorLooks$Shapes.table -/
theorem al_g_RX3_26 (S : CallFix p m c cc nL s args al_G RX3) (hK : va_K D vwCl (al_tys cy) s) (hW : al_H D cy ad σ H) (hdg : decode cc pc = .ok (.getfield 26, 3)) (kk : W p l e R s m args below meth c H locs cells slots Q (F0 m (pc + 3) ls (.ref (ad (14 + 2 * 24)) :: rest))) : W p l e R s m args below meth c H locs cells slots Q (F0 m pc ls (.ref (ad (7)) :: rest)) :=
  va_get S.1 S.2.1 S.2.2.2.2 al_in3 S.2.2.2.1 hK hW.1 (7) (hW.cell (by decide) rfl) rfl 3 (by decide) (S.2.2.2.2 _ al_fl_RX3_26) (fun _ h9 => h9) rfl hdg kk
/-- AncestorLooks$Shapes.kinds -/
theorem al_g_RX3_29 (S : CallFix p m c cc nL s args al_G RX3) (hK : va_K D vwCl (al_tys cy) s) (hW : al_H D cy ad σ H) (hdg : decode cc pc = .ok (.getfield 29, 3)) (kk : W p l e R s m args below meth c H locs cells slots Q (F0 m (pc + 3) ls (.int (σ.2.2.1 12) :: rest))) : W p l e R s m args below meth c H locs cells slots Q (F0 m pc ls (.ref (ad (7)) :: rest)) :=
  va_get S.1 S.2.1 S.2.2.2.2 al_in3 S.2.2.2.1 hK hW.1 (7) (hW.cell (by decide) rfl) rfl 4 (by decide) (S.2.2.2.2 _ al_fl_RX3_29) (fun _ h9 => h9) rfl hdg kk
theorem al_p_RX3_29 (S : CallFix p m c cc nL s args al_G RX3) (hK : va_K D vwCl (al_tys cy) s) (hW : al_H D cy ad σ H) (hS : va_S (al_A ad) H0 H locs) (hdg : decode cc pc = .ok (.putfield 29, 3)) (kk : ∀ (H1 : Heap) (locs1 : List Loc), al_H D cy ad (al_sV σ 12 v) H1 → va_S (al_A ad) H0 H1 locs1 → W p l e R s m args below meth c H1 locs1 cells slots Q (F0 m (pc + 3) ls (rest))) : W p l e R s m args below meth c H locs cells slots Q (F0 m pc ls (.int v :: .ref (ad (7)) :: rest)) :=
  va_put S.1 S.2.1 S.2.2.2.2 al_in3 tyX3 tyX3_ok nmX3 S.2.2.2.1 hK hW.1 (al_W_D hW.2.1) hS (7) (hW.cell (by decide) rfl) rfl 4 (by decide) (S.2.2.2.2 _ al_fl_RX3_29) (fun _ h9 => h9) rfl (tyX3_ok 4 (by decide)) rfl rfl (Nat.le_of_ble_eq_true rfl) hdg (fun H1 locs1 a _ b => kk H1 locs1 (hW.sV a rfl (al_c0_out (fun _ => rfl) (fun _ => rfl) (fun _ => rfl) (fun _ => rfl) (fun _ => rfl) (fun _ => rfl) (fun _ => rfl) (fun h => absurd rfl h) (fun _ => rfl) (fun _ => rfl) (fun _ => rfl) (fun _ => rfl) (fun _ => rfl) (fun _ => rfl))) b)
/-- AncestorLooks.tree -/
theorem al_g_RX8_10 (S : CallFix p m c cc nL s args al_G RX8) (hK : va_K D vwCl (al_tys cy) s) (hW : al_H D cy ad σ H) (hdg : decode cc pc = .ok (.getfield 10, 3)) (kk : W p l e R s m args below meth c H locs cells slots Q (F0 m (pc + 3) ls (.ref (ad (8)) :: rest))) : W p l e R s m args below meth c H locs cells slots Q (F0 m pc ls (.ref (ad (0)) :: rest)) :=
  va_get S.1 S.2.1 S.2.2.2.2 al_in8 S.2.2.2.1 hK hW.1 (0) (hW.cell (by decide) rfl) rfl 0 (by decide) (S.2.2.2.2 _ al_fl_RX8_10) (fun _ h9 => h9) rfl hdg kk
/-- AncestorLooks.text -/
theorem al_g_RX8_19 (S : CallFix p m c cc nL s args al_G RX8) (hK : va_K D vwCl (al_tys cy) s) (hW : al_H D cy ad σ H) (hdg : decode cc pc = .ok (.getfield 19, 3)) (kk : W p l e R s m args below meth c H locs cells slots Q (F0 m (pc + 3) ls (.ref (ad (1)) :: rest))) : W p l e R s m args below meth c H locs cells slots Q (F0 m pc ls (.ref (ad (0)) :: rest)) :=
  va_get S.1 S.2.1 S.2.2.2.2 al_in8 S.2.2.2.1 hK hW.1 (0) (hW.cell (by decide) rfl) rfl 1 (by decide) (S.2.2.2.2 _ al_fl_RX8_19) (fun _ h9 => h9) rfl hdg kk
/-- AncestorLooks.history -/
theorem al_g_RX8_26 (S : CallFix p m c cc nL s args al_G RX8) (hK : va_K D vwCl (al_tys cy) s) (hW : al_H D cy ad σ H) (hdg : decode cc pc = .ok (.getfield 26, 3)) (kk : W p l e R s m args below meth c H locs cells slots Q (F0 m (pc + 3) ls (.ref (ad (3)) :: rest))) : W p l e R s m args below meth c H locs cells slots Q (F0 m pc ls (.ref (ad (0)) :: rest)) :=
  va_get S.1 S.2.1 S.2.2.2.2 al_in8 S.2.2.2.1 hK hW.1 (0) (hW.cell (by decide) rfl) rfl 2 (by decide) (S.2.2.2.2 _ al_fl_RX8_26) (fun _ h9 => h9) rfl hdg kk
/-- AncestorLooks.survey -/
theorem al_g_RX8_35 (S : CallFix p m c cc nL s args al_G RX8) (hK : va_K D vwCl (al_tys cy) s) (hW : al_H D cy ad σ H) (hdg : decode cc pc = .ok (.getfield 35, 3)) (kk : W p l e R s m args below meth c H locs cells slots Q (F0 m (pc + 3) ls (.ref (ad (5)) :: rest))) : W p l e R s m args below meth c H locs cells slots Q (F0 m pc ls (.ref (ad (0)) :: rest)) :=
  va_get S.1 S.2.1 S.2.2.2.2 al_in8 S.2.2.2.1 hK hW.1 (0) (hW.cell (by decide) rfl) rfl 3 (by decide) (S.2.2.2.2 _ al_fl_RX8_35) (fun _ h9 => h9) rfl hdg kk
/-- AncestorLooks.ways -/
theorem al_g_RX8_44 (S : CallFix p m c cc nL s args al_G RX8) (hK : va_K D vwCl (al_tys cy) s) (hW : al_H D cy ad σ H) (hdg : decode cc pc = .ok (.getfield 44, 3)) (kk : W p l e R s m args below meth c H locs cells slots Q (F0 m (pc + 3) ls (.ref (ad (6)) :: rest))) : W p l e R s m args below meth c H locs cells slots Q (F0 m pc ls (.ref (ad (0)) :: rest)) :=
  va_get S.1 S.2.1 S.2.2.2.2 al_in8 S.2.2.2.1 hK hW.1 (0) (hW.cell (by decide) rfl) rfl 4 (by decide) (S.2.2.2.2 _ al_fl_RX8_44) (fun _ h9 => h9) rfl hdg kk
/-- AncestorLooks.shapes -/
theorem al_g_RX8_51 (S : CallFix p m c cc nL s args al_G RX8) (hK : va_K D vwCl (al_tys cy) s) (hW : al_H D cy ad σ H) (hdg : decode cc pc = .ok (.getfield 51, 3)) (kk : W p l e R s m args below meth c H locs cells slots Q (F0 m (pc + 3) ls (.ref (ad (7)) :: rest))) : W p l e R s m args below meth c H locs cells slots Q (F0 m pc ls (.ref (ad (0)) :: rest)) :=
  va_get S.1 S.2.1 S.2.2.2.2 al_in8 S.2.2.2.1 hK hW.1 (0) (hW.cell (by decide) rfl) rfl 5 (by decide) (S.2.2.2.2 _ al_fl_RX8_51) (fun _ h9 => h9) rfl hdg kk
end ALF
