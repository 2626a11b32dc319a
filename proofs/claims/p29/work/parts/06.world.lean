/-! THE WORLD: eighty cells, made once; a state is (int rows, float rows, scalars, the history's slots) -/
abbrev al_St : Type := (Nat → Nat → Int32) × (Nat → Nat → UInt32) × (Nat → Int32) × (Nat → Nat)
abbrev al_CY : Type := ClassId × ClassId × ClassId × ClassId
/-- the objects that stand alone, by their places -/
def al_c0 (cy : al_CY) (ad : Nat → Nat) (σ : al_St) (k : Nat) : va_E :=
  match k with
  | 0 => .inr (8, [.ref (ad 8), .ref (ad 1), .ref (ad 3), .ref (ad 5), .ref (ad 6), .ref (ad 7)])
  | 1 => .inr (5, [.ref (ad 2), .int (σ.2.2.1 6)])
  | 2 => .inl (cy.2.2.1, 60, .inl (σ.1 25))
  | 3 => .inr (1, [.ref (ad 4), .ref (ad 13), .int (σ.2.2.1 7), .int (σ.2.2.1 8)])
  | 4 => .inl (cy.2.2.2, 4, .inr (.inr (.inr (.inr (fun j => some (ad (8 + σ.2.2.2 j)))))))
  | 5 => .inr (4, [.ref (ad 8), .ref (ad (14 + 2 * 12)), .ref (ad (14 + 2 * 13)), .ref (ad (14 + 2 * 14)), .ref (ad (14 + 2 * 15)), .ref (ad (14 + 2 * 16)), .ref (ad (14 + 2 * 17)), .ref (ad (14 + 2 * 18)), .ref (ad (14 + 2 * 19)), .ref (ad (14 + 2 * 20)), .ref (ad (14 + 2 * 21)), .int (σ.2.2.1 9)])
  | 6 => .inr (7, [.ref (ad 8), .ref (ad 5), .ref (ad (64 + 2 * 6)), .ref (ad (64 + 2 * 7)), .ref (ad (14 + 2 * 22)), .int (σ.2.2.1 10), .int (σ.2.2.1 11)])
  | 7 => .inr (3, [.ref (ad 8), .ref (ad 5), .ref (ad (14 + 2 * 23)), .ref (ad (14 + 2 * 24)), .int (σ.2.2.1 12)])
  | t => .inr (6, [.ref (ad (14 + 2 * (2 * (t - 8)))), .ref (ad (14 + 2 * (2 * (t - 8) + 1))), .ref (ad (64 + 2 * (t - 8))), .int (σ.2.2.1 (t - 8))])
def al_cE (cy : al_CY) (ad : Nat → Nat) (σ : al_St) (k : Nat) : va_E :=
  if k < 14 then al_c0 cy ad σ k
  else if k < 64 then (if k % 2 = 0 then .inr (2, [.ref (ad (k + 1))]) else .inl (cy.1, 90, .inl (σ.1 ((k - 15) / 2))))
  else (if k % 2 = 0 then .inr (0, [.ref (ad (k + 1))]) else .inl (cy.2.1, 90, .inr (.inr (.inl (σ.2.1 ((k - 65) / 2))))))
theorem al_cE_tree (cy : al_CY) (ad : Nat → Nat) (σ : al_St) {t : Nat} (ht : t < 6) : al_cE cy ad σ (8 + t) = .inr (6, [.ref (ad (14 + 2 * (2 * t))), .ref (ad (14 + 2 * (2 * t + 1))), .ref (ad (64 + 2 * t)), .int (σ.2.2.1 t)]) := by
  have h : t = 0 ∨ t = 1 ∨ t = 2 ∨ t = 3 ∨ t = 4 ∨ t = 5 := by omega
  rcases h with rfl | rfl | rfl | rfl | rfl | rfl <;> rfl
theorem al_cE_row (cy : al_CY) (ad : Nat → Nat) (σ : al_St) {i : Nat} (hi : i < 25) : al_cE cy ad σ (14 + 2 * i) = .inr (2, [.ref (ad (15 + 2 * i))]) := by
  have h1 : ¬ 14 + 2 * i < 14 := by omega
  have h2 : 14 + 2 * i < 64 := by omega
  have h3 : (14 + 2 * i) % 2 = 0 := by omega
  have h4 : 14 + 2 * i + 1 = 15 + 2 * i := by omega
  simp only [al_cE, h1, h2, h3, if_true, if_false, h4]
theorem al_cE_arr (cy : al_CY) (ad : Nat → Nat) (σ : al_St) {i : Nat} (hi : i < 25) : al_cE cy ad σ (15 + 2 * i) = .inl (cy.1, 90, .inl (σ.1 i)) := by
  have h1 : ¬ 15 + 2 * i < 14 := by omega
  have h2 : 15 + 2 * i < 64 := by omega
  have h3 : ¬ (15 + 2 * i) % 2 = 0 := by omega
  have h4 : (15 + 2 * i - 15) / 2 = i := by omega
  simp only [al_cE, h1, h2, h3, if_true, if_false, h4]
theorem al_cE_frow (cy : al_CY) (ad : Nat → Nat) (σ : al_St) {i : Nat} : al_cE cy ad σ (64 + 2 * i) = .inr (0, [.ref (ad (65 + 2 * i))]) := by
  have h1 : ¬ 64 + 2 * i < 14 := by omega
  have h2 : ¬ 64 + 2 * i < 64 := by omega
  have h3 : (64 + 2 * i) % 2 = 0 := by omega
  have h4 : 64 + 2 * i + 1 = 65 + 2 * i := by omega
  simp only [al_cE, h1, h2, h3, if_true, if_false, h4]
theorem al_cE_farr (cy : al_CY) (ad : Nat → Nat) (σ : al_St) {i : Nat} : al_cE cy ad σ (65 + 2 * i) = .inl (cy.2.1, 90, .inr (.inr (.inl (σ.2.1 i)))) := by
  have h1 : ¬ 65 + 2 * i < 14 := by omega
  have h2 : ¬ 65 + 2 * i < 64 := by omega
  have h3 : ¬ (65 + 2 * i) % 2 = 0 := by omega
  have h4 : (65 + 2 * i - 65) / 2 = i := by omega
  simp only [al_cE, h1, h2, h3, if_true, if_false, h4]
def al_W (cy : al_CY) (ad : Nat → Nat) (σ : al_St) : va_W := (List.range 80).map (fun k => (ad k, al_cE cy ad σ k))
theorem al_W_at (cy : al_CY) (ad : Nat → Nat) (σ : al_St) {k : Nat} (hk : k < 80) : (al_W cy ad σ)[k]? = some (ad k, al_cE cy ad σ k) := by
  simp [al_W, hk]
theorem al_W_set (cy : al_CY) (ad : Nat → Nat) (σ σ' : al_St) {k : Nat} {e : va_E} (h1 : al_cE cy ad σ' k = e) (h2 : ∀ j, j < 80 → j ≠ k → al_cE cy ad σ' j = al_cE cy ad σ j) : (al_W cy ad σ).set k (ad k, e) = al_W cy ad σ' := by
  apply List.ext_getElem?
  intro j
  by_cases hj : j < 80
  · rw [al_W_at cy ad σ' hj]
    by_cases hjk : j = k
    · subst hjk
      rw [List.getElem?_set_self (by simp [al_W, hj]), h1]
    · rw [List.getElem?_set_ne (Ne.symm hjk), al_W_at cy ad σ hj, h2 j hj hjk]
  · rw [List.getElem?_eq_none (by simp [al_W]; omega), List.getElem?_eq_none (by simp [al_W]; omega)]
/-- the addresses are apart -/
def al_dis (ad : Nat → Nat) : Prop := ∀ i j, i < 80 → j < 80 → ad i = ad j → i = j
/-- the world's own cells -/
def al_A (ad : Nat → Nat) : Nat → Prop := fun q => ∃ k, k < 80 ∧ q = ad k
/-- the heap holds the state; the history's slots name trees -/
def al_H (D : va_G) (cy : al_CY) (ad : Nat → Nat) (σ : al_St) (H : Heap) : Prop := va_P D vwCl (al_W cy ad σ) H ∧ al_dis ad ∧ ∀ j, σ.2.2.2 j < 6
abbrev al_tys (cy : al_CY) : List (ClassId × FieldType) := [(cy.1, .int), (cy.2.1, .float), (cy.2.2.1, .char), (cy.2.2.2, .object RX6)]
theorem al_W_D {cy : al_CY} {ad : Nat → Nat} {σ : al_St} (h : al_dis ad) : va_D (al_A ad) (al_W cy ad σ) := by
  have key : ∀ (k : Nat) (q : Nat × va_E), (al_W cy ad σ)[k]? = some q → k < 80 ∧ q.1 = ad k := by
    intro k q hq
    have hl := (List.getElem?_eq_some_iff.mp hq).1
    have hk : k < 80 := by simpa [al_W] using hl
    rw [al_W_at cy ad σ hk] at hq
    cases hq
    exact ⟨hk, rfl⟩
  refine ⟨fun i j p q hi hj he => ?_, fun k q hq => ?_⟩
  · obtain ⟨a1, a2⟩ := key i p hi
    obtain ⟨b1, b2⟩ := key j q hj
    exact h i j a1 b1 (by rw [← a2, ← b2]; exact he)
  · obtain ⟨a1, a2⟩ := key k q hq
    exact ⟨k, a1, a2⟩
/-- one cell of the world -/
theorem al_H.cell {D : va_G} {cy : al_CY} {ad : Nat → Nat} {σ : al_St} {H : Heap} (h : al_H D cy ad σ H) {k : Nat} (hk : k < 80) {e : va_E} (he : al_cE cy ad σ k = e) : (al_W cy ad σ)[k]? = some (ad k, e) := by
  rw [al_W_at cy ad σ hk, he]
/-! contracts: a start in the world; an end that leaves the heap; an end that leaves another state -/
abbrev al_ws (y : MethodName) (bytes : ByteArray) (maxL : Nat) (ret : Option FieldType) : List Cond := Cond.code y bytes maxL ret :: al_G
abbrev al_rm (f lo : Nat) : Room := { frames := f, cells := 0, slots := 0, locals := lo }
def al_Pc (D : va_G) (cy : al_CY) (ad : Nat → Nat) (σ : al_St) (av : List Value) : Array Value → State → Prop := va_Pc av (fun U => al_H D cy ad σ U.heap ∧ va_K D vwCl (al_tys cy) U)
def al_Qp (v : Option Value) : Array Value → State → Outcome → State → Prop := fun _ st o t => o = .returned v ∧ t.heap = st.heap
def al_Qs (D : va_G) (cy : al_CY) (ad : Nat → Nat) (v : Option Value) (σ : al_St) : Array Value → State → Outcome → State → Prop := fun _ st o t => o = .returned v ∧ al_H D cy ad σ t.heap ∧ va_F (al_A ad) st t
/-- a method that only reads -/
abbrev al_MP (l : Launch) (y : MethodName) (bytes : ByteArray) (maxL : Nat) (ret : Option FieldType) (f lo : Nat) (D : va_G) (cy : al_CY) (ad : Nat → Nat) (σ : al_St) (av : List Value) (v : Option Value) : Prop := Met l y (al_ws y bytes maxL ret) (al_rm f lo) (al_Pc D cy ad σ av) (al_Qp v) 0 0 (fun _ => False)
/-- a method that leaves the state σ' -/
abbrev al_MS (l : Launch) (y : MethodName) (bytes : ByteArray) (maxL : Nat) (ret : Option FieldType) (f lo : Nat) (D : va_G) (cy : al_CY) (ad : Nat → Nat) (σ : al_St) (av : List Value) (v : Option Value) (σ' : al_St) : Prop := Met l y (al_ws y bytes maxL ret) (al_rm f lo) (al_Pc D cy ad σ av) (al_Qs D cy ad v σ') 0 0 (al_A ad)
theorem al_blind {D : va_G} {cy : al_CY} {ad : Nat → Nat} {σ : al_St} {av : List Value} : FrameBlind (al_Pc D cy ad σ av) := fun a U g mk q => ⟨q.1, q.2.1, va_K.moved (u := U) (U := U.calling g mk a) (Vm.Alike.refl U.vm) q.2.2⟩
/-- what a call needs of the tables -/
def al_mv (y : MethodName) (bytes : ByteArray) (maxL : Nat) (ret : Option FieldType) (n : Nat) : Prop := Cond.code y bytes maxL ret ∈ al_G ∧ Cond.initialized y.cls ∈ al_G ∧ (y.cls ≠ "java/lang/invoke/MethodHandle" ∧ y.cls ≠ "java/lang/invoke/VarHandle" ∧ (parseMethodDescriptor y.desc).map (fun d => d.parameters.length) = some n) ∧ plainName y.cls = true
def al_mi (y : MethodName) (bytes : ByteArray) (maxL : Nat) (ret : Option FieldType) (n : Nat) : Prop := al_mv y bytes maxL ret n ∧ Cond.instanceMethod y ∈ al_G ∧ Cond.selects y.cls y y ∈ al_G
def al_mst (y : MethodName) (bytes : ByteArray) (maxL : Nat) (ret : Option FieldType) (n : Nat) : Prop := al_mv y bytes maxL ret n ∧ Cond.static y ∈ al_G
section ALW
variable {p : Program} {l : Launch} {e : Env} {R : Room} {s : State} {m : MethodId} {args : Array Value} {below : List Frame} {meth : Method} {c : Code} {H : Heap} {locs : List Loc} {cells slots : Nat} {Q : State → Prop}
variable {y : MethodName} {bytes cc : ByteArray} {maxL nL n index f lo pc : Nat} {ret : Option FieldType} {own : String} {b : Addr} {As rest st0 : List Value} {ls : Array Slot}
variable {D : va_G} {cy : al_CY} {ad : Nat → Nat} {σ σ' : al_St} {v : Option Value} {H0 : Heap}
theorem al_cb (ht : ∀ w ∈ al_G, w.before args s = true) (hm : al_mv y bytes maxL ret n) (hl : Cond.methodLink own index y ∈ al_G) (hR : f + 1 ≤ R.frames ∧ 8 + (maxL + 11) + lo ≤ R.locals) : CallB R s args own index y bytes maxL ret (al_ws y bytes maxL ret) (al_rm f lo) 0 0 n :=
  callB_of n ht (al_GoodIn hm.1) rfl rfl rfl (ht _ hm.2.1) (ht _ hl) hm.2.2.1 hR
theorem al_runP (hr : va_Run p l e R s m args below meth c H locs cells slots 0 0 (F0 m pc ls st0) rest (al_Qp v #[]) (fun _ => False)) (kk : W p l e R s m args below meth c H locs cells slots Q (F0 m (pc + 3) ls (v.toList ++ rest))) : W p l e R s m args below meth c H locs cells slots Q (F0 m pc ls st0) := by
  intro T hT X
  obtain ⟨w, st₀, t, T', L, h0, X', hL, e1, e2, ⟨hv, hh⟩, st⟩ := hr T hT X
  cases hv
  have hL0 : L = [] := by
    cases L with
    | nil => rfl
    | cons a L => exact (hL a List.mem_cons_self).elim
  subst hL0
  rw [List.append_nil] at X'
  obtain ⟨t2, a1, b1⟩ := kk T' (by rw [e1, hh, h0]) X'
  exact ⟨t2, st t2 a1, b1⟩
theorem al_runS (hr : va_Run p l e R s m args below meth c H locs cells slots 0 0 (F0 m pc ls st0) rest (al_Qs D cy ad v σ' #[]) (al_A ad)) (hS : va_S (al_A ad) H0 H locs) (kk : ∀ (H1 : Heap) (locs1 : List Loc), al_H D cy ad σ' H1 → va_S (al_A ad) H0 H1 locs1 → W p l e R s m args below meth c H1 locs1 cells slots Q (F0 m (pc + 3) ls (v.toList ++ rest))) : W p l e R s m args below meth c H locs cells slots Q (F0 m pc ls st0) := by
  intro T hT X
  obtain ⟨w, st₀, t, T', L, h0, X', hL, e1, e2, ⟨hv, hw, hz, hk⟩, st⟩ := hr T hT X
  cases hv
  rw [h0] at hz hk
  obtain ⟨t2, a1, b1⟩ := kk T'.heap (locs ++ L) (by rw [e1]; exact hw)
    ⟨Nat.le_trans hS.1 (by rw [e1]; exact hz), fun q h1 h2 => by rw [e1, hk q (Nat.lt_of_lt_of_le h1 hS.1) h2]; exact hS.2.1 q h1 h2, fun q hq => by
      rcases List.mem_append.mp hq with h | h
      · exact hS.2.2 q h
      · exact hL q h⟩ T' rfl X'
  exact ⟨t2, st t2 a1, b1⟩
/-- the receiver is an object of the world -/
def al_rc (D : va_G) (cy : al_CY) (ad : Nat → Nat) (σ : al_St) (k : Nat) (C : String) : Prop := k < 80 ∧ ∃ (ci : Nat) (fs : List Value) (T : u_T) (N : Nat), al_cE cy ad σ k = .inr (ci, fs) ∧ vwCl[ci]? = some (C, T, N)
theorem al_recv (hK : va_K D vwCl (al_tys cy) s) (hW : al_H D cy ad σ H) {k : Nat} {C : String} (h : al_rc D cy ad σ k C) : ∃ cell : Cell, H[ad k]? = some cell ∧ cell.vm.isStatics = false ∧ s.vm.findClass C = some cell.cls := by
  obtain ⟨hk, ci, fs, T, N, h1, h2⟩ := h
  exact va_recv hK hW.1 h2 (hW.cell hk h1)
/-- a call of a method that only reads -/
theorem al_cP (S : CallFix p m c cc nL s args al_G own) (hK : va_K D vwCl (al_tys cy) s) (hW : al_H D cy ad σ H) (hM : al_MP l y bytes maxL ret f lo D cy ad σ (.ref b :: As) v) (hm : al_mi y bytes maxL ret n) (hl : Cond.methodLink own index y ∈ al_G) {k : Nat} (hb : b = ad k) (hrc : al_rc D cy ad σ k y.cls) (hn : As.length = n) (hsz : ls.size = nL) (hst : st0 = As.reverse ++ .ref b :: rest) (hrest : (rest.map fun v => v.category).sum ≤ 8) (hdg : decode cc pc = .ok (.invokevirtual index, 3)) (hR : f + 1 ≤ R.frames ∧ 8 + (maxL + 11) + lo ≤ R.locals) (hf : cells ≤ R.cells ∧ slots ≤ R.slots)
    (kk : W p l e R s m args below meth c H locs cells slots Q (F0 m (pc + 3) ls (v.toList ++ rest))) : W p l e R s m args below meth c H locs cells slots Q (F0 m pc ls st0) :=
  al_runP (va_runV (As := As) (rest := rest) S hM ⟨al_cb S.2.2.2.2 hm.1 hl hR, S.2.2.2.2 _ hm.2.1, S.2.2.2.2 _ hm.2.2⟩ ⟨al_blind, by rw [hb]; exact al_recv hK hW hrc, fun U hU hV => ⟨rfl, by rw [hU]; exact hW, va_K.moved hV.alike hK⟩⟩ rfl hn hsz hst (lv_room hrest) hdg hf) kk
theorem al_cPs (S : CallFix p m c cc nL s args al_G own) (hK : va_K D vwCl (al_tys cy) s) (hW : al_H D cy ad σ H) (hM : al_MP l y bytes maxL ret f lo D cy ad σ As v) (hm : al_mst y bytes maxL ret n) (hl : Cond.methodLink own index y ∈ al_G) (hn : As.length = n) (hsz : ls.size = nL) (hst : st0 = As.reverse ++ rest) (hrest : (rest.map fun v => v.category).sum ≤ 8) (hdg : decode cc pc = .ok (.invokestatic index, 3)) (hR : f + 1 ≤ R.frames ∧ 8 + (maxL + 11) + lo ≤ R.locals) (hf : cells ≤ R.cells ∧ slots ≤ R.slots)
    (kk : W p l e R s m args below meth c H locs cells slots Q (F0 m (pc + 3) ls (v.toList ++ rest))) : W p l e R s m args below meth c H locs cells slots Q (F0 m pc ls st0) :=
  al_runP (va_runS (As := As) (rest := rest) S hM ⟨al_cb S.2.2.2.2 hm.1 hl hR, S.2.2.2.2 _ hm.2⟩ ⟨al_blind, fun U hU hV => ⟨rfl, by rw [hU]; exact hW, va_K.moved hV.alike hK⟩⟩ rfl hn hsz hst (lv_room hrest) hdg hf) kk
/-- a call of a method that writes -/
theorem al_cS (S : CallFix p m c cc nL s args al_G own) (hK : va_K D vwCl (al_tys cy) s) (hW : al_H D cy ad σ H) (hS : va_S (al_A ad) H0 H locs) (hM : al_MS l y bytes maxL ret f lo D cy ad σ (.ref b :: As) v σ') (hm : al_mi y bytes maxL ret n) (hl : Cond.methodLink own index y ∈ al_G) {k : Nat} (hb : b = ad k) (hrc : al_rc D cy ad σ k y.cls) (hn : As.length = n) (hsz : ls.size = nL) (hst : st0 = As.reverse ++ .ref b :: rest) (hrest : (rest.map fun v => v.category).sum ≤ 8) (hdg : decode cc pc = .ok (.invokevirtual index, 3)) (hR : f + 1 ≤ R.frames ∧ 8 + (maxL + 11) + lo ≤ R.locals) (hf : cells ≤ R.cells ∧ slots ≤ R.slots)
    (kk : ∀ (H1 : Heap) (locs1 : List Loc), al_H D cy ad σ' H1 → va_S (al_A ad) H0 H1 locs1 → W p l e R s m args below meth c H1 locs1 cells slots Q (F0 m (pc + 3) ls (v.toList ++ rest))) : W p l e R s m args below meth c H locs cells slots Q (F0 m pc ls st0) :=
  al_runS (va_runV (As := As) (rest := rest) S hM ⟨al_cb S.2.2.2.2 hm.1 hl hR, S.2.2.2.2 _ hm.2.1, S.2.2.2.2 _ hm.2.2⟩ ⟨al_blind, by rw [hb]; exact al_recv hK hW hrc, fun U hU hV => ⟨rfl, by rw [hU]; exact hW, va_K.moved hV.alike hK⟩⟩ rfl hn hsz hst (lv_room hrest) hdg hf) hS kk
theorem al_cSs (S : CallFix p m c cc nL s args al_G own) (hK : va_K D vwCl (al_tys cy) s) (hW : al_H D cy ad σ H) (hS : va_S (al_A ad) H0 H locs) (hM : al_MS l y bytes maxL ret f lo D cy ad σ As v σ') (hm : al_mst y bytes maxL ret n) (hl : Cond.methodLink own index y ∈ al_G) (hn : As.length = n) (hsz : ls.size = nL) (hst : st0 = As.reverse ++ rest) (hrest : (rest.map fun v => v.category).sum ≤ 8) (hdg : decode cc pc = .ok (.invokestatic index, 3)) (hR : f + 1 ≤ R.frames ∧ 8 + (maxL + 11) + lo ≤ R.locals) (hf : cells ≤ R.cells ∧ slots ≤ R.slots)
    (kk : ∀ (H1 : Heap) (locs1 : List Loc), al_H D cy ad σ' H1 → va_S (al_A ad) H0 H1 locs1 → W p l e R s m args below meth c H1 locs1 cells slots Q (F0 m (pc + 3) ls (v.toList ++ rest))) : W p l e R s m args below meth c H locs cells slots Q (F0 m pc ls st0) :=
  al_runS (va_runS (As := As) (rest := rest) S hM ⟨al_cb S.2.2.2.2 hm.1 hl hR, S.2.2.2.2 _ hm.2⟩ ⟨al_blind, fun U hU hV => ⟨rfl, by rw [hU]; exact hW, va_K.moved hV.alike hK⟩⟩ rfl hn hsz hst (lv_room hrest) hdg hf) hS kk
end ALW
/-- a method's body, from its entry -/
theorem al_met {l : Launch} {y : MethodName} {cc : ByteArray} {maxL f lo : Nat} {ret : Option FieldType} {D : va_G} {cy : al_CY} {ad : Nat → Nat} {σ : al_St} {av : List Value} {Qc : Array Value → State → Outcome → State → Prop} {free : Addr → Prop} {n : Nat} (hm : al_mv y cc maxL ret n) (hlen : (lg_sl av).length ≤ maxL)
    (body : ∀ (p : Program) (e : Env) (s : State) (m : MethodId) (args : Array Value) (below : List Frame) (meth : Method) (c : Code) (ls : Array Slot), CallFix p m c cc maxL s args al_G y.cls → meth.sig.returnType = ret → meth.locks = false → va_K D vwCl (al_tys cy) s → al_H D cy ad σ s.heap → va_S (al_A ad) s.heap s.heap [] → lv_has ls maxL (lv_args 0 av) → W p l e (al_rm f lo) s m args below meth c s.heap [] 0 0 (MQ below Qc args s 0 0 free) (F0 m 0 ls [])) : Met l y (al_ws y cc maxL ret) (al_rm f lo) (al_Pc D cy ad σ av) Qc 0 0 free := by
  refine Met.ofW (cc := cc) (maxL := maxL) (ret := ret) hm.2.2.2 rfl ?_
  intro p e s m args below meth c s₁ B hml hv
  obtain ⟨rfl, hW, hK⟩ := hv
  have hts := atoms_spec (ws := al_ws y cc maxL ret) B.pre
  rw [lg_entry_eq]
  exact body p e s m _ below meth c _ ⟨B.exec, B.bytes, hml, findClass_of_methodNamed B.named, fun w h => hts w (List.mem_cons_of_mem _ h)⟩ B.returns B.notSynchronized hK hW va_S.rf (lv_entry av hlen)
