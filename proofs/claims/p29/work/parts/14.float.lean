/-! FLOATS: order and size of sums, differences and halves, by what the library says of rounding -/
def al_z (a : UInt32) : Int := FP.Core.zval FP.Core.b32 (FP.Core.val32 a)
abbrev al_one : Int := (FP.Core.one32 : Int)
theorem al_one_pos : 0 < al_one := by have := FP.Core.one32_pos; show 0 < (FP.Core.one32 : Int); omega
theorem al_B_fin {a : UInt32} (h : al_B a) : FP.Core.FFin a := (FP.Core.fin_bits32 a).mpr (by have := al_B_mag h; omega)
theorem al_B_nn {a : UInt32} (h : al_B a) : FP.Core.val32 a ≠ .nan := (al_B_fin h).ne_nan
theorem al_B_z {a : UInt32} (h : al_B a) : 0 ≤ al_z a := FP.Core.zval_nonneg32 (al_B_nn h) (by have h1 : a.toNat < 2013265920 := h; omega)
theorem al_fits (a : UInt32) : FP.Core.fits FP.Core.b32 (FP.Core.val32 a) := FP.Core.val32_fits a
/-- the whole number n as a float -/
def al_w (n : Nat) : UInt32 := FP.Core.l2f (Int64.ofNat n)
theorem al_w_int {n : Nat} (h : n ≤ 2 ^ 24) : FP.Core.FInt (n : Int) (al_w n) := by
  have e : (Int64.ofNat n).toInt = (n : Int) := by
    rw [Int64.toInt_ofNat_of_lt (by omega)]
  have h1 := FP.Core.l2f_int (a := Int64.ofNat n) (by rw [e]; omega)
  rw [e] at h1
  exact h1
theorem al_w_z {n : Nat} (h : n ≤ 2 ^ 24) : al_z (al_w n) = (n : Int) * al_one := FP.Core.FInt_zval (al_w_int h)
theorem al_w_nn {n : Nat} (h : n ≤ 2 ^ 24) : FP.Core.val32 (al_w n) ≠ .nan := FP.Core.FInt_ne_nan (al_w_int h)
theorem al_add_le {a b V : UInt32} (ha : FP.Core.FFin a) (hb : FP.Core.FFin b) (hV : FP.Core.val32 V ≠ .nan) (h : al_z a + al_z b ≤ al_z V) : al_z (FP.fadd a b) ≤ al_z V := by
  have := FP.Core.sum_le FP.Core.good_b32 ha hb (al_fits a) (al_fits b) (al_fits V) hV h
  rw [← FP.Core.val32_fadd] at this
  exact this
theorem al_add_ge {a b V : UInt32} (ha : FP.Core.FFin a) (hb : FP.Core.FFin b) (hV : FP.Core.val32 V ≠ .nan) (h : al_z V ≤ al_z a + al_z b) : al_z V ≤ al_z (FP.fadd a b) := by
  have := FP.Core.sum_ge FP.Core.good_b32 ha hb (al_fits a) (al_fits b) (al_fits V) hV h
  rw [← FP.Core.val32_fadd] at this
  exact this
theorem al_neg_fin {b : UInt32} (hb : FP.Core.FFin b) : ∃ s c q, FP.Core.negate (FP.Core.val32 b) = .fin s c q := by
  obtain ⟨s, c, q, h⟩ := hb
  exact ⟨!s, c, q, by rw [h]; rfl⟩
theorem al_sub_ge {a b V : UInt32} (ha : FP.Core.FFin a) (hb : FP.Core.FFin b) (hV : FP.Core.val32 V ≠ .nan) (h : al_z V ≤ al_z a - al_z b) : al_z V ≤ al_z (FP.fsub a b) := by
  have := FP.Core.sum_ge FP.Core.good_b32 ha (al_neg_fin hb) (al_fits a) (FP.Core.negate_fits (al_fits b)) (al_fits V) hV (by rw [FP.Core.zval_negate]; have h1 : al_z V ≤ al_z a - al_z b := h; unfold al_z at h1; omega)
  rw [← FP.Core.val32_fsub] at this
  exact this
theorem al_z0 : al_z 0 = 0 := FP.Core.zval32_zero
theorem al_nn0 : FP.Core.val32 0 ≠ .nan := by rw [FP.Core.val32_zero]; exact fun h => by cases h
/-- by the bits: what isn't negative and below a power of two is small -/
theorem al_B_of {a V : UInt32} (hn : FP.Core.val32 a ≠ .nan) (hs : a.toNat < 2 ^ 31) (hVn : FP.Core.val32 V ≠ .nan) (hV : al_B V) (h : al_z a ≤ al_z V) : al_B a := by
  have hV1 : V.toNat < 2013265920 := hV
  have h1 := FP.Core.mono_bits32 hn hVn hs (by omega)
  have h2 := FP.Core.fcmp_zval hn hVn
  show a.toNat < 2013265920
  have h3 : ¬ V.toNat < a.toNat := by
    intro h4
    have h5 := h1.2.2.mpr h4
    rw [h2] at h5
    have h6 : compare (al_z a) (al_z V) = .gt := Option.some.inj h5
    rw [FP.Core.compare_ite] at h6
    split at h6
    · cases h6
    · split at h6
      · cases h6
      · omega
  omega
theorem al_sgn_sum {x y : FP.Core.Datum} (hx : ∃ c q, x = .fin false c q) (hy : ∃ c q, y = .fin false c q) : FP.Core.sgn (FP.Core.round FP.Core.b32 (FP.Core.exactSum x y)) = false := by
  obtain ⟨c, q, rfl⟩ := hx
  obtain ⟨d, r, rfl⟩ := hy
  show FP.Core.sgn (FP.Core.roundRatio _ (FP.Core.sumSign false false (FP.Core.sumUnits false c q false d r (min q r))) _ 1 _) = false
  rw [FP.Core.sgn_roundRatio]
  unfold FP.Core.sumSign
  split
  · rfl
  · refine decide_eq_false ?_
    unfold FP.Core.sumUnits
    simp only [FP.Core.signed, Bool.false_eq_true, if_false]
    omega
theorem al_B_pos {a : UInt32} (h : al_B a) : ∃ c q, FP.Core.val32 a = .fin false c q := by
  obtain ⟨s, c, q, h1⟩ := al_B_fin h
  have h2 := FP.Core.sgn_bits32 (al_B_nn h)
  rw [h1] at h2
  have h3 : s = false := h2.trans (decide_eq_false (by have h4 : a.toNat < 2013265920 := h; omega))
  exact ⟨c, q, by rw [h1, h3]⟩
/-- a path and a length: not less than the path, and of bounded size -/
theorem al_add_B {a b : UInt32} (ha : al_B a) (hb : al_B b) {K : Nat} (hK : K ≤ 1000) (h : al_z a + al_z b ≤ (1024 * K : Nat) * al_one) : al_B (FP.fadd a b) ∧ al_z a ≤ al_z (FP.fadd a b) ∧ al_z (FP.fadd a b) ≤ (1024 * K : Nat) * al_one := by
  have fa := al_B_fin ha
  have fb := al_B_fin hb
  have hw : 1024 * K ≤ 2 ^ 24 := by omega
  have h1 := al_add_le fa fb (al_w_nn hw) (by rw [al_w_z hw]; exact h)
  have h2 := al_add_ge fa fb (al_B_nn ha) (by have := al_B_z hb; omega)
  have hn : FP.Core.val32 (FP.fadd a b) ≠ .nan := (FP.Core.notNaN_iff32 _).mp (FP.Core.fadd_out fa.notNaN fb)
  have hs : (FP.fadd a b).toNat < 2 ^ 31 := by
    have q1 := al_sgn_sum (al_B_pos ha) (al_B_pos hb)
    rw [← FP.Core.val32_fadd, FP.Core.sgn_bits32 hn] at q1
    have := of_decide_eq_false q1
    omega
  have hB : al_B (al_w 1024000) := by
    show (al_w 1024000).toNat < 2013265920
    decide +kernel
  refine ⟨al_B_of hn hs (al_B_nn hB) hB ?_, h2, ?_⟩
  · rw [al_w_z (by omega)]
    rw [al_w_z hw] at h1
    refine Int.le_trans h1 (Int.mul_le_mul_of_nonneg_right ?_ (Int.le_of_lt al_one_pos))
    omega
  · rw [al_w_z hw] at h1
    exact h1
/-- halves: w * 0.5f -/
theorem al_half_val : FP.Core.val32 1056964608 = .fin false (2 ^ 23) (-24) := by decide +kernel
theorem al_half_le {a V : UInt32} (ha : al_B a) (hV : FP.Core.val32 V ≠ .nan) (h : al_z a ≤ 2 * al_z V) : al_z (FP.fmul a 1056964608) ≤ al_z V := by
  obtain ⟨c, q, h1⟩ := al_B_pos ha
  have hf := al_fits a
  rw [h1] at hf
  have hq : (-149 : Int) ≤ q := by have := hf.2.1; rw [FP.Core.qmin_b32] at this; exact this
  have e : FP.Core.val32 (FP.fmul a 1056964608) = FP.Core.round FP.Core.b32 (.fin false (c * 2 ^ 23) (q + -24)) := by
    rw [FP.Core.val32_fmul, h1, al_half_val]
    rfl
  unfold al_z
  rw [e]
  refine FP.Core.zval_round_le FP.Core.good_b32 (al_fits V) hV (e0 := -298) (by rw [FP.Core.qmin_b32]; omega) (by omega) ?_
  have h2 : al_z a = ((c * 2 ^ (q + 149).toNat : Nat) : Int) := by
    unfold al_z
    rw [h1]
    show FP.Core.signed false (c * 2 ^ (q - FP.Core.b32.qmin).toNat) = _
    rw [FP.Core.qmin_b32, show q - -149 = q + 149 by omega]
    rfl
  rw [FP.Core.qmin_b32, show ((-149 : Int) - -298).toNat = 149 by decide]
  show ((c * 2 ^ 23 * 2 ^ (q + -24 - -298).toNat : Nat) : Int) ≤ _
  rw [show (q + -24 - -298).toNat = (q + 149).toNat + 125 by omega, Nat.pow_add, show c * 2 ^ 23 * (2 ^ (q + 149).toNat * 2 ^ 125) = (c * 2 ^ (q + 149).toNat) * 2 ^ 148 by rw [show (2 : Nat) ^ 148 = 2 ^ 23 * 2 ^ 125 by rw [← Nat.pow_add]]; ac_rfl]
  rw [h2] at h
  unfold al_z at h
  generalize FP.Core.zval FP.Core.b32 (FP.Core.val32 V) = v at h ⊢
  generalize c * 2 ^ (q + 149).toNat = x at h ⊢
  have e1 : ((2 ^ 149 : Nat) : Int) = 2 * ((2 ^ 148 : Nat) : Int) := by
    rw [show (2 : Nat) ^ 149 = 2 * 2 ^ 148 from Nat.pow_succ', Int.natCast_mul]
    rfl
  rw [e1]
  generalize (2 ^ 148 : Nat) = P
  rw [Int.natCast_mul, ← Int.mul_assoc, Int.mul_comm v 2]
  exact Int.mul_le_mul_of_nonneg_right h (Int.natCast_nonneg _)
theorem al_half_B {a : UInt32} (ha : al_B a) : al_B (FP.fmul a 1056964608) := by
  have h1 := al_half_le ha (al_B_nn ha) (by have := al_B_z ha; omega)
  have fa := al_B_fin ha
  have hh : FP.Core.FFin 1056964608 := ⟨_, _, _, al_half_val⟩
  have hn : FP.Core.val32 (FP.fmul a 1056964608) ≠ .nan := (FP.Core.notNaN_iff32 _).mp (FP.Core.fmul_out fa hh)
  have hs : (FP.fmul a 1056964608).toNat < 2 ^ 31 := by
    obtain ⟨c, q, h2⟩ := al_B_pos ha
    have q1 : FP.Core.sgn (FP.Core.val32 (FP.fmul a 1056964608)) = false := by
      rw [FP.Core.val32_fmul, h2, al_half_val]
      show FP.Core.sgn (FP.Core.roundRatio _ (false != false) _ 1 _) = false
      rw [FP.Core.sgn_roundRatio]
      rfl
    rw [FP.Core.sgn_bits32 hn] at q1
    have := of_decide_eq_false q1
    omega
  exact al_B_of hn hs (al_B_nn ha) ha h1
theorem al_half_n32 {a : UInt32} (ha : al_B a) : vf_n32 (FP.fmul a 1056964608) := al_n32 (by have := al_B_mag (al_half_B ha); omega)
/-- comparing -/
theorem al_cmp {x g : UInt32} (hx : FP.Core.val32 x ≠ .nan) (hg : FP.Core.val32 g ≠ .nan) : Op.cmpValue (FP.fcmp x g) .l ≤ 0 ↔ al_z x ≤ al_z g := by
  have h : FP.fcmp x g = some (compare (al_z x) (al_z g)) := FP.Core.fcmp_zval hx hg
  rw [h, FP.Core.compare_ite]
  by_cases h1 : al_z x < al_z g
  · rw [if_pos h1]
    exact ⟨fun _ => by omega, fun _ => by decide⟩
  · by_cases h2 : al_z x = al_z g
    · rw [if_neg h1, if_pos h2]
      exact ⟨fun _ => by omega, fun _ => by decide⟩
    · rw [if_neg h1, if_neg h2]
      exact ⟨fun h3 => absurd h3 (by decide), fun h3 => by omega⟩
theorem al_cmp_eq {x g : UInt32} (hx : FP.Core.val32 x ≠ .nan) (hg : FP.Core.val32 g ≠ .nan) : Op.cmpValue (FP.fcmp x g) .l = 0 ↔ al_z x = al_z g := by
  have h : FP.fcmp x g = some (compare (al_z x) (al_z g)) := FP.Core.fcmp_zval hx hg
  rw [h, FP.Core.compare_ite]
  by_cases h1 : al_z x < al_z g
  · rw [if_pos h1]
    exact ⟨fun h3 => absurd h3 (by decide), fun h3 => by omega⟩
  · by_cases h2 : al_z x = al_z g
    · rw [if_neg h1, if_pos h2]
      exact ⟨fun _ => h2, fun _ => by decide⟩
    · rw [if_neg h1, if_neg h2]
      exact ⟨fun h3 => absurd h3 (by decide), fun h3 => absurd h3 h2⟩
theorem al_m1_z : al_z 3212836864 < 0 := by
  have h : FP.Core.val32 3212836864 = .fin true (2 ^ 23) (-23) := by decide +kernel
  unfold al_z
  rw [h]
  show FP.Core.signed true (2 ^ 23 * 2 ^ (-23 - FP.Core.b32.qmin).toNat) < 0
  rw [FP.Core.qmin_b32]
  decide +kernel
theorem al_m1_nn : FP.Core.val32 3212836864 ≠ .nan := by decide +kernel
/-- a distance is no NaN and not negative -/
theorem al_sum_fin {a b m : UInt32} (ha : al_B a) (hb : al_B b) (hm : al_B m) : FP.Core.FFin (al_sum a b m) := (FP.Core.fin_bits32 _).mpr (by have := FP.Core.fadd_mag (al_sub_mag ha hm) (al_sub_mag hb hm) (by omega); exact Nat.lt_of_lt_of_le this (by omega))
theorem al_sum_nonneg {a b m : UInt32} (ha : al_B a) (hb : al_B b) (hm : al_B m) (h1 : al_z m ≤ al_z a) (h2 : al_z m ≤ al_z b) : 0 ≤ al_z (al_sum a b m) := by
  have f1 : FP.Core.FFin (FP.fsub a m) := (FP.Core.fin_bits32 _).mpr (by have := al_sub_mag ha hm; omega)
  have f2 : FP.Core.FFin (FP.fsub b m) := (FP.Core.fin_bits32 _).mpr (by have := al_sub_mag hb hm; omega)
  have g1 := al_sub_ge (V := 0) (al_B_fin ha) (al_B_fin hm) al_nn0 (by rw [al_z0]; omega)
  have g2 := al_sub_ge (V := 0) (al_B_fin hb) (al_B_fin hm) al_nn0 (by rw [al_z0]; omega)
  have g3 := al_add_ge (V := 0) f1 f2 al_nn0 (by rw [al_z0] at g1 g2 ⊢; omega)
  rw [al_z0] at g3
  exact g3
theorem al_sum_comm (a b m : UInt32) : al_sum a b m = al_sum b a m := FP.Core.fadd_comm _ _
theorem al_sum_self {a : UInt32} (ha : al_B a) : al_sum a a a = FP.fadd 0 0 := by
  obtain ⟨c, q, h⟩ := al_B_pos ha
  unfold al_sum
  have e : FP.fsub a a = FP.Core.fconst0 := FP.Core.fsub_self h
  rw [e]
  rfl
