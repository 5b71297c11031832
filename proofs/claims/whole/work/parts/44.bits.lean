-- the bits of a double, by its value
theorem dkey_ps {x : UInt64} (h : Ps x) : FP.Core.dkey x = (x.toNat : Int) := by
  unfold FP.Core.dkey
  unfold Ps at h
  rw [if_neg (by omega)]
theorem cmp_bits {a b : UInt64} (ha : FP.Core.DFin a) (hb : FP.Core.DFin b) (pa : Ps a) (pb : Ps b) : FP.dcmp a b = some (compare (a.toNat : Int) (b.toNat : Int)) := by
  have := FP.Core.dcmp_key (fin_nn ha) (fin_nn hb)
  rw [dkey_ps pa, dkey_ps pb] at this
  exact this
theorem cv_lt (o : CmpOp) : Op.cmpValue (some .lt) o = -1 := by cases o <;> rfl
theorem cv_eq (o : CmpOp) : Op.cmpValue (some .eq) o = 0 := by cases o <;> rfl
theorem cv_gt (o : CmpOp) : Op.cmpValue (some .gt) o = 1 := by cases o <;> rfl
theorem compare_lt {a b : Int} (h : a < b) : compare a b = .lt := (FP.Core.compare_lt_iff a b).mpr h
theorem compare_gt {a b : Int} (h : b < a) : compare a b = .gt := (FP.Core.compare_gt_iff a b).mpr h
theorem compare_eq {a b : Int} (h : a = b) : compare a b = .eq := (FP.Core.compare_eq_iff a b).mpr h
/-- the double of exponent e and fraction f -/
def BF (e f : Nat) (x : UInt64) : Prop := x.toNat = e * 2 ^ 52 + f ∧ 1 ≤ e ∧ e ≤ 2046 ∧ f < 2 ^ 52
theorem BF.fin {e f : Nat} {x : UInt64} (h : BF e f x) : FP.Core.DFin x := by
  obtain ⟨h1, h2, h3, h4⟩ := h
  rw [FP.Core.fin_bits]
  omega
theorem BF.ps {e f : Nat} {x : UInt64} (h : BF e f x) : Ps x := by
  obtain ⟨h1, h2, h3, h4⟩ := h
  unfold Ps
  omega
theorem dv_ps {x : UInt64} (h : FP.Core.DFin x) (hp : Ps x) : dv x = (FP.Core.unitsOf FP.Core.b64 x.toNat : Nat) := by
  have h1 := (ps_sgn (fin_nn h)).mp hp
  have h2 := FP.Core.zmag_bits (fin_nn h)
  rw [Nat.mod_eq_of_lt hp] at h2
  unfold dv FP.Core.zval
  rw [h1, h2]
  rfl
theorem BF.dv {e f : Nat} {x : UInt64} (h : BF e f x) : dv x = ((2 ^ 52 + f : Nat) : Int) * tp (e - 1) := by
  rw [dv_ps h.fin h.ps]
  obtain ⟨h1, h2, h3, h4⟩ := h
  unfold FP.Core.unitsOf
  rw [h1, FP.Core.tails_b64, if_neg (by omega), show (e * 2 ^ 52 + f) % 2 ^ 52 = f by omega, show (e * 2 ^ 52 + f) / 2 ^ 52 = e by omega, Int.natCast_mul, tp_nat]
theorem bf_mk {e f : Nat} (h1 : 1 ≤ e) (h2 : e ≤ 2046) (h3 : f < 2 ^ 52) : ∃ x : UInt64, BF e f x := by
  refine ⟨UInt64.ofNat (e * 2 ^ 52 + f), ?_, h1, h2, h3⟩
  rw [UInt64.toNat_ofNat']
  exact Nat.mod_eq_of_lt (by omega)
theorem uniq {a b : UInt64} (ha : FP.Core.DFin a) (hb : FP.Core.DFin b) (pa : Ps a) (pb : Ps b) (h : dv a = dv b) : a = b := by
  rw [dv_ps ha pa, dv_ps hb pb] at h
  have h2 : FP.Core.unitsOf FP.Core.b64 a.toNat = FP.Core.unitsOf FP.Core.b64 b.toNat := by omega
  have l1 := (FP.Core.unitsOf_le_iff (f := FP.Core.b64)).mp (Nat.le_of_eq h2)
  have l2 := (FP.Core.unitsOf_le_iff (f := FP.Core.b64)).mp (Nat.le_of_eq h2.symm)
  exact UInt64.toNat.inj (by omega)
theorem bf_V32 : BF 1055 0 4751297606875873280 := by unfold BF; decide
theorem bf_2 : BF 1024 0 4611686018427387904 := by unfold BF; decide
theorem bf_1 : BF 1023 0 FP.dconst1 := by unfold BF; decide
theorem bf_52 : BF 1075 0 4841369599423283200 := by unfold BF; decide
theorem mul32 {e f : Nat} {x : UInt64} (h : BF e f x) (he : e + 32 ≤ 2046) : FP.Core.DFin (FP.dmul x 4751297606875873280) ∧ BF (e + 32) f (FP.dmul x 4751297606875873280) := by
  obtain ⟨T, hT⟩ := bf_mk (e := e + 32) (f := f) (by omega) he h.2.2.2
  have e1 : dv T * tp 1074 = dv x * dv (4751297606875873280 : UInt64) := by
    rw [hT.dv, h.dv, bf_V32.dv, show e + 32 - 1 = (e - 1) + 32 by have := h.2.1; omega, tp_add, Int.mul_assoc, Int.mul_assoc, Int.mul_assoc]
    have : tp 32 * tp 1074 = ((2 ^ 52 + 0 : Nat) : Int) * tp (1055 - 1) := by
      rw [show ((2 ^ 52 + 0 : Nat) : Int) = tp 52 from rfl, ← tp_add, ← tp_add]
    rw [this]
  obtain ⟨r1, r2, r3⟩ := mul_b h.fin bf_V32.fin hT.fin hT.fin (Int.le_of_eq e1) (Int.le_of_eq e1.symm)
  have := uniq r1 hT.fin (ps_mul h.fin bf_V32.fin h.ps bf_V32.ps) hT.ps (by omega)
  rw [this]
  exact ⟨hT.fin, hT⟩
theorem div_b {a b L H : UInt64} (ha : FP.Core.DFin a) (hb : FP.Core.DFin b) (pa : Ps a) (pb : Ps b) (b0 : 0 < dv b) (hL : FP.Core.DFin L) (pL : Ps L) (hH : FP.Core.DFin H) (pH : Ps H) (h1 : dv L * dv b ≤ dv a * tp 1074) (h2 : dv a * tp 1074 ≤ dv H * dv b) : FP.Core.DFin (FP.ddiv a b) ∧ Ps (FP.ddiv a b) ∧ dv L ≤ dv (FP.ddiv a b) ∧ dv (FP.ddiv a b) ≤ dv H := by
  have e := FP.Core.val64_ddiv a b
  have sa := (ps_sgn (fin_nn ha)).mp pa
  have sb := (ps_sgn (fin_nn hb)).mp pb
  have sL := (ps_sgn (fin_nn hL)).mp pL
  have sH := (ps_sgn (fin_nn hH)).mp pH
  have eL : dv L = (FP.Core.zmag FP.Core.b64 (FP.Core.val64 L) : Nat) := by unfold dv FP.Core.zval; rw [sL]; rfl
  have eH : dv H = (FP.Core.zmag FP.Core.b64 (FP.Core.val64 H) : Nat) := by unfold dv FP.Core.zval; rw [sH]; rfl
  have ea : dv a = (FP.Core.zmag FP.Core.b64 (FP.Core.val64 a) : Nat) := by unfold dv FP.Core.zval; rw [sa]; rfl
  have eb : dv b = (FP.Core.zmag FP.Core.b64 (FP.Core.val64 b) : Nat) := by unfold dv FP.Core.zval; rw [sb]; rfl
  obtain ⟨s, c, q, va⟩ := id ha
  obtain ⟨t, d, r, vb⟩ := id hb
  have fa := FP.Core.val64_fits a
  have fb := FP.Core.val64_fits b
  rw [va] at sa fa ea e
  rw [vb] at sb fb eb e
  have sa : s = false := sa
  have sb : t = false := sb
  subst sa sb
  have d0 : 0 < d := by
    by_cases z : d = 0
    · subst z
      rw [eb] at b0
      simp [FP.Core.zmag, FP.Core.inUnits] at b0
    · omega
  have e2 : FP.Core.val64 (FP.ddiv a b) = FP.Core.roundRatio FP.Core.b64 false c d (q - r) := by
    rw [show FP.Core.val64 (FP.ddiv a b) = FP.Core.val64 (FP.Core.ddiv a b) from rfl, e]
    unfold FP.Core.quotient
    simp only
    rw [if_neg (by omega)]
    rfl
  have hn : FP.Core.val64 (FP.ddiv a b) ≠ .nan := by rw [e2]; exact FP.Core.roundRatio_ne_nan _ _ _ _ _
  have hs : FP.Core.sgn (FP.Core.val64 (FP.ddiv a b)) = false := by rw [e2]; exact FP.Core.sgn_roundRatio _ _ _ _ _
  have ed : dv (FP.ddiv a b) = (FP.Core.zmag FP.Core.b64 (FP.Core.roundRatio FP.Core.b64 false c d (q - r)) : Nat) := by
    unfold dv FP.Core.zval
    rw [hs, e2]
    rfl
  have q1 : -1074 ≤ q := by have := fa.2.1; rw [qmn] at this; exact this
  have q2 : q ≤ 971 := by have := fa.2.2.1; have e3 : FP.Core.b64.qmax = 971 := by decide
                          rw [e3] at this; exact this
  have r1 : -1074 ≤ r := by have := fb.2.1; rw [qmn] at this; exact this
  have r2 : r ≤ 971 := by have := fb.2.2.1; have e3 : FP.Core.b64.qmax = 971 := by decide
                          rw [e3] at this; exact this
  have ua : ((FP.Core.zmag FP.Core.b64 (.fin false c q) : Nat) : Int) = (c : Int) * tp (q + 1074).toNat := by
    show ((c * 2 ^ (q - FP.Core.b64.qmin).toNat : Nat) : Int) = _
    rw [qmn, Int.natCast_mul, tp_nat, show q - -1074 = q + 1074 by omega]
  have ub : ((FP.Core.zmag FP.Core.b64 (.fin false d r) : Nat) : Int) = (d : Int) * tp (r + 1074).toNat := by
    show ((d * 2 ^ (r - FP.Core.b64.qmin).toNat : Nat) : Int) = _
    rw [qmn, Int.natCast_mul, tp_nat, show r - -1074 = r + 1074 by omega]
  have key : ∀ V : Nat, ((FP.Core.inUnits c (q - r) (-4000) : Nat) : Int) * tp (r + 1074).toNat = ((c : Int) * tp (q + 1074).toNat * tp 1074) * tp 2926 ∧ (((V * 2 ^ (FP.Core.b64.qmin - -4000).toNat * d : Nat) : Int)) * tp (r + 1074).toNat = ((V : Int) * ((d : Int) * tp (r + 1074).toNat)) * tp 2926 := by
    intro V
    constructor
    · show ((c * 2 ^ (q - r - -4000).toNat : Nat) : Int) * _ = _
      rw [Int.natCast_mul, tp_nat, Int.mul_assoc, ← tp_add, Int.mul_assoc, Int.mul_assoc, ← tp_add, ← tp_add]
      congr 2
      omega
    · rw [qmn, Int.natCast_mul, Int.natCast_mul, tp_nat, show ((-1074 : Int) - -4000).toNat = 2926 from rfl]
      rw [Int.mul_assoc, Int.mul_assoc, Int.mul_assoc, Int.mul_comm (tp 2926)]
  have pr := tp_pos (r + 1074).toNat
  have p29 := tp_pos 2926
  rw [ea, ua, eb, ub] at h1 h2
  have l1 : dv L ≤ dv (FP.ddiv a b) := by
    rw [ed, eL]
    have := FP.Core.zmag_roundRatio_ge FP.Core.good_b64 (s := false) (A := c) (B := d) (e := q - r) (e0 := -4000) d0 (FP.Core.val64_fits L) (by rw [qmn]; omega) (by omega) (by
      obtain ⟨k1, k2⟩ := key (FP.Core.zmag FP.Core.b64 (FP.Core.val64 L))
      rw [eL] at h1
      have h3 := Int.mul_le_mul_of_nonneg_right h1 (Int.le_of_lt p29)
      rw [← k2, ← k1] at h3
      exact Int.ofNat_le.mp (Int.le_of_mul_le_mul_right h3 pr))
    exact Int.ofNat_le.mpr this
  have l2 : dv (FP.ddiv a b) ≤ dv H := by
    rw [ed, eH]
    have := FP.Core.zmag_roundRatio_le FP.Core.good_b64 (s := false) (A := c) (B := d) (e := q - r) (e0 := -4000) d0 (FP.Core.val64_fits H) (fin_nn hH) (by rw [qmn]; omega) (by omega) (by
      obtain ⟨k1, k2⟩ := key (FP.Core.zmag FP.Core.b64 (FP.Core.val64 H))
      rw [eH] at h2
      have h3 := Int.mul_le_mul_of_nonneg_right h2 (Int.le_of_lt p29)
      rw [← k2, ← k1] at h3
      exact Int.ofNat_le.mp (Int.le_of_mul_le_mul_right h3 pr))
    exact Int.ofNat_le.mpr this
  exact ⟨fin_between hn hL hH l1 l2, (ps_sgn hn).mpr hs, l1, l2⟩
theorem div2 {e f : Nat} {x : UInt64} (h : BF e f x) (he : 2 ≤ e) : FP.Core.DFin (FP.ddiv x 4611686018427387904) ∧ BF (e - 1) f (FP.ddiv x 4611686018427387904) := by
  obtain ⟨T, hT⟩ := bf_mk (e := e - 1) (f := f) (by omega) (by have := h.2.2.1; omega) h.2.2.2
  have e0 : dv (4611686018427387904 : UInt64) = tp 1075 := by
    rw [bf_2.dv, show ((2 ^ 52 + 0 : Nat) : Int) = tp 52 from rfl, ← tp_add]
  have e1 : dv T * dv (4611686018427387904 : UInt64) = dv x * tp 1074 := by
    rw [hT.dv, h.dv, e0, Int.mul_assoc, Int.mul_assoc, ← tp_add, ← tp_add]
    congr 2
    omega
  obtain ⟨r1, r2, r3, r4⟩ := div_b h.fin bf_2.fin h.ps bf_2.ps (by rw [e0]; exact tp_pos _) hT.fin hT.ps hT.fin hT.ps (Int.le_of_eq e1) (Int.le_of_eq e1.symm)
  have := uniq r1 hT.fin r2 hT.ps (by omega)
  rw [this]
  exact ⟨hT.fin, hT⟩
/-- the fraction, as a whole number -/
theorem frac {f : Nat} {x : UInt64} (h : BF 1023 f x) : FP.Core.DFin (FP.dsub x FP.dconst1) ∧ FP.Core.DFin (FP.dmul (FP.dsub x FP.dconst1) 4841369599423283200) ∧ FP.d2l (FP.dmul (FP.dsub x FP.dconst1) 4841369599423283200) = lN f := by
  have hf := h.2.2.2
  obtain ⟨V, v1, v2⟩ := rep (m := f) (n := 1022) (by omega) (by omega)
  obtain ⟨W, w1, w2⟩ := rep (m := f) (n := 1074) (by omega) (by omega)
  have e1 : dv V = dv x - dv FP.dconst1 := by
    rw [v2, h.dv, bf_1.dv]
    show _ = ((2 ^ 52 + f : Nat) : Int) * tp 1022 - ((2 ^ 52 + 0 : Nat) : Int) * tp 1022
    rw [← Int.sub_mul]
    congr 1
    omega
  obtain ⟨r1, r2, r3⟩ := sub_b h.fin bf_1.fin v1 v1 (Int.le_of_eq e1) (Int.le_of_eq e1.symm)
  have e2 : dv (FP.dsub x FP.dconst1) = (f : Int) * tp 1022 := by omega
  have e3 : dv W * tp 1074 = dv (FP.dsub x FP.dconst1) * dv (4841369599423283200 : UInt64) := by
    rw [w2, e2, bf_52.dv, show ((2 ^ 52 + 0 : Nat) : Int) = tp 52 from rfl, ← tp_add, Int.mul_assoc, Int.mul_assoc, ← tp_add, ← tp_add]
  obtain ⟨s1, s2, s3⟩ := mul_b r1 bf_52.fin w1 w1 (Int.le_of_eq e3) (Int.le_of_eq e3.symm)
  have e4 : dv (FP.dmul (FP.dsub x FP.dconst1) 4841369599423283200) = (f : Int) * tp 1074 := by omega
  refine ⟨r1, s1, ?_⟩
  generalize hy : FP.dmul (FP.dsub x FP.dconst1) 4841369599423283200 = y at *
  have h5 := FP.Core.d2l_val (fin_nn s1)
  have h6 : FP.Core.signed (FP.Core.sgn (FP.Core.val64 y)) (FP.Core.zmag FP.Core.b64 (FP.Core.val64 y) / FP.Core.one64) = (f : Int) := by
    have h7 : FP.Core.signed (FP.Core.sgn (FP.Core.val64 y)) (FP.Core.zmag FP.Core.b64 (FP.Core.val64 y)) = ((f * FP.Core.one64 : Nat) : Int) := by
      rw [Int.natCast_mul, one_tp]
      exact e4
    have hp := FP.Core.one64_pos
    generalize FP.Core.one64 = u at *
    cases hs : FP.Core.sgn (FP.Core.val64 y) <;> rw [hs] at h7 <;> simp only [FP.Core.signed, if_true, Bool.false_eq_true, if_false] at h7 ⊢
    · have : FP.Core.zmag FP.Core.b64 (FP.Core.val64 y) = f * u := by omega
      rw [this, Nat.mul_div_cancel _ hp]
    · have h8 : FP.Core.zmag FP.Core.b64 (FP.Core.val64 y) = 0 ∧ f * u = 0 := by omega
      have : f = 0 := by
        rcases Nat.mul_eq_zero.mp h8.2 with h | h
        · exact h
        · omega
      rw [h8.1, this, Nat.zero_div]
      rfl
  rw [h6] at h5
  refine Int64.toInt.inj ?_
  show (FP.Core.d2l y).toInt = _
  rw [h5, show (lN f).toInt = (f : Int) from lg_ofNat_toInt (by omega)]
  omega
