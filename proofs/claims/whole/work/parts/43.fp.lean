-- doubles by their values in units of the least one: bounds of sums, differences, products
def dv (x : UInt64) : Int := FP.Core.zval FP.Core.b64 (FP.Core.val64 x)
def tp (n : Nat) : Int := 2 ^ n
theorem tp_add (a b : Nat) : tp (a + b) = tp a * tp b := Int.pow_add 2 a b
theorem tp_pos (n : Nat) : 0 < tp n := Int.pow_pos (by decide)
theorem tp_nat (n : Nat) : ((2 ^ n : Nat) : Int) = tp n := Int.natCast_pow 2 n
theorem tp_succ (n : Nat) : tp (n + 1) = 2 * tp n := by rw [tp_add]; show tp n * 2 = _; omega
theorem tp_mono {a b : Nat} (h : a ≤ b) : tp a ≤ tp b := by
  obtain ⟨k, rfl⟩ := Nat.le.dest h
  rw [tp_add]
  have h1 := tp_pos a
  have h2 := tp_pos k
  have : tp a * 1 ≤ tp a * tp k := Int.mul_le_mul_of_nonneg_left (by omega) (by omega)
  omega
theorem one_tp : (FP.Core.one64 : Int) = tp 1074 := tp_nat 1074
theorem qmn : FP.Core.b64.qmin = -1074 := FP.Core.qmin_b64
theorem fin_nn {x : UInt64} (h : FP.Core.DFin x) : FP.Core.val64 x ≠ .nan := h.ne_nan
theorem oD_fin {x : UInt64} (h : FP.Core.DFin x) : oD x = some x := by
  unfold oD
  rw [if_pos]
  rw [UInt64.le_iff_toNat_le, FP.Core.mask_toNat]
  have := (FP.Core.fin_bits x).mp h
  have e : (0x7ff0000000000000 : UInt64).toNat = 9218868437227405312 := rfl
  omega
/-- a number of at most 53 digits is a double's value -/
theorem rep {m n : Nat} (hm : m < 2 ^ 53) (hn : n ≤ 2045) : ∃ V : UInt64, FP.Core.DFin V ∧ dv V = (m : Int) * tp n := by
  obtain ⟨c', q', h1, h2⟩ := FP.Core.round_exact FP.Core.good_b64 false (c := m) (q := (n : Int) - 1074) hm (by rw [qmn]; omega) (by have : FP.Core.b64.qmax = 971 := by decide
                                                                                                                                     rw [this]; omega)
  refine ⟨FP.Core.of64 (FP.Core.round FP.Core.b64 (.fin false m ((n : Int) - 1074))), ⟨_, c', q', by rw [FP.Core.val64_of64 (FP.Core.round_fits FP.Core.good_b64 _), h1]⟩, ?_⟩
  unfold dv
  rw [FP.Core.val64_of64 (FP.Core.round_fits FP.Core.good_b64 _), h1]
  show FP.Core.signed false (FP.Core.inUnits c' q' FP.Core.b64.qmin) = _
  rw [h2, qmn]
  show ((m * 2 ^ ((n : Int) - 1074 - -1074).toNat : Nat) : Int) = _
  rw [show ((n : Int) - 1074 - -1074).toNat = n by omega, Int.natCast_mul, tp_nat]
theorem rep_neg {m n : Nat} (hm : m < 2 ^ 53) (hn : n ≤ 2045) : ∃ V : UInt64, FP.Core.DFin V ∧ dv V = -((m : Int) * tp n) := by
  obtain ⟨V, ⟨s, c, q, h0⟩, h2⟩ := rep hm hn
  refine ⟨FP.Core.dneg V, ⟨!s, c, q, by rw [FP.Core.val64_dneg, h0]; rfl⟩, ?_⟩
  unfold dv at h2 ⊢
  rw [FP.Core.val64_dneg, FP.Core.zval_negate, h2]
theorem dv_lt_top {x : UInt64} (h : FP.Core.DFin x) : dv x < (FP.Core.b64.tails * 2 ^ (FP.Core.b64.exps - 2) : Nat) ∧ -((FP.Core.b64.tails * 2 ^ (FP.Core.b64.exps - 2) : Nat) : Int) < dv x := by
  have h1 := h.zval_lt
  unfold dv FP.Core.zval
  generalize FP.Core.b64.tails * 2 ^ (FP.Core.b64.exps - 2) = T at *
  cases FP.Core.sgn (FP.Core.val64 x) <;> simp only [FP.Core.signed, if_true, Bool.false_eq_true, if_false] <;> omega
theorem fin_between {x L H : UInt64} (hn : FP.Core.val64 x ≠ .nan) (hL : FP.Core.DFin L) (hH : FP.Core.DFin H) (h1 : dv L ≤ dv x) (h2 : dv x ≤ dv H) : FP.Core.DFin x := by
  have l1 := (dv_lt_top hL).2
  have l2 := (dv_lt_top hH).1
  generalize ht : FP.Core.b64.tails * 2 ^ (FP.Core.b64.exps - 2) = T at *
  cases h : FP.Core.val64 x with
  | nan => exact absurd h hn
  | fin s c q => exact ⟨s, c, q, h⟩
  | inf s =>
    exfalso
    have e : dv x = FP.Core.signed s T := by
      unfold dv
      rw [h, ← ht]
      rfl
    cases s <;> simp only [FP.Core.signed, if_true, Bool.false_eq_true, if_false] at e <;> omega
theorem add_b {a b L H : UInt64} (ha : FP.Core.DFin a) (hb : FP.Core.DFin b) (hL : FP.Core.DFin L) (hH : FP.Core.DFin H) (h1 : dv L ≤ dv a + dv b) (h2 : dv a + dv b ≤ dv H) : FP.Core.DFin (FP.dadd a b) ∧ dv L ≤ dv (FP.dadd a b) ∧ dv (FP.dadd a b) ≤ dv H := by
  have e := FP.Core.val64_dadd a b
  have l1 : dv L ≤ dv (FP.dadd a b) := by
    unfold dv
    show _ ≤ FP.Core.zval FP.Core.b64 (FP.Core.val64 (FP.Core.dadd a b))
    rw [e]
    exact FP.Core.sum_ge FP.Core.good_b64 ha hb (FP.Core.val64_fits a) (FP.Core.val64_fits b) (FP.Core.val64_fits L) (fin_nn hL) h1
  have l2 : dv (FP.dadd a b) ≤ dv H := by
    unfold dv
    show FP.Core.zval FP.Core.b64 (FP.Core.val64 (FP.Core.dadd a b)) ≤ _
    rw [e]
    exact FP.Core.sum_le FP.Core.good_b64 ha hb (FP.Core.val64_fits a) (FP.Core.val64_fits b) (FP.Core.val64_fits H) (fin_nn hH) h2
  exact ⟨fin_between ((FP.Core.notNaN_iff _).mp (FP.Core.dadd_out ha.notNaN hb)) hL hH l1 l2, l1, l2⟩
theorem neg_fin {b : UInt64} (hb : FP.Core.DFin b) : ∃ s c q, FP.Core.negate (FP.Core.val64 b) = .fin s c q := by
  obtain ⟨s, c, q, h⟩ := hb
  exact ⟨!s, c, q, by rw [h]; rfl⟩
theorem sub_b {a b L H : UInt64} (ha : FP.Core.DFin a) (hb : FP.Core.DFin b) (hL : FP.Core.DFin L) (hH : FP.Core.DFin H) (h1 : dv L ≤ dv a - dv b) (h2 : dv a - dv b ≤ dv H) : FP.Core.DFin (FP.dsub a b) ∧ dv L ≤ dv (FP.dsub a b) ∧ dv (FP.dsub a b) ≤ dv H := by
  have e := FP.Core.val64_dsub a b
  have en : FP.Core.zval FP.Core.b64 (FP.Core.negate (FP.Core.val64 b)) = -dv b := FP.Core.zval_negate _ _
  have ea : FP.Core.zval FP.Core.b64 (FP.Core.val64 a) = dv a := rfl
  have eL : FP.Core.zval FP.Core.b64 (FP.Core.val64 L) = dv L := rfl
  have eH : FP.Core.zval FP.Core.b64 (FP.Core.val64 H) = dv H := rfl
  have l1 : dv L ≤ dv (FP.dsub a b) := by
    have := FP.Core.sum_ge FP.Core.good_b64 ha (neg_fin hb) (FP.Core.val64_fits a) (FP.Core.negate_fits (FP.Core.val64_fits b)) (FP.Core.val64_fits L) (fin_nn hL) (by rw [en, ea, eL]; omega)
    rw [← e] at this
    exact this
  have l2 : dv (FP.dsub a b) ≤ dv H := by
    have := FP.Core.sum_le FP.Core.good_b64 ha (neg_fin hb) (FP.Core.val64_fits a) (FP.Core.negate_fits (FP.Core.val64_fits b)) (FP.Core.val64_fits H) (fin_nn hH) (by rw [en, ea, eH]; omega)
    rw [← e] at this
    exact this
  exact ⟨fin_between ((FP.Core.notNaN_iff _).mp (FP.Core.dsub_out ha.notNaN hb)) hL hH l1 l2, l1, l2⟩
theorem mul_b {a b L H : UInt64} (ha : FP.Core.DFin a) (hb : FP.Core.DFin b) (hL : FP.Core.DFin L) (hH : FP.Core.DFin H) (h1 : dv L * tp 1074 ≤ dv a * dv b) (h2 : dv a * dv b ≤ dv H * tp 1074) : FP.Core.DFin (FP.dmul a b) ∧ dv L ≤ dv (FP.dmul a b) ∧ dv (FP.dmul a b) ≤ dv H := by
  have e := FP.Core.val64_dmul a b
  obtain ⟨s, c, q, ea⟩ := id ha
  obtain ⟨t, d, r, eb⟩ := id hb
  have fa := FP.Core.val64_fits a
  have fb := FP.Core.val64_fits b
  rw [ea] at fa
  rw [eb] at fb
  obtain ⟨p1, p2, p3⟩ := FP.Core.product_units fa fb
  have ex : FP.Core.signed (s != t) (FP.Core.inUnits (c * d) (q + r) (2 * FP.Core.b64.qmin)) = dv a * dv b := by
    rw [p3, FP.Core.signed_xor]
    unfold dv
    rw [ea, eb]
    rfl
  rw [ea, eb, p1] at e
  have et : ((2 ^ (FP.Core.b64.qmin - 2 * FP.Core.b64.qmin).toNat : Nat) : Int) = tp 1074 := by
    rw [qmn]
    exact tp_nat 1074
  have l1 : dv L ≤ dv (FP.dmul a b) := by
    have := FP.Core.zval_round_ge FP.Core.good_b64 (s := (s != t)) (c := c * d) (q := q + r) (e0 := 2 * FP.Core.b64.qmin) (FP.Core.val64_fits L) (fin_nn hL) (by rw [qmn]; omega) p2 (by rw [ex, et]; exact h1)
    rw [← e] at this
    exact this
  have l2 : dv (FP.dmul a b) ≤ dv H := by
    have := FP.Core.zval_round_le FP.Core.good_b64 (s := (s != t)) (c := c * d) (q := q + r) (e0 := 2 * FP.Core.b64.qmin) (FP.Core.val64_fits H) (fin_nn hH) (by rw [qmn]; omega) p2 (by rw [ex, et]; exact h2)
    rw [← e] at this
    exact this
  exact ⟨fin_between ((FP.Core.notNaN_iff _).mp (FP.Core.dmul_out ha hb)) hL hH l1 l2, l1, l2⟩
-- signs
def Ps (x : UInt64) : Prop := x.toNat < 2 ^ 63
theorem ps_sgn {x : UInt64} (h : FP.Core.val64 x ≠ .nan) : Ps x ↔ FP.Core.sgn (FP.Core.val64 x) = false := by
  rw [FP.Core.sgn_bits h, decide_eq_false_iff_not]
  unfold Ps
  omega
theorem ps_nonneg {x : UInt64} (h : FP.Core.DFin x) (hp : Ps x) : 0 ≤ dv x := FP.Core.zval_nonneg (fin_nn h) hp
theorem ps_of_pos {x : UInt64} (h : FP.Core.DFin x) (hp : 0 < dv x) : Ps x := by
  have := FP.Core.zval_nonpos (fin_nn h)
  unfold Ps
  have e : FP.Core.zval FP.Core.b64 (FP.Core.val64 x) = dv x := rfl
  rw [e] at this
  by_cases h1 : 2 ^ 63 ≤ x.toNat
  · have := this h1; omega
  · omega
theorem sgn_round (s : Bool) (c : Nat) (q : Int) : FP.Core.sgn (FP.Core.round FP.Core.b64 (.fin s c q)) = s := FP.Core.sgn_roundRatio _ _ _ _ _
theorem ps_add {a b : UInt64} (ha : FP.Core.DFin a) (hb : FP.Core.DFin b) (pa : Ps a) (pb : Ps b) : Ps (FP.dadd a b) := by
  have hn := (FP.Core.notNaN_iff _).mp (FP.Core.dadd_out ha.notNaN hb)
  rw [ps_sgn hn]
  rw [ps_sgn (fin_nn ha)] at pa
  rw [ps_sgn (fin_nn hb)] at pb
  show FP.Core.sgn (FP.Core.val64 (FP.Core.dadd a b)) = false
  rw [FP.Core.val64_dadd]
  obtain ⟨s, c, q, ea⟩ := ha
  obtain ⟨t, d, r, eb⟩ := hb
  rw [ea] at pa ⊢
  rw [eb] at pb ⊢
  have pa : s = false := pa
  have pb : t = false := pb
  subst pa pb
  show FP.Core.sgn (FP.Core.round FP.Core.b64 (.fin (FP.Core.sumSign false false _) _ _)) = false
  rw [sgn_round]
  unfold FP.Core.sumSign FP.Core.sumUnits
  split
  · rfl
  · rw [decide_eq_false_iff_not]
    simp only [FP.Core.signed, Bool.false_eq_true, if_false]
    omega
theorem ps_mul {a b : UInt64} (ha : FP.Core.DFin a) (hb : FP.Core.DFin b) (pa : Ps a) (pb : Ps b) : Ps (FP.dmul a b) := by
  have hn := (FP.Core.notNaN_iff _).mp (FP.Core.dmul_out ha hb)
  rw [ps_sgn hn]
  rw [ps_sgn (fin_nn ha)] at pa
  rw [ps_sgn (fin_nn hb)] at pb
  show FP.Core.sgn (FP.Core.val64 (FP.Core.dmul a b)) = false
  rw [FP.Core.val64_dmul]
  obtain ⟨s, c, q, ea⟩ := ha
  obtain ⟨t, d, r, eb⟩ := hb
  rw [ea] at pa ⊢
  rw [eb] at pb ⊢
  have pa : s = false := pa
  have pb : t = false := pb
  subst pa pb
  show FP.Core.sgn (FP.Core.round FP.Core.b64 (.fin (false != false) _ _)) = false
  rw [sgn_round]
  rfl
/-- a difference from a number without a sign is no -0 -/
theorem sub_nz {a b : UInt64} (ha : FP.Core.DFin a) (hb : FP.Core.DFin b) (pa : Ps a) (pb : Ps b) (h : dv a = dv b) : Ps (FP.dsub a b) := by
  have hn := (FP.Core.notNaN_iff _).mp (FP.Core.dsub_out ha.notNaN hb)
  rw [ps_sgn hn]
  rw [ps_sgn (fin_nn ha)] at pa
  rw [ps_sgn (fin_nn hb)] at pb
  show FP.Core.sgn (FP.Core.val64 (FP.Core.dsub a b)) = false
  rw [FP.Core.val64_dsub]
  obtain ⟨s, c, q, ea⟩ := ha
  obtain ⟨t, d, r, eb⟩ := hb
  have fa := FP.Core.val64_fits a
  have fb := FP.Core.val64_fits b
  unfold dv at h
  rw [ea] at pa fa h ⊢
  rw [eb] at pb fb h ⊢
  have pa : s = false := pa
  have pb : t = false := pb
  subst pa pb
  show FP.Core.sgn (FP.Core.round FP.Core.b64 (.fin (FP.Core.sumSign false true (FP.Core.sumUnits false c q true d r (min q r))) _ _)) = false
  rw [sgn_round]
  have e : FP.Core.sumUnits false c q true d r (min q r) = 0 := by
    have h1 : FP.Core.inUnits c q FP.Core.b64.qmin = FP.Core.inUnits d r FP.Core.b64.qmin := by
      have : ((FP.Core.inUnits c q FP.Core.b64.qmin : Nat) : Int) = (FP.Core.inUnits d r FP.Core.b64.qmin : Nat) := h
      omega
    have m1 := FP.Core.inUnits_move c (q := q) (r := min q r) (e := FP.Core.b64.qmin) (by have := fa.2.1; have := fb.2.1; omega) (by omega)
    have m2 := FP.Core.inUnits_move d (q := r) (r := min q r) (e := FP.Core.b64.qmin) (by have := fa.2.1; have := fb.2.1; omega) (by omega)
    rw [m1, m2] at h1
    have h2 := Nat.eq_of_mul_eq_mul_right (Nat.two_pow_pos _) h1
    unfold FP.Core.sumUnits
    rw [h2]
    simp only [FP.Core.signed, Bool.false_eq_true, if_false, if_true]
    omega
  rw [e]
  rfl
theorem ps_sub {a b : UInt64} (ha : FP.Core.DFin a) (hb : FP.Core.DFin b) (pa : Ps a) (pb : Ps b) (hs : FP.Core.DFin (FP.dsub a b)) (h : dv b ≤ dv a) : Ps (FP.dsub a b) := by
  by_cases e : dv a = dv b
  · exact sub_nz ha hb pa pb e
  · refine ps_of_pos hs ?_
    obtain ⟨V, v1, v2⟩ := rep (m := 1) (n := 0) (by decide) (by decide)
    have v3 : dv V = 1 := by rw [v2]; rfl
    have e2 := FP.Core.val64_dsub a b
    have en : FP.Core.zval FP.Core.b64 (FP.Core.negate (FP.Core.val64 b)) = -dv b := FP.Core.zval_negate _ _
    have := FP.Core.sum_ge FP.Core.good_b64 ha (neg_fin hb) (FP.Core.val64_fits a) (FP.Core.negate_fits (FP.Core.val64_fits b)) (FP.Core.val64_fits V) (fin_nn v1) (by
      rw [en]
      show dv V ≤ dv a + -dv b
      omega)
    rw [← e2] at this
    have : dv V ≤ dv (FP.dsub a b) := this
    omega
/-- a double that is 0 or at least 2^l (in units), and at most h -/
def Dn (l : Nat) (h : Int) (x : UInt64) : Prop := FP.Core.DFin x ∧ Ps x ∧ (dv x = 0 ∨ tp l ≤ dv x) ∧ dv x ≤ h
theorem Dn.mono {l l2 : Nat} {h h2 : Int} {x : UInt64} (d : Dn l h x) (e1 : l2 ≤ l) (e2 : h ≤ h2) : Dn l2 h2 x := ⟨d.1, d.2.1, d.2.2.1.imp id (fun z => Int.le_trans (tp_mono e1) z), Int.le_trans d.2.2.2 e2⟩
theorem Dn.nn {l : Nat} {h : Int} {x : UInt64} (d : Dn l h x) : 0 ≤ dv x := ps_nonneg d.1 d.2.1
theorem rep_tp {l : Nat} (h : l ≤ 2045) : ∃ V : UInt64, FP.Core.DFin V ∧ dv V = tp l := by
  obtain ⟨V, v1, v2⟩ := rep (m := 1) (n := l) (by decide) h
  exact ⟨V, v1, by rw [v2]; omega⟩
theorem rep_0 : ∃ V : UInt64, FP.Core.DFin V ∧ dv V = 0 := by
  obtain ⟨V, v1, v2⟩ := rep (m := 0) (n := 0) (by decide) (by decide)
  exact ⟨V, v1, by rw [v2]; omega⟩
/-- a value of a double -/
def Rp (h : Int) : Prop := ∃ V : UInt64, FP.Core.DFin V ∧ dv V = h
theorem Dn.add {l : Nat} {h1 h2 h : Int} {a b : UInt64} (da : Dn l h1 a) (db : Dn l h2 b) (hl : l ≤ 2045) (hr : Rp h) (hh : h1 + h2 ≤ h) : Dn l h (FP.dadd a b) := by
  obtain ⟨H, H1, H2⟩ := hr
  have na := da.nn
  have nb := db.nn
  have hp := ps_add da.1 db.1 da.2.1 db.2.1
  have ua := da.2.2.2
  have ub := db.2.2.2
  by_cases z : dv a = 0 ∧ dv b = 0
  · obtain ⟨L, L1, L2⟩ := rep_0
    obtain ⟨r1, r2, r3⟩ := add_b da.1 db.1 L1 L1 (by omega) (by omega)
    exact ⟨r1, hp, Or.inl (by omega), by omega⟩
  · obtain ⟨L, L1, L2⟩ := rep_tp hl
    have hL : tp l ≤ dv a + dv b := by
      rcases da.2.2.1 with e | e
      · rcases db.2.2.1 with e2 | e2
        · exact absurd ⟨e, e2⟩ z
        · omega
      · omega
    obtain ⟨r1, r2, r3⟩ := add_b da.1 db.1 L1 H1 (by omega) (by omega)
    exact ⟨r1, hp, Or.inr (by omega), by omega⟩
theorem Dn.mul {l1 l2 l : Nat} {h1 h2 h : Int} {a b : UInt64} (da : Dn l1 h1 a) (db : Dn l2 h2 b) (hl : l1 + l2 = 1074 + l) (hl2 : l ≤ 2045) (hr : Rp h) (hh : h1 * h2 ≤ h * tp 1074) : Dn l h (FP.dmul a b) := by
  obtain ⟨H, H1, H2⟩ := hr
  have na := da.nn
  have nb := db.nn
  have hp := ps_mul da.1 db.1 da.2.1 db.2.1
  have ua := da.2.2.2
  have ub := db.2.2.2
  have hu : dv a * dv b ≤ dv H * tp 1074 := by
    rw [H2]
    exact Int.le_trans (Int.mul_le_mul ua ub nb (by omega)) hh
  by_cases z : dv a = 0 ∨ dv b = 0
  · obtain ⟨L, L1, L2⟩ := rep_0
    have ez : dv a * dv b = 0 := by rcases z with z | z <;> rw [z] <;> simp
    obtain ⟨r1, r2, r3⟩ := mul_b da.1 db.1 L1 L1 (by rw [ez, L2]; simp) (by rw [ez, L2]; simp)
    have hz : 0 ≤ dv H * tp 1074 := by rw [← ez]; exact hu
    have hz2 : 0 ≤ dv H := by
      by_cases q : 0 ≤ dv H
      · exact q
      · have := Int.mul_neg_of_neg_of_pos (a := dv H) (b := tp 1074) (by omega) (tp_pos _)
        omega
    exact ⟨r1, hp, Or.inl (by omega), by omega⟩
  · obtain ⟨L, L1, L2⟩ := rep_tp hl2
    have ea := da.2.2.1.resolve_left (fun e => z (Or.inl e))
    have eb := db.2.2.1.resolve_left (fun e => z (Or.inr e))
    have hL : dv L * tp 1074 ≤ dv a * dv b := by
      rw [L2, ← tp_add, Nat.add_comm, ← hl, tp_add]
      exact Int.mul_le_mul ea eb (Int.le_of_lt (tp_pos _)) na
    obtain ⟨r1, r2, r3⟩ := mul_b da.1 db.1 L1 H1 hL hu
    exact ⟨r1, hp, Or.inr (by omega), by omega⟩
