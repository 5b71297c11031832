-- floats: products, quotients, the parts of a price
theorem mulf_b {a b L H : UInt32} (ha : FP.Core.FFin a) (hb : FP.Core.FFin b) (hL : FP.Core.FFin L) (hH : FP.Core.FFin H) (h1 : fv L * tp 149 ≤ fv a * fv b) (h2 : fv a * fv b ≤ fv H * tp 149) : FP.Core.val32 (FP.fmul a b) ≠ .nan ∧ fv L ≤ fv (FP.fmul a b) ∧ fv (FP.fmul a b) ≤ fv H := by
  have e := FP.Core.val32_fmul a b
  obtain ⟨s, c, q, ea⟩ := id ha
  obtain ⟨t, d, r, eb⟩ := id hb
  have fa := FP.Core.val32_fits a
  have fb := FP.Core.val32_fits b
  rw [ea] at fa
  rw [eb] at fb
  obtain ⟨p1, p2, p3⟩ := FP.Core.product_units fa fb
  have ex : FP.Core.signed (s != t) (FP.Core.inUnits (c * d) (q + r) (2 * FP.Core.b32.qmin)) = fv a * fv b := by
    rw [p3, FP.Core.signed_xor]
    unfold fv
    rw [ea, eb]
    rfl
  rw [ea, eb, p1] at e
  have et : ((2 ^ (FP.Core.b32.qmin - 2 * FP.Core.b32.qmin).toNat : Nat) : Int) = tp 149 := by
    rw [qmn32]
    exact tp_nat 149
  have l1 : fv L ≤ fv (FP.fmul a b) := by
    have := FP.Core.zval_round_ge FP.Core.good_b32 (s := (s != t)) (c := c * d) (q := q + r) (e0 := 2 * FP.Core.b32.qmin) (FP.Core.val32_fits L) (ffin_nn hL) (by rw [qmn32]; omega) p2 (by rw [ex, et]; exact h1)
    rw [← e] at this
    exact this
  have l2 : fv (FP.fmul a b) ≤ fv H := by
    have := FP.Core.zval_round_le FP.Core.good_b32 (s := (s != t)) (c := c * d) (q := q + r) (e0 := 2 * FP.Core.b32.qmin) (FP.Core.val32_fits H) (ffin_nn hH) (by rw [qmn32]; omega) p2 (by rw [ex, et]; exact h2)
    rw [← e] at this
    exact this
  exact ⟨(FP.Core.notNaN_iff32 _).mp (FP.Core.fmul_out ha hb), l1, l2⟩
theorem divf_b {a b L H : UInt32} (ha : FP.Core.FFin a) (hb : FP.Core.FFin b) (pa : Fs a) (pb : Fs b) (b0 : 0 < fv b) (hL : FP.Core.FFin L) (pL : Fs L) (hH : FP.Core.FFin H) (pH : Fs H) (h1 : fv L * fv b ≤ fv a * tp 149) (h2 : fv a * tp 149 ≤ fv H * fv b) : FP.Core.val32 (FP.fdiv a b) ≠ .nan ∧ fv L ≤ fv (FP.fdiv a b) ∧ fv (FP.fdiv a b) ≤ fv H := by
  have e := FP.Core.val32_fdiv a b
  have sa := (fs_sgn (ffin_nn ha)).mp pa
  have sb := (fs_sgn (ffin_nn hb)).mp pb
  have sL := (fs_sgn (ffin_nn hL)).mp pL
  have sH := (fs_sgn (ffin_nn hH)).mp pH
  have eL : fv L = (FP.Core.zmag FP.Core.b32 (FP.Core.val32 L) : Nat) := by unfold fv FP.Core.zval; rw [sL]; rfl
  have eH : fv H = (FP.Core.zmag FP.Core.b32 (FP.Core.val32 H) : Nat) := by unfold fv FP.Core.zval; rw [sH]; rfl
  have ea : fv a = (FP.Core.zmag FP.Core.b32 (FP.Core.val32 a) : Nat) := by unfold fv FP.Core.zval; rw [sa]; rfl
  have eb : fv b = (FP.Core.zmag FP.Core.b32 (FP.Core.val32 b) : Nat) := by unfold fv FP.Core.zval; rw [sb]; rfl
  obtain ⟨s, c, q, va⟩ := id ha
  obtain ⟨t, d, r, vb⟩ := id hb
  have fa := FP.Core.val32_fits a
  have fb := FP.Core.val32_fits b
  rw [va] at sa fa ea e
  rw [vb] at sb fb eb e
  have sa : s = false := sa
  have sb : t = false := sb
  subst sa sb
  have d0 : 0 < d := by
    by_cases z : d = 0
    · subst z
      rw [eb] at b0
      simp [FP.Core.zmag, FP.Core.inUnits] at b0
    · omega
  have e2 : FP.Core.val32 (FP.fdiv a b) = FP.Core.roundRatio FP.Core.b32 false c d (q - r) := by
    rw [show FP.Core.val32 (FP.fdiv a b) = FP.Core.val32 (FP.Core.fdiv a b) from rfl, e]
    unfold FP.Core.quotient
    simp only
    rw [if_neg (by omega)]
    rfl
  have hn : FP.Core.val32 (FP.fdiv a b) ≠ .nan := by rw [e2]; exact FP.Core.roundRatio_ne_nan _ _ _ _ _
  have hs : FP.Core.sgn (FP.Core.val32 (FP.fdiv a b)) = false := by rw [e2]; exact FP.Core.sgn_roundRatio _ _ _ _ _
  have ed : fv (FP.fdiv a b) = (FP.Core.zmag FP.Core.b32 (FP.Core.roundRatio FP.Core.b32 false c d (q - r)) : Nat) := by
    unfold fv FP.Core.zval
    rw [hs, e2]
    rfl
  have q1 : -149 ≤ q := by have := fa.2.1; rw [qmn32] at this; exact this
  have q2 : q ≤ 104 := by have := fa.2.2.1; have e3 : FP.Core.b32.qmax = 104 := by decide
                          rw [e3] at this; exact this
  have r1 : -149 ≤ r := by have := fb.2.1; rw [qmn32] at this; exact this
  have r2 : r ≤ 104 := by have := fb.2.2.1; have e3 : FP.Core.b32.qmax = 104 := by decide
                          rw [e3] at this; exact this
  have ua : ((FP.Core.zmag FP.Core.b32 (.fin false c q) : Nat) : Int) = (c : Int) * tp (q + 149).toNat := by
    show ((c * 2 ^ (q - FP.Core.b32.qmin).toNat : Nat) : Int) = _
    rw [qmn32, Int.natCast_mul, tp_nat, show q - -149 = q + 149 by omega]
  have ub : ((FP.Core.zmag FP.Core.b32 (.fin false d r) : Nat) : Int) = (d : Int) * tp (r + 149).toNat := by
    show ((d * 2 ^ (r - FP.Core.b32.qmin).toNat : Nat) : Int) = _
    rw [qmn32, Int.natCast_mul, tp_nat, show r - -149 = r + 149 by omega]
  have key : ∀ V : Nat, ((FP.Core.inUnits c (q - r) (-4000) : Nat) : Int) * tp (r + 149).toNat = ((c : Int) * tp (q + 149).toNat * tp 149) * tp 3851 ∧ (((V * 2 ^ (FP.Core.b32.qmin - -4000).toNat * d : Nat) : Int)) * tp (r + 149).toNat = ((V : Int) * ((d : Int) * tp (r + 149).toNat)) * tp 3851 := by
    intro V
    constructor
    · show ((c * 2 ^ (q - r - -4000).toNat : Nat) : Int) * _ = _
      rw [Int.natCast_mul, tp_nat, Int.mul_assoc, ← tp_add, Int.mul_assoc, Int.mul_assoc, ← tp_add, ← tp_add]
      congr 2
      omega
    · rw [qmn32, Int.natCast_mul, Int.natCast_mul, tp_nat, show ((-149 : Int) - -4000).toNat = 3851 from rfl]
      rw [Int.mul_assoc, Int.mul_assoc, Int.mul_assoc, Int.mul_comm (tp 3851)]
  have pr := tp_pos (r + 149).toNat
  have p29 := tp_pos 3851
  rw [ea, ua, eb, ub] at h1 h2
  have l1 : fv L ≤ fv (FP.fdiv a b) := by
    rw [ed, eL]
    have := FP.Core.zmag_roundRatio_ge FP.Core.good_b32 (s := false) (A := c) (B := d) (e := q - r) (e0 := -4000) d0 (FP.Core.val32_fits L) (by rw [qmn32]; omega) (by omega) (by
      obtain ⟨k1, k2⟩ := key (FP.Core.zmag FP.Core.b32 (FP.Core.val32 L))
      rw [eL] at h1
      have h3 := Int.mul_le_mul_of_nonneg_right h1 (Int.le_of_lt p29)
      rw [← k2, ← k1] at h3
      exact Int.ofNat_le.mp (Int.le_of_mul_le_mul_right h3 pr))
    exact Int.ofNat_le.mpr this
  have l2 : fv (FP.fdiv a b) ≤ fv H := by
    rw [ed, eH]
    have := FP.Core.zmag_roundRatio_le FP.Core.good_b32 (s := false) (A := c) (B := d) (e := q - r) (e0 := -4000) d0 (FP.Core.val32_fits H) (ffin_nn hH) (by rw [qmn32]; omega) (by omega) (by
      obtain ⟨k1, k2⟩ := key (FP.Core.zmag FP.Core.b32 (FP.Core.val32 H))
      rw [eH] at h2
      have h3 := Int.mul_le_mul_of_nonneg_right h2 (Int.le_of_lt p29)
      rw [← k2, ← k1] at h3
      exact Int.ofNat_le.mp (Int.le_of_mul_le_mul_right h3 pr))
    exact Int.ofNat_le.mpr this
  exact ⟨hn, l1, l2⟩
theorem i2f_fv {k : Nat} (h : k ≤ 2 ^ 24) : FP.Core.FFin (FP.i2f (nI k)) ∧ fv (FP.i2f (nI k)) = (k : Int) * tp 149 := by
  have ht : (nI k).toInt = k := nI_toInt (by omega)
  have := FP.Core.FInt_zval (FP.Core.i2f_int (a := nI k) (by rw [ht]; omega))
  rw [ht] at this
  exact ⟨FP.Core.i2f_fin _, this⟩
theorem i2f_fs {k : Nat} (h : k ≤ 2 ^ 24) (h0 : 1 ≤ k) : Fs (FP.i2f (nI k)) := by
  obtain ⟨h1, h2⟩ := i2f_fv h
  have tpp := tp_pos 149
  have h3 : tp 149 ≤ (k : Int) * tp 149 := by
    have := Int.mul_le_mul_of_nonneg_right (a := 1) (b := (k : Int)) (c := tp 149) (by omega) (by omega)
    omega
  have := FP.Core.zval_nonpos32 (ffin_nn h1)
  have e : FP.Core.zval FP.Core.b32 (FP.Core.val32 (FP.i2f (nI k))) = fv (FP.i2f (nI k)) := rfl
  rw [e] at this
  unfold Fs
  by_cases q : 2 ^ 31 ≤ (FP.i2f (nI k)).toNat
  · have := this q; omega
  · omega
/-- what a passenger over some legs pays for one of them -/
theorem part_f {p l u : Nat} (p1 : 1 ≤ p) (p2 : p ≤ 9999) (l1 : 1 ≤ l) (l2 : l ≤ 9999) (u1 : 1 ≤ u) (u2 : u ≤ 39996) : FP.Core.FFin (FP.fmul (FP.i2f (nI p)) (FP.i2f (nI l))) ∧ ∃ e f, FB e f (FP.fdiv (FP.fmul (FP.i2f (nI p)) (FP.i2f (nI l))) (FP.i2f (nI u))) ∧ 100 ≤ e ∧ e ≤ 154 := by
  obtain ⟨a1, a2⟩ := i2f_fv (k := p) (by omega)
  obtain ⟨b1, b2⟩ := i2f_fv (k := l) (by omega)
  obtain ⟨c1, c2⟩ := i2f_fv (k := u) (by omega)
  have c3 := i2f_fs (k := u) (by omega) u1
  obtain ⟨L, hL, vL⟩ := fb_pow (e := 127) (by omega) (by omega)
  obtain ⟨H, hH, vH⟩ := fb_pow (e := 154) (by omega) (by omega)
  obtain ⟨L2, hL2, vL2⟩ := fb_pow (e := 111) (by omega) (by omega)
  have t0 := tp_pos 149
  have pl1 : 1 ≤ p * l := Nat.mul_le_mul p1 l1
  have pl2 : p * l ≤ 2 ^ 27 := Nat.le_trans (Nat.mul_le_mul p2 l2) (by omega)
  have em : ((p : Int) * tp 149) * ((l : Int) * tp 149) = ((p * l : Nat) : Int) * tp 298 := by
    rw [show (298 : Nat) = 149 + 149 from rfl, tp_add, Int.natCast_mul, Int.mul_assoc, Int.mul_assoc, Int.mul_left_comm (tp 149)]
  have eH : tp 176 = ((2 ^ 27 : Nat) : Int) * tp 149 := by rw [tp_nat, ← tp_add]
  have t298 := tp_pos 298
  obtain ⟨m1, m2, m3⟩ := mulf_b a1 b1 hL.fin hH.fin (by
    rw [vL, a2, b2, em, ← tp_add]
    have := Int.mul_le_mul_of_nonneg_right (a := 1) (b := ((p * l : Nat) : Int)) (c := tp 298) (by omega) (by omega)
    show tp 298 ≤ _
    omega) (by
    rw [vH, a2, b2, em]
    show _ ≤ tp 176 * tp 149
    rw [eH, Int.mul_assoc, ← tp_add]
    exact Int.mul_le_mul_of_nonneg_right (by omega) (by omega))
  obtain ⟨e, f, g1, g2, g3⟩ := f_between m1 hL hH m2 m3
  refine ⟨g1.fin, ?_⟩
  have u0 : (1 : Int) ≤ (u : Int) := by omega
  have eL2 : tp 149 = ((2 ^ 16 : Nat) : Int) * tp 133 := by rw [tp_nat, ← tp_add]
  obtain ⟨d1, d2, d3⟩ := divf_b g1.fin c1 g1.fs c3 (by rw [c2]; exact Int.mul_pos (by omega) t0) hL2.fin hL2.fs hH.fin hH.fs (by
    rw [vL] at m2
    rw [vL2, c2]
    show tp 133 * _ ≤ _
    have q1 := Int.mul_le_mul_of_nonneg_right m2 (Int.le_of_lt t0)
    refine Int.le_trans ?_ q1
    show _ ≤ tp 149 * tp 149
    rw [← Int.mul_assoc]
    refine Int.mul_le_mul_of_nonneg_right ?_ (Int.le_of_lt t0)
    rw [eL2, Int.mul_comm]
    exact Int.mul_le_mul_of_nonneg_right (by omega) (Int.le_of_lt (tp_pos _))) (by
    rw [c2]
    have q1 := Int.mul_le_mul_of_nonneg_right m3 (Int.le_of_lt t0)
    refine Int.le_trans q1 ?_
    rw [vH]
    refine Int.mul_le_mul_of_nonneg_left ?_ (Int.le_of_lt (tp_pos _))
    have := Int.mul_le_mul_of_nonneg_right u0 (Int.le_of_lt t0)
    omega)
  obtain ⟨e2, f2, k1, k2, k3⟩ := f_between d1 hL2 hH d2 d3
  exact ⟨e2, f2, k1, by omega, k3⟩
