-- floats: their values, their bits
def fv (x : UInt32) : Int := FP.Core.zval FP.Core.b32 (FP.Core.val32 x)
def Fs (x : UInt32) : Prop := x.toNat < 2 ^ 31
theorem qmn32 : FP.Core.b32.qmin = -149 := FP.Core.qmin_b32
theorem ffin_nn {x : UInt32} (h : FP.Core.FFin x) : FP.Core.val32 x ≠ .nan := h.ne_nan
theorem oF_fin {x : UInt32} (h : FP.Core.FFin x) : oF x = some x := by
  unfold oF
  rw [if_pos]
  rw [UInt32.le_iff_toNat_le, FP.Core.mask_toNat32]
  have := (FP.Core.fin_bits32 x).mp h
  have e : (0x7f800000 : UInt32).toNat = 2139095040 := rfl
  omega
theorem fs_sgn {x : UInt32} (h : FP.Core.val32 x ≠ .nan) : Fs x ↔ FP.Core.sgn (FP.Core.val32 x) = false := by
  rw [FP.Core.sgn_bits32 h, decide_eq_false_iff_not]
  unfold Fs
  omega
theorem fv_fs {x : UInt32} (h : FP.Core.val32 x ≠ .nan) (hp : Fs x) : fv x = (FP.Core.unitsOf FP.Core.b32 x.toNat : Nat) := by
  have h1 := (fs_sgn h).mp hp
  have h2 := FP.Core.zmag_bits32 h
  rw [Nat.mod_eq_of_lt hp] at h2
  unfold fv FP.Core.zval
  rw [h1, h2]
  rfl
/-- the float of exponent e and fraction f -/
def FB (e f : Nat) (x : UInt32) : Prop := x.toNat = e * 2 ^ 23 + f ∧ 1 ≤ e ∧ e ≤ 254 ∧ f < 2 ^ 23
theorem FB.fin {e f : Nat} {x : UInt32} (h : FB e f x) : FP.Core.FFin x := by
  obtain ⟨h1, h2, h3, h4⟩ := h
  rw [FP.Core.fin_bits32]
  omega
theorem FB.fs {e f : Nat} {x : UInt32} (h : FB e f x) : Fs x := by
  obtain ⟨h1, h2, h3, h4⟩ := h
  unfold Fs
  omega
theorem FB.fv {e f : Nat} {x : UInt32} (h : FB e f x) : fv x = ((2 ^ 23 + f : Nat) : Int) * tp (e - 1) := by
  rw [fv_fs (ffin_nn h.fin) h.fs]
  obtain ⟨h1, h2, h3, h4⟩ := h
  unfold FP.Core.unitsOf
  rw [h1, FP.Core.tails_b32, if_neg (by omega), show (e * 2 ^ 23 + f) % 2 ^ 23 = f by omega, show (e * 2 ^ 23 + f) / 2 ^ 23 = e by omega, Int.natCast_mul, tp_nat]
theorem fb_mk {e f : Nat} (h1 : 1 ≤ e) (h2 : e ≤ 254) (h3 : f < 2 ^ 23) : ∃ x : UInt32, FB e f x := by
  refine ⟨UInt32.ofNat (e * 2 ^ 23 + f), ?_, h1, h2, h3⟩
  rw [UInt32.toNat_ofNat']
  exact Nat.mod_eq_of_lt (by omega)
/-- a power of two as a float -/
theorem fb_pow {e : Nat} (h1 : 1 ≤ e) (h2 : e ≤ 254) : ∃ x : UInt32, FB e 0 x ∧ fv x = tp (e + 22) := by
  obtain ⟨x, hx⟩ := fb_mk (f := 0) h1 h2 (by omega)
  refine ⟨x, hx, ?_⟩
  rw [hx.fv, show ((2 ^ 23 + 0 : Nat) : Int) = tp 23 from rfl, ← tp_add]
  congr 1
  omega
/-- between two positive floats, by value: between them by bits -/
theorem f_between {x L H : UInt32} {eL eH : Nat} (hn : FP.Core.val32 x ≠ .nan) (hL : FB eL 0 L) (hH : FB eH 0 H) (h1 : fv L ≤ fv x) (h2 : fv x ≤ fv H) : ∃ e f, FB e f x ∧ eL ≤ e ∧ e ≤ eH := by
  have l0 : 0 < fv L := by
    rw [hL.fv]
    exact Int.mul_pos (by decide) (tp_pos _)
  have hs : Fs x := by
    have := FP.Core.zval_nonpos32 hn
    have e : FP.Core.zval FP.Core.b32 (FP.Core.val32 x) = fv x := rfl
    rw [e] at this
    unfold Fs
    by_cases q : 2 ^ 31 ≤ x.toNat
    · have := this q; omega
    · omega
  rw [fv_fs (ffin_nn hL.fin) hL.fs, fv_fs hn hs] at h1
  rw [fv_fs (ffin_nn hH.fin) hH.fs, fv_fs hn hs] at h2
  have a1 := (FP.Core.unitsOf_le_iff (f := FP.Core.b32)).mp (Int.ofNat_le.mp h1)
  have a2 := (FP.Core.unitsOf_le_iff (f := FP.Core.b32)).mp (Int.ofNat_le.mp h2)
  have b1 := hL.1
  have b2 := hH.1
  have c1 := hL.2.1
  have c2 := hH.2.2.1
  exact ⟨x.toNat / 2 ^ 23, x.toNat % 2 ^ 23, ⟨by omega, by omega, by omega, by omega⟩, by omega, by omega⟩
/-- a float made of a double -/
theorem d2f_b {w : UInt64} (hw : FP.Core.DFin w) {eL eH : Nat} (l1 : 1 ≤ eL) (l2 : eL ≤ 254) (h1 : 1 ≤ eH) (h2 : eH ≤ 254) (a1 : tp (eL + 947) ≤ dv w) (a2 : dv w ≤ tp (eH + 947)) : ∃ e f, FB e f (FP.d2f w) ∧ eL ≤ e ∧ e ≤ eH := by
  obtain ⟨L, hL, vL⟩ := fb_pow l1 l2
  obtain ⟨H, hH, vH⟩ := fb_pow h1 h2
  have hn : FP.Core.val32 (FP.d2f w) ≠ .nan := (FP.Core.notNaN_iff32 _).mp (by rw [FP.d2f_core hw.notNaN]; exact FP.Core.d2f_out hw.notNaN)
  have e := FP.Core.val32_d2f w
  rw [← FP.d2f_core hw.notNaN] at e
  obtain ⟨s, c, q, ew⟩ := id hw
  have fw := FP.Core.val64_fits w
  rw [ew] at fw e
  have q1 : -1074 ≤ q := by have := fw.2.1; rw [qmn] at this; exact this
  have ed : FP.Core.signed s (FP.Core.inUnits c q (-1074)) = dv w := by
    unfold dv
    rw [ew, ← qmn]
    rfl
  have et : ((2 ^ (FP.Core.b32.qmin - -1074).toNat : Nat) : Int) = tp 925 := by
    rw [qmn32]
    exact tp_nat 925
  refine f_between hn hL hH ?_ ?_
  · have := FP.Core.zval_round_ge FP.Core.good_b32 (s := s) (c := c) (q := q) (e0 := -1074) (FP.Core.val32_fits L) (ffin_nn hL.fin) (by rw [qmn32]; omega) q1 (by
      rw [ed, et]
      show fv L * _ ≤ _
      rw [vL, ← tp_add]
      exact a1)
    rw [← e] at this
    exact this
  · have := FP.Core.zval_round_le FP.Core.good_b32 (s := s) (c := c) (q := q) (e0 := -1074) (FP.Core.val32_fits H) (ffin_nn hH.fin) (by rw [qmn32]; omega) q1 (by
      rw [ed, et]
      show _ ≤ fv H * _
      rw [vH, ← tp_add]
      exact a2)
    rw [← e] at this
    exact this
/-- a double made of a float -/
theorem f2d_b {x : UInt32} {e f : Nat} (h : FB e f x) : BF (e + 896) (f * 2 ^ 29) (FP.f2d x) := by
  obtain ⟨T, hT⟩ := bf_mk (e := e + 896) (f := f * 2 ^ 29) (by omega) (by have := h.2.2.1; omega) (by have := h.2.2.2; omega)
  have hf := h.fin
  have ec := FP.f2d_core hf.notNaN
  have e1 := FP.Core.val64_f2d x
  have hd : FP.Core.DFin (FP.f2d x) := by rw [ec]; exact FP.Core.f2d_fin hf
  rw [← ec] at e1
  obtain ⟨s, c, q, ex⟩ := id hf
  have fx := FP.Core.val32_fits x
  have es := (fs_sgn (ffin_nn hf)).mp h.fs
  have ev := h.fv
  unfold fv FP.Core.zval at ev
  rw [ex] at fx es ev e1
  have es : s = false := es
  subst es
  have q1 : -149 ≤ q := by have := fx.2.1; rw [qmn32] at this; exact this
  have ev : ((c * 2 ^ (q - FP.Core.b32.qmin).toNat : Nat) : Int) = ((2 ^ 23 + f : Nat) : Int) * tp (e - 1) := ev
  have ed : FP.Core.signed false (FP.Core.inUnits c q FP.Core.b64.qmin) = dv T := by
    rw [hT.dv]
    show ((c * 2 ^ (q - FP.Core.b64.qmin).toNat : Nat) : Int) = _
    rw [Int.natCast_mul, tp_nat, qmn32] at ev
    rw [Int.natCast_mul, tp_nat, qmn, show (q - -1074).toNat = (q - -149).toNat + 925 by omega, tp_add, ← Int.mul_assoc, ev, Int.mul_assoc, ← tp_add]
    have e2 : ((2 ^ 52 + f * 2 ^ 29 : Nat) : Int) = ((2 ^ 23 + f : Nat) : Int) * tp 29 := by
      rw [← tp_nat, ← Int.natCast_mul, show (2 ^ 23 + f) * 2 ^ 29 = 2 ^ 52 + f * 2 ^ 29 by omega]
    have h1 := h.2.1
    rw [e2, Int.mul_assoc, ← tp_add, show 29 + (e + 896 - 1) = e - 1 + 925 by omega]
  have hle := FP.Core.zval_round_le FP.Core.good_b64 (s := false) (c := c) (q := q) (e0 := FP.Core.b64.qmin) (FP.Core.val64_fits T) (fin_nn hT.fin) (Int.le_refl _) (by rw [qmn]; omega) (by
    rw [ed, Int.sub_self]
    show dv T ≤ dv T * ((1 : Nat) : Int)
    omega)
  have hge := FP.Core.zval_round_ge FP.Core.good_b64 (s := false) (c := c) (q := q) (e0 := FP.Core.b64.qmin) (FP.Core.val64_fits T) (fin_nn hT.fin) (Int.le_refl _) (by rw [qmn]; omega) (by
    rw [ed, Int.sub_self]
    show dv T * ((1 : Nat) : Int) ≤ dv T
    omega)
  rw [← e1] at hle hge
  have hv : dv (FP.f2d x) = dv T := by
    have a : dv (FP.f2d x) ≤ dv T := hle
    have b : dv T ≤ dv (FP.f2d x) := hge
    omega
  have h0 : 0 < dv T := by
    rw [hT.dv]
    exact Int.mul_pos (by omega) (tp_pos _)
  have := uniq hd hT.fin (ps_of_pos hd (by omega)) hT.ps hv
  rw [this]
  exact hT
theorem u32_nI (x : UInt32) : x.toInt32 = nI x.toNat := by
  refine Int32.toBitVec_inj.mp ?_
  show x.toBitVec = BitVec.ofNat 32 x.toNat
  refine BitVec.eq_of_toNat_eq ?_
  rw [BitVec.toNat_ofNat]
  exact (Nat.mod_eq_of_lt x.toNat_lt).symm
theorem lN_shr {n k : Nat} (hn : n < 2 ^ 63) (hk : k < 64) : lN n >>> (lN k &&& 63) = lN (n / 2 ^ k) := by
  refine Int64.toBitVec_inj.mp ?_
  rw [Int64.toBitVec_shiftRight]
  have e : ((lN k &&& 63).toBitVec.smod 64) = BitVec.ofNat 64 k := by
    have : ∀ k, k < 64 → ((lN k &&& 63).toBitVec.smod 64) = BitVec.ofNat 64 k := by decide +kernel
    exact this k hk
  rw [e]
  show BitVec.sshiftRight' (BitVec.ofNat 64 n) (BitVec.ofNat 64 k) = BitVec.ofNat 64 (n / 2 ^ k)
  have m : (BitVec.ofNat 64 n).msb = false := by
    rw [BitVec.msb_eq_false_iff_two_mul_lt, BitVec.toNat_ofNat, Nat.mod_eq_of_lt (by omega)]
    omega
  refine BitVec.eq_of_toNat_eq ?_
  rw [BitVec.sshiftRight_eq', BitVec.sshiftRight_eq_of_msb_false m, BitVec.toNat_ushiftRight, BitVec.toNat_ofNat, BitVec.toNat_ofNat, BitVec.toNat_ofNat, Nat.mod_eq_of_lt (a := k) (by omega), Nat.mod_eq_of_lt (a := n) (by omega), Nat.shiftRight_eq_div_pow, Nat.mod_eq_of_lt]
  exact Nat.lt_of_le_of_lt (Nat.div_le_self _ _) (by omega)
theorem lN_mask {n k : Nat} : lN n &&& lN (2 ^ k - 1) = lN (n % 2 ^ k) := by
  refine Int64.toBitVec_inj.mp ?_
  show BitVec.ofNat 64 n &&& BitVec.ofNat 64 (2 ^ k - 1) = BitVec.ofNat 64 (n % 2 ^ k)
  refine BitVec.eq_of_toNat_eq ?_
  rw [BitVec.toNat_and, BitVec.toNat_ofNat, BitVec.toNat_ofNat, BitVec.toNat_ofNat, ← Nat.and_mod_two_pow, Nat.and_two_pow_sub_one_eq_mod]
theorem nI_or {a b p : Nat} (h : b < 2 ^ p) : nI (2 ^ p * a) ||| nI b = nI (2 ^ p * a + b) := by
  refine Int32.toBitVec_inj.mp ?_
  show BitVec.ofNat 32 (2 ^ p * a) ||| BitVec.ofNat 32 b = BitVec.ofNat 32 (2 ^ p * a + b)
  rw [Nat.two_pow_add_eq_or_of_lt h]
  refine BitVec.eq_of_toNat_eq ?_
  rw [BitVec.toNat_or, BitVec.toNat_ofNat, BitVec.toNat_ofNat, BitVec.toNat_ofNat, Nat.or_mod_two_pow]
section
variable {N : Nat}
/-- the class's bits of a positive float -/
theorem bits_f (hN : 40 ≤ N) {e f : Nat} {x : UInt32} (h : FB e f x) (he : e ≤ 159) : m_X9_bitsOfFloat N x = some x.toInt32 := by
  have hb := f2d_b h
  have hf := h.2.2.2
  have h1 := h.2.1
  have hx := hb.1
  have b1 := bits_pos (N := N) hN hb (by omega)
  rw [u64_lN, hx] at b1
  unfold m_X9_bitsOfFloat
  rw [oD_fin hb.fin, Option.bind_some, b1, Option.bind_some]
  have z1 : ¬ lg_cmp (lN ((e + 896) * 2 ^ 52 + f * 2 ^ 29)) 0 < 0 := by
    rw [cmp_lt, show (lN ((e + 896) * 2 ^ 52 + f * 2 ^ 29)).toInt = (((e + 896) * 2 ^ 52 + f * 2 ^ 29 : Nat) : Int) from lg_ofNat_toInt (by omega)]
    have : (0 : Int64).toInt = 0 := rfl
    omega
  have z2 : 0 < lg_cmp (lN ((e + 896) * 2 ^ 52 + f * 2 ^ 29)) 0 := by
    rw [cmp_gt, show (lN ((e + 896) * 2 ^ 52 + f * 2 ^ 29)).toInt = (((e + 896) * 2 ^ 52 + f * 2 ^ 29 : Nat) : Int) from lg_ofNat_toInt (by omega)]
    have : (0 : Int64).toInt = 0 := rfl
    omega
  generalize lg_cmp (lN ((e + 896) * 2 ^ 52 + f * 2 ^ 29)) 0 = g at *
  rw [if_neg (by intro q; rw [q] at z2; exact absurd z2 (by decide)), if_pos (by rw [Int32.le_iff_toInt_le]; rw [Int32.lt_iff_toInt_lt] at z2; omega)]
  unfold m_X9_bitsOfFloat_J26
  rw [show (52 : Int32).toInt64 = lN 52 from rfl, show (29 : Int32).toInt64 = lN 29 from rfl, lN_shr (by omega) (by omega), lN_shr (by omega) (by omega), show (2047 : Int64) = lN (2 ^ 11 - 1) from rfl, show (8388607 : Int64) = lN (2 ^ 23 - 1) from rfl, lN_mask, lN_mask, lN_i, lN_i]
  rw [show ((e + 896) * 2 ^ 52 + f * 2 ^ 29) / 2 ^ 52 % 2 ^ 11 = e + 896 by omega, show ((e + 896) * 2 ^ 52 + f * 2 ^ 29) / 2 ^ 29 % 2 ^ 23 = f by omega]
  have e1 : nI (e + 896) - 1023 + 127 = nI e := by
    rw [show (1023 : Int32) = nI 127 + nI 896 from rfl, ← nI_add, show (127 : Int32) = nI 127 from rfl]
    simp only [Int32.sub_eq_add_neg, Int32.neg_add]
    rw [Int32.add_comm (-nI 127), ← Int32.add_assoc, Int32.add_assoc (nI e), Int32.add_right_neg, Int32.add_zero, Int32.add_assoc, Int32.add_left_neg, Int32.add_zero]
  have e2 : nI e <<< ((23 : Int32) &&& 31) = nI (e * 2 ^ 23) := pk_shlN _ 23 (by decide) (by omega)
  rw [e1, e2, Nat.mul_comm e, Int32.zero_or, nI_or hf, u32_nI, h.1, Nat.mul_comm e]
theorem bits_f0 (hN : 40 ≤ N) : m_X9_bitsOfFloat N FP.fconst0 = some (FP.fconst0).toInt32 := by
  have e : FP.f2d FP.fconst0 = FP.dconst0 := by decide +kernel
  unfold m_X9_bitsOfFloat
  rw [e, oD_fin zero_fin, Option.bind_some, bits_zero, Option.bind_some, if_pos (by decide)]
  rfl
theorem fib {x : UInt32} (h : FP.Core.FFin x) : m_Jxf58ca_floatToIntBits_5c35a x = some x.toInt32 := by
  have e : m_Jxf58ca_isNaN_12338 x = some 0 := by
    unfold m_Jxf58ca_isNaN_12338
    rw [show FP.fcmp x x = some .eq from FP.Core.fcmp_refl h.notNaN, cv_eq, if_pos rfl]
  unfold m_Jxf58ca_floatToIntBits_5c35a
  rw [e, Option.bind_some, if_pos rfl]
theorem fzero_fin : FP.Core.FFin FP.fconst0 := by rw [FP.Core.fin_bits32]; decide
end
