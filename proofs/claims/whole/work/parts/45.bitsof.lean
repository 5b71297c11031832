-- the class's own bits of doubles and floats are the machine's
theorem i32_step {a b k : Nat} : nI a - nI b + -nI k = nI a - nI (b + k) := by
  rw [← nI_add]
  simp only [Int32.sub_eq_add_neg, Int32.neg_add, Int32.add_assoc]
theorem i32_step1 {a b : Nat} : nI a - nI (b + 1) + 1 = nI a - nI b := by
  rw [← nI_1, Int32.sub_eq_add_neg, Int32.sub_eq_add_neg, Int32.neg_add, Int32.add_assoc, Int32.sub_add_cancel]
section
variable {N : Nat}
theorem b_half {d0 : UInt64} {E f : Nat} : ∀ (n j e : Nat) (x : UInt64), BF e f x → 1023 ≤ e → j ≤ 32 → e + j ≤ 1055 → 32 - j < n → ∃ y, BF 1023 f y ∧ m_X9_bitsOfDouble_L60 N n d0 x (nI (E + 1023) - nI e) (nI j) = m_X9_bitsOfDouble_J90 N d0 y (nI (E + 1023) - nI 1023) := by
  intro n
  induction n with
  | zero => intro j e x _ _ _ _ h; omega
  | succ n ih =>
    intro j e x h he hj hs hn
    unfold m_X9_bitsOfDouble_L60
    by_cases e0 : e = 1023
    · subst e0
      refine ⟨x, h, ?_⟩
      have hc : FP.dcmp x 4611686018427387904 = some .lt := by
        rw [cmp_bits h.fin bf_2.fin h.ps bf_2.ps, compare_lt]
        rw [h.1, bf_2.1]
        have := h.2.2.2
        omega
      by_cases j0 : j = 32
      · subst j0
        rw [if_pos (by decide)]
      · rw [if_neg (by rw [show (32 : Int32) = nI 32 from rfl, nI_leI (by omega) (by omega)]; omega), hc, cv_lt, if_pos (by decide)]
    · have hc : Op.cmpValue (FP.dcmp x 4611686018427387904) CmpOp.l ≥ 0 := by
        rw [cmp_bits h.fin bf_2.fin h.ps bf_2.ps]
        by_cases q : x.toNat = (4611686018427387904 : UInt64).toNat
        · rw [compare_eq (by omega), cv_eq]; decide
        · rw [compare_gt, cv_gt]
          · decide
          · have h1 := h.1
            have h2 := bf_2.1
            omega
      obtain ⟨d1, d2⟩ := div2 h (by omega)
      obtain ⟨y, y1, y2⟩ := ih (j + 1) (e - 1) (FP.ddiv x 4611686018427387904) d2 (by omega) (by omega) (by omega) (by omega)
      refine ⟨y, y1, ?_⟩
      rw [if_neg (by rw [show (32 : Int32) = nI 32 from rfl, nI_leI (by omega) (by omega)]; omega), if_neg (by intro q; exact absurd hc (by simpa using q)), oD_fin d1, Option.bind_some, nI_1]
      have := i32_step1 (a := E + 1023) (b := e - 1)
      rw [show e - 1 + 1 = e by omega] at this
      rw [this]
      exact y2
theorem b_grow {d0 : UInt64} {E f : Nat} (hN : 40 ≤ N) : ∀ (n j e : Nat) (x : UInt64), BF e f x → e ≤ 1055 → j ≤ 32 → 1023 ≤ e + 32 * (32 - j) → 32 - j < n → ∃ y, BF 1023 f y ∧ m_X9_bitsOfDouble_L29 N n d0 x (nI (E + 1023) - nI e) (nI j) = m_X9_bitsOfDouble_J90 N d0 y (nI (E + 1023) - nI 1023) := by
  intro n
  induction n with
  | zero => intro j e x _ _ _ _ h; omega
  | succ n ih =>
    intro j e x h he hj hs hn
    unfold m_X9_bitsOfDouble_L29
    by_cases e0 : 1023 ≤ e
    · obtain ⟨y, y1, y2⟩ := b_half (N := N) (d0 := d0) (E := E) (f := f) N 0 e x h e0 (by omega) (by omega) (by omega)
      refine ⟨y, y1, ?_⟩
      have hc : 0 ≤ Op.cmpValue (FP.dcmp x FP.dconst1) CmpOp.g := by
        rw [cmp_bits h.fin bf_1.fin h.ps bf_1.ps]
        by_cases q : x.toNat = (FP.dconst1 : UInt64).toNat
        · rw [compare_eq (by omega), cv_eq]; decide
        · rw [compare_gt, cv_gt]
          · decide
          · have h1 := h.1
            have h2 := bf_1.1
            omega
      by_cases j0 : j = 32
      · subst j0
        rw [if_pos (by decide)]
        exact y2
      · rw [if_neg (by rw [show (32 : Int32) = nI 32 from rfl, nI_leI (by omega) (by omega)]; omega), if_pos hc]
        exact y2
    · have hc : FP.dcmp x FP.dconst1 = some .lt := by
        rw [cmp_bits h.fin bf_1.fin h.ps bf_1.ps, compare_lt]
        have h1 := h.1
        have h2 := bf_1.1
        have := h.2.2.2
        omega
      obtain ⟨d1, d2⟩ := mul32 h (by omega)
      obtain ⟨y, y1, y2⟩ := ih (j + 1) (e + 32) (FP.dmul x 4751297606875873280) d2 (by omega) (by omega) (by omega) (by omega)
      refine ⟨y, y1, ?_⟩
      rw [if_neg (by rw [show (32 : Int32) = nI 32 from rfl, nI_leI (by omega) (by omega)]; omega), hc, cv_lt, if_neg (by decide), oD_fin d1, Option.bind_some, nI_1]
      rw [show (-32 : Int32) = -nI 32 from rfl, i32_step]
      exact y2
theorem u64_lN (x : UInt64) : x.toInt64 = lN x.toNat := by
  refine Int64.toBitVec_inj.mp ?_
  show x.toBitVec = BitVec.ofNat 64 x.toNat
  refine BitVec.eq_of_toNat_eq ?_
  rw [BitVec.toNat_ofNat]
  exact (Nat.mod_eq_of_lt x.toNat_lt).symm
theorem lN_or {a b p : Nat} (h : b < 2 ^ p) : lN (2 ^ p * a) ||| lN b = lN (2 ^ p * a + b) := by
  refine Int64.toBitVec_inj.mp ?_
  show BitVec.ofNat 64 (2 ^ p * a) ||| BitVec.ofNat 64 b = BitVec.ofNat 64 (2 ^ p * a + b)
  rw [Nat.two_pow_add_eq_or_of_lt h]
  refine BitVec.eq_of_toNat_eq ?_
  rw [BitVec.toNat_or, BitVec.toNat_ofNat, BitVec.toNat_ofNat, BitVec.toNat_ofNat, Nat.or_mod_two_pow]
theorem lN_shl {n k : Nat} (hk : k < 64) : lN n <<< (lN k &&& 63) = lN (n * 2 ^ k) := by
  refine Int64.toBitVec_inj.mp ?_
  rw [Int64.toBitVec_shiftLeft]
  have e : ((lN k &&& 63).toBitVec.smod 64) = BitVec.ofNat 64 k := by
    have : ∀ k, k < 64 → ((lN k &&& 63).toBitVec.smod 64) = BitVec.ofNat 64 k := by decide +kernel
    exact this k hk
  rw [e]
  show BitVec.ofNat 64 n <<< (BitVec.ofNat 64 k).toNat = BitVec.ofNat 64 (n * 2 ^ k)
  refine BitVec.eq_of_toNat_eq ?_
  rw [BitVec.toNat_shiftLeft, BitVec.toNat_ofNat, BitVec.toNat_ofNat, BitVec.toNat_ofNat, Nat.mod_eq_of_lt (a := k) (by omega), Nat.shiftLeft_eq, Nat.mod_mul_mod]
theorem b_last {d0 y : UInt64} {E f : Nat} (h : BF 1023 f y) (hE : E ≤ 2046) (sg : Nat) (hs : sg ≤ 1) (hc : (0 ≤ Op.cmpValue (FP.dcmp d0 FP.dconst0) CmpOp.g) ↔ sg = 0) : m_X9_bitsOfDouble_J90 N d0 y (nI (E + 1023) - nI 1023) = some (lN (sg * 2 ^ 63 + E * 2 ^ 52 + f)) := by
  obtain ⟨f1, f2, f3⟩ := frac h
  have hf := h.2.2.2
  have e1 : nI (E + 1023) - nI 1023 = nI E := by rw [pk_sub (by omega), show E + 1023 - 1023 = E by omega]
  have e2 : (nI E).toInt64 <<< ((52 : Int32).toInt64 &&& 63) = lN (E * 2 ^ 52) := by
    rw [nI_l (by omega), show (52 : Int32).toInt64 = lN 52 from rfl, lN_shl (by omega)]
  unfold m_X9_bitsOfDouble_J90 m_X9_bitsOfDouble_J113
  rw [oD_fin f1, Option.bind_some, oD_fin f2, Option.bind_some, f3, e1, e2]
  have e3 : lN (E * 2 ^ 52) ||| lN f = lN (E * 2 ^ 52 + f) := by
    rw [Nat.mul_comm E]
    exact lN_or hf
  have e4 : ∀ z : Int64, (z ||| lN (E * 2 ^ 52)) ||| lN f = z ||| lN (E * 2 ^ 52 + f) := fun z => by rw [Int64.or_assoc, e3]
  rw [e4, e4]
  have l0 : (0 : Int64) = lN (2 ^ 63 * 0) := by decide
  have l1 : (-9223372036854775808 : Int64) = lN (2 ^ 63 * 1) := by decide
  by_cases q : sg = 0
  · rw [if_pos (hc.mpr q), q, l0]
    have := lN_or (a := 0) (b := E * 2 ^ 52 + f) (p := 63) (by omega)
    rw [this, show 2 ^ 63 * 0 + (E * 2 ^ 52 + f) = 0 * 2 ^ 63 + E * 2 ^ 52 + f by omega]
  · rw [if_neg (fun z => q (hc.mp z)), l1]
    have := lN_or (a := 1) (b := E * 2 ^ 52 + f) (p := 63) (by omega)
    rw [this, show 2 ^ 63 * 1 + (E * 2 ^ 52 + f) = sg * 2 ^ 63 + E * 2 ^ 52 + f by omega]
theorem zero_fin : FP.Core.DFin FP.dconst0 := by rw [FP.Core.fin_bits]; decide
theorem zero_ps : Ps FP.dconst0 := by unfold Ps; decide
/-- the bits of a positive double -/
theorem bits_pos (hN : 40 ≤ N) {E f : Nat} {x : UInt64} (h : BF E f x) (hE : E ≤ 1055) : m_X9_bitsOfDouble N x = some x.toInt64 := by
  have hf := h.2.2.2
  have h0 := h.2.1
  have hx := h.1
  have hc : FP.dcmp x FP.dconst0 = some .gt := by
    rw [cmp_bits h.fin zero_fin h.ps zero_ps, compare_gt]
    have : (FP.dconst0 : UInt64).toNat = 0 := rfl
    omega
  unfold m_X9_bitsOfDouble m_X9_bitsOfDouble_J20
  rw [hc, cv_gt, cv_gt, if_neg (by decide), if_pos (by decide)]
  obtain ⟨y, y1, y2⟩ := b_grow (N := N) (d0 := x) (E := E) (f := f) hN N 0 E x h hE (by omega) (by omega) (by omega)
  have e1 : nI (E + 1023) - nI E = nI 1023 := by rw [pk_sub (by omega), show E + 1023 - E = 1023 by omega]
  rw [e1] at y2
  rw [show (1023 : Int32) = nI 1023 from rfl, show (0 : Int32) = nI 0 from rfl, y2, b_last y1 (by omega) 0 (by omega) (by rw [hc, cv_gt]; exact ⟨fun _ => rfl, fun _ => by decide⟩), u64_lN, hx, show 0 * 2 ^ 63 + E * 2 ^ 52 + f = E * 2 ^ 52 + f by omega]
theorem bits_zero : m_X9_bitsOfDouble N FP.dconst0 = some (FP.dconst0).toInt64 := by
  unfold m_X9_bitsOfDouble
  rw [cmp_bits zero_fin zero_fin zero_ps zero_ps, compare_eq rfl, cv_eq, if_pos rfl]
  rfl
/-- the bits of a negative double -/
theorem bits_neg (hN : 40 ≤ N) {E f : Nat} {x : UInt64} (hx : x.toNat = 2 ^ 63 + E * 2 ^ 52 + f) (h1 : 1 ≤ E) (hE : E ≤ 1055) (hf : f < 2 ^ 52) : m_X9_bitsOfDouble N x = some x.toInt64 := by
  have hfin : FP.Core.DFin x := by rw [FP.Core.fin_bits]; omega
  have hc : FP.dcmp x FP.dconst0 = some .lt := by
    have := FP.Core.dcmp_key (fin_nn hfin) (fin_nn zero_fin)
    have k1 : FP.Core.dkey x = -((E * 2 ^ 52 + f : Nat) : Int) := by
      unfold FP.Core.dkey
      rw [if_pos (by omega)]
      omega
    have k2 : FP.Core.dkey FP.dconst0 = 0 := rfl
    rw [k1, k2, compare_lt (by omega)] at this
    exact this
  have hn : BF E f (FP.dneg x) := by
    refine ⟨?_, h1, by omega, hf⟩
    unfold FP.dneg
    rw [UInt64.toNat_xor, show (0x8000000000000000 : UInt64).toNat = 2 ^ 63 from rfl, hx]
    have := Nat.two_pow_add_eq_or_of_lt (i := 63) (b := E * 2 ^ 52 + f) (by omega) 1
    rw [show 2 ^ 63 + E * 2 ^ 52 + f = 2 ^ 63 * 1 + (E * 2 ^ 52 + f) by omega, this]
    refine Nat.eq_of_testBit_eq fun i => ?_
    rw [Nat.testBit_xor, Nat.testBit_or, Nat.mul_one, Nat.testBit_two_pow]
    by_cases q : 63 = i
    · subst q
      rw [Nat.testBit_lt_two_pow (show E * 2 ^ 52 + f < 2 ^ 63 by omega)]
      rfl
    · rw [decide_eq_false q]
      simp
  unfold m_X9_bitsOfDouble m_X9_bitsOfDouble_J20
  rw [hc, cv_lt, cv_lt, if_neg (by decide), if_neg (by decide)]
  obtain ⟨y, y1, y2⟩ := b_grow (N := N) (d0 := x) (E := E) (f := f) hN N 0 E (FP.dneg x) hn hE (by omega) (by omega) (by omega)
  have e1 : nI (E + 1023) - nI E = nI 1023 := by rw [pk_sub (by omega), show E + 1023 - E = 1023 by omega]
  rw [e1] at y2
  rw [show (1023 : Int32) = nI 1023 from rfl, show (0 : Int32) = nI 0 from rfl, y2, b_last y1 (by omega) 1 (by omega) (by rw [hc, cv_lt]; exact ⟨fun q => absurd q (by decide), fun q => absurd q (by decide)⟩), u64_lN, hx, show 1 * 2 ^ 63 + E * 2 ^ 52 + f = 2 ^ 63 + E * 2 ^ 52 + f by omega]
/-- what the reference takes for the bits -/
theorem dlb {x : UInt64} (h : FP.Core.DFin x) : m_Jxe99ae_doubleToLongBits_ccdee x = some x.toInt64 := by
  have e : m_Jxe99ae_isNaN_b9ae7 x = some 0 := by
    unfold m_Jxe99ae_isNaN_b9ae7
    rw [show FP.dcmp x x = some .eq from FP.Core.dcmp_refl h.notNaN, cv_eq, if_pos rfl]
  unfold m_Jxe99ae_doubleToLongBits_ccdee
  rw [e, Option.bind_some, if_pos rfl]
/-- a double with 0 or a normal number of at most 2^32 -/
theorem bits_Dn (hN : 40 ≤ N) {l : Nat} {h : Int} {x : UInt64} (d : Dn l h x) (hl : 53 ≤ l) (hh : h ≤ tp 1106) : m_X9_bitsOfDouble N x = some x.toInt64 := by
  obtain ⟨d1, d2, d3, d4⟩ := d
  rcases d3 with z | z
  · have : x = FP.dconst0 := uniq d1 zero_fin d2 zero_ps (by rw [z]; exact FP.Core.zval64_zero.symm)
    rw [this]
    exact bits_zero
  · have hu := dv_ps d1 d2
    have hp : x.toNat < 2 ^ 63 := d2
    have lo : 2 ^ 52 ≤ x.toNat := by
      have e := FP.Core.unitsOf_start (f := FP.Core.b64) (K := 1) (by omega)
      rw [FP.Core.tails_b64] at e
      have h2 : FP.Core.unitsOf FP.Core.b64 (1 * 2 ^ 52) ≤ FP.Core.unitsOf FP.Core.b64 x.toNat := by
        rw [e]
        have h3 := tp_mono (a := 52) (b := l) (by omega)
        have h4 : tp 52 = ((2 ^ 52 * 2 ^ (1 - 1) : Nat) : Int) := rfl
        omega
      have := (FP.Core.unitsOf_le_iff (f := FP.Core.b64)).mp h2
      omega
    have hi : x.toNat ≤ 1055 * 2 ^ 52 := by
      have e := FP.Core.unitsOf_start (f := FP.Core.b64) (K := 1055) (by omega)
      rw [FP.Core.tails_b64] at e
      have h2 : FP.Core.unitsOf FP.Core.b64 x.toNat ≤ FP.Core.unitsOf FP.Core.b64 (1055 * 2 ^ 52) := by
        rw [e]
        have h4 : tp 1106 = ((2 ^ 52 * 2 ^ (1055 - 1) : Nat) : Int) := by
          rw [Int.natCast_mul, tp_nat, tp_nat, ← tp_add]
        omega
      exact (FP.Core.unitsOf_le_iff (f := FP.Core.b64)).mp h2
    exact bits_pos hN (E := x.toNat / 2 ^ 52) (f := x.toNat % 2 ^ 52) ⟨by omega, by omega, by omega, by omega⟩ (by omega)
end
