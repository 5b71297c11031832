-- chances by values
def stepR (b : Nat) (r : Nat → UInt64) (m c : UInt64) (k : Nat) : UInt64 := if k = 0 then FP.dmul (r 0) m else if k = b then FP.dmul (r (b - 1)) c else if k < b then FP.dadd (FP.dmul (r k) m) (FP.dmul (r (k - 1)) c) else r k
def chD (cs : Nat → UInt64) : Nat → Nat → UInt64
  | 0, k => if k = 0 then FP.dconst1 else FP.dconst0
  | b + 1, k => stepR (b + 1) (chD cs b) (FP.dsub FP.dconst1 (cs (b + 1))) (cs (b + 1)) k
/-- a chance of one more to show, or to ask -/
def Cf (x : UInt64) : Prop := Dn 1053 (tp 1074) x ∧ Dn 1067 (tp 1074) (FP.dsub FP.dconst1 x)
theorem zero_dnh {l : Nat} {h : Int} (hh : 0 ≤ h) : Dn l h FP.dconst0 := ⟨zero_fin, zero_ps, Or.inl FP.Core.zval64_zero, by
  rw [show dv FP.dconst0 = 0 from FP.Core.zval64_zero]
  exact hh⟩
theorem one_dv : dv FP.dconst1 = tp 1074 := by
  rw [bf_1.dv, show ((2 ^ 52 + 0 : Nat) : Int) = tp 52 from rfl, ← tp_add]
theorem hu_cf {k : Nat} (h : k ≤ 100) : Cf (hundredth k) := by
  have d := hu_dn h
  refine ⟨d.mono (by omega) (Int.le_refl _), ?_⟩
  have t : ∀ k, k < 101 → (FP.dsub FP.dconst1 (hundredth k)).toNat ≤ 1023 * 2 ^ 52 ∧ ((FP.dsub FP.dconst1 (hundredth k)).toNat = 0 ∨ 1016 * 2 ^ 52 ≤ (FP.dsub FP.dconst1 (hundredth k)).toNat) := by decide +kernel
  obtain ⟨h1, h2⟩ := t k (by omega)
  obtain ⟨f, p⟩ := fin_nat (x := FP.dsub FP.dconst1 (hundredth k)) (by omega)
  refine ⟨f, p, ?_, le_bits f p (by omega) h1⟩
  rcases h2 with h2 | h2
  · left
    have : FP.dsub FP.dconst1 (hundredth k) = FP.dconst0 := UInt64.toNat.inj h2
    rw [this]
    exact FP.Core.zval64_zero
  · right
    exact ge_bits f p (by omega) h2
theorem show_cf {P : PL} (h1 : P.rules 1 ≤ 50) (h2 : P.rules 2 ≤ 50) {t : Nat} (ht : t ≤ 20) : Cf (showD P t) := by
  obtain ⟨i1, i2⟩ := show_dp h1 h2 t ht
  exact ⟨i1.dn.mono (by omega) (Int.le_refl _), miss_dn i1 i2⟩
/-- both parts in 2^20ths, rounded up -/
theorem cf_grid {x : UInt64} (h : Cf x) : ∃ A B : Nat, A + B = 2 ^ 20 + 1 ∧ dv (FP.dsub FP.dconst1 x) ≤ (A : Int) * tp 1054 ∧ dv x ≤ (B : Int) * tp 1054 := by
  obtain ⟨⟨f1, p1, -, u1⟩, ⟨f2, p2, -, u2⟩⟩ := h
  have n1 := ps_nonneg f1 p1
  have gp := tp_pos 1054
  have e : tp 1074 = (2 ^ 20 : Nat) * tp 1054 := by rw [show (1074 : Nat) = 20 + 1054 from rfl, tp_add, tp_nat]
  have q0 : 0 ≤ dv x / tp 1054 := Int.ediv_nonneg n1 (by omega)
  have q1 : dv x / tp 1054 * tp 1054 ≤ dv x := Int.ediv_mul_le _ (by omega)
  have q2 : dv x < (dv x / tp 1054 + 1) * tp 1054 := by
    have := Int.lt_ediv_add_one_mul_self (dv x) gp
    exact this
  generalize dv x / tp 1054 = q at *
  obtain ⟨Q, rfl⟩ := Int.eq_ofNat_of_zero_le q0
  have hQ : Q ≤ 2 ^ 20 := by
    have h3 : (Q : Int) * tp 1054 ≤ (2 ^ 20 : Nat) * tp 1054 := by omega
    exact Int.ofNat_le.mp (Int.le_of_mul_le_mul_right h3 gp)
  refine ⟨2 ^ 20 - Q, Q + 1, by omega, ?_, by
    have : ((Q + 1 : Nat) : Int) * tp 1054 = ((Q : Int) + 1) * tp 1054 := by rw [Int.natCast_add]; rfl
    omega⟩
  obtain ⟨L, L1, L2⟩ := rep_0
  obtain ⟨H, H1, H2⟩ := rep (m := 2 ^ 20 - Q) (n := 1054) (by omega) (by omega)
  have e2 : ((2 ^ 20 - Q : Nat) : Int) * tp 1054 = tp 1074 - (Q : Int) * tp 1054 := by
    rw [Int.natCast_sub hQ, Int.sub_mul, e]
  have o := one_dv
  obtain ⟨r1, r2, r3⟩ := sub_b bf_1.fin f1 L1 H1 (by omega) (by omega)
  omega
theorem dn_h {l : Nat} {h h2 : Int} {x : UInt64} (d : Dn l h x) (e : dv x ≤ h2) : Dn l h2 x := ⟨d.1, d.2.1, d.2.2.1, e⟩
theorem ch_step {b R : Nat} (hb : b < 40) (hR : R ≤ 2 ^ 21) {r : Nat → UInt64} {x : UInt64} (hx : Cf x) (hr : ∀ k, Dn (1074 - 21 * b) ((R : Int) * tp 1054) (r k)) : (∀ k, FP.Core.DFin (FP.dmul (r k) (FP.dsub FP.dconst1 x))) ∧ (∀ k, FP.Core.DFin (FP.dmul (r k) x)) ∧ (∀ k j, FP.Core.DFin (FP.dadd (FP.dmul (r k) (FP.dsub FP.dconst1 x)) (FP.dmul (r j) x))) ∧ ∀ k, Dn (1074 - 21 * (b + 1)) (((R + 2 : Nat) : Int) * tp 1054) (stepR (b + 1) r (FP.dsub FP.dconst1 x) x k) := by
  obtain ⟨A, B, ab, a1, b1⟩ := cf_grid hx
  have gp := tp_pos 1054
  have pp := tp_pos 1034
  have g2 : tp 1054 * tp 1054 = tp 1034 * tp 1074 := by rw [← tp_add, ← tp_add]
  have e20 : tp 1054 = (2 ^ 20 : Nat) * tp 1034 := by rw [show (1054 : Nat) = 20 + 1034 from rfl, tp_add, tp_nat]
  have key : ∀ (Z : Nat) (z : UInt64), Z ≤ 2 ^ 20 + 1 → Dn 1053 ((Z : Int) * tp 1054) z → ∀ k, Dn (1074 - 21 * (b + 1)) (((R * Z : Nat) : Int) * tp 1034) (FP.dmul (r k) z) := fun Z z hZ dz k => by
    have hm : R * Z < 2 ^ 53 := by
      have : R * Z ≤ 2 ^ 21 * (2 ^ 20 + 1) := Nat.mul_le_mul hR hZ
      omega
    refine (hr k).mul dz (by omega) (by omega) (rep hm (by omega)) (Int.le_of_eq ?_)
    rw [Int.natCast_mul, Int.mul_assoc, Int.mul_assoc, ← g2, ← Int.mul_assoc (tp 1054), Int.mul_comm (tp 1054) (Z : Int), Int.mul_assoc (Z : Int), ← Int.mul_assoc (R : Int) (Z : Int)]
  have dA : Dn 1053 ((A : Int) * tp 1054) (FP.dsub FP.dconst1 x) := dn_h (hx.2.mono (by omega) (Int.le_refl _)) a1
  have dB : Dn 1053 ((B : Int) * tp 1054) x := dn_h hx.1 b1
  have kA := key A _ (by omega) dA
  have kB := key B _ (by omega) dB
  have hsum : R * A + R * B ≤ (R + 2) * 2 ^ 20 := by
    rw [← Nat.mul_add, ab]
    omega
  have eS : ((R + 2 : Nat) : Int) * tp 1054 = (((R + 2) * 2 ^ 20 : Nat) : Int) * tp 1034 := by rw [e20, Int.natCast_mul, Int.mul_assoc]
  have kS : ∀ k j, Dn (1074 - 21 * (b + 1)) (((R + 2 : Nat) : Int) * tp 1054) (FP.dadd (FP.dmul (r k) (FP.dsub FP.dconst1 x)) (FP.dmul (r j) x)) := fun k j => by
    refine (kA k).add (kB j) (by omega) (rep (by omega) (by omega)) ?_
    rw [eS, ← Int.add_mul]
    exact Int.mul_le_mul_of_nonneg_right (by omega) (by omega)
  refine ⟨fun k => (kA k).1, fun k => (kB k).1, fun k j => (kS k j).1, fun k => ?_⟩
  have uA : ((R * A : Nat) : Int) * tp 1034 ≤ ((R + 2 : Nat) : Int) * tp 1054 := by
    rw [eS]
    exact Int.mul_le_mul_of_nonneg_right (by omega) (by omega)
  have uB : ((R * B : Nat) : Int) * tp 1034 ≤ ((R + 2 : Nat) : Int) * tp 1054 := by
    rw [eS]
    exact Int.mul_le_mul_of_nonneg_right (by omega) (by omega)
  unfold stepR
  split
  · exact (kA 0).mono (Nat.le_refl _) uA
  · split
    · exact (kB _).mono (Nat.le_refl _) uB
    · split
      · exact kS _ _
      · exact (hr k).mono (by omega) (Int.mul_le_mul_of_nonneg_right (by omega) (by omega))
theorem ch_dn {cs : Nat → UInt64} : ∀ b, b ≤ 40 → (∀ n, 1 ≤ n → n ≤ b → Cf (cs n)) → ∀ k, Dn (1074 - 21 * b) (((2 ^ 20 + 2 * b : Nat) : Int) * tp 1054) (chD cs b k)
  | 0, _, _, k => by
    unfold chD
    split
    · refine ⟨bf_1.fin, bf_1.ps, Or.inr (by rw [one_dv]; exact Int.le_refl _), ?_⟩
      rw [one_dv, show (1074 : Nat) = 20 + 1054 from rfl, tp_add, ← tp_nat]
      exact Int.le_refl _
    · exact zero_dnh (Int.mul_nonneg (by omega) (Int.le_of_lt (tp_pos _)))
  | b + 1, h, hc, k => (ch_step (b := b) (R := 2 ^ 20 + 2 * b) (by omega) (by omega) (hc (b + 1) (by omega) (Nat.le_refl _)) (ch_dn b (by omega) (fun n h1 h2 => hc n h1 (by omega)))).2.2.2 k
/-- rows of chances -/
def Rw (r : Nat → UInt64) : Prop := ∀ k, Dn 234 (((2 ^ 20 + 80 : Nat) : Int) * tp 1054) (r k)
theorem ch_rw {cs : Nat → UInt64} {b : Nat} (hb : b ≤ 40) (hc : ∀ n, 1 ≤ n → n ≤ b → Cf (cs n)) : Rw (chD cs b) := fun k => (ch_dn b hb hc k).mono (by omega) (Int.mul_le_mul_of_nonneg_right (by omega) (Int.le_of_lt (tp_pos _)))
def exD (r : Nat → UInt64) (s : Nat) : Nat → UInt64
  | 0 => FP.dconst0
  | j + 1 => FP.dadd (exD r s j) (FP.dmul (FP.i2d (nI (j + 1))) (r (s + (j + 1))))
def suD (r : Nat → UInt64) (s : Nat) : Nat → UInt64
  | 0 => FP.dconst0
  | j + 1 => FP.dadd (suD r s j) (FP.dmul (FP.i2d (nI (min j s))) (r j))
theorem part_dn {r : Nat → UInt64} (hr : Rw r) {q k : Nat} (hq : q ≤ 40) : Dn 234 (((40 * (2 ^ 20 + 80) : Nat) : Int) * tp 1054) (FP.dmul (FP.i2d (nI q)) (r k)) := by
  have gp := tp_pos 1074
  have d := (i2d_dn (k := q) (by omega)).mono (Nat.le_refl 1074) (h2 := (40 : Int) * tp 1074) (Int.mul_le_mul_of_nonneg_right (by omega) (by omega))
  refine d.mul (hr k) (by omega) (by omega) (rep (by omega) (by omega)) (Int.le_of_eq ?_)
  rw [Int.natCast_mul, Int.mul_assoc, Int.mul_comm (tp 1074), Int.mul_assoc, ← Int.mul_assoc (40 : Int)]
  rw [Int.mul_assoc, Int.mul_assoc, Int.mul_assoc]
  rfl
theorem ex_dn {r : Nat → UInt64} (hr : Rw r) (s : Nat) : ∀ j, j ≤ 40 → Dn 234 (((j * (40 * (2 ^ 20 + 80)) : Nat) : Int) * tp 1054) (exD r s j)
  | 0, _ => zero_dnh (Int.mul_nonneg (by omega) (Int.le_of_lt (tp_pos _)))
  | j + 1, h => by
    refine (ex_dn hr s j (by omega)).add (part_dn hr (q := j + 1) (by omega)) (by omega) (rep (by omega) (by omega)) ?_
    rw [← Int.add_mul]
    exact Int.mul_le_mul_of_nonneg_right (by omega) (Int.le_of_lt (tp_pos _))
theorem su_dn {r : Nat → UInt64} (hr : Rw r) {s : Nat} (hs : s ≤ 30) : ∀ j, j ≤ 41 → Dn 234 (((j * (40 * (2 ^ 20 + 80)) : Nat) : Int) * tp 1054) (suD r s j)
  | 0, _ => zero_dnh (Int.mul_nonneg (by omega) (Int.le_of_lt (tp_pos _)))
  | j + 1, h => by
    refine (su_dn hr hs j (by omega)).add (part_dn hr (q := min j s) (by omega)) (by omega) (rep (by omega) (by omega)) ?_
    rw [← Int.add_mul]
    exact Int.mul_le_mul_of_nonneg_right (by omega) (Int.le_of_lt (tp_pos _))
/-- HAD, of a row of b's chances -/
def hadD (P : PL) (f b : Nat) (r : Nat → UInt64) : UInt64 := FP.dsub (FP.dmul (suD r (P.rules 0) (b + 1)) (FP.i2d (nI (P.price f)))) (FP.dmul (exD r (P.rules 0) (b - P.rules 0)) (FP.i2d (nI (P.rules 3))))
theorem money_dn {j q : Nat} {x : UInt64} (hj : j ≤ 41) (hq : q ≤ 9999) (d : Dn 234 (((j * (40 * (2 ^ 20 + 80)) : Nat) : Int) * tp 1054) x) : Dn 234 (((41 * (40 * (2 ^ 20 + 80)) * 9999 : Nat) : Int) * tp 1054) (FP.dmul x (FP.i2d (nI q))) := by
  have gp := tp_pos 1074
  have g5 := tp_pos 1054
  have e := (i2d_dn (k := q) (by omega)).mono (Nat.le_refl 1074) (h2 := (9999 : Int) * tp 1074) (Int.mul_le_mul_of_nonneg_right (by omega) (by omega))
  have d2 := d.mono (Nat.le_refl 234) (h2 := ((41 * (40 * (2 ^ 20 + 80)) : Nat) : Int) * tp 1054) (Int.mul_le_mul_of_nonneg_right (by omega) (by omega))
  refine d2.mul e (by omega) (by omega) (rep (by omega) (by omega)) (Int.le_of_eq ?_)
  rw [Int.natCast_mul (41 * (40 * (2 ^ 20 + 80))) 9999, Int.mul_assoc, Int.mul_assoc, ← Int.mul_assoc (tp 1054), Int.mul_comm (tp 1054) 9999, Int.mul_assoc, Int.mul_assoc]
  rfl
theorem had_parts {P : PL} {r : Nat → UInt64} {f b : Nat} (hr : Rw r) (h0 : P.rules 0 ≤ 30) (h3 : P.rules 3 ≤ 9999) (hp : P.price f ≤ 9999) (hb : b ≤ 40) : Dn 234 (((41 * (40 * (2 ^ 20 + 80)) * 9999 : Nat) : Int) * tp 1054) (FP.dmul (suD r (P.rules 0) (b + 1)) (FP.i2d (nI (P.price f)))) ∧ Dn 234 (((41 * (40 * (2 ^ 20 + 80)) * 9999 : Nat) : Int) * tp 1054) (FP.dmul (exD r (P.rules 0) (b - P.rules 0)) (FP.i2d (nI (P.rules 3)))) :=
  ⟨money_dn (by omega) hp (su_dn hr h0 (b + 1) (by omega)), money_dn (by omega) h3 (ex_dn hr (P.rules 0) (b - P.rules 0) (by omega))⟩
/-- a number of at least 2^l is a whole count of 2^(l - 52) -/
theorem dn_grid {l : Nat} {h : Int} {x : UInt64} (d : Dn l h x) (hl : 53 ≤ l) : ∃ z : Int, dv x = z * tp (l - 52) := by
  obtain ⟨d1, d2, d3, d4⟩ := d
  rcases d3 with z | z
  · exact ⟨0, by rw [z]; simp⟩
  · have hu := dv_ps d1 d2
    have hfin := (FP.Core.fin_bits x).mp d1
    have hp : x.toNat < 2 ^ 63 := d2
    have lo : (l - 51) * 2 ^ 52 ≤ x.toNat := by
      have e := FP.Core.unitsOf_start (f := FP.Core.b64) (K := l - 51) (by omega)
      rw [FP.Core.tails_b64] at e
      refine (FP.Core.unitsOf_le_iff (f := FP.Core.b64)).mp ?_
      rw [e]
      have h4 : tp l = ((2 ^ 52 * 2 ^ (l - 51 - 1) : Nat) : Int) := by
        rw [Int.natCast_mul, tp_nat, tp_nat, ← tp_add]
        congr 1
        omega
      omega
    have hb : BF (x.toNat / 2 ^ 52) (x.toNat % 2 ^ 52) x := ⟨by omega, by omega, by omega, by omega⟩
    refine ⟨((2 ^ 52 + x.toNat % 2 ^ 52 : Nat) : Int) * tp (x.toNat / 2 ^ 52 - 1 - (l - 52)), ?_⟩
    rw [hb.dv, Int.mul_assoc, ← tp_add, show x.toNat / 2 ^ 52 - 1 - (l - 52) + (l - 52) = x.toNat / 2 ^ 52 - 1 by omega]
section
variable {N : Nat}
/-- the bits of a difference of such numbers -/
theorem bits_sub (hN : 40 ≤ N) {H : Nat} {a b : UInt64} (da : Dn 234 ((H : Int) * tp 1054) a) (db : Dn 234 ((H : Int) * tp 1054) b) (hH : H < 2 ^ 52) : FP.Core.DFin (FP.dsub a b) ∧ m_X9_bitsOfDouble N (FP.dsub a b) = some (FP.dsub a b).toInt64 := by
  have na := da.nn
  have nb := db.nn
  have ua := da.2.2.2
  have ub := db.2.2.2
  obtain ⟨L, L1, L2⟩ := rep_neg (m := H) (n := 1054) (by omega) (by omega)
  obtain ⟨K, K1, K2⟩ := rep (m := H) (n := 1054) (by omega) (by omega)
  obtain ⟨r1, r2, r3⟩ := sub_b da.1 db.1 L1 K1 (by omega) (by omega)
  refine ⟨r1, ?_⟩
  have up : (H : Int) * tp 1054 ≤ tp 1106 := by
    rw [show (1106 : Nat) = 52 + 1054 from rfl, tp_add]
    refine Int.mul_le_mul_of_nonneg_right ?_ (Int.le_of_lt (tp_pos _))
    have : tp 52 = ((2 ^ 52 : Nat) : Int) := rfl
    omega
  obtain ⟨za, ea⟩ := dn_grid da (by omega)
  obtain ⟨zb, eb⟩ := dn_grid db (by omega)
  have gp := tp_pos (234 - 52)
  have ed : dv a - dv b = (za - zb) * tp (234 - 52) := by rw [ea, eb, Int.sub_mul]
  by_cases z0 : za = zb
  · have hz : dv a = dv b := by rw [ea, eb, z0]
    have p := sub_nz da.1 db.1 da.2.1 db.2.1 hz
    obtain ⟨Z, Z1, Z2⟩ := rep_0
    obtain ⟨s1, s2, s3⟩ := sub_b da.1 db.1 Z1 Z1 (by omega) (by omega)
    exact bits_Dn hN (l := 182) (h := tp 1106) ⟨r1, p, Or.inl (by omega), by have := tp_pos 1106; omega⟩ (by omega) (Int.le_refl _)
  · by_cases zp : zb < za
    · have h1 : tp (234 - 52) ≤ dv a - dv b := by
        rw [ed]
        have := Int.mul_le_mul_of_nonneg_right (a := 1) (b := za - zb) (c := tp (234 - 52)) (by omega) (by omega)
        omega
      obtain ⟨Z, Z1, Z2⟩ := rep_tp (l := 234 - 52) (by omega)
      obtain ⟨s1, s2, s3⟩ := sub_b da.1 db.1 Z1 K1 (by omega) (by omega)
      exact bits_Dn hN (l := 182) (h := tp 1106) ⟨r1, ps_of_pos r1 (by omega), Or.inr (by rw [Z2] at s2; exact s2), by omega⟩ (by omega) (Int.le_refl _)
    · have h1 : dv a - dv b ≤ -tp (234 - 52) := by
        rw [ed]
        have := Int.mul_le_mul_of_nonneg_right (a := za - zb) (b := -1) (c := tp (234 - 52)) (by omega) (by omega)
        omega
      obtain ⟨Z, Z1, Z2⟩ := rep_neg (m := 1) (n := 234 - 52) (by omega) (by omega)
      obtain ⟨s1, s2, s3⟩ := sub_b da.1 db.1 L1 Z1 (by omega) (by omega)
      -- the same number without its sign
      generalize hx : FP.dsub a b = x at *
      have hneg : dv x ≤ -tp 182 := by
        rw [Z2] at s3
        have e3 : -(((1 : Nat) : Int) * tp (234 - 52)) = -tp 182 := by rw [show ((1 : Nat) : Int) = 1 from rfl, Int.one_mul]
        omega
      have p182 := tp_pos 182
      have hs : 2 ^ 63 ≤ x.toNat := by
        have := FP.Core.zval_nonneg (fin_nn r1)
        have e3 : FP.Core.zval FP.Core.b64 (FP.Core.val64 x) = dv x := rfl
        rw [e3] at this
        by_cases q : x.toNat < 2 ^ 63
        · have := this q; omega
        · omega
      have hm := FP.Core.zmag_bits (fin_nn r1)
      have hsg : FP.Core.sgn (FP.Core.val64 x) = true := by rw [FP.Core.sgn_bits (fin_nn r1), decide_eq_true hs]
      have hd : dv x = -((FP.Core.unitsOf FP.Core.b64 (x.toNat % 2 ^ 63) : Nat) : Int) := by
        unfold dv FP.Core.zval
        rw [hsg, hm]
        rfl
      have hlt := x.toNat_lt
      have lo : 2 ^ 52 ≤ x.toNat % 2 ^ 63 := by
        have e := FP.Core.unitsOf_start (f := FP.Core.b64) (K := 1) (by omega)
        rw [FP.Core.tails_b64] at e
        have := (FP.Core.unitsOf_le_iff (f := FP.Core.b64) (m := 1 * 2 ^ 52) (k := x.toNat % 2 ^ 63)).mp (by
          rw [e]
          have h3 := tp_mono (a := 52) (b := 182) (by omega)
          have h4 : tp 52 = ((2 ^ 52 * 2 ^ (1 - 1) : Nat) : Int) := rfl
          omega)
        omega
      have hi : x.toNat % 2 ^ 63 ≤ 1055 * 2 ^ 52 := by
        have e := FP.Core.unitsOf_start (f := FP.Core.b64) (K := 1055) (by omega)
        rw [FP.Core.tails_b64] at e
        refine (FP.Core.unitsOf_le_iff (f := FP.Core.b64)).mp ?_
        rw [e]
        have h4 : tp 1106 = ((2 ^ 52 * 2 ^ (1055 - 1) : Nat) : Int) := by
          rw [Int.natCast_mul, tp_nat, tp_nat, ← tp_add]
        omega
      exact bits_neg hN (E := x.toNat % 2 ^ 63 / 2 ^ 52) (f := x.toNat % 2 ^ 63 % 2 ^ 52) (by omega) (by omega) (by omega) (by omega)
end
