-- who shows, what a fare brings: the values
theorem ge_bits {x : UInt64} {K : Nat} (h : FP.Core.DFin x) (hp : Ps x) (k1 : 1 ≤ K) (hx : K * 2 ^ 52 ≤ x.toNat) : tp (K + 51) ≤ dv x := by
  have e := FP.Core.unitsOf_start (f := FP.Core.b64) (K := K) k1
  rw [FP.Core.tails_b64] at e
  have h2 := (FP.Core.unitsOf_le_iff (f := FP.Core.b64)).mpr hx
  rw [e] at h2
  rw [dv_ps h hp]
  have h4 : tp (K + 51) = ((2 ^ 52 * 2 ^ (K - 1) : Nat) : Int) := by
    rw [Int.natCast_mul, tp_nat, tp_nat, ← tp_add]
    congr 1
    omega
  omega
theorem le_bits {x : UInt64} {K : Nat} (h : FP.Core.DFin x) (hp : Ps x) (k1 : 1 ≤ K) (hx : x.toNat ≤ K * 2 ^ 52) : dv x ≤ tp (K + 51) := by
  have e := FP.Core.unitsOf_start (f := FP.Core.b64) (K := K) k1
  rw [FP.Core.tails_b64] at e
  have h2 := (FP.Core.unitsOf_le_iff (f := FP.Core.b64)).mpr hx
  rw [e] at h2
  rw [dv_ps h hp]
  have h4 : tp (K + 51) = ((2 ^ 52 * 2 ^ (K - 1) : Nat) : Int) := by
    rw [Int.natCast_mul, tp_nat, tp_nat, ← tp_add]
    congr 1
    omega
  omega
theorem fin_nat {x : UInt64} (h : x.toNat < 2047 * 2 ^ 52) : FP.Core.DFin x ∧ Ps x := by
  constructor
  · rw [FP.Core.fin_bits]; omega
  · unfold Ps; omega
/-- positive, between 2^l and h -/
def Dp (l : Nat) (h : Int) (x : UInt64) : Prop := FP.Core.DFin x ∧ Ps x ∧ tp l ≤ dv x ∧ dv x ≤ h
theorem Dp.dn {l : Nat} {h : Int} {x : UInt64} (d : Dp l h x) : Dn l h x := ⟨d.1, d.2.1, Or.inr d.2.2.1, d.2.2.2⟩
theorem Dp.mono {l l2 : Nat} {h h2 : Int} {x : UInt64} (d : Dp l h x) (e1 : l2 ≤ l) (e2 : h ≤ h2) : Dp l2 h2 x := ⟨d.1, d.2.1, Int.le_trans (tp_mono e1) d.2.2.1, Int.le_trans d.2.2.2 e2⟩
theorem Dp.mul {l1 l2 l : Nat} {h1 h2 h : Int} {a b : UInt64} (da : Dp l1 h1 a) (db : Dp l2 h2 b) (hl : l1 + l2 = 1074 + l) (hl2 : l ≤ 2045) (hr : Rp h) (hh : h1 * h2 ≤ h * tp 1074) : Dp l h (FP.dmul a b) := by
  have dd := da.dn.mul db.dn hl hl2 hr hh
  refine ⟨dd.1, dd.2.1, ?_, dd.2.2.2⟩
  obtain ⟨H, H1, H2⟩ := hr
  obtain ⟨L, L1, L2⟩ := rep_tp hl2
  have na := da.dn.nn
  have nb := db.dn.nn
  have hL : dv L * tp 1074 ≤ dv a * dv b := by
    rw [L2, ← tp_add, Nat.add_comm, ← hl, tp_add]
    exact Int.mul_le_mul da.2.2.1 db.2.2.1 (Int.le_of_lt (tp_pos _)) na
  have hu : dv a * dv b ≤ dv H * tp 1074 := by
    rw [H2]
    exact Int.le_trans (Int.mul_le_mul da.2.2.2 db.2.2.2 nb (Int.le_trans na da.2.2.2)) hh
  obtain ⟨r1, r2, r3⟩ := mul_b da.1 db.1 L1 H1 hL hu
  omega
/-- a positive number and one that isn't below 0 -/
theorem Dp.add {l l2 : Nat} {h1 h2 h : Int} {a b : UInt64} (da : Dp l h1 a) (db : Dn l2 h2 b) (hl : l ≤ 2045) (hr : Rp h) (hh : h1 + h2 ≤ h) : Dp l h (FP.dadd a b) := by
  obtain ⟨H, H1, H2⟩ := hr
  obtain ⟨L, L1, L2⟩ := rep_tp hl
  have nb := db.nn
  have ua := da.2.2.1
  have va := da.2.2.2
  have vb := db.2.2.2
  obtain ⟨r1, r2, r3⟩ := add_b da.1 db.1 L1 H1 (by omega) (by omega)
  exact ⟨r1, ps_add da.1 db.1 da.2.1 db.2.1, by omega, by omega⟩
theorem rp_mul {m n : Nat} (hm : m < 2 ^ 53) (hn : n ≤ 2045) : Rp ((m : Int) * tp n) := rep hm hn
theorem rp_tp {n : Nat} (hn : n ≤ 2045) : Rp (tp n) := rep_tp hn
theorem hu_tab : ∀ k, k < 101 → (hundredth k).toNat ≤ 1023 * 2 ^ 52 ∧ (k = 0 → (hundredth k).toNat = 0) ∧ (k = 0 ∨ 1016 * 2 ^ 52 ≤ (hundredth k).toNat) := by decide +kernel
theorem st_tab : ∀ k, k < 51 → (FP.dsub FP.dconst1 (hundredth k)).toNat ≤ 1023 * 2 ^ 52 ∧ 1022 * 2 ^ 52 ≤ (FP.dsub FP.dconst1 (hundredth k)).toNat ∧ ((FP.dsub FP.dconst1 (hundredth k)).toNat = 1023 * 2 ^ 52 ∨ (FP.dsub FP.dconst1 (hundredth k)).toNat ≤ 1022 * 2 ^ 52 + (2 ^ 52 - 2 ^ 46)) := by decide +kernel
theorem hu_dn {k : Nat} (h : k ≤ 100) : Dn 1067 (tp 1074) (hundredth k) := by
  obtain ⟨h1, h2, h3⟩ := hu_tab k (by omega)
  obtain ⟨f, p⟩ := fin_nat (x := hundredth k) (by omega)
  refine ⟨f, p, ?_, le_bits f p (by omega) h1⟩
  rcases h3 with h3 | h3
  · left
    have : hundredth k = FP.dconst0 := UInt64.toNat.inj (h2 h3)
    rw [this]
    exact FP.Core.zval64_zero
  · right
    exact ge_bits f p (by omega) h3
theorem st_dp {k : Nat} (h : k ≤ 50) : Dp 1073 (tp 1074) (FP.dsub FP.dconst1 (hundredth k)) := by
  obtain ⟨h1, h2, h3⟩ := st_tab k (by omega)
  obtain ⟨f, p⟩ := fin_nat (x := FP.dsub FP.dconst1 (hundredth k)) (by omega)
  exact ⟨f, p, ge_bits f p (by omega) h2, le_bits f p (by omega) h1⟩
/-- 1.0, or less by a hundredth and more -/
def One (x : UInt64) : Prop := x = FP.dconst1 ∨ dv x ≤ 127 * tp 1067
theorem st_one {k : Nat} (h : k ≤ 50) : One (FP.dsub FP.dconst1 (hundredth k)) := by
  obtain ⟨h1, h2, h3⟩ := st_tab k (by omega)
  obtain ⟨f, p⟩ := fin_nat (x := FP.dsub FP.dconst1 (hundredth k)) (by omega)
  rcases h3 with h3 | h3
  · left
    exact UInt64.toNat.inj h3
  · right
    rw [dv_ps f p]
    have hb : BF 1022 (2 ^ 52 - 2 ^ 46) (UInt64.ofNat (1022 * 2 ^ 52 + (2 ^ 52 - 2 ^ 46))) := by unfold BF; decide
    have e := hb.dv
    rw [dv_ps hb.fin hb.ps, hb.1] at e
    have h4 := (FP.Core.unitsOf_le_iff (f := FP.Core.b64)).mpr h3
    have e2 : ((2 ^ 52 + (2 ^ 52 - 2 ^ 46) : Nat) : Int) * tp (1022 - 1) = 127 * tp 1067 := by
      rw [show (1067 : Nat) = 46 + 1021 from rfl, tp_add, ← Int.mul_assoc]
      congr 1
    omega
theorem show_dp {P : PL} (h1 : P.rules 1 ≤ 50) (h2 : P.rules 2 ≤ 50) : ∀ t, t ≤ 20 → Dp (1073 - t) (tp 1074) (showD P t) ∧ One (showD P t)
  | 0, _ => ⟨st_dp h2, st_one h2⟩
  | t + 1, h => by
    obtain ⟨i1, i2⟩ := show_dp h1 h2 t (by omega)
    have s1 := st_dp h1
    refine ⟨i1.mul s1 (by omega) (by omega) (rp_tp (by omega)) (Int.le_refl _), ?_⟩
    rcases st_one h1 with z | z
    · have e : showD P (t + 1) = showD P t := by
        show FP.dmul (showD P t) (FP.dsub FP.dconst1 (hundredth (P.rules 1))) = _
        rw [z]
        exact FP.Core.dmul_one (fin_nn i1.1)
      rw [e]
      exact i2
    · right
      obtain ⟨L, L1, L2⟩ := rep_0
      obtain ⟨H, H1, H2⟩ := rep (m := 127) (n := 1067) (by omega) (by omega)
      have n1 := i1.dn.nn
      have n2 := s1.dn.nn
      have hu : dv (showD P t) * dv (FP.dsub FP.dconst1 (hundredth (P.rules 1))) ≤ dv H * tp 1074 := by
        rw [H2, Int.mul_comm (_ * _)]
        exact Int.mul_le_mul i1.2.2.2 z n2 (Int.le_of_lt (tp_pos _))
      obtain ⟨r1, r2, r3⟩ := mul_b i1.1 s1.1 L1 H1 (by rw [L2, Int.zero_mul]; exact Int.mul_nonneg n1 n2) hu
      rw [H2] at r3
      exact r3
/-- what is left of 1.0 -/
theorem miss_dn {l : Nat} {x : UInt64} (h : Dp l (tp 1074) x) (ho : One x) : Dn 1067 (tp 1074) (FP.dsub FP.dconst1 x) := by
  have e1 : dv FP.dconst1 = tp 1074 := by
    rw [bf_1.dv, show ((2 ^ 52 + 0 : Nat) : Int) = tp 52 from rfl, ← tp_add]
  have n := h.dn.nn
  have u := h.2.2.2
  obtain ⟨L, L1, L2⟩ := rep_0
  obtain ⟨H, H1, H2⟩ := rep_tp (l := 1074) (by omega)
  obtain ⟨r1, r2, r3⟩ := sub_b bf_1.fin h.1 L1 H1 (by omega) (by omega)
  have p := ps_sub bf_1.fin h.1 bf_1.ps h.2.1 r1 (by omega)
  refine ⟨r1, p, ?_, by omega⟩
  rcases ho with z | z
  · left
    rw [z]
    obtain ⟨s, c, q, e⟩ := bf_1.fin
    rw [show FP.dsub FP.dconst1 FP.dconst1 = FP.dconst0 from FP.Core.dsub_self e]
    exact FP.Core.zval64_zero
  · right
    obtain ⟨L, L1, L2⟩ := rep_tp (l := 1067) (by omega)
    have e2 : tp 1074 = 128 * tp 1067 := by
      rw [show (1074 : Nat) = 7 + 1067 from rfl, tp_add]
      rfl
    obtain ⟨r1, r2, r3⟩ := sub_b bf_1.fin h.1 L1 H1 (by omega) (by omega)
    omega
theorem keep_dn {k : Nat} (h : k < 4) : Dn 1073 (tp 1074) (keepD k) := by
  have t : ∀ k, k < 4 → (keepD k).toNat ≤ 1023 * 2 ^ 52 ∧ ((keepD k).toNat = 0 ∨ 1022 * 2 ^ 52 ≤ (keepD k).toNat) := by decide +kernel
  obtain ⟨h1, h2⟩ := t k h
  obtain ⟨f, p⟩ := fin_nat (x := keepD k) (by omega)
  refine ⟨f, p, ?_, le_bits f p (by omega) h1⟩
  rcases h2 with h2 | h2
  · left
    have : keepD k = FP.dconst0 := UInt64.toNat.inj h2
    rw [this]
    exact FP.Core.zval64_zero
  · right
    exact ge_bits f p (by omega) h2
theorem i2d_dv {k : Nat} (h : k < 2 ^ 31) : FP.Core.DFin (FP.i2d (nI k)) ∧ dv (FP.i2d (nI k)) = (k : Int) * tp 1074 := by
  have := FP.Core.DInt_zval (FP.Core.i2d_int (nI k))
  rw [nI_toInt h, one_tp] at this
  exact ⟨FP.Core.i2d_fin _, this⟩
theorem i2d_dn {k : Nat} (h : k < 2 ^ 31) : Dn 1074 ((k : Int) * tp 1074) (FP.i2d (nI k)) := by
  obtain ⟨h1, h2⟩ := i2d_dv h
  have tpp := tp_pos 1074
  by_cases z : k = 0
  · subst z
    have : FP.i2d (nI 0) = FP.dconst0 := by decide +kernel
    rw [this]
    exact ⟨zero_fin, zero_ps, Or.inl FP.Core.zval64_zero, by rw [show dv FP.dconst0 = 0 from FP.Core.zval64_zero]; omega⟩
  · have h3 : tp 1074 ≤ (k : Int) * tp 1074 := by
      have := Int.mul_le_mul_of_nonneg_right (a := 1) (b := (k : Int)) (c := tp 1074) (by omega) (by omega)
      omega
    exact ⟨h1, ps_of_pos h1 (by omega), Or.inr (by omega), by omega⟩
theorem net_parts {P : PL} (h1 : P.rules 1 ≤ 50) (h2 : P.rules 2 ≤ 50) {f t : Nat} (ht : t ≤ 20) (hp : 1 ≤ P.price f) (hp2 : P.price f ≤ 9999) (hk : P.kind f < 4) : Dn 1067 (tp 1074) (FP.dsub FP.dconst1 (showD P t)) ∧ Dn 1066 (tp 1074) (FP.dmul (FP.dsub FP.dconst1 (showD P t)) (keepD (P.kind f))) ∧ Dp 1053 (2 * tp 1074) (FP.dadd (showD P t) (FP.dmul (FP.dsub FP.dconst1 (showD P t)) (keepD (P.kind f)))) ∧ Dp 1053 (19998 * tp 1074) (netD P f t) := by
  obtain ⟨i1, i2⟩ := show_dp h1 h2 t ht
  have tpp := tp_pos 1074
  have m1 := miss_dn i1 i2
  have m2 := m1.mul (keep_dn hk) (l := 1066) (by omega) (by omega) (rp_tp (n := 1074) (by omega)) (Int.le_refl _)
  have m3 : Dp 1053 (2 * tp 1074) (FP.dadd (showD P t) (FP.dmul (FP.dsub FP.dconst1 (showD P t)) (keepD (P.kind f)))) :=
    (i1.mono (l2 := 1053) (by omega) (Int.le_refl _)).add m2 (by omega) (rp_mul (m := 2) (by omega) (by omega)) (by omega)
  refine ⟨m1, m2, m3, ?_⟩
  have d := i2d_dn (k := P.price f) (by omega)
  have dp : Dp 1074 (9999 * tp 1074) (FP.i2d (nI (P.price f))) := by
    refine ⟨d.1, d.2.1, ?_, Int.le_trans d.2.2.2 (Int.mul_le_mul_of_nonneg_right (by omega) (by omega))⟩
    rw [(i2d_dv (k := P.price f) (by omega)).2]
    have := Int.mul_le_mul_of_nonneg_right (a := 1) (b := (P.price f : Int)) (c := tp 1074) (by omega) (by omega)
    omega
  refine dp.mul m3 (by omega) (by omega) (rp_mul (m := 19998) (by omega) (by omega)) (Int.le_of_eq ?_)
  rw [Int.mul_assoc, Int.mul_assoc, ← Int.mul_assoc (tp 1074), Int.mul_comm (tp 1074) 2, ← Int.mul_assoc, ← Int.mul_assoc, Int.mul_assoc]
  rfl
