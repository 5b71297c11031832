-- the worths' values: 0 or at least 2^-28, and far below 2^32
def hb : Nat → Nat
  | 0 => 0
  | t + 1 => (3 * hb t + 1) / 2 + 10011
theorem hb_le : ∀ t, t ≤ 20 → hb t < 2 ^ 30 := by decide
theorem gt_cmp {x : UInt64} (hx : FP.Core.DFin x) : ¬ Op.cmpValue (FP.dcmp x FP.dconst0) CmpOp.l ≤ 0 ↔ 0 < dv x := by
  have h := FP.Core.dcmp_zval (fin_nn hx) (fin_nn zero_fin)
  have e : FP.Core.zval FP.Core.b64 (FP.Core.val64 FP.dconst0) = 0 := FP.Core.zval64_zero
  rw [e] at h
  have h : FP.dcmp x FP.dconst0 = some (compare (dv x) 0) := h
  rw [h]
  by_cases q : 0 < dv x
  · rw [compare_gt q, cv_gt]
    exact ⟨fun _ => q, fun _ => by decide⟩
  · by_cases q2 : dv x = 0
    · rw [compare_eq q2, cv_eq]
      exact ⟨fun z => absurd (by decide) z, fun z => absurd z q⟩
    · rw [compare_lt (by omega), cv_lt]
      exact ⟨fun z => absurd (by decide) z, fun z => absurd z q⟩
theorem hu_up_tab : ∀ k, k < 101 → FP.Core.unitsOf FP.Core.b64 (hundredth k).toNat * (100 * 2 ^ 40) ≤ k * (2 ^ 40 + 1) * FP.Core.one64 := by decide +kernel
theorem hu_up {k : Nat} (h : k ≤ 100) : dv (hundredth k) * (100 * 2 ^ 40 : Nat) ≤ (k * (2 ^ 40 + 1) : Nat) * tp 1074 := by
  have d := hu_dn h
  rw [dv_ps d.1 d.2.1, ← one_tp, ← Int.natCast_mul, ← Int.natCast_mul]
  exact Int.ofNat_le.mpr (hu_up_tab k (by omega))
/-- a part of a gain -/
theorem term_up {k G : Nat} {g : UInt64} (hk : k ≤ 100) (hG : G < 2 ^ 40) (hg : FP.Core.DFin g) (pg : Ps g) (ug : dv g ≤ (G : Int) * tp 1074) : Dn 0 (((k * G / 100 + 2 : Nat) : Int) * tp 1074) (FP.dmul (hundredth k) g) := by
  have d := hu_dn hk
  have n1 := d.nn
  have n2 := ps_nonneg hg pg
  obtain ⟨L, L1, L2⟩ := rep_0
  have hT : k * G / 100 + 2 < 2 ^ 53 := by
    have : k * G ≤ 100 * G := Nat.mul_le_mul_right _ hk
    omega
  obtain ⟨H, H1, H2⟩ := rep (m := k * G / 100 + 2) (n := 1074) hT (by omega)
  have u := hu_up hk
  have up := tp_pos 1074
  have hu : dv (hundredth k) * dv g ≤ dv H * tp 1074 := by
    rw [H2]
    have a1 : dv (hundredth k) * (100 * 2 ^ 40 : Nat) * dv g ≤ ((k * (2 ^ 40 + 1) : Nat) * tp 1074) * ((G : Int) * tp 1074) :=
      Int.mul_le_mul u ug n2 (Int.le_trans (Int.mul_nonneg n1 (by omega)) u)
    have a2 : ((k * (2 ^ 40 + 1) : Nat) * tp 1074) * ((G : Int) * tp 1074) = ((k * (2 ^ 40 + 1) * G : Nat) : Int) * (tp 1074 * tp 1074) := by
      rw [Int.natCast_mul (k * (2 ^ 40 + 1)) G, Int.mul_assoc, Int.mul_assoc, ← Int.mul_assoc (tp 1074), Int.mul_comm (tp 1074) (G : Int), Int.mul_assoc (G : Int)]
    have a3 : k * (2 ^ 40 + 1) * G ≤ (k * G / 100 + 2) * (100 * 2 ^ 40) := by
      have e1 : k * (2 ^ 40 + 1) * G = (k * G) * (2 ^ 40 + 1) := by rw [Nat.mul_assoc, Nat.mul_comm (2 ^ 40 + 1) G, ← Nat.mul_assoc]
      have e2 : k * G ≤ 100 * G := Nat.mul_le_mul_right _ hk
      rw [e1]
      generalize k * G = z at *
      omega
    have a4 : ((k * (2 ^ 40 + 1) * G : Nat) : Int) * (tp 1074 * tp 1074) ≤ (((k * G / 100 + 2) * (100 * 2 ^ 40) : Nat) : Int) * (tp 1074 * tp 1074) :=
      Int.mul_le_mul_of_nonneg_right (Int.ofNat_le.mpr a3) (Int.mul_nonneg (by omega) (by omega))
    have a5 : dv (hundredth k) * dv g * (100 * 2 ^ 40 : Nat) ≤ (((k * G / 100 + 2 : Nat) : Int) * tp 1074 * tp 1074) * (100 * 2 ^ 40 : Nat) := by
      have b1 : dv (hundredth k) * dv g * (100 * 2 ^ 40 : Nat) = dv (hundredth k) * (100 * 2 ^ 40 : Nat) * dv g := by
        rw [Int.mul_assoc, Int.mul_assoc, Int.mul_comm (dv g)]
      have b2 : (((k * G / 100 + 2 : Nat) : Int) * tp 1074 * tp 1074) * (100 * 2 ^ 40 : Nat) = (((k * G / 100 + 2) * (100 * 2 ^ 40) : Nat) : Int) * (tp 1074 * tp 1074) := by
        rw [Int.natCast_mul (k * G / 100 + 2), Int.mul_assoc, Int.mul_assoc, Int.mul_assoc, Int.mul_comm (tp 1074) ((100 * 2 ^ 40 : Nat) : Int), ← Int.mul_assoc (tp 1074), Int.mul_comm (tp 1074) ((100 * 2 ^ 40 : Nat) : Int), Int.mul_assoc]
      rw [b1, b2]
      rw [a2] at a1
      exact Int.le_trans a1 a4
    exact Int.le_of_mul_le_mul_right a5 (by decide)
  obtain ⟨r1, r2, r3⟩ := mul_b d.1 hg L1 H1 (by rw [L2, Int.zero_mul]; exact Int.mul_nonneg n1 n2) hu
  have p := ps_mul d.1 hg d.2.1 pg
  refine ⟨r1, p, ?_, by omega⟩
  have := ps_nonneg r1 p
  by_cases z : dv (FP.dmul (hundredth k) g) = 0
  · exact Or.inl z
  · right
    have : tp 0 = 1 := rfl
    omega
section
variable {P : PL} {now : Nat → Int32}
/-- a bid and the gains against it -/
theorem bid_ok {l1 l2 K : Nat} {w v : UInt64} (dw : Dn l1 ((K : Int) * tp 1074) w) (dv2 : Dn l2 ((K : Int) * tp 1074) v) (hK : K < 2 ^ 40) : FP.Core.DFin (FP.dsub w v) ∧ -((K : Int) * tp 1074) ≤ dv (FP.dsub w v) ∧ dv (FP.dsub w v) ≤ (K : Int) * tp 1074 := by
  obtain ⟨L, L1, L2⟩ := rep_neg (m := K) (n := 1074) (by omega) (by omega)
  obtain ⟨H, H1, H2⟩ := rep (m := K) (n := 1074) (by omega) (by omega)
  have a1 := dw.nn
  have a2 := dw.2.2.2
  have b1 := dv2.nn
  have b2 := dv2.2.2.2
  obtain ⟨r1, r2, r3⟩ := sub_b dw.1 dv2.1 L1 H1 (by omega) (by omega)
  exact ⟨r1, by omega, by omega⟩
theorem gain_fin (hP : PR P now) {t f K : Nat} (ht : t ≤ 20) (hf : f < P.n) {b : UInt64} (hb : FP.Core.DFin b) (b1 : -((K : Int) * tp 1074) ≤ dv b) (b2 : dv b ≤ (K : Int) * tp 1074) (hK : K < 2 ^ 40) : FP.Core.DFin (FP.dsub (netD P f t) b) ∧ (∀ M : Nat, M < 2 ^ 40 → -((M : Int) * tp 1074) ≤ dv b → dv (FP.dsub (netD P f t) b) ≤ ((19998 + M : Nat) : Int) * tp 1074) ∧ (dv b ≤ 0 → tp 1053 ≤ dv (FP.dsub (netD P f t) b)) := by
  have hn := hP.n
  have d := (net_parts hP.r1 hP.r2 ht (hP.pp hf) (hP.p (by omega)) (hP.k (by omega))).2.2.2
  have n0 := d.dn.nn
  have n1 := d.2.2.1
  have n2 := d.2.2.2
  obtain ⟨L, L1, L2⟩ := rep_neg (m := K) (n := 1074) (by omega) (by omega)
  have up := tp_pos 1074
  have key : ∀ M : Nat, M < 2 ^ 40 → -((M : Int) * tp 1074) ≤ dv b → FP.Core.DFin (FP.dsub (netD P f t) b) ∧ dv (FP.dsub (netD P f t) b) ≤ ((19998 + M : Nat) : Int) * tp 1074 := fun M hM h => by
    obtain ⟨H, H1, H2⟩ := rep (m := 19998 + M) (n := 1074) (by omega) (by omega)
    have e : ((19998 + M : Nat) : Int) * tp 1074 = 19998 * tp 1074 + (M : Int) * tp 1074 := by rw [← Int.add_mul]; rfl
    obtain ⟨r1, r2, r3⟩ := sub_b d.1 hb L1 H1 (by omega) (by omega)
    exact ⟨r1, by omega⟩
  refine ⟨(key K hK b1).1, fun M hM h => (key M hM h).2, fun h => ?_⟩
  obtain ⟨L, L1, L2⟩ := rep_tp (l := 1053) (by omega)
  obtain ⟨H, H1, H2⟩ := rep (m := 19998 + K) (n := 1074) (by omega) (by omega)
  have e : ((19998 + K : Nat) : Int) * tp 1074 = 19998 * tp 1074 + (K : Int) * tp 1074 := by rw [← Int.add_mul]; rfl
  obtain ⟨r1, r2, r3⟩ := sub_b d.1 hb L1 H1 (by omega) (by omega)
  omega
theorem acc_ok (hP : PR P now) {t K W G : Nat} (ht : t < 20) {w b : UInt64} (hK : K < 2 ^ 40) (hG : G < 2 ^ 40) (hW : W < 2 ^ 40) (dw : Dn 1046 ((W : Int) * tp 1074) w) (hb : FP.Core.DFin b) (b1 : -((K : Int) * tp 1074) ≤ dv b) (b2 : dv b ≤ (K : Int) * tp 1074) (bG : ∀ f, f < P.n → dv (FP.dsub (netD P f t) b) ≤ (G : Int) * tp 1074) (bz : dv w = 0 → dv b ≤ 0) : ∀ f, f ≤ P.n → Dn 1046 (((W + osum P.odds (t / 5) f * G / 100 + 2 * f : Nat) : Int) * tp 1074) (accD P (t + 1) b w f) ∧ (0 < dv w → tp 1046 ≤ dv (accD P (t + 1) b w f))
  | 0, _ => ⟨dw.mono (Nat.le_refl _) (Int.mul_le_mul_of_nonneg_right (by omega) (Int.le_of_lt (tp_pos _))), fun h => by
      show tp 1046 ≤ dv w
      rcases dw.2.2.1 with z | z
      · omega
      · exact z⟩
  | f + 1, hf => by
    have hn := hP.n
    obtain ⟨i1, i2⟩ := acc_ok hP ht hK hG hW dw hb b1 b2 bG bz f (by omega)
    have up := tp_pos 1074
    obtain ⟨g1, g2, g3⟩ := gain_fin hP (t := t) (by omega) (f := f) (by omega) hb b1 b2 hK
    have e1 : osum P.odds (t / 5) (f + 1) = osum P.odds (t / 5) f + P.odds f (t / 5) := rfl
    have ho := hP.o (i := f) (j := t / 5) (by omega) (by omega)
    have hos : osum P.odds (t / 5) (f + 1) ≤ 100 := Nat.le_trans (osum_mono hf) (hP.os (by omega))
    have e2 : osum P.odds (t / 5) f * G / 100 + P.odds f (t / 5) * G / 100 ≤ osum P.odds (t / 5) (f + 1) * G / 100 := by
      rw [e1, Nat.add_mul]
      generalize osum P.odds (t / 5) f * G = x
      generalize P.odds f (t / 5) * G = y
      omega
    have e3 : osum P.odds (t / 5) (f + 1) * G ≤ 100 * G := Nat.mul_le_mul_right _ hos
    have hle : ((W + osum P.odds (t / 5) f * G / 100 + 2 * f : Nat) : Int) * tp 1074 + ((P.odds f (t / 5) * G / 100 + 2 : Nat) : Int) * tp 1074 ≤ ((W + osum P.odds (t / 5) (f + 1) * G / 100 + 2 * (f + 1) : Nat) : Int) * tp 1074 := by
      rw [← Int.add_mul]
      exact Int.mul_le_mul_of_nonneg_right (by omega) (by omega)
    have hrp : Rp (((W + osum P.odds (t / 5) (f + 1) * G / 100 + 2 * (f + 1) : Nat) : Int) * tp 1074) := rep (by omega) (by omega)
    unfold accD
    simp only [Nat.add_sub_cancel]
    by_cases q : Op.cmpValue (FP.dcmp (FP.dsub (netD P f t) b) FP.dconst0) CmpOp.l ≤ 0
    · rw [if_pos q]
      exact ⟨i1.mono (Nat.le_refl _) (by
        have : (0 : Int) ≤ ((P.odds f (t / 5) * G / 100 + 2 : Nat) : Int) * tp 1074 := Int.mul_nonneg (by omega) (by omega)
        omega), i2⟩
    · rw [if_neg q]
      have gp := (gt_cmp g1).mp q
      have gs := ps_of_pos g1 gp
      have d := term_up (k := P.odds f (t / 5)) ho hG g1 gs (bG f (by omega))
      by_cases z : dv w = 0
      · -- against a bid that isn't above 0 each part is 0 or no less than 2^-28
        have gd : Dp 1053 ((G : Int) * tp 1074) (FP.dsub (netD P f t) b) := ⟨g1, gs, g3 (bz z), bG f (by omega)⟩
        have d2 : Dn 1046 (((P.odds f (t / 5) * G / 100 + 2 : Nat) : Int) * tp 1074) (FP.dmul (hundredth (P.odds f (t / 5))) (FP.dsub (netD P f t) b)) := by
          refine ⟨d.1, d.2.1, ?_, d.2.2.2⟩
          have := (hu_dn ho).mul gd.dn (l := 1046) (h := ((100 * G : Nat) : Int) * tp 1074) (by omega) (by omega) (rep (by omega) (by omega)) (by
            have : (0 : Int) ≤ (G : Int) * tp 1074 := Int.mul_nonneg (by omega) (by omega)
            rw [Int.mul_comm]
            refine Int.mul_le_mul_of_nonneg_right ?_ (by omega)
            exact Int.mul_le_mul_of_nonneg_right (by omega) (by omega))
          exact this.2.2.1
        exact ⟨i1.add d2 (by omega) hrp hle, fun h => by omega⟩
      · have wp : 0 < dv w := by have := dw.nn; omega
        have i3 := i2 wp
        obtain ⟨H, H1, H2⟩ := hrp
        obtain ⟨L, L1, L2⟩ := rep_tp (l := 1046) (by omega)
        have dn := d.nn
        have du := d.2.2.2
        have iu := i1.2.2.2
        obtain ⟨r1, r2, r3⟩ := add_b i1.1 d.1 L1 H1 (by omega) (by omega)
        exact ⟨⟨r1, ps_add i1.1 d.1 i1.2.1 d.2.1, Or.inr (by omega), by omega⟩, fun _ => by omega⟩
/-- how a bid and a worth lie to each other: what the sum comes to -/
theorem split_ok {h : Nat} {w v : UInt64} (dw : Dn 1046 (((2 * h : Nat) : Int) * tp 1074) w) (dv2 : Dn 1046 (((2 * h : Nat) : Int) * tp 1074) v) (hh : h < 2 ^ 36) : ∃ W M : Nat, W ≤ 2 * h ∧ M ≤ 2 * h ∧ W + M ≤ 3 * h ∧ dv w ≤ (W : Int) * tp 1074 ∧ -((M : Int) * tp 1074) ≤ dv (FP.dsub w v) := by
  have up := tp_pos 1074
  have a1 := dw.nn
  have a2 := dw.2.2.2
  have b1 := dv2.nn
  have b2 := dv2.2.2.2
  obtain ⟨H, H1, H2⟩ := rep (m := 2 * h) (n := 1074) (by omega) (by omega)
  have e2 : ((2 * h : Nat) : Int) * tp 1074 = 2 * ((h : Int) * tp 1074) := by rw [Int.natCast_mul, Int.mul_assoc]; rfl
  by_cases c : (h : Int) * tp 1074 ≤ dv w
  · obtain ⟨L, L1, L2⟩ := rep_neg (m := h) (n := 1074) (by omega) (by omega)
    obtain ⟨r1, r2, r3⟩ := sub_b dw.1 dv2.1 L1 H1 (by omega) (by omega)
    exact ⟨2 * h, h, by omega, by omega, by omega, a2, by omega⟩
  · obtain ⟨L, L1, L2⟩ := rep_neg (m := 2 * h) (n := 1074) (by omega) (by omega)
    obtain ⟨r1, r2, r3⟩ := sub_b dw.1 dv2.1 L1 H1 (by omega) (by omega)
    exact ⟨h, 2 * h, by omega, by omega, by omega, by omega, by omega⟩
theorem zero_dn {l K : Nat} : Dn l ((K : Int) * tp 1074) FP.dconst0 := ⟨zero_fin, zero_ps, Or.inl FP.Core.zval64_zero, by
  rw [show dv FP.dconst0 = 0 from FP.Core.zval64_zero]
  exact Int.mul_nonneg (by omega) (Int.le_of_lt (tp_pos _))⟩
/-- all that is worked out on the way to a worth is a number -/
theorem step_ok (hP : PR P now) {t h : Nat} (ht : t < 20) (hh : h < 2 ^ 36) {w v : UInt64} (dw : Dn 1046 (((2 * h : Nat) : Int) * tp 1074) w) (dv2 : Dn 1046 (((2 * h : Nat) : Int) * tp 1074) v) : FP.Core.DFin (FP.dsub w v) ∧ (∀ f, f < P.n → FP.Core.DFin (FP.dsub (netD P f t) (FP.dsub w v))) ∧ (∀ f, f ≤ P.n → Dn 1046 (((3 * h + 20010 : Nat) : Int) * tp 1074) (accD P (t + 1) (FP.dsub w v) w f)) ∧ (∀ f, f < P.n → ¬ Op.cmpValue (FP.dcmp (FP.dsub (netD P f t) (FP.dsub w v)) FP.dconst0) CmpOp.l ≤ 0 → FP.Core.DFin (FP.dmul (hundredth (P.odds f (t / 5))) (FP.dsub (netD P f t) (FP.dsub w v)))) := by
  have hn := hP.n
  have up := tp_pos 1074
  obtain ⟨W, M, w1, w2, w3, w4, w5⟩ := split_ok dw dv2 hh
  obtain ⟨b0, b1, b2⟩ := bid_ok dw dv2 (by omega)
  have gf := fun f (hf : f < P.n) => gain_fin hP (t := t) (by omega) (f := f) hf b0 b1 b2 (by omega)
  have bG : ∀ f, f < P.n → dv (FP.dsub (netD P f t) (FP.dsub w v)) ≤ ((19998 + M : Nat) : Int) * tp 1074 := fun f hf => (gf f hf).2.1 M (by omega) w5
  refine ⟨b0, fun f hf => (gf f hf).1, fun f hf => ?_, fun f hf q => ?_⟩
  · have := (acc_ok hP ht (K := 2 * h) (W := W) (G := 19998 + M) (by omega) (by omega) (by omega) ⟨dw.1, dw.2.1, dw.2.2.1, w4⟩ b0 b1 b2 bG (fun z => by
      obtain ⟨L, L1, L2⟩ := rep_0
      obtain ⟨K, K1, K2⟩ := rep_neg (m := 2 * h) (n := 1074) (by omega) (by omega)
      have nn := dv2.nn
      have uu := dv2.2.2.2
      obtain ⟨r1, r2, r3⟩ := sub_b dw.1 dv2.1 K1 L1 (by omega) (by omega)
      omega) f hf).1
    refine this.mono (Nat.le_refl _) (Int.mul_le_mul_of_nonneg_right ?_ (by omega))
    have ho : osum P.odds (t / 5) f ≤ 100 := Nat.le_trans (osum_mono hf) (hP.os (by omega))
    have e3 : osum P.odds (t / 5) f * (19998 + M) ≤ 100 * (19998 + M) := Nat.mul_le_mul_right _ ho
    generalize osum P.odds (t / 5) f * (19998 + M) = x at *
    omega
  · have gp := (gt_cmp (gf f hf).1).mp q
    exact (term_up (k := P.odds f (t / 5)) (hP.o (by omega) (by omega)) (G := 19998 + M) (by omega) (gf f hf).1 (ps_of_pos (gf f hf).1 gp) (bG f hf)).1
theorem wd_dn (hP : PR P now) : ∀ t s, t ≤ 20 → Dn 1046 (((2 * hb t : Nat) : Int) * tp 1074) (WD P t s)
  | 0, s, _ => zero_dn
  | t + 1, 0, _ => zero_dn
  | t + 1, s + 1, ht => by
    have i1 := wd_dn hP t (s + 1) (by omega)
    have i2 := wd_dn hP t s (by omega)
    have hl := hb_le t (by omega)
    have := (step_ok hP (t := t) (by omega) (h := hb t) (by omega) i1 i2).2.2.1 P.n (Nat.le_refl _)
    refine this.mono (Nat.le_refl _) (Int.mul_le_mul_of_nonneg_right ?_ (Int.le_of_lt (tp_pos _)))
    have e : hb (t + 1) = (3 * hb t + 1) / 2 + 10011 := rfl
    omega
end
