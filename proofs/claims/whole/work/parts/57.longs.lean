-- whole numbers that may go beyond a long
def mulO (a b : Nat) : Option Nat := if a * b < 2 ^ 63 then some (a * b) else none
def addO (a b : Nat) : Option Nat := if a + b < 2 ^ 63 then some (a + b) else none
def enc : Option Nat → Int64
  | none => -6
  | some v => lN v
def VO (x : Option Nat) : Prop := ∀ v, x = some v → v < 2 ^ 63
theorem vo_mul {a b : Nat} : VO (mulO a b) := fun v h => by
  unfold mulO at h
  split at h
  · next e => cases h; exact e
  · cases h
theorem vo_add {a b : Nat} : VO (addO a b) := fun v h => by
  unfold addO at h
  split at h
  · next e => cases h; exact e
  · cases h
theorem vo_none : VO none := fun v h => by cases h
theorem vo_some {a : Nat} (h : a < 2 ^ 63) : VO (some a) := fun v e => by cases e; exact h
theorem vo_bind {x : Option Nat} {f : Nat → Option Nat} (h : ∀ v, VO (f v)) : VO (x.bind f) := by
  cases x with
  | none => exact vo_none
  | some v => exact h v
theorem lNT {n : Nat} (h : n < 2 ^ 63) : (lN n).toInt = (n : Int) := lg_ofNat_toInt h
theorem l0T : (0 : Int64).toInt = 0 := rfl
theorem lg_ge {a b : Int64} : ¬ lg_cmp a b < 0 ↔ b.toInt ≤ a.toInt := by rw [cmp_lt]; omega
theorem lg_le {a b : Int64} : lg_cmp a b ≤ 0 ↔ a.toInt ≤ b.toInt := by
  have h := cmp_gt a b
  rw [Int32.lt_iff_toInt_lt] at h
  rw [Int32.le_iff_toInt_le]
  have : (0 : Int32).toInt = 0 := rfl
  omega
theorem xtimes {x y : Option Nat} (hx : VO x) (hy : VO y) : m_X9_times (enc x) (enc y) = some (enc (x.bind fun a => y.bind fun b => mulO a b)) := by
  unfold m_X9_times
  cases x with
  | none =>
    rw [if_pos (by rw [cmp_lt]; decide)]
    rfl
  | some a =>
    have ha := hx a rfl
    rw [if_neg (by rw [cmp_lt]; show ¬ (lN a).toInt < _; rw [lNT ha, l0T]; omega)]
    cases y with
    | none =>
      rw [if_pos (by rw [cmp_lt]; decide)]
      rfl
    | some b =>
      have hb := hy b rfl
      rw [if_neg (by rw [cmp_lt]; show ¬ (lN b).toInt < _; rw [lNT hb, l0T]; omega)]
      show (if lg_cmp (lN b) 0 = 0 then some (lN a * lN b) else _) = some (enc (mulO a b))
      by_cases b0 : b = 0
      · subst b0
        rw [if_pos (by decide), lN_mul]
        unfold mulO
        rw [if_pos (by omega)]
        rfl
      · have hbz : ¬ lN b = 0 := by
          intro e
          have := congrArg Int64.toInt e
          rw [lNT hb, l0T] at this
          omega
        rw [if_neg (by rw [lgc]; exact hbz), show enc (some b) = lN b from rfl, oif_of hbz, Option.bind_some]
        rw [show (9223372036854775807 : Int64) = lN 9223372036854775807 from rfl, pk_lDiv (by omega) (by omega) hb]
        have hd : 9223372036854775807 / b < 2 ^ 63 := Nat.lt_of_le_of_lt (Nat.div_le_self _ _) (by omega)
        unfold mulO
        by_cases q : a * b < 2 ^ 63
        · rw [if_pos (by rw [lg_le, show enc (some a) = lN a from rfl, lNT ha, lNT hd]; exact Int.ofNat_le.mpr ((Nat.le_div_iff_mul_le (by omega)).mpr (by omega))), if_pos q, show enc (some a) = lN a from rfl, lN_mul]
          rfl
        · rw [if_neg (by rw [lg_le, show enc (some a) = lN a from rfl, lNT ha, lNT hd]; intro z; have := (Nat.le_div_iff_mul_le (by omega)).mp (Int.ofNat_le.mp z); omega), if_neg q]
          rfl
theorem xplus {x y : Option Nat} (hx : VO x) (hy : VO y) : m_X9_plus (enc x) (enc y) = some (enc (x.bind fun a => y.bind fun b => addO a b)) := by
  unfold m_X9_plus
  cases x with
  | none =>
    rw [if_pos (by rw [cmp_lt]; decide)]
    rfl
  | some a =>
    have ha := hx a rfl
    rw [if_neg (by rw [cmp_lt]; show ¬ (lN a).toInt < _; rw [lNT ha, l0T]; omega)]
    cases y with
    | none =>
      rw [if_pos (by rw [cmp_lt]; decide)]
      rfl
    | some b =>
      have hb := hy b rfl
      rw [if_neg (by rw [cmp_lt]; show ¬ (lN b).toInt < _; rw [lNT hb, l0T]; omega)]
      rw [show (9223372036854775807 : Int64) = lN 9223372036854775807 from rfl, show enc (some b) = lN b from rfl, show enc (some a) = lN a from rfl, lN_sub (by omega)]
      unfold Option.bind addO
      simp only
      by_cases q : a + b < 2 ^ 63
      · rw [if_pos (by rw [lg_le, lNT ha, lNT (by omega)]; omega), if_pos q, lN_add]
        rfl
      · rw [if_neg (by rw [lg_le, lNT ha, lNT (by omega)]; omega), if_neg q]
        rfl
/-- a power, one factor after the other -/
def pwO (b : Nat) : Nat → Option Nat
  | 0 => some 1
  | n + 1 => (pwO b n).bind fun p => mulO p b
theorem vo_pw {b : Nat} : ∀ n, VO (pwO b n)
  | 0 => vo_some (by omega)
  | n + 1 => vo_bind fun _ => vo_mul
theorem xpower_go {N b e : Nat} (hb : b < 2 ^ 31) (he : e < 2 ^ 31) : ∀ n j : Nat, j ≤ e → e - j < n → m_X9_power_L5 N n (lN b) (nI e) (enc (pwO b j)) (nI j) = some (enc (pwO b e)) := by
  intro n
  induction n with
  | zero => intro j _ h; omega
  | succ n ih =>
    intro j hj hn
    unfold m_X9_power_L5
    by_cases q : j = e
    · subst q
      rw [if_pos (nI_le (by omega) (by omega))]
    · have ih := ih (j + 1) (by omega) (by omega)
      have t := xtimes (x := pwO b j) (y := some b) (vo_pw j) (vo_some (by omega))
      rw [if_neg (by rw [nI_leI (by omega) (by omega)]; omega), show (lN b) = enc (some b) from rfl, t, Option.bind_some, nI_1]
      exact ih
theorem xpower {N b e : Nat} (hb : b < 2 ^ 31) (he : e < N) (hN : N < 2 ^ 31) : m_X9_power N (lN b) (nI e) = some (enc (pwO b e)) := xpower_go hb (by omega) N 0 (by omega) (by omega)
section
variable {c : CS} {d : MS} {D : mM} {N k : Nat} {a : Int32} {P : PL}
theorem ytimes {a b : Nat} (ha : a < 2 ^ 63) (hb : b < 2 ^ 63) : m_X12_times 100 (lN a) (lN b) (mk c d D) = some (lN (a * b), if a * b < 2 ^ 63 then mk c d D else mk c (d.s_isOver (nI 1)) D) := by
  unfold m_X12_times
  by_cases a0 : a = 0
  · subst a0
    rw [if_pos (by rw [lg_le, lNT (by omega), l0T]; omega), lN_mul, if_pos (by omega)]
  · have haz : ¬ lN a = 0 := by
      intro e
      have := congrArg Int64.toInt e
      rw [lNT ha, l0T] at this
      omega
    have hd : 9223372036854775807 / a < 2 ^ 63 := Nat.lt_of_le_of_lt (Nat.div_le_self _ _) (by omega)
    rw [if_neg (by rw [lg_le, lNT ha, l0T]; omega), oif_of haz, Option.bind_some, show (9223372036854775807 : Int64) = lN 9223372036854775807 from rfl, pk_lDiv (by omega) (by omega) ha]
    by_cases q : a * b < 2 ^ 63
    · rw [if_pos (by rw [lg_le, lNT hb, lNT hd]; exact Int.ofNat_le.mpr ((Nat.le_div_iff_mul_le (by omega)).mpr (by rw [Nat.mul_comm]; omega))), if_pos q, lN_mul]
    · rw [if_neg (by rw [lg_le, lNT hb, lNT hd]; intro z; have := (Nat.le_div_iff_mul_le (by omega)).mp (Int.ofNat_le.mp z); rw [Nat.mul_comm] at this; omega), if_neg q]
      simp only [sZ, Option.bind_some, plit, plit64, nI_add, pk_mul, if_true, if_false, or_true, true_or, oifT, Nat.one_ne_zero, ↓reduceIte, Nat.reduceLT, Nat.reduceLeDiff, Nat.reduceEqDiff, Nat.reduceAdd, Nat.reduceMul, Nat.reduceSub, Nat.reduceDiv, yw_100_15, lN_mul]
theorem yplus {a b : Nat} (ha : a < 2 ^ 63) (hb : b < 2 ^ 63) : m_X12_plus 100 (lN a) (lN b) (mk c d D) = some (lN (a + b), if a + b < 2 ^ 63 then mk c d D else mk c (d.s_isOver (nI 1)) D) := by
  unfold m_X12_plus
  by_cases b0 : b = 0
  · subst b0
    rw [if_pos (by rw [lg_le, lNT (by omega), l0T]; omega), lN_add, if_pos (by omega)]
  · rw [if_neg (by rw [lg_le, lNT hb, l0T]; omega), show (9223372036854775807 : Int64) = lN 9223372036854775807 from rfl, lN_sub (by omega)]
    by_cases q : a + b < 2 ^ 63
    · rw [if_pos (by rw [lg_le, lNT ha, lNT (by omega)]; omega), if_pos q, lN_add]
    · rw [if_neg (by rw [lg_le, lNT ha, lNT (by omega)]; omega), if_neg q]
      simp only [sZ, Option.bind_some, plit, plit64, nI_add, pk_mul, if_true, if_false, or_true, true_or, oifT, Nat.one_ne_zero, ↓reduceIte, Nat.reduceLT, Nat.reduceLeDiff, Nat.reduceEqDiff, Nat.reduceAdd, Nat.reduceMul, Nat.reduceSub, Nat.reduceDiv, yw_100_15, lN_add]
/-- the flag of what has gone beyond a long -/
def flg : Option Nat → Int32
  | none => nI 1
  | some _ => nI 0
theorem ypower_go {b e : Nat} (hb : b < 2 ^ 31) (he : e < 2 ^ 31) : ∀ (n j : Nat) (d : MS) (v : Int64), j ≤ e → e - j < n → d.isOver = flg (pwO b j) → (∀ p, pwO b j = some p → v = lN p) → ∃ (w : Int64), m_X12_power_L5 N n 100 (nI b) (nI e) v (nI j) (mk c d D) = some (w, mk c (d.s_isOver (flg (pwO b e))) D) ∧ w = (match pwO b e with | none => lN 0 | some p => lN p) := by
  intro n
  induction n with
  | zero => intro j d v _ h; omega
  | succ n ih =>
    intro j d v hj hn hf hv
    have hs : pwO b (j + 1) = (pwO b j).bind fun p => mulO p b := rfl
    unfold m_X12_power_L5
    by_cases q : j = e
    · subst q
      cases hp : pwO b j with
      | none =>
        rw [hp] at hf
        have hf : d.isOver = nI 1 := hf
        refine ⟨lN 0, ?_, rfl⟩
        simp (disch := omega) only [Option.bind_some, plit, plit64, nI_add, pk_mul, if_true, if_false, or_true, true_or, oifT, Nat.one_ne_zero, ↓reduceIte, Nat.reduceLT, Nat.reduceLeDiff, Nat.reduceEqDiff, Nat.reduceAdd, Nat.reduceMul, Nat.reduceSub, Nat.reduceDiv, nI_eq, nI_leI, nI_ltI, nI_neg, neg_eq, Nat.le_refl, yr_100_15, hf]
        rw [show d.s_isOver (flg none) = d from by show d.s_isOver (nI 1) = d; rw [← hf]; rfl]
      | some p =>
        rw [hp] at hf
        have hf : d.isOver = nI 0 := hf
        refine ⟨lN p, ?_, rfl⟩
        rw [hv p hp]
        simp (disch := omega) only [Option.bind_some, plit, plit64, nI_add, pk_mul, if_true, if_false, or_true, true_or, oifT, Nat.one_ne_zero, ↓reduceIte, Nat.reduceLT, Nat.reduceLeDiff, Nat.reduceEqDiff, Nat.reduceAdd, Nat.reduceMul, Nat.reduceSub, Nat.reduceDiv, nI_eq, nI_leI, nI_ltI, nI_neg, neg_eq, Nat.le_refl, yr_100_15, hf]
        rw [show d.s_isOver (flg (some p)) = d from by show d.s_isOver (nI 0) = d; rw [← hf]; rfl]
    · cases hp : pwO b j with
      | none =>
        rw [hp] at hf hs
        have hf : d.isOver = nI 1 := hf
        have hs : pwO b (j + 1) = none := hs
        obtain ⟨w, w1, w2⟩ := ih (j + 1) d (lN 0) (by omega) (by omega) (by rw [hs]; exact hf) (fun p hp => by rw [hs] at hp; cases hp)
        refine ⟨w, ?_, w2⟩
        simp (disch := omega) only [m_X12_power_J29, Option.bind_some, plit, plit64, nI_add, pk_mul, if_true, if_false, or_true, true_or, oifT, Nat.one_ne_zero, ↓reduceIte, Nat.reduceLT, Nat.reduceLeDiff, Nat.reduceEqDiff, Nat.reduceAdd, Nat.reduceMul, Nat.reduceSub, Nat.reduceDiv, nI_eq, nI_leI, nI_ltI, nI_neg, neg_eq, show ¬ e ≤ j by omega, yr_100_15, hf]
        exact w1
      | some p =>
        rw [hp] at hf hs
        have hf : d.isOver = nI 0 := hf
        have hs : pwO b (j + 1) = mulO p b := hs
        have hp63 := vo_pw j p hp
        have t := ytimes (c := c) (d := d) (D := D) (a := p) (b := b) hp63 (by omega)
        rw [hv p hp]
        by_cases q2 : p * b < 2 ^ 63
        · rw [if_pos q2] at t
          have e1 : mulO p b = some (p * b) := if_pos q2
          obtain ⟨w, w1, w2⟩ := ih (j + 1) d (lN (p * b)) (by omega) (by omega) (by rw [hs, e1]; exact hf) (fun p2 hp2 => by rw [hs, e1] at hp2; cases hp2; rfl)
          refine ⟨w, ?_, w2⟩
          simp (disch := omega) only [m_X12_power_J29, Option.bind_some, plit, plit64, nI_add, pk_mul, if_true, if_false, or_true, true_or, oifT, Nat.one_ne_zero, ↓reduceIte, Nat.reduceLT, Nat.reduceLeDiff, Nat.reduceEqDiff, Nat.reduceAdd, Nat.reduceMul, Nat.reduceSub, Nat.reduceDiv, nI_eq, nI_leI, nI_ltI, nI_neg, neg_eq, yo_100, yr_100_0, yr_100_1, yr_100_2, yr_100_3, yr_100_4, yr_100_5, yr_100_6, yr_100_7, yr_100_8, yr_100_9, yr_100_10, yr_100_11, yr_100_12, yr_100_13, yr_100_14, yr_100_15, yr_100_16, yr_100_17, yr_100_18, yr_100_19, yr_100_20, yr_100_21, yr_100_22, yr_100_23, yr_100_24, yr_100_25, yr_100_26, yr_100_27, yr_100_28, ya_101, ya_102, ya_103, ya_104, ya_105, ya_106, ya_107, ya_108, ya_109, ya_110, ya_111, ya_112, ya_113, ya_114, ya_115, ya_116, ya_117, ya_118, ya_119, show ¬ e ≤ j by omega, hf, nI_l, t]
          exact w1
        · rw [if_neg q2] at t
          have e1 : mulO p b = none := if_neg q2
          obtain ⟨w, w1, w2⟩ := ih (j + 1) (d.s_isOver (nI 1)) (lN (p * b)) (by omega) (by omega) (by rw [hs, e1]; rfl) (fun p2 hp2 => by rw [hs, e1] at hp2; cases hp2)
          refine ⟨w, ?_, w2⟩
          simp (disch := omega) only [m_X12_power_J29, Option.bind_some, plit, plit64, nI_add, pk_mul, if_true, if_false, or_true, true_or, oifT, Nat.one_ne_zero, ↓reduceIte, Nat.reduceLT, Nat.reduceLeDiff, Nat.reduceEqDiff, Nat.reduceAdd, Nat.reduceMul, Nat.reduceSub, Nat.reduceDiv, nI_eq, nI_leI, nI_ltI, nI_neg, neg_eq, yo_100, yr_100_0, yr_100_1, yr_100_2, yr_100_3, yr_100_4, yr_100_5, yr_100_6, yr_100_7, yr_100_8, yr_100_9, yr_100_10, yr_100_11, yr_100_12, yr_100_13, yr_100_14, yr_100_15, yr_100_16, yr_100_17, yr_100_18, yr_100_19, yr_100_20, yr_100_21, yr_100_22, yr_100_23, yr_100_24, yr_100_25, yr_100_26, yr_100_27, yr_100_28, ya_101, ya_102, ya_103, ya_104, ya_105, ya_106, ya_107, ya_108, ya_109, ya_110, ya_111, ya_112, ya_113, ya_114, ya_115, ya_116, ya_117, ya_118, ya_119, show ¬ e ≤ j by omega, hf, nI_l, t]
          rw [w1]
          rfl
theorem ypower {b e : Nat} (hb : b < 2 ^ 31) (he : e < N) (hN : N < 2 ^ 31) (hf : d.isOver = nI 0) : m_X12_power N 100 (nI b) (nI e) (mk c d D) = some ((match pwO b e with | none => lN 0 | some p => lN p), mk c (d.s_isOver (flg (pwO b e))) D) := by
  obtain ⟨w, w1, w2⟩ := ypower_go (c := c) (D := D) (N := N) hb (e := e) (by omega) N 0 d (lN 1) (by omega) (by omega) hf (fun p hp => by cases hp; rfl)
  rw [w2] at w1
  exact w1
/-- a power, where something has gone beyond a long already -/
theorem ypower1_go {b e : Nat} (he : e < 2 ^ 31) (hf : d.isOver = nI 1) : ∀ (n j : Nat) (v : Int64), j ≤ e → e - j < n → m_X12_power_L5 N n 100 (nI b) (nI e) v (nI j) (mk c d D) = some (lN 0, mk c d D) := by
  intro n
  induction n with
  | zero => intro j v _ h; omega
  | succ n ih =>
    intro j v hj hn
    unfold m_X12_power_L5
    by_cases q : j = e
    · subst q
      simp (disch := omega) only [Option.bind_some, plit, plit64, nI_add, pk_mul, if_true, if_false, or_true, true_or, oifT, Nat.one_ne_zero, ↓reduceIte, Nat.reduceLT, Nat.reduceLeDiff, Nat.reduceEqDiff, Nat.reduceAdd, Nat.reduceMul, Nat.reduceSub, Nat.reduceDiv, nI_eq, nI_leI, nI_ltI, nI_neg, neg_eq, Nat.le_refl, yr_100_15, hf]
    · have := ih (j + 1) (lN 0) (by omega) (by omega)
      simp (disch := omega) only [m_X12_power_J29, Option.bind_some, plit, plit64, nI_add, pk_mul, if_true, if_false, or_true, true_or, oifT, Nat.one_ne_zero, ↓reduceIte, Nat.reduceLT, Nat.reduceLeDiff, Nat.reduceEqDiff, Nat.reduceAdd, Nat.reduceMul, Nat.reduceSub, Nat.reduceDiv, nI_eq, nI_leI, nI_ltI, nI_neg, neg_eq, show ¬ e ≤ j by omega, yr_100_15, hf]
      exact this
theorem ypower1 {b e : Nat} (he : e < N) (hN : N < 2 ^ 31) (hf : d.isOver = nI 1) : m_X12_power N 100 (nI b) (nI e) (mk c d D) = some (lN 0, mk c d D) :=
  ypower1_go (c := c) (D := D) (N := N) (e := e) (by omega) hf N 0 (lN 1) (by omega) (by omega)
end
