-- worth, worthShort, taken, kept, limit, judge
section
variable {c : CS} {d : MS} {D : mM} {N k : Nat} {a : Int32} {P : PL}
theorem wd_bits (hP : PR P d.now) (hN : 100 ≤ N) {t s : Nat} (ht : t ≤ 20) : m_X9_bitsOfDouble N (WD P t s) = some (WD P t s).toInt64 ∧ m_Jxe99ae_doubleToLongBits_ccdee (WD P t s) = some (WD P t s).toInt64 := by
  have dd := wd_dn hP t s ht
  have hl := hb_le t ht
  refine ⟨bits_Dn (N := N) (by omega) dd (by omega) ?_, dlb dd.1⟩
  have e : tp 1106 = ((2 ^ 32 : Nat) : Int) * tp 1074 := by rw [show (1106 : Nat) = 32 + 1074 from rfl, tp_add, tp_nat]
  rw [e]
  exact Int.mul_le_mul_of_nonneg_right (by omega) (Int.le_of_lt (tp_pos _))
theorem wd_short (hP : PR P d.now) (hN : 100 ≤ N) {t s : Nat} (ht : t ≤ 20) : oF (FP.d2f (WD P t s)) = some (FP.d2f (WD P t s)) ∧ m_X9_bitsOfFloat N (FP.d2f (WD P t s)) = some (FP.d2f (WD P t s)).toInt32 ∧ m_Jxf58ca_floatToIntBits_5c35a (FP.d2f (WD P t s)) = some (FP.d2f (WD P t s)).toInt32 := by
  have dd := wd_dn hP t s ht
  have hl := hb_le t ht
  rcases dd.2.2.1 with z | z
  · have e : WD P t s = FP.dconst0 := uniq dd.1 zero_fin dd.2.1 zero_ps (by rw [z]; exact FP.Core.zval64_zero.symm)
    have e2 : FP.d2f FP.dconst0 = FP.fconst0 := by decide +kernel
    rw [e, e2]
    exact ⟨oF_fin fzero_fin, bits_f0 (by omega), fib fzero_fin⟩
  · obtain ⟨e, f, h1, h2, h3⟩ := d2f_b dd.1 (eL := 99) (eH := 159) (by omega) (by omega) (by omega) (by omega) z (by
      have e : tp (159 + 947) = ((2 ^ 32 : Nat) : Int) * tp 1074 := by rw [show (159 + 947 : Nat) = 32 + 1074 from rfl, tp_add, tp_nat]
      rw [e]
      exact Int.le_trans dd.2.2.2 (Int.mul_le_mul_of_nonneg_right (by omega) (Int.le_of_lt (tp_pos _))))
    exact ⟨oF_fin h1.fin, bits_f (by omega) h1 h3, fib h1.fin⟩
theorem isSeat_in (hP : PR P d.now) {s : Nat} (h : s ≤ P.rules 0) : m_X12_isSeat 100 (nI s) (mk c d D) = some (nI 1) := by
  have h0 := hP.r0
  have e := in_in (k := s) (lo := 0) (hi := P.rules 0) (by omega) h
  rw [nI_l (by omega)] at e
  simp (disch := omega) only [m_X12_isSeat, Option.bind_some, plit, plit64, nI_add, pk_mul, if_true, if_false, or_true, true_or, oifT, Nat.one_ne_zero, ↓reduceIte, Nat.reduceLT, Nat.reduceLeDiff, Nat.reduceEqDiff, Nat.reduceAdd, Nat.reduceMul, Nat.reduceSub, Nat.reduceDiv, yo_100, yr_100_0, yr_100_1, yr_100_2, yr_100_3, yr_100_4, yr_100_5, yr_100_6, yr_100_7, yr_100_8, yr_100_9, yr_100_10, yr_100_11, yr_100_12, yr_100_13, yr_100_14, yr_100_15, yr_100_16, yr_100_17, yr_100_18, yr_100_19, yr_100_20, yr_100_21, yr_100_22, yr_100_23, yr_100_24, yr_100_25, yr_100_26, yr_100_27, yr_100_28, ya_101, ya_102, ya_103, ya_104, ya_105, ya_106, ya_107, ya_108, ya_109, ya_110, ya_111, ya_112, ya_113, ya_114, ya_115, ya_116, ya_117, ya_118, ya_119, hP.r0_, nI_l, e]
theorem isSeat_out (hP : PR P d.now) {x : Int32} (h : x.toInt < 0 ∨ (P.rules 0 : Int) < x.toInt) : m_X12_isSeat 100 x (mk c d D) = some (nI 0) := by
  have h0 := hP.r0
  have e := in_out (x := x) (lo := 0) (hi := P.rules 0) (by omega)
  simp (disch := omega) only [m_X12_isSeat, Option.bind_some, plit, plit64, nI_add, pk_mul, if_true, if_false, or_true, true_or, oifT, Nat.one_ne_zero, ↓reduceIte, Nat.reduceLT, Nat.reduceLeDiff, Nat.reduceEqDiff, Nat.reduceAdd, Nat.reduceMul, Nat.reduceSub, Nat.reduceDiv, yo_100, yr_100_0, yr_100_1, yr_100_2, yr_100_3, yr_100_4, yr_100_5, yr_100_6, yr_100_7, yr_100_8, yr_100_9, yr_100_10, yr_100_11, yr_100_12, yr_100_13, yr_100_14, yr_100_15, yr_100_16, yr_100_17, yr_100_18, yr_100_19, yr_100_20, yr_100_21, yr_100_22, yr_100_23, yr_100_24, yr_100_25, yr_100_26, yr_100_27, yr_100_28, ya_101, ya_102, ya_103, ya_104, ya_105, ya_106, ya_107, ya_108, ya_109, ya_110, ya_111, ya_112, ya_113, ya_114, ya_115, ya_116, ya_117, ya_118, ya_119, true_or, hP.r0_, nI_l, e]
theorem p_worth (h : RR c d D) (hN : 100 ≤ N) (a b : Int32) : ∃ r c' d', m_X11_worth N 10 a b (mk c d D) = some (r, mk c' d D) ∧ m_X12_worth N 100 a b (mk c' d D) = some (r, mk c' d' D) ∧ RR c' d' D := by
  have hP := h.1
  have h0 := hP.r0
  rcases rg a 20 with ⟨t, ht, rfl⟩ | ha
  · have e1 := wi_in (k := t) (m := 20) ht
    have e2 := isStage_in ht
    rcases rg b (c.pl.rules 0) with ⟨s, hs, rfl⟩ | hb
    · have e3 := wi_in (k := s) (m := c.pl.rules 0) hs
      have e4 := fun c2 : CS => isSeat_in (c := c2) (D := D) hP hs
      obtain ⟨r, m, k, r1, r2, r3⟩ := xrow (d := d) (D := D) hN hP h.2.2.2.1 ht
      have r3 := r3 s hs
      obtain ⟨w, w1, w2⟩ := yreck (c := ((c.s_rows r).s_nets m).s_made k) (D := D) hN hP ht
      have w3 := w2 t (Nat.le_refl _) s hs
      have w4 := fun c2 : CS => yworthOf (c := c2) (d := d.s_worths w) (D := D) (t := t) (s := s) ht (by omega)
      simp only [pMS_worths] at w4
      obtain ⟨b1, b2⟩ := wd_bits (s := s) hP hN ht
      refine ⟨(WD c.pl t s).toInt64, ((c.s_rows r).s_nets m).s_made k, d.s_worths w, ?_, ?_, h.wr r2⟩
      · simp (disch := omega) only [m_X11_worth, Option.bind_some, plit, plit64, nI_add, pk_mul, if_true, if_false, or_true, true_or, oifT, Nat.one_ne_zero, ↓reduceIte, Nat.reduceLT, Nat.reduceLeDiff, Nat.reduceEqDiff, Nat.reduceAdd, Nat.reduceMul, Nat.reduceSub, Nat.reduceDiv, nI_eq, nI_leI, nI_ltI, nI_neg, neg_eq, yo_10, yr_10_0, yr_10_1, yr_10_2, yr_10_3, yr_10_4, yr_10_5, yr_10_6, yr_10_7, yr_10_8, yr_10_9, yr_10_10, yr_10_11, yo_11, yr_11_0, yr_11_1, yr_11_2, yr_11_3, yr_11_4, yn_13, ya_13, yo_14, yr_14_0, yr_14_1, yr_14_2, yr_14_3, ya_15, ya_16, e1, e3, yo_49, r1, yra, pCS_made, pCS_nets, pCS_rows, r3, b1]
      · simp (disch := omega) only [m_X12_worth, Option.bind_some, plit, plit64, nI_add, pk_mul, if_true, if_false, or_true, true_or, oifT, Nat.one_ne_zero, ↓reduceIte, Nat.reduceLT, Nat.reduceLeDiff, Nat.reduceEqDiff, Nat.reduceAdd, Nat.reduceMul, Nat.reduceSub, Nat.reduceDiv, nI_eq, nI_leI, nI_ltI, nI_neg, neg_eq, yo_100, yr_100_0, yr_100_1, yr_100_2, yr_100_3, yr_100_4, yr_100_5, yr_100_6, yr_100_7, yr_100_8, yr_100_9, yr_100_10, yr_100_11, yr_100_12, yr_100_13, yr_100_14, yr_100_15, yr_100_16, yr_100_17, yr_100_18, yr_100_19, yr_100_20, yr_100_21, yr_100_22, yr_100_23, yr_100_24, yr_100_25, yr_100_26, yr_100_27, yr_100_28, ya_101, ya_102, ya_103, ya_104, ya_105, ya_106, ya_107, ya_108, ya_109, ya_110, ya_111, ya_112, ya_113, ya_114, ya_115, ya_116, ya_117, ya_118, ya_119, e2, e4, w1, w4, w3, b2]
    · have e3 := wi_out (x := b) (m := c.pl.rules 0) hb
      have e4 := isSeat_out (c := c) (D := D) hP hb
      refine ⟨-9223372036854775808, c, d, ?_, ?_, h⟩
      · simp (disch := omega) only [m_X11_worth, Option.bind_some, plit, plit64, nI_add, pk_mul, if_true, if_false, or_true, true_or, oifT, Nat.one_ne_zero, ↓reduceIte, Nat.reduceLT, Nat.reduceLeDiff, Nat.reduceEqDiff, Nat.reduceAdd, Nat.reduceMul, Nat.reduceSub, Nat.reduceDiv, nI_eq, nI_leI, nI_ltI, nI_neg, neg_eq, yo_10, yr_10_0, yr_10_1, yr_10_2, yr_10_3, yr_10_4, yr_10_5, yr_10_6, yr_10_7, yr_10_8, yr_10_9, yr_10_10, yr_10_11, yo_11, yr_11_0, yr_11_1, yr_11_2, yr_11_3, yr_11_4, yn_13, ya_13, yo_14, yr_14_0, yr_14_1, yr_14_2, yr_14_3, ya_15, ya_16, e1, e3]
      · simp (disch := omega) only [m_X12_worth, Option.bind_some, plit, plit64, nI_add, pk_mul, if_true, if_false, or_true, true_or, oifT, Nat.one_ne_zero, ↓reduceIte, Nat.reduceLT, Nat.reduceLeDiff, Nat.reduceEqDiff, Nat.reduceAdd, Nat.reduceMul, Nat.reduceSub, Nat.reduceDiv, nI_eq, nI_leI, nI_ltI, nI_neg, neg_eq, yo_100, yr_100_0, yr_100_1, yr_100_2, yr_100_3, yr_100_4, yr_100_5, yr_100_6, yr_100_7, yr_100_8, yr_100_9, yr_100_10, yr_100_11, yr_100_12, yr_100_13, yr_100_14, yr_100_15, yr_100_16, yr_100_17, yr_100_18, yr_100_19, yr_100_20, yr_100_21, yr_100_22, yr_100_23, yr_100_24, yr_100_25, yr_100_26, yr_100_27, yr_100_28, ya_101, ya_102, ya_103, ya_104, ya_105, ya_106, ya_107, ya_108, ya_109, ya_110, ya_111, ya_112, ya_113, ya_114, ya_115, ya_116, ya_117, ya_118, ya_119, e2, e4]
  · have e1 := wi_out (x := a) (m := 20) ha
    have e2 := isStage_out ha
    refine ⟨-9223372036854775808, c, d, ?_, ?_, h⟩
    · simp (disch := omega) only [m_X11_worth, Option.bind_some, plit, plit64, nI_add, pk_mul, if_true, if_false, or_true, true_or, oifT, Nat.one_ne_zero, ↓reduceIte, Nat.reduceLT, Nat.reduceLeDiff, Nat.reduceEqDiff, Nat.reduceAdd, Nat.reduceMul, Nat.reduceSub, Nat.reduceDiv, nI_eq, nI_leI, nI_ltI, nI_neg, neg_eq, yo_10, yr_10_0, yr_10_1, yr_10_2, yr_10_3, yr_10_4, yr_10_5, yr_10_6, yr_10_7, yr_10_8, yr_10_9, yr_10_10, yr_10_11, yo_11, yr_11_0, yr_11_1, yr_11_2, yr_11_3, yr_11_4, yn_13, ya_13, yo_14, yr_14_0, yr_14_1, yr_14_2, yr_14_3, ya_15, ya_16, e1]
    · simp (disch := omega) only [m_X12_worth, Option.bind_some, plit, plit64, nI_add, pk_mul, if_true, if_false, or_true, true_or, oifT, Nat.one_ne_zero, ↓reduceIte, Nat.reduceLT, Nat.reduceLeDiff, Nat.reduceEqDiff, Nat.reduceAdd, Nat.reduceMul, Nat.reduceSub, Nat.reduceDiv, nI_eq, nI_leI, nI_ltI, nI_neg, neg_eq, yo_100, yr_100_0, yr_100_1, yr_100_2, yr_100_3, yr_100_4, yr_100_5, yr_100_6, yr_100_7, yr_100_8, yr_100_9, yr_100_10, yr_100_11, yr_100_12, yr_100_13, yr_100_14, yr_100_15, yr_100_16, yr_100_17, yr_100_18, yr_100_19, yr_100_20, yr_100_21, yr_100_22, yr_100_23, yr_100_24, yr_100_25, yr_100_26, yr_100_27, yr_100_28, ya_101, ya_102, ya_103, ya_104, ya_105, ya_106, ya_107, ya_108, ya_109, ya_110, ya_111, ya_112, ya_113, ya_114, ya_115, ya_116, ya_117, ya_118, ya_119, e2]
theorem p_worthShort (h : RR c d D) (hN : 100 ≤ N) (a b : Int32) : ∃ r c' d', m_X11_worthShort N 10 a b (mk c d D) = some (r, mk c' d D) ∧ m_X12_worthShort N 100 a b (mk c' d D) = some (r, mk c' d' D) ∧ RR c' d' D := by
  have hP := h.1
  have h0 := hP.r0
  rcases rg a 20 with ⟨t, ht, rfl⟩ | ha
  · have e1 := wi_in (k := t) (m := 20) ht
    have e2 := isStage_in ht
    rcases rg b (c.pl.rules 0) with ⟨s, hs, rfl⟩ | hb
    · have e3 := wi_in (k := s) (m := c.pl.rules 0) hs
      have e4 := fun c2 : CS => isSeat_in (c := c2) (D := D) hP hs
      obtain ⟨r, m, k, r1, r2, r3⟩ := xrow (d := d) (D := D) hN hP h.2.2.2.1 ht
      have r3 := r3 s hs
      obtain ⟨w, w1, w2⟩ := yreck (c := ((c.s_rows r).s_nets m).s_made k) (D := D) hN hP ht
      have w3 := w2 t (Nat.le_refl _) s hs
      have w4 := fun c2 : CS => yworthOf (c := c2) (d := d.s_worths w) (D := D) (t := t) (s := s) ht (by omega)
      simp only [pMS_worths] at w4
      obtain ⟨b0, b1, b2⟩ := wd_short (s := s) hP hN ht
      refine ⟨(FP.d2f (WD c.pl t s)).toInt32, ((c.s_rows r).s_nets m).s_made k, d.s_worths w, ?_, ?_, h.wr r2⟩
      · simp (disch := omega) only [m_X11_worthShort, Option.bind_some, plit, plit64, nI_add, pk_mul, if_true, if_false, or_true, true_or, oifT, Nat.one_ne_zero, ↓reduceIte, Nat.reduceLT, Nat.reduceLeDiff, Nat.reduceEqDiff, Nat.reduceAdd, Nat.reduceMul, Nat.reduceSub, Nat.reduceDiv, nI_eq, nI_leI, nI_ltI, nI_neg, neg_eq, yo_10, yr_10_0, yr_10_1, yr_10_2, yr_10_3, yr_10_4, yr_10_5, yr_10_6, yr_10_7, yr_10_8, yr_10_9, yr_10_10, yr_10_11, yo_11, yr_11_0, yr_11_1, yr_11_2, yr_11_3, yr_11_4, yn_13, ya_13, yo_14, yr_14_0, yr_14_1, yr_14_2, yr_14_3, ya_15, ya_16, e1, e3, yo_49, r1, yra, pCS_made, pCS_nets, pCS_rows, r3, b0, b1]
      · simp (disch := omega) only [m_X12_worthShort, Option.bind_some, plit, plit64, nI_add, pk_mul, if_true, if_false, or_true, true_or, oifT, Nat.one_ne_zero, ↓reduceIte, Nat.reduceLT, Nat.reduceLeDiff, Nat.reduceEqDiff, Nat.reduceAdd, Nat.reduceMul, Nat.reduceSub, Nat.reduceDiv, nI_eq, nI_leI, nI_ltI, nI_neg, neg_eq, yo_100, yr_100_0, yr_100_1, yr_100_2, yr_100_3, yr_100_4, yr_100_5, yr_100_6, yr_100_7, yr_100_8, yr_100_9, yr_100_10, yr_100_11, yr_100_12, yr_100_13, yr_100_14, yr_100_15, yr_100_16, yr_100_17, yr_100_18, yr_100_19, yr_100_20, yr_100_21, yr_100_22, yr_100_23, yr_100_24, yr_100_25, yr_100_26, yr_100_27, yr_100_28, ya_101, ya_102, ya_103, ya_104, ya_105, ya_106, ya_107, ya_108, ya_109, ya_110, ya_111, ya_112, ya_113, ya_114, ya_115, ya_116, ya_117, ya_118, ya_119, e2, e4, w1, w4, w3, b0, b2]
    · have e3 := wi_out (x := b) (m := c.pl.rules 0) hb
      have e4 := isSeat_out (c := c) (D := D) hP hb
      refine ⟨-nI 1, c, d, ?_, ?_, h⟩
      · simp (disch := omega) only [m_X11_worthShort, Option.bind_some, plit, plit64, nI_add, pk_mul, if_true, if_false, or_true, true_or, oifT, Nat.one_ne_zero, ↓reduceIte, Nat.reduceLT, Nat.reduceLeDiff, Nat.reduceEqDiff, Nat.reduceAdd, Nat.reduceMul, Nat.reduceSub, Nat.reduceDiv, nI_eq, nI_leI, nI_ltI, nI_neg, neg_eq, yo_10, yr_10_0, yr_10_1, yr_10_2, yr_10_3, yr_10_4, yr_10_5, yr_10_6, yr_10_7, yr_10_8, yr_10_9, yr_10_10, yr_10_11, yo_11, yr_11_0, yr_11_1, yr_11_2, yr_11_3, yr_11_4, yn_13, ya_13, yo_14, yr_14_0, yr_14_1, yr_14_2, yr_14_3, ya_15, ya_16, e1, e3]
      · simp (disch := omega) only [m_X12_worthShort, Option.bind_some, plit, plit64, nI_add, pk_mul, if_true, if_false, or_true, true_or, oifT, Nat.one_ne_zero, ↓reduceIte, Nat.reduceLT, Nat.reduceLeDiff, Nat.reduceEqDiff, Nat.reduceAdd, Nat.reduceMul, Nat.reduceSub, Nat.reduceDiv, nI_eq, nI_leI, nI_ltI, nI_neg, neg_eq, yo_100, yr_100_0, yr_100_1, yr_100_2, yr_100_3, yr_100_4, yr_100_5, yr_100_6, yr_100_7, yr_100_8, yr_100_9, yr_100_10, yr_100_11, yr_100_12, yr_100_13, yr_100_14, yr_100_15, yr_100_16, yr_100_17, yr_100_18, yr_100_19, yr_100_20, yr_100_21, yr_100_22, yr_100_23, yr_100_24, yr_100_25, yr_100_26, yr_100_27, yr_100_28, ya_101, ya_102, ya_103, ya_104, ya_105, ya_106, ya_107, ya_108, ya_109, ya_110, ya_111, ya_112, ya_113, ya_114, ya_115, ya_116, ya_117, ya_118, ya_119, e2, e4]
  · have e1 := wi_out (x := a) (m := 20) ha
    have e2 := isStage_out ha
    refine ⟨-nI 1, c, d, ?_, ?_, h⟩
    · simp (disch := omega) only [m_X11_worthShort, Option.bind_some, plit, plit64, nI_add, pk_mul, if_true, if_false, or_true, true_or, oifT, Nat.one_ne_zero, ↓reduceIte, Nat.reduceLT, Nat.reduceLeDiff, Nat.reduceEqDiff, Nat.reduceAdd, Nat.reduceMul, Nat.reduceSub, Nat.reduceDiv, nI_eq, nI_leI, nI_ltI, nI_neg, neg_eq, yo_10, yr_10_0, yr_10_1, yr_10_2, yr_10_3, yr_10_4, yr_10_5, yr_10_6, yr_10_7, yr_10_8, yr_10_9, yr_10_10, yr_10_11, yo_11, yr_11_0, yr_11_1, yr_11_2, yr_11_3, yr_11_4, yn_13, ya_13, yo_14, yr_14_0, yr_14_1, yr_14_2, yr_14_3, ya_15, ya_16, e1]
    · simp (disch := omega) only [m_X12_worthShort, Option.bind_some, plit, plit64, nI_add, pk_mul, if_true, if_false, or_true, true_or, oifT, Nat.one_ne_zero, ↓reduceIte, Nat.reduceLT, Nat.reduceLeDiff, Nat.reduceEqDiff, Nat.reduceAdd, Nat.reduceMul, Nat.reduceSub, Nat.reduceDiv, nI_eq, nI_leI, nI_ltI, nI_neg, neg_eq, yo_100, yr_100_0, yr_100_1, yr_100_2, yr_100_3, yr_100_4, yr_100_5, yr_100_6, yr_100_7, yr_100_8, yr_100_9, yr_100_10, yr_100_11, yr_100_12, yr_100_13, yr_100_14, yr_100_15, yr_100_16, yr_100_17, yr_100_18, yr_100_19, yr_100_20, yr_100_21, yr_100_22, yr_100_23, yr_100_24, yr_100_25, yr_100_26, yr_100_27, yr_100_28, ya_101, ya_102, ya_103, ya_104, ya_105, ya_106, ya_107, ya_108, ya_109, ya_110, ya_111, ya_112, ya_113, ya_114, ya_115, ya_116, ya_117, ya_118, ya_119, e2]
theorem xst_in {t : Nat} (h1 : 1 ≤ t) (h2 : t ≤ 20) : m_X11_isStage (nI t) = some (nI 1) := by
  simp (disch := omega) only [m_X11_isStage, Option.bind_some, plit, plit64, nI_add, pk_mul, if_true, if_false, or_true, true_or, oifT, Nat.one_ne_zero, ↓reduceIte, Nat.reduceLT, Nat.reduceLeDiff, Nat.reduceEqDiff, Nat.reduceAdd, Nat.reduceMul, Nat.reduceSub, Nat.reduceDiv, nI_eq, nI_leI, nI_ltI, nI_neg, neg_eq, show ¬ t < 1 by omega, show ¬ 20 < t by omega]
theorem yst_in {t : Nat} (h1 : 1 ≤ t) (h2 : t ≤ 20) : m_X12_isToGo (nI t) = some (nI 1) := by
  have e := in_in (k := t) (lo := 1) (hi := 20) h1 h2
  simp only [m_X12_isToGo, Option.bind_some, plit, plit64, nI_add, pk_mul, if_true, if_false, or_true, true_or, oifT, Nat.one_ne_zero, ↓reduceIte, Nat.reduceLT, Nat.reduceLeDiff, Nat.reduceEqDiff, Nat.reduceAdd, Nat.reduceMul, Nat.reduceSub, Nat.reduceDiv, e]
theorem st_out {x : Int32} (h : ¬ ∃ t, 1 ≤ t ∧ t ≤ 20 ∧ x = nI t) : m_X11_isStage x = some (nI 0) ∧ m_X12_isToGo x = some (nI 0) ∧ (x.toInt < 1 ∨ 20 < x.toInt) := by
  have hx : x.toInt < 1 ∨ 20 < x.toInt := by
    rcases rg x 20 with ⟨v, hv, rfl⟩ | hb
    · by_cases h1 : 1 ≤ v
      · exact absurd ⟨v, h1, hv, rfl⟩ h
      · left; rw [nI_toInt (by omega)]; omega
    · omega
  refine ⟨?_, ?_, hx⟩
  · rcases hx with q | q
    · simp (disch := omega) only [m_X11_isStage, Option.bind_some, plit, plit64, nI_add, pk_mul, if_true, if_false, or_true, true_or, oifT, Nat.one_ne_zero, ↓reduceIte, Nat.reduceLT, Nat.reduceLeDiff, Nat.reduceEqDiff, Nat.reduceAdd, Nat.reduceMul, Nat.reduceSub, Nat.reduceDiv, x_lt (x := x) (m := 1) (by omega)]
    · simp (disch := omega) only [m_X11_isStage, Option.bind_some, plit, plit64, nI_add, pk_mul, if_true, if_false, or_true, true_or, oifT, Nat.one_ne_zero, ↓reduceIte, Nat.reduceLT, Nat.reduceLeDiff, Nat.reduceEqDiff, Nat.reduceAdd, Nat.reduceMul, Nat.reduceSub, Nat.reduceDiv, x_nlt (x := x) (m := 1) (by omega), x_gt (x := x) (m := 20) (by omega)]
  · have e := in_out (x := x) (lo := 1) (hi := 20) (by omega)
    simp only [m_X12_isToGo, Option.bind_some, plit, plit64, nI_add, pk_mul, if_true, if_false, or_true, true_or, oifT, Nat.one_ne_zero, ↓reduceIte, Nat.reduceLT, Nat.reduceLeDiff, Nat.reduceEqDiff, Nat.reduceAdd, Nat.reduceMul, Nat.reduceSub, Nat.reduceDiv, true_or, e]
theorem p_taken (h : RR c d D) (hN : 100 ≤ N) (a b x : Int32) : ∃ r c' d', m_X11_taken N 10 a b x (mk c d D) = some (r, mk c' d D) ∧ m_X12_taken N 100 a b x (mk c' d D) = some (r, mk c' d' D) ∧ RR c' d' D := by
  have hP := h.1
  have hn := hP.n
  have h0 := hP.r0
  rcases rgS a c.pl.n with ⟨f, hf, rfl⟩ | ha
  · have e1 := xhf_in (d := d) (D := D) hf hn
    have e2 := fun c2 : CS => yif_in (c := c2) (D := D) (P := c.pl) hf hP
    by_cases hb : ∃ t, 1 ≤ t ∧ t ≤ 20 ∧ b = nI t
    · obtain ⟨t, h1, h2, rfl⟩ := hb
      have e3 := xst_in h1 h2
      have e4 := yst_in h1 h2
      by_cases hx : ∃ s, 1 ≤ s ∧ s ≤ c.pl.rules 0 ∧ x = nI s
      · obtain ⟨s, s1, s2, rfl⟩ := hx
        have e5 := in_in (k := s) (lo := 1) (hi := c.pl.rules 0) s1 s2
        rw [nI_l (by omega)] at e5
        obtain ⟨r, m, k, r1, r2⟩ := xtakes (d := d) (D := D) hN hP h.2.2.2.1 hf h1 h2 s1 s2
        obtain ⟨w, w1, w2⟩ := yreck (c := ((c.s_rows r).s_nets m).s_made k) (D := D) hN hP h2
        have w3 := ytaken (c := ((c.s_rows r).s_nets m).s_made k) (d := d.s_worths w) (D := D) hN hP hf h1 h2 s1 s2 (w2.mono (by omega))
        have hl := takeB_le (P := c.pl) (f := f) (t := t) (s := s)
        refine ⟨nI (takeB c.pl f t s), ((c.s_rows r).s_nets m).s_made k, d.s_worths w, ?_, ?_, h.wr r2⟩
        · by_cases z : takeB c.pl f t s = 0
          · rw [z] at r1
            simp (disch := omega) only [m_X11_taken, Option.bind_some, plit, plit64, nI_add, pk_mul, if_true, if_false, or_true, true_or, oifT, Nat.one_ne_zero, ↓reduceIte, Nat.reduceLT, Nat.reduceLeDiff, Nat.reduceEqDiff, Nat.reduceAdd, Nat.reduceMul, Nat.reduceSub, Nat.reduceDiv, nI_eq, nI_leI, nI_ltI, nI_neg, neg_eq, yo_10, yr_10_0, yr_10_1, yr_10_2, yr_10_3, yr_10_4, yr_10_5, yr_10_6, yr_10_7, yr_10_8, yr_10_9, yr_10_10, yr_10_11, yo_11, yr_11_0, yr_11_1, yr_11_2, yr_11_3, yr_11_4, yn_13, ya_13, yo_14, yr_14_0, yr_14_1, yr_14_2, yr_14_3, ya_15, ya_16, e1, e3, yo_49, r1, show ¬ s < 1 by omega, s2, z]
          · have z1 : takeB c.pl f t s = 1 := by omega
            rw [z1] at r1
            simp (disch := omega) only [m_X11_taken, Option.bind_some, plit, plit64, nI_add, pk_mul, if_true, if_false, or_true, true_or, oifT, Nat.one_ne_zero, ↓reduceIte, Nat.reduceLT, Nat.reduceLeDiff, Nat.reduceEqDiff, Nat.reduceAdd, Nat.reduceMul, Nat.reduceSub, Nat.reduceDiv, nI_eq, nI_leI, nI_ltI, nI_neg, neg_eq, yo_10, yr_10_0, yr_10_1, yr_10_2, yr_10_3, yr_10_4, yr_10_5, yr_10_6, yr_10_7, yr_10_8, yr_10_9, yr_10_10, yr_10_11, yo_11, yr_11_0, yr_11_1, yr_11_2, yr_11_3, yr_11_4, yn_13, ya_13, yo_14, yr_14_0, yr_14_1, yr_14_2, yr_14_3, ya_15, ya_16, e1, e3, yo_49, r1, show ¬ s < 1 by omega, s2, z1]
        · by_cases z : takeB c.pl f t s = 0
          · rw [z] at w3
            simp (disch := omega) only [m_X12_taken, Option.bind_some, plit, plit64, nI_add, pk_mul, if_true, if_false, or_true, true_or, oifT, Nat.one_ne_zero, ↓reduceIte, Nat.reduceLT, Nat.reduceLeDiff, Nat.reduceEqDiff, Nat.reduceAdd, Nat.reduceMul, Nat.reduceSub, Nat.reduceDiv, nI_eq, nI_leI, nI_ltI, nI_neg, neg_eq, yo_100, yr_100_0, yr_100_1, yr_100_2, yr_100_3, yr_100_4, yr_100_5, yr_100_6, yr_100_7, yr_100_8, yr_100_9, yr_100_10, yr_100_11, yr_100_12, yr_100_13, yr_100_14, yr_100_15, yr_100_16, yr_100_17, yr_100_18, yr_100_19, yr_100_20, yr_100_21, yr_100_22, yr_100_23, yr_100_24, yr_100_25, yr_100_26, yr_100_27, yr_100_28, ya_101, ya_102, ya_103, ya_104, ya_105, ya_106, ya_107, ya_108, ya_109, ya_110, ya_111, ya_112, ya_113, ya_114, ya_115, ya_116, ya_117, ya_118, ya_119, e2, e4, hP.r0_, nI_l, e5, w1, w3, z]
          · have z1 : takeB c.pl f t s = 1 := by omega
            rw [z1] at w3
            simp (disch := omega) only [m_X12_taken, Option.bind_some, plit, plit64, nI_add, pk_mul, if_true, if_false, or_true, true_or, oifT, Nat.one_ne_zero, ↓reduceIte, Nat.reduceLT, Nat.reduceLeDiff, Nat.reduceEqDiff, Nat.reduceAdd, Nat.reduceMul, Nat.reduceSub, Nat.reduceDiv, nI_eq, nI_leI, nI_ltI, nI_neg, neg_eq, yo_100, yr_100_0, yr_100_1, yr_100_2, yr_100_3, yr_100_4, yr_100_5, yr_100_6, yr_100_7, yr_100_8, yr_100_9, yr_100_10, yr_100_11, yr_100_12, yr_100_13, yr_100_14, yr_100_15, yr_100_16, yr_100_17, yr_100_18, yr_100_19, yr_100_20, yr_100_21, yr_100_22, yr_100_23, yr_100_24, yr_100_25, yr_100_26, yr_100_27, yr_100_28, ya_101, ya_102, ya_103, ya_104, ya_105, ya_106, ya_107, ya_108, ya_109, ya_110, ya_111, ya_112, ya_113, ya_114, ya_115, ya_116, ya_117, ya_118, ya_119, e2, e4, hP.r0_, nI_l, e5, w1, w3, z1]
      · have hx2 : x.toInt < 1 ∨ (c.pl.rules 0 : Int) < x.toInt := by
          rcases rg x (c.pl.rules 0) with ⟨v, hv, rfl⟩ | hb
          · by_cases h1 : 1 ≤ v
            · exact absurd ⟨v, h1, hv, rfl⟩ hx
            · left; rw [nI_toInt (by omega)]; omega
          · omega
        have e5 := in_out (x := x) (lo := 1) (hi := c.pl.rules 0) (by omega)
        refine ⟨-nI 1, c, d, ?_, ?_, h⟩
        · by_cases q : x.toInt < 1
          · simp (disch := omega) only [m_X11_taken, Option.bind_some, plit, plit64, nI_add, pk_mul, if_true, if_false, or_true, true_or, oifT, Nat.one_ne_zero, ↓reduceIte, Nat.reduceLT, Nat.reduceLeDiff, Nat.reduceEqDiff, Nat.reduceAdd, Nat.reduceMul, Nat.reduceSub, Nat.reduceDiv, nI_eq, nI_leI, nI_ltI, nI_neg, neg_eq, yo_10, yr_10_0, yr_10_1, yr_10_2, yr_10_3, yr_10_4, yr_10_5, yr_10_6, yr_10_7, yr_10_8, yr_10_9, yr_10_10, yr_10_11, yo_11, yr_11_0, yr_11_1, yr_11_2, yr_11_3, yr_11_4, yn_13, ya_13, yo_14, yr_14_0, yr_14_1, yr_14_2, yr_14_3, ya_15, ya_16, e1, e3, x_lt (x := x) (m := 1) (by omega)]
          · simp (disch := omega) only [m_X11_taken, Option.bind_some, plit, plit64, nI_add, pk_mul, if_true, if_false, or_true, true_or, oifT, Nat.one_ne_zero, ↓reduceIte, Nat.reduceLT, Nat.reduceLeDiff, Nat.reduceEqDiff, Nat.reduceAdd, Nat.reduceMul, Nat.reduceSub, Nat.reduceDiv, nI_eq, nI_leI, nI_ltI, nI_neg, neg_eq, yo_10, yr_10_0, yr_10_1, yr_10_2, yr_10_3, yr_10_4, yr_10_5, yr_10_6, yr_10_7, yr_10_8, yr_10_9, yr_10_10, yr_10_11, yo_11, yr_11_0, yr_11_1, yr_11_2, yr_11_3, yr_11_4, yn_13, ya_13, yo_14, yr_14_0, yr_14_1, yr_14_2, yr_14_3, ya_15, ya_16, e1, e3, x_nlt (x := x) (m := 1) (by omega), x_nle (x := x) (m := c.pl.rules 0) (by omega)]
        · simp (disch := omega) only [m_X12_taken, Option.bind_some, plit, plit64, nI_add, pk_mul, if_true, if_false, or_true, true_or, oifT, Nat.one_ne_zero, ↓reduceIte, Nat.reduceLT, Nat.reduceLeDiff, Nat.reduceEqDiff, Nat.reduceAdd, Nat.reduceMul, Nat.reduceSub, Nat.reduceDiv, nI_eq, nI_leI, nI_ltI, nI_neg, neg_eq, yo_100, yr_100_0, yr_100_1, yr_100_2, yr_100_3, yr_100_4, yr_100_5, yr_100_6, yr_100_7, yr_100_8, yr_100_9, yr_100_10, yr_100_11, yr_100_12, yr_100_13, yr_100_14, yr_100_15, yr_100_16, yr_100_17, yr_100_18, yr_100_19, yr_100_20, yr_100_21, yr_100_22, yr_100_23, yr_100_24, yr_100_25, yr_100_26, yr_100_27, yr_100_28, ya_101, ya_102, ya_103, ya_104, ya_105, ya_106, ya_107, ya_108, ya_109, ya_110, ya_111, ya_112, ya_113, ya_114, ya_115, ya_116, ya_117, ya_118, ya_119, e2, e4, hP.r0_, nI_l, e5]
    · obtain ⟨e3, e4, -⟩ := st_out hb
      refine ⟨-nI 1, c, d, ?_, ?_, h⟩
      · simp (disch := omega) only [m_X11_taken, Option.bind_some, plit, plit64, nI_add, pk_mul, if_true, if_false, or_true, true_or, oifT, Nat.one_ne_zero, ↓reduceIte, Nat.reduceLT, Nat.reduceLeDiff, Nat.reduceEqDiff, Nat.reduceAdd, Nat.reduceMul, Nat.reduceSub, Nat.reduceDiv, nI_eq, nI_leI, nI_ltI, nI_neg, neg_eq, yo_10, yr_10_0, yr_10_1, yr_10_2, yr_10_3, yr_10_4, yr_10_5, yr_10_6, yr_10_7, yr_10_8, yr_10_9, yr_10_10, yr_10_11, yo_11, yr_11_0, yr_11_1, yr_11_2, yr_11_3, yr_11_4, yn_13, ya_13, yo_14, yr_14_0, yr_14_1, yr_14_2, yr_14_3, ya_15, ya_16, e1, e3]
      · simp (disch := omega) only [m_X12_taken, Option.bind_some, plit, plit64, nI_add, pk_mul, if_true, if_false, or_true, true_or, oifT, Nat.one_ne_zero, ↓reduceIte, Nat.reduceLT, Nat.reduceLeDiff, Nat.reduceEqDiff, Nat.reduceAdd, Nat.reduceMul, Nat.reduceSub, Nat.reduceDiv, nI_eq, nI_leI, nI_ltI, nI_neg, neg_eq, yo_100, yr_100_0, yr_100_1, yr_100_2, yr_100_3, yr_100_4, yr_100_5, yr_100_6, yr_100_7, yr_100_8, yr_100_9, yr_100_10, yr_100_11, yr_100_12, yr_100_13, yr_100_14, yr_100_15, yr_100_16, yr_100_17, yr_100_18, yr_100_19, yr_100_20, yr_100_21, yr_100_22, yr_100_23, yr_100_24, yr_100_25, yr_100_26, yr_100_27, yr_100_28, ya_101, ya_102, ya_103, ya_104, ya_105, ya_106, ya_107, ya_108, ya_109, ya_110, ya_111, ya_112, ya_113, ya_114, ya_115, ya_116, ya_117, ya_118, ya_119, e2, e4]
  · have e1 := xhf_out (d := d) (D := D) ha hn
    have e2 := yif_out (c := c) (D := D) ha hP
    refine ⟨-nI 1, c, d, ?_, ?_, h⟩
    · simp (disch := omega) only [m_X11_taken, Option.bind_some, plit, plit64, nI_add, pk_mul, if_true, if_false, or_true, true_or, oifT, Nat.one_ne_zero, ↓reduceIte, Nat.reduceLT, Nat.reduceLeDiff, Nat.reduceEqDiff, Nat.reduceAdd, Nat.reduceMul, Nat.reduceSub, Nat.reduceDiv, nI_eq, nI_leI, nI_ltI, nI_neg, neg_eq, yo_10, yr_10_0, yr_10_1, yr_10_2, yr_10_3, yr_10_4, yr_10_5, yr_10_6, yr_10_7, yr_10_8, yr_10_9, yr_10_10, yr_10_11, yo_11, yr_11_0, yr_11_1, yr_11_2, yr_11_3, yr_11_4, yn_13, ya_13, yo_14, yr_14_0, yr_14_1, yr_14_2, yr_14_3, ya_15, ya_16, e1]
    · simp (disch := omega) only [m_X12_taken, Option.bind_some, plit, plit64, nI_add, pk_mul, if_true, if_false, or_true, true_or, oifT, Nat.one_ne_zero, ↓reduceIte, Nat.reduceLT, Nat.reduceLeDiff, Nat.reduceEqDiff, Nat.reduceAdd, Nat.reduceMul, Nat.reduceSub, Nat.reduceDiv, nI_eq, nI_leI, nI_ltI, nI_neg, neg_eq, yo_100, yr_100_0, yr_100_1, yr_100_2, yr_100_3, yr_100_4, yr_100_5, yr_100_6, yr_100_7, yr_100_8, yr_100_9, yr_100_10, yr_100_11, yr_100_12, yr_100_13, yr_100_14, yr_100_15, yr_100_16, yr_100_17, yr_100_18, yr_100_19, yr_100_20, yr_100_21, yr_100_22, yr_100_23, yr_100_24, yr_100_25, yr_100_26, yr_100_27, yr_100_28, ya_101, ya_102, ya_103, ya_104, ya_105, ya_106, ya_107, ya_108, ya_109, ya_110, ya_111, ya_112, ya_113, ya_114, ya_115, ya_116, ya_117, ya_118, ya_119, e2]
theorem p_kept (h : RR c d D) (hN : 100 ≤ N) (a b : Int32) : ∃ r c' d', m_X11_kept N 10 a b (mk c d D) = some (r, mk c' d D) ∧ m_X12_kept N 100 a b (mk c' d D) = some (r, mk c' d' D) ∧ RR c' d' D := by
  have hP := h.1
  have hn := hP.n
  have h0 := hP.r0
  rcases rgS a c.pl.n with ⟨f, hf, rfl⟩ | ha
  · have e1 := xhf_in (d := d) (D := D) hf hn
    have e2 := fun c2 : CS => yif_in (c := c2) (D := D) (P := c.pl) hf hP
    by_cases hb : ∃ t, 1 ≤ t ∧ t ≤ 20 ∧ b = nI t
    · obtain ⟨t, h1, h2, rfl⟩ := hb
      have e3 := xst_in h1 h2
      have e4 := yst_in h1 h2
      obtain ⟨r, m, k, r1, r2⟩ := xkept (d := d) (D := D) hN hP h.2.2.2.1 hf h1 h2
      obtain ⟨w, w1, w2⟩ := yreck (c := ((c.s_rows r).s_nets m).s_made k) (D := D) hN hP h2
      have w3 := ykept_go (c := ((c.s_rows r).s_nets m).s_made k) (d := d.s_worths w) (D := D) hN hP hf h1 h2 w2 N 0 (by omega) (by omega)
      have ez : keptB c.pl f t 0 = 0 := rfl
      rw [ez] at w3
      refine ⟨nI (keptB c.pl f t (c.pl.rules 0)), ((c.s_rows r).s_nets m).s_made k, d.s_worths w, ?_, ?_, h.wr r2⟩
      · simp (disch := omega) only [m_X11_kept, Option.bind_some, plit, plit64, nI_add, pk_mul, if_true, if_false, or_true, true_or, oifT, Nat.one_ne_zero, ↓reduceIte, Nat.reduceLT, Nat.reduceLeDiff, Nat.reduceEqDiff, Nat.reduceAdd, Nat.reduceMul, Nat.reduceSub, Nat.reduceDiv, nI_eq, nI_leI, nI_ltI, nI_neg, neg_eq, yo_10, yr_10_0, yr_10_1, yr_10_2, yr_10_3, yr_10_4, yr_10_5, yr_10_6, yr_10_7, yr_10_8, yr_10_9, yr_10_10, yr_10_11, yo_11, yr_11_0, yr_11_1, yr_11_2, yr_11_3, yr_11_4, yn_13, ya_13, yo_14, yr_14_0, yr_14_1, yr_14_2, yr_14_3, ya_15, ya_16, e1, e3, yo_49, r1]
      · simp (disch := omega) only [m_X12_kept, Option.bind_some, plit, plit64, nI_add, pk_mul, if_true, if_false, or_true, true_or, oifT, Nat.one_ne_zero, ↓reduceIte, Nat.reduceLT, Nat.reduceLeDiff, Nat.reduceEqDiff, Nat.reduceAdd, Nat.reduceMul, Nat.reduceSub, Nat.reduceDiv, nI_eq, nI_leI, nI_ltI, nI_neg, neg_eq, yo_100, yr_100_0, yr_100_1, yr_100_2, yr_100_3, yr_100_4, yr_100_5, yr_100_6, yr_100_7, yr_100_8, yr_100_9, yr_100_10, yr_100_11, yr_100_12, yr_100_13, yr_100_14, yr_100_15, yr_100_16, yr_100_17, yr_100_18, yr_100_19, yr_100_20, yr_100_21, yr_100_22, yr_100_23, yr_100_24, yr_100_25, yr_100_26, yr_100_27, yr_100_28, ya_101, ya_102, ya_103, ya_104, ya_105, ya_106, ya_107, ya_108, ya_109, ya_110, ya_111, ya_112, ya_113, ya_114, ya_115, ya_116, ya_117, ya_118, ya_119, e2, e4, w1]
        exact w3
    · obtain ⟨e3, e4, -⟩ := st_out hb
      refine ⟨-nI 1, c, d, ?_, ?_, h⟩
      · simp (disch := omega) only [m_X11_kept, Option.bind_some, plit, plit64, nI_add, pk_mul, if_true, if_false, or_true, true_or, oifT, Nat.one_ne_zero, ↓reduceIte, Nat.reduceLT, Nat.reduceLeDiff, Nat.reduceEqDiff, Nat.reduceAdd, Nat.reduceMul, Nat.reduceSub, Nat.reduceDiv, nI_eq, nI_leI, nI_ltI, nI_neg, neg_eq, yo_10, yr_10_0, yr_10_1, yr_10_2, yr_10_3, yr_10_4, yr_10_5, yr_10_6, yr_10_7, yr_10_8, yr_10_9, yr_10_10, yr_10_11, yo_11, yr_11_0, yr_11_1, yr_11_2, yr_11_3, yr_11_4, yn_13, ya_13, yo_14, yr_14_0, yr_14_1, yr_14_2, yr_14_3, ya_15, ya_16, e1, e3]
      · simp (disch := omega) only [m_X12_kept, Option.bind_some, plit, plit64, nI_add, pk_mul, if_true, if_false, or_true, true_or, oifT, Nat.one_ne_zero, ↓reduceIte, Nat.reduceLT, Nat.reduceLeDiff, Nat.reduceEqDiff, Nat.reduceAdd, Nat.reduceMul, Nat.reduceSub, Nat.reduceDiv, nI_eq, nI_leI, nI_ltI, nI_neg, neg_eq, yo_100, yr_100_0, yr_100_1, yr_100_2, yr_100_3, yr_100_4, yr_100_5, yr_100_6, yr_100_7, yr_100_8, yr_100_9, yr_100_10, yr_100_11, yr_100_12, yr_100_13, yr_100_14, yr_100_15, yr_100_16, yr_100_17, yr_100_18, yr_100_19, yr_100_20, yr_100_21, yr_100_22, yr_100_23, yr_100_24, yr_100_25, yr_100_26, yr_100_27, yr_100_28, ya_101, ya_102, ya_103, ya_104, ya_105, ya_106, ya_107, ya_108, ya_109, ya_110, ya_111, ya_112, ya_113, ya_114, ya_115, ya_116, ya_117, ya_118, ya_119, e2, e4]
  · have e1 := xhf_out (d := d) (D := D) ha hn
    have e2 := yif_out (c := c) (D := D) ha hP
    refine ⟨-nI 1, c, d, ?_, ?_, h⟩
    · simp (disch := omega) only [m_X11_kept, Option.bind_some, plit, plit64, nI_add, pk_mul, if_true, if_false, or_true, true_or, oifT, Nat.one_ne_zero, ↓reduceIte, Nat.reduceLT, Nat.reduceLeDiff, Nat.reduceEqDiff, Nat.reduceAdd, Nat.reduceMul, Nat.reduceSub, Nat.reduceDiv, nI_eq, nI_leI, nI_ltI, nI_neg, neg_eq, yo_10, yr_10_0, yr_10_1, yr_10_2, yr_10_3, yr_10_4, yr_10_5, yr_10_6, yr_10_7, yr_10_8, yr_10_9, yr_10_10, yr_10_11, yo_11, yr_11_0, yr_11_1, yr_11_2, yr_11_3, yr_11_4, yn_13, ya_13, yo_14, yr_14_0, yr_14_1, yr_14_2, yr_14_3, ya_15, ya_16, e1]
    · simp (disch := omega) only [m_X12_kept, Option.bind_some, plit, plit64, nI_add, pk_mul, if_true, if_false, or_true, true_or, oifT, Nat.one_ne_zero, ↓reduceIte, Nat.reduceLT, Nat.reduceLeDiff, Nat.reduceEqDiff, Nat.reduceAdd, Nat.reduceMul, Nat.reduceSub, Nat.reduceDiv, nI_eq, nI_leI, nI_ltI, nI_neg, neg_eq, yo_100, yr_100_0, yr_100_1, yr_100_2, yr_100_3, yr_100_4, yr_100_5, yr_100_6, yr_100_7, yr_100_8, yr_100_9, yr_100_10, yr_100_11, yr_100_12, yr_100_13, yr_100_14, yr_100_15, yr_100_16, yr_100_17, yr_100_18, yr_100_19, yr_100_20, yr_100_21, yr_100_22, yr_100_23, yr_100_24, yr_100_25, yr_100_26, yr_100_27, yr_100_28, ya_101, ya_102, ya_103, ya_104, ya_105, ya_106, ya_107, ya_108, ya_109, ya_110, ya_111, ya_112, ya_113, ya_114, ya_115, ya_116, ya_117, ya_118, ya_119, e2]
theorem p_limit (h : RR c d D) (hN : 100 ≤ N) (a b : Int32) : ∃ r c' d', m_X11_limit N 10 a b (mk c d D) = some (r, mk c' d D) ∧ m_X12_limit N 100 a b (mk c' d D) = some (r, mk c' d' D) ∧ RR c' d' D := by
  have hP := h.1
  have hn := hP.n
  have h0 := hP.r0
  rcases rgS a c.pl.n with ⟨f, hf, rfl⟩ | ha
  · have e1 := xhf_in (d := d) (D := D) hf hn
    have e2 := fun c2 : CS => yif_in (c := c2) (D := D) (P := c.pl) hf hP
    by_cases hb : ∃ t, 1 ≤ t ∧ t ≤ 20 ∧ b = nI t
    · obtain ⟨t, h1, h2, rfl⟩ := hb
      have e3 := xst_in h1 h2
      have e4 := yst_in h1 h2
      obtain ⟨r, m, k, r1, r2⟩ := xkept (d := d) (D := D) hN hP h.2.2.2.1 hf h1 h2
      obtain ⟨w, w1, w2⟩ := yreck (c := ((c.s_rows r).s_nets m).s_made k) (D := D) hN hP h2
      have w3 := ykept_go (c := ((c.s_rows r).s_nets m).s_made k) (d := d.s_worths w) (D := D) hN hP hf h1 h2 w2 N 0 (by omega) (by omega)
      have ez : keptB c.pl f t 0 = 0 := rfl
      rw [ez] at w3
      have kl := keptB_le (P := c.pl) (f := f) (t := t) (c.pl.rules 0)
      refine ⟨nI (c.pl.rules 0 - keptB c.pl f t (c.pl.rules 0)), ((c.s_rows r).s_nets m).s_made k, d.s_worths w, ?_, ?_, h.wr r2⟩
      · simp (disch := omega) only [m_X11_limit, Option.bind_some, plit, plit64, nI_add, pk_mul, if_true, if_false, or_true, true_or, oifT, Nat.one_ne_zero, ↓reduceIte, Nat.reduceLT, Nat.reduceLeDiff, Nat.reduceEqDiff, Nat.reduceAdd, Nat.reduceMul, Nat.reduceSub, Nat.reduceDiv, nI_eq, nI_leI, nI_ltI, nI_neg, neg_eq, yo_10, yr_10_0, yr_10_1, yr_10_2, yr_10_3, yr_10_4, yr_10_5, yr_10_6, yr_10_7, yr_10_8, yr_10_9, yr_10_10, yr_10_11, yo_11, yr_11_0, yr_11_1, yr_11_2, yr_11_3, yr_11_4, yn_13, ya_13, yo_14, yr_14_0, yr_14_1, yr_14_2, yr_14_3, ya_15, ya_16, e1, e3, yo_49, r1, pk_sub]
      · have q : m_X12_kept N 100 (nI f) (nI t) (mk (((c.s_rows r).s_nets m).s_made k) d D) = some (nI (keptB c.pl f t (c.pl.rules 0)), mk (((c.s_rows r).s_nets m).s_made k) (d.s_worths w) D) := by
          simp (disch := omega) only [m_X12_kept, Option.bind_some, plit, plit64, nI_add, pk_mul, if_true, if_false, or_true, true_or, oifT, Nat.one_ne_zero, ↓reduceIte, Nat.reduceLT, Nat.reduceLeDiff, Nat.reduceEqDiff, Nat.reduceAdd, Nat.reduceMul, Nat.reduceSub, Nat.reduceDiv, nI_eq, nI_leI, nI_ltI, nI_neg, neg_eq, yo_100, yr_100_0, yr_100_1, yr_100_2, yr_100_3, yr_100_4, yr_100_5, yr_100_6, yr_100_7, yr_100_8, yr_100_9, yr_100_10, yr_100_11, yr_100_12, yr_100_13, yr_100_14, yr_100_15, yr_100_16, yr_100_17, yr_100_18, yr_100_19, yr_100_20, yr_100_21, yr_100_22, yr_100_23, yr_100_24, yr_100_25, yr_100_26, yr_100_27, yr_100_28, ya_101, ya_102, ya_103, ya_104, ya_105, ya_106, ya_107, ya_108, ya_109, ya_110, ya_111, ya_112, ya_113, ya_114, ya_115, ya_116, ya_117, ya_118, ya_119, e2, e4, w1]
          exact w3
        simp (disch := omega) only [m_X12_limit, Option.bind_some, plit, plit64, nI_add, pk_mul, if_true, if_false, or_true, true_or, oifT, Nat.one_ne_zero, ↓reduceIte, Nat.reduceLT, Nat.reduceLeDiff, Nat.reduceEqDiff, Nat.reduceAdd, Nat.reduceMul, Nat.reduceSub, Nat.reduceDiv, nI_eq, nI_leI, nI_ltI, nI_neg, neg_eq, yo_100, yr_100_0, yr_100_1, yr_100_2, yr_100_3, yr_100_4, yr_100_5, yr_100_6, yr_100_7, yr_100_8, yr_100_9, yr_100_10, yr_100_11, yr_100_12, yr_100_13, yr_100_14, yr_100_15, yr_100_16, yr_100_17, yr_100_18, yr_100_19, yr_100_20, yr_100_21, yr_100_22, yr_100_23, yr_100_24, yr_100_25, yr_100_26, yr_100_27, yr_100_28, ya_101, ya_102, ya_103, ya_104, ya_105, ya_106, ya_107, ya_108, ya_109, ya_110, ya_111, ya_112, ya_113, ya_114, ya_115, ya_116, ya_117, ya_118, ya_119, q, pMS_worths, hP.r0_, pk_sub]
    · obtain ⟨e3, e4, -⟩ := st_out hb
      refine ⟨-nI 1, c, d, ?_, ?_, h⟩
      · simp (disch := omega) only [m_X11_limit, Option.bind_some, plit, plit64, nI_add, pk_mul, if_true, if_false, or_true, true_or, oifT, Nat.one_ne_zero, ↓reduceIte, Nat.reduceLT, Nat.reduceLeDiff, Nat.reduceEqDiff, Nat.reduceAdd, Nat.reduceMul, Nat.reduceSub, Nat.reduceDiv, nI_eq, nI_leI, nI_ltI, nI_neg, neg_eq, yo_10, yr_10_0, yr_10_1, yr_10_2, yr_10_3, yr_10_4, yr_10_5, yr_10_6, yr_10_7, yr_10_8, yr_10_9, yr_10_10, yr_10_11, yo_11, yr_11_0, yr_11_1, yr_11_2, yr_11_3, yr_11_4, yn_13, ya_13, yo_14, yr_14_0, yr_14_1, yr_14_2, yr_14_3, ya_15, ya_16, e1, e3]
      · simp (disch := omega) only [m_X12_limit, m_X12_kept, Option.bind_some, plit, plit64, nI_add, pk_mul, if_true, if_false, or_true, true_or, oifT, Nat.one_ne_zero, ↓reduceIte, Nat.reduceLT, Nat.reduceLeDiff, Nat.reduceEqDiff, Nat.reduceAdd, Nat.reduceMul, Nat.reduceSub, Nat.reduceDiv, nI_eq, nI_leI, nI_ltI, nI_neg, neg_eq, yo_100, yr_100_0, yr_100_1, yr_100_2, yr_100_3, yr_100_4, yr_100_5, yr_100_6, yr_100_7, yr_100_8, yr_100_9, yr_100_10, yr_100_11, yr_100_12, yr_100_13, yr_100_14, yr_100_15, yr_100_16, yr_100_17, yr_100_18, yr_100_19, yr_100_20, yr_100_21, yr_100_22, yr_100_23, yr_100_24, yr_100_25, yr_100_26, yr_100_27, yr_100_28, ya_101, ya_102, ya_103, ya_104, ya_105, ya_106, ya_107, ya_108, ya_109, ya_110, ya_111, ya_112, ya_113, ya_114, ya_115, ya_116, ya_117, ya_118, ya_119, e2, e4]
  · have e1 := xhf_out (d := d) (D := D) ha hn
    have e2 := yif_out (c := c) (D := D) ha hP
    refine ⟨-nI 1, c, d, ?_, ?_, h⟩
    · simp (disch := omega) only [m_X11_limit, Option.bind_some, plit, plit64, nI_add, pk_mul, if_true, if_false, or_true, true_or, oifT, Nat.one_ne_zero, ↓reduceIte, Nat.reduceLT, Nat.reduceLeDiff, Nat.reduceEqDiff, Nat.reduceAdd, Nat.reduceMul, Nat.reduceSub, Nat.reduceDiv, nI_eq, nI_leI, nI_ltI, nI_neg, neg_eq, yo_10, yr_10_0, yr_10_1, yr_10_2, yr_10_3, yr_10_4, yr_10_5, yr_10_6, yr_10_7, yr_10_8, yr_10_9, yr_10_10, yr_10_11, yo_11, yr_11_0, yr_11_1, yr_11_2, yr_11_3, yr_11_4, yn_13, ya_13, yo_14, yr_14_0, yr_14_1, yr_14_2, yr_14_3, ya_15, ya_16, e1]
    · simp (disch := omega) only [m_X12_limit, m_X12_kept, Option.bind_some, plit, plit64, nI_add, pk_mul, if_true, if_false, or_true, true_or, oifT, Nat.one_ne_zero, ↓reduceIte, Nat.reduceLT, Nat.reduceLeDiff, Nat.reduceEqDiff, Nat.reduceAdd, Nat.reduceMul, Nat.reduceSub, Nat.reduceDiv, nI_eq, nI_leI, nI_ltI, nI_neg, neg_eq, yo_100, yr_100_0, yr_100_1, yr_100_2, yr_100_3, yr_100_4, yr_100_5, yr_100_6, yr_100_7, yr_100_8, yr_100_9, yr_100_10, yr_100_11, yr_100_12, yr_100_13, yr_100_14, yr_100_15, yr_100_16, yr_100_17, yr_100_18, yr_100_19, yr_100_20, yr_100_21, yr_100_22, yr_100_23, yr_100_24, yr_100_25, yr_100_26, yr_100_27, yr_100_28, ya_101, ya_102, ya_103, ya_104, ya_105, ya_106, ya_107, ya_108, ya_109, ya_110, ya_111, ya_112, ya_113, ya_114, ya_115, ya_116, ya_117, ya_118, ya_119, e2]
/-- what a told row of worths is judged -/
def judD (P : PL) (t : Nat) (it : Nat → Int64) (i n : Nat) : Nat → Nat → Int32
  | 0, _ => -5
  | q + 1, s => if P.rules 0 < s then -5 else if i + s < n then (if it (i + s) = (WD P t s).toInt64 then judD P t it i n q (s + 1) else nI s) else nI (100 + s)
theorem lgc {x y : Int64} : lg_cmp x y = 0 ↔ x = y := by
  unfold lg_cmp
  by_cases h : x > y
  · rw [if_pos h]
    have : x ≠ y := by
      intro e
      rw [e] at h
      have := Int64.lt_iff_toInt_lt.mp h
      omega
    exact ⟨fun q => absurd q (by decide), fun q => absurd q this⟩
  · rw [if_neg h]
    by_cases e : x = y
    · rw [if_pos e]
      exact ⟨fun _ => e, fun _ => rfl⟩
    · rw [if_neg e]
      exact ⟨fun q => absurd q (by decide), fun q => absurd q e⟩
theorem xjudge_go (hN : 100 ≤ N) {d0 : MS} (hP : PR c.pl d0.now) {t o i n : Nat} (ht : t ≤ 20) (ho : o < 4) (hi : i ≤ n) (hn : n ≤ 31) (hr : ∀ s, s ≤ c.pl.rules 0 → c.rows t s = WD c.pl t s) : ∀ m q s : Nat, s ≤ 31 → 31 - s < q → 31 - s < m → m_X11_judge_L62 N m 10 (nI o) (nI i) (nI n) (51 + t) (nI s) (mk c d D) = some (judD c.pl t (c.li o) i n q s, mk c d D) := by
  have h0 := hP.r0
  intro m
  induction m with
  | zero => intro q s _ _ h; omega
  | succ m ih =>
    intro q s hs hq h
    obtain ⟨p, rfl⟩ : ∃ p, q = p + 1 := ⟨q - 1, by omega⟩
    unfold m_X11_judge_L62 judD
    by_cases e : c.pl.rules 0 < s
    · simp (disch := omega) only [Option.bind_some, plit, plit64, nI_add, pk_mul, if_true, if_false, or_true, true_or, oifT, Nat.one_ne_zero, ↓reduceIte, Nat.reduceLT, Nat.reduceLeDiff, Nat.reduceEqDiff, Nat.reduceAdd, Nat.reduceMul, Nat.reduceSub, Nat.reduceDiv, nI_eq, nI_leI, nI_ltI, nI_neg, neg_eq, yo_10, yr_10_0, yr_10_1, yr_10_2, yr_10_3, yr_10_4, yr_10_5, yr_10_6, yr_10_7, yr_10_8, yr_10_9, yr_10_10, yr_10_11, yo_11, yr_11_0, yr_11_1, yr_11_2, yr_11_3, yr_11_4, yn_13, ya_13, yo_14, yr_14_0, yr_14_1, yr_14_2, yr_14_3, ya_15, ya_16, e]
    · by_cases e2 : i + s < n
      · obtain ⟨b1, b2⟩ := wd_bits (s := s) hP hN ht
        by_cases e3 : c.li o (i + s) = (WD c.pl t s).toInt64
        · have := ih p (s + 1) (by omega) (by omega) (by omega)
          simp (disch := omega) only [Option.bind_some, plit, plit64, nI_add, pk_mul, if_true, if_false, or_true, true_or, oifT, Nat.one_ne_zero, ↓reduceIte, Nat.reduceLT, Nat.reduceLeDiff, Nat.reduceEqDiff, Nat.reduceAdd, Nat.reduceMul, Nat.reduceSub, Nat.reduceDiv, nI_eq, nI_leI, nI_ltI, nI_neg, neg_eq, yo_10, yr_10_0, yr_10_1, yr_10_2, yr_10_3, yr_10_4, yr_10_5, yr_10_6, yr_10_7, yr_10_8, yr_10_9, yr_10_10, yr_10_11, yo_11, yr_11_0, yr_11_1, yr_11_2, yr_11_3, yr_11_4, yn_13, ya_13, yo_14, yr_14_0, yr_14_1, yr_14_2, yr_14_3, ya_15, ya_16, ya_99, yli_R, ylc, yls, yln, yla, ylu, e, e2, yra, hr s (by omega), b1, lgc, e3]
          rw [show lg_cmp (WD c.pl t s).toInt64 (WD c.pl t s).toInt64 = nI 0 from lgc.mpr rfl, if_pos rfl]
          exact this
        · simp (disch := omega) only [Option.bind_some, plit, plit64, nI_add, pk_mul, if_true, if_false, or_true, true_or, oifT, Nat.one_ne_zero, ↓reduceIte, Nat.reduceLT, Nat.reduceLeDiff, Nat.reduceEqDiff, Nat.reduceAdd, Nat.reduceMul, Nat.reduceSub, Nat.reduceDiv, nI_eq, nI_leI, nI_ltI, nI_neg, neg_eq, yo_10, yr_10_0, yr_10_1, yr_10_2, yr_10_3, yr_10_4, yr_10_5, yr_10_6, yr_10_7, yr_10_8, yr_10_9, yr_10_10, yr_10_11, yo_11, yr_11_0, yr_11_1, yr_11_2, yr_11_3, yr_11_4, yn_13, ya_13, yo_14, yr_14_0, yr_14_1, yr_14_2, yr_14_3, ya_15, ya_16, ya_99, yli_R, ylc, yls, yln, yla, ylu, e, e2, yra, hr s (by omega), b1, lgc, e3]
          rw [if_neg (show ¬ lg_cmp (c.li o (i + s)) (WD c.pl t s).toInt64 = nI 0 from fun z => e3 (lgc.mp z))]
      · simp (disch := omega) only [Option.bind_some, plit, plit64, nI_add, pk_mul, if_true, if_false, or_true, true_or, oifT, Nat.one_ne_zero, ↓reduceIte, Nat.reduceLT, Nat.reduceLeDiff, Nat.reduceEqDiff, Nat.reduceAdd, Nat.reduceMul, Nat.reduceSub, Nat.reduceDiv, nI_eq, nI_leI, nI_ltI, nI_neg, neg_eq, yo_10, yr_10_0, yr_10_1, yr_10_2, yr_10_3, yr_10_4, yr_10_5, yr_10_6, yr_10_7, yr_10_8, yr_10_9, yr_10_10, yr_10_11, yo_11, yr_11_0, yr_11_1, yr_11_2, yr_11_3, yr_11_4, yn_13, ya_13, yo_14, yr_14_0, yr_14_1, yr_14_2, yr_14_3, ya_15, ya_16, ya_99, yli_R, ylc, yls, yln, yla, ylu, e, e2]
theorem yjudge_go (hN : 100 ≤ N) (hP : PR P d.now) {t o i n : Nat} (ht : t ≤ 20) (ho : o < 4) (hi : i ≤ n) (hn : n ≤ 31) (hl : d.listSize o = nI n) {it : Nat → Int64} (hit : ∀ j, j < 31 → it j = d.items (31 * o + j)) (hw : WOK P t d.worths) : ∀ m q s : Nat, s ≤ 31 → 31 - s < q → 31 - s < m → m_X12_judge_L55 N m 100 (nI t) (nI o) (nI i) (nI s) (mk c d D) = some (judD P t it i n q s, mk c d D) := by
  have h0 := hP.r0
  intro m
  induction m with
  | zero => intro q s _ _ h; omega
  | succ m ih =>
    intro q s hs hq h
    obtain ⟨p, rfl⟩ : ∃ p, q = p + 1 := ⟨q - 1, by omega⟩
    unfold m_X12_judge_L55 judD
    by_cases e : P.rules 0 < s
    · simp (disch := omega) only [Option.bind_some, plit, plit64, nI_add, pk_mul, if_true, if_false, or_true, true_or, oifT, Nat.one_ne_zero, ↓reduceIte, Nat.reduceLT, Nat.reduceLeDiff, Nat.reduceEqDiff, Nat.reduceAdd, Nat.reduceMul, Nat.reduceSub, Nat.reduceDiv, nI_eq, nI_leI, nI_ltI, nI_neg, neg_eq, yo_100, yr_100_0, yr_100_1, yr_100_2, yr_100_3, yr_100_4, yr_100_5, yr_100_6, yr_100_7, yr_100_8, yr_100_9, yr_100_10, yr_100_11, yr_100_12, yr_100_13, yr_100_14, yr_100_15, yr_100_16, yr_100_17, yr_100_18, yr_100_19, yr_100_20, yr_100_21, yr_100_22, yr_100_23, yr_100_24, yr_100_25, yr_100_26, yr_100_27, yr_100_28, ya_101, ya_102, ya_103, ya_104, ya_105, ya_106, ya_107, ya_108, ya_109, ya_110, ya_111, ya_112, ya_113, ya_114, ya_115, ya_116, ya_117, ya_118, ya_119, hP.r0_, e]
    · by_cases e2 : i + s < n
      · obtain ⟨b1, b2⟩ := wd_bits (s := s) hP hN ht
        have w1 := yworthOf (c := c) (d := d) (D := D) (t := t) (s := s) ht (by omega)
        rw [hw t (Nat.le_refl _) s (by omega)] at w1
        have w2 := hit (i + s) (by omega)
        rw [show 31 * o + (i + s) = 31 * o + i + s by omega] at w2
        by_cases e3 : it (i + s) = (WD P t s).toInt64
        · have := ih p (s + 1) (by omega) (by omega) (by omega)
          simp (disch := omega) only [Option.bind_some, plit, plit64, nI_add, pk_mul, if_true, if_false, or_true, true_or, oifT, Nat.one_ne_zero, ↓reduceIte, Nat.reduceLT, Nat.reduceLeDiff, Nat.reduceEqDiff, Nat.reduceAdd, Nat.reduceMul, Nat.reduceSub, Nat.reduceDiv, nI_eq, nI_leI, nI_ltI, nI_neg, neg_eq, yo_100, yr_100_0, yr_100_1, yr_100_2, yr_100_3, yr_100_4, yr_100_5, yr_100_6, yr_100_7, yr_100_8, yr_100_9, yr_100_10, yr_100_11, yr_100_12, yr_100_13, yr_100_14, yr_100_15, yr_100_16, yr_100_17, yr_100_18, yr_100_19, yr_100_20, yr_100_21, yr_100_22, yr_100_23, yr_100_24, yr_100_25, yr_100_26, yr_100_27, yr_100_28, ya_101, ya_102, ya_103, ya_104, ya_105, ya_106, ya_107, ya_108, ya_109, ya_110, ya_111, ya_112, ya_113, ya_114, ya_115, ya_116, ya_117, ya_118, ya_119, hP.r0_, hl, e, e2, w1, ← w2, b2, e3]
          rw [show lg_cmp (WD P t s).toInt64 (WD P t s).toInt64 = nI 0 from lgc.mpr rfl, if_pos rfl]
          exact this
        · simp (disch := omega) only [Option.bind_some, plit, plit64, nI_add, pk_mul, if_true, if_false, or_true, true_or, oifT, Nat.one_ne_zero, ↓reduceIte, Nat.reduceLT, Nat.reduceLeDiff, Nat.reduceEqDiff, Nat.reduceAdd, Nat.reduceMul, Nat.reduceSub, Nat.reduceDiv, nI_eq, nI_leI, nI_ltI, nI_neg, neg_eq, yo_100, yr_100_0, yr_100_1, yr_100_2, yr_100_3, yr_100_4, yr_100_5, yr_100_6, yr_100_7, yr_100_8, yr_100_9, yr_100_10, yr_100_11, yr_100_12, yr_100_13, yr_100_14, yr_100_15, yr_100_16, yr_100_17, yr_100_18, yr_100_19, yr_100_20, yr_100_21, yr_100_22, yr_100_23, yr_100_24, yr_100_25, yr_100_26, yr_100_27, yr_100_28, ya_101, ya_102, ya_103, ya_104, ya_105, ya_106, ya_107, ya_108, ya_109, ya_110, ya_111, ya_112, ya_113, ya_114, ya_115, ya_116, ya_117, ya_118, ya_119, hP.r0_, hl, e, e2, w1, ← w2, b2, e3]
          rw [if_neg (show ¬ lg_cmp (it (i + s)) (WD P t s).toInt64 = nI 0 from fun z => e3 (lgc.mp z))]
      · simp (disch := omega) only [Option.bind_some, plit, plit64, nI_add, pk_mul, if_true, if_false, or_true, true_or, oifT, Nat.one_ne_zero, ↓reduceIte, Nat.reduceLT, Nat.reduceLeDiff, Nat.reduceEqDiff, Nat.reduceAdd, Nat.reduceMul, Nat.reduceSub, Nat.reduceDiv, nI_eq, nI_leI, nI_ltI, nI_neg, neg_eq, yo_100, yr_100_0, yr_100_1, yr_100_2, yr_100_3, yr_100_4, yr_100_5, yr_100_6, yr_100_7, yr_100_8, yr_100_9, yr_100_10, yr_100_11, yr_100_12, yr_100_13, yr_100_14, yr_100_15, yr_100_16, yr_100_17, yr_100_18, yr_100_19, yr_100_20, yr_100_21, yr_100_22, yr_100_23, yr_100_24, yr_100_25, yr_100_26, yr_100_27, yr_100_28, ya_101, ya_102, ya_103, ya_104, ya_105, ya_106, ya_107, ya_108, ya_109, ya_110, ya_111, ya_112, ya_113, ya_114, ya_115, ya_116, ya_117, ya_118, ya_119, hP.r0_, hl, e, e2]
theorem p_judge (h : RR c d D) (hN : 100 ≤ N) (a b x : Int32) : ∃ r c' d', m_X11_judge N 10 a b x (mk c d D) = some (r, mk c' d D) ∧ m_X12_judge N 100 a b x (mk c' d D) = some (r, mk c' d' D) ∧ RR c' d' D := by
  have hP := h.1
  rcases rg a 20 with ⟨t, ht, rfl⟩ | ha
  · have e1 := wi_in (k := t) (m := 20) ht
    have e2 := isStage_in ht
    rcases rg b 3 with ⟨o, ho, rfl⟩ | hb
    · have e3 := wi_in (k := o) (m := 3) ho
      have e4 := isTray_in ho
      rcases h.2.2.2.2.2.2.2 o (by omega) with ⟨t1, t2⟩ | ⟨n, t1, t2, t3, t4⟩
      · refine ⟨-nI 11, c, d, ?_, ?_, h⟩
        · simp (disch := omega) only [m_X11_judge, Option.bind_some, plit, plit64, nI_add, pk_mul, if_true, if_false, or_true, true_or, oifT, Nat.one_ne_zero, ↓reduceIte, Nat.reduceLT, Nat.reduceLeDiff, Nat.reduceEqDiff, Nat.reduceAdd, Nat.reduceMul, Nat.reduceSub, Nat.reduceDiv, nI_eq, nI_leI, nI_ltI, nI_neg, neg_eq, yo_10, yr_10_0, yr_10_1, yr_10_2, yr_10_3, yr_10_4, yr_10_5, yr_10_6, yr_10_7, yr_10_8, yr_10_9, yr_10_10, yr_10_11, yo_11, yr_11_0, yr_11_1, yr_11_2, yr_11_3, yr_11_4, yn_13, ya_13, yo_14, yr_14_0, yr_14_1, yr_14_2, yr_14_3, ya_15, ya_16, ya_99, yli_R, ylc, yls, yln, yla, ylu, e1, e3, t1]
        · simp (disch := omega) only [m_X12_judge, Option.bind_some, plit, plit64, nI_add, pk_mul, if_true, if_false, or_true, true_or, oifT, Nat.one_ne_zero, ↓reduceIte, Nat.reduceLT, Nat.reduceLeDiff, Nat.reduceEqDiff, Nat.reduceAdd, Nat.reduceMul, Nat.reduceSub, Nat.reduceDiv, nI_eq, nI_leI, nI_ltI, nI_neg, neg_eq, yo_100, yr_100_0, yr_100_1, yr_100_2, yr_100_3, yr_100_4, yr_100_5, yr_100_6, yr_100_7, yr_100_8, yr_100_9, yr_100_10, yr_100_11, yr_100_12, yr_100_13, yr_100_14, yr_100_15, yr_100_16, yr_100_17, yr_100_18, yr_100_19, yr_100_20, yr_100_21, yr_100_22, yr_100_23, yr_100_24, yr_100_25, yr_100_26, yr_100_27, yr_100_28, ya_101, ya_102, ya_103, ya_104, ya_105, ya_106, ya_107, ya_108, ya_109, ya_110, ya_111, ya_112, ya_113, ya_114, ya_115, ya_116, ya_117, ya_118, ya_119, e2, e4, t2, nle_neg]
      · rcases rg x n with ⟨i, hi, rfl⟩ | hx
        · have e5 := wi_in (k := i) (m := n) hi
          have e6 := in_in (k := i) (lo := 0) (hi := n) (by omega) hi
          rw [nI_l (by omega)] at e6
          obtain ⟨r, m, k, r1, r2, r3⟩ := xrow (d := d) (D := D) hN hP h.2.2.2.1 ht
          obtain ⟨w, w1, w2⟩ := yreck (c := ((c.s_rows r).s_nets m).s_made k) (D := D) hN hP ht
          have g1 := xjudge_go (c := ((c.s_rows r).s_nets m).s_made k) (d := d) (D := D) hN hP ht (o := o) (by omega) hi t1 r3 N 40 0 (by omega) (by omega) (by omega)
          have g2 := yjudge_go (c := ((c.s_rows r).s_nets m).s_made k) (d := d.s_worths w) (D := D) hN hP ht (o := o) (by omega) hi t1 t3 t4 w2 N 40 0 (by omega) (by omega) (by omega)
          refine ⟨judD c.pl t (c.li o) i n 40 0, ((c.s_rows r).s_nets m).s_made k, d.s_worths w, ?_, ?_, h.wr r2⟩
          · simp (disch := omega) only [m_X11_judge, Option.bind_some, plit, plit64, nI_add, pk_mul, if_true, if_false, or_true, true_or, oifT, Nat.one_ne_zero, ↓reduceIte, Nat.reduceLT, Nat.reduceLeDiff, Nat.reduceEqDiff, Nat.reduceAdd, Nat.reduceMul, Nat.reduceSub, Nat.reduceDiv, nI_eq, nI_leI, nI_ltI, nI_neg, neg_eq, yo_10, yr_10_0, yr_10_1, yr_10_2, yr_10_3, yr_10_4, yr_10_5, yr_10_6, yr_10_7, yr_10_8, yr_10_9, yr_10_10, yr_10_11, yo_11, yr_11_0, yr_11_1, yr_11_2, yr_11_3, yr_11_4, yn_13, ya_13, yo_14, yr_14_0, yr_14_1, yr_14_2, yr_14_3, ya_15, ya_16, ya_99, yli_R, ylc, yls, yln, yla, ylu, e1, e3, t2, e5, yo_49, r1]
            exact g1
          · simp (disch := omega) only [m_X12_judge, Option.bind_some, plit, plit64, nI_add, pk_mul, if_true, if_false, or_true, true_or, oifT, Nat.one_ne_zero, ↓reduceIte, Nat.reduceLT, Nat.reduceLeDiff, Nat.reduceEqDiff, Nat.reduceAdd, Nat.reduceMul, Nat.reduceSub, Nat.reduceDiv, nI_eq, nI_leI, nI_ltI, nI_neg, neg_eq, yo_100, yr_100_0, yr_100_1, yr_100_2, yr_100_3, yr_100_4, yr_100_5, yr_100_6, yr_100_7, yr_100_8, yr_100_9, yr_100_10, yr_100_11, yr_100_12, yr_100_13, yr_100_14, yr_100_15, yr_100_16, yr_100_17, yr_100_18, yr_100_19, yr_100_20, yr_100_21, yr_100_22, yr_100_23, yr_100_24, yr_100_25, yr_100_26, yr_100_27, yr_100_28, ya_101, ya_102, ya_103, ya_104, ya_105, ya_106, ya_107, ya_108, ya_109, ya_110, ya_111, ya_112, ya_113, ya_114, ya_115, ya_116, ya_117, ya_118, ya_119, e2, e4, t3, Nat.zero_le, nI_l, e6, w1]
            exact g2
        · have e5 := wi_out (x := x) (m := n) hx
          have e6 := in_out (x := x) (lo := 0) (hi := n) (by omega)
          refine ⟨-nI 12, c, d, ?_, ?_, h⟩
          · simp (disch := omega) only [m_X11_judge, Option.bind_some, plit, plit64, nI_add, pk_mul, if_true, if_false, or_true, true_or, oifT, Nat.one_ne_zero, ↓reduceIte, Nat.reduceLT, Nat.reduceLeDiff, Nat.reduceEqDiff, Nat.reduceAdd, Nat.reduceMul, Nat.reduceSub, Nat.reduceDiv, nI_eq, nI_leI, nI_ltI, nI_neg, neg_eq, yo_10, yr_10_0, yr_10_1, yr_10_2, yr_10_3, yr_10_4, yr_10_5, yr_10_6, yr_10_7, yr_10_8, yr_10_9, yr_10_10, yr_10_11, yo_11, yr_11_0, yr_11_1, yr_11_2, yr_11_3, yr_11_4, yn_13, ya_13, yo_14, yr_14_0, yr_14_1, yr_14_2, yr_14_3, ya_15, ya_16, ya_99, yli_R, ylc, yls, yln, yla, ylu, e1, e3, t2, e5]
          · simp (disch := omega) only [m_X12_judge, Option.bind_some, plit, plit64, nI_add, pk_mul, if_true, if_false, or_true, true_or, oifT, Nat.one_ne_zero, ↓reduceIte, Nat.reduceLT, Nat.reduceLeDiff, Nat.reduceEqDiff, Nat.reduceAdd, Nat.reduceMul, Nat.reduceSub, Nat.reduceDiv, nI_eq, nI_leI, nI_ltI, nI_neg, neg_eq, yo_100, yr_100_0, yr_100_1, yr_100_2, yr_100_3, yr_100_4, yr_100_5, yr_100_6, yr_100_7, yr_100_8, yr_100_9, yr_100_10, yr_100_11, yr_100_12, yr_100_13, yr_100_14, yr_100_15, yr_100_16, yr_100_17, yr_100_18, yr_100_19, yr_100_20, yr_100_21, yr_100_22, yr_100_23, yr_100_24, yr_100_25, yr_100_26, yr_100_27, yr_100_28, ya_101, ya_102, ya_103, ya_104, ya_105, ya_106, ya_107, ya_108, ya_109, ya_110, ya_111, ya_112, ya_113, ya_114, ya_115, ya_116, ya_117, ya_118, ya_119, e2, e4, t3, Nat.zero_le, nI_l, e6]
    · have e3 := wi_out (x := b) (m := 3) hb
      have e4 := isTray_out hb
      refine ⟨-nI 1, c, d, ?_, ?_, h⟩
      · simp (disch := omega) only [m_X11_judge, Option.bind_some, plit, plit64, nI_add, pk_mul, if_true, if_false, or_true, true_or, oifT, Nat.one_ne_zero, ↓reduceIte, Nat.reduceLT, Nat.reduceLeDiff, Nat.reduceEqDiff, Nat.reduceAdd, Nat.reduceMul, Nat.reduceSub, Nat.reduceDiv, nI_eq, nI_leI, nI_ltI, nI_neg, neg_eq, yo_10, yr_10_0, yr_10_1, yr_10_2, yr_10_3, yr_10_4, yr_10_5, yr_10_6, yr_10_7, yr_10_8, yr_10_9, yr_10_10, yr_10_11, yo_11, yr_11_0, yr_11_1, yr_11_2, yr_11_3, yr_11_4, yn_13, ya_13, yo_14, yr_14_0, yr_14_1, yr_14_2, yr_14_3, ya_15, ya_16, e1, e3]
      · simp (disch := omega) only [m_X12_judge, Option.bind_some, plit, plit64, nI_add, pk_mul, if_true, if_false, or_true, true_or, oifT, Nat.one_ne_zero, ↓reduceIte, Nat.reduceLT, Nat.reduceLeDiff, Nat.reduceEqDiff, Nat.reduceAdd, Nat.reduceMul, Nat.reduceSub, Nat.reduceDiv, nI_eq, nI_leI, nI_ltI, nI_neg, neg_eq, yo_100, yr_100_0, yr_100_1, yr_100_2, yr_100_3, yr_100_4, yr_100_5, yr_100_6, yr_100_7, yr_100_8, yr_100_9, yr_100_10, yr_100_11, yr_100_12, yr_100_13, yr_100_14, yr_100_15, yr_100_16, yr_100_17, yr_100_18, yr_100_19, yr_100_20, yr_100_21, yr_100_22, yr_100_23, yr_100_24, yr_100_25, yr_100_26, yr_100_27, yr_100_28, ya_101, ya_102, ya_103, ya_104, ya_105, ya_106, ya_107, ya_108, ya_109, ya_110, ya_111, ya_112, ya_113, ya_114, ya_115, ya_116, ya_117, ya_118, ya_119, e2, e4]
  · have e1 := wi_out (x := a) (m := 20) ha
    have e2 := isStage_out ha
    refine ⟨-nI 1, c, d, ?_, ?_, h⟩
    · simp (disch := omega) only [m_X11_judge, Option.bind_some, plit, plit64, nI_add, pk_mul, if_true, if_false, or_true, true_or, oifT, Nat.one_ne_zero, ↓reduceIte, Nat.reduceLT, Nat.reduceLeDiff, Nat.reduceEqDiff, Nat.reduceAdd, Nat.reduceMul, Nat.reduceSub, Nat.reduceDiv, nI_eq, nI_leI, nI_ltI, nI_neg, neg_eq, yo_10, yr_10_0, yr_10_1, yr_10_2, yr_10_3, yr_10_4, yr_10_5, yr_10_6, yr_10_7, yr_10_8, yr_10_9, yr_10_10, yr_10_11, yo_11, yr_11_0, yr_11_1, yr_11_2, yr_11_3, yr_11_4, yn_13, ya_13, yo_14, yr_14_0, yr_14_1, yr_14_2, yr_14_3, ya_15, ya_16, e1]
    · simp (disch := omega) only [m_X12_judge, Option.bind_some, plit, plit64, nI_add, pk_mul, if_true, if_false, or_true, true_or, oifT, Nat.one_ne_zero, ↓reduceIte, Nat.reduceLT, Nat.reduceLeDiff, Nat.reduceEqDiff, Nat.reduceAdd, Nat.reduceMul, Nat.reduceSub, Nat.reduceDiv, nI_eq, nI_leI, nI_ltI, nI_neg, neg_eq, yo_100, yr_100_0, yr_100_1, yr_100_2, yr_100_3, yr_100_4, yr_100_5, yr_100_6, yr_100_7, yr_100_8, yr_100_9, yr_100_10, yr_100_11, yr_100_12, yr_100_13, yr_100_14, yr_100_15, yr_100_16, yr_100_17, yr_100_18, yr_100_19, yr_100_20, yr_100_21, yr_100_22, yr_100_23, yr_100_24, yr_100_25, yr_100_26, yr_100_27, yr_100_28, ya_101, ya_102, ya_103, ya_104, ya_105, ya_106, ya_107, ya_108, ya_109, ya_110, ya_111, ya_112, ya_113, ya_114, ya_115, ya_116, ya_117, ya_118, ya_119, e2]
end
