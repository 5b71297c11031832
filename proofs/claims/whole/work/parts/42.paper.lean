-- the paper's bytes
section
variable {c : CS} {d : MS} {D : mM} {N k : Nat} {a : Int32} {P : PL}
theorem pa_n {n : Nat} {f : Nat → Int32} (h : PA c D n f) : aN 4 (mk c d D) c.pgv = some (nI n) := by
  rcases h with ⟨h1, h2, h3⟩ | ⟨j, h1, h2⟩
  · rw [h1, h2]; rfl
  · rw [h1]
    unfold aN
    rw [mkD, h2]
    rfl
theorem pa_a {n i : Nat} {f : Nat → Int32} (h : PA c D n f) (hi : i < n) (hn : n < 2 ^ 31) : aI 4 (mk c d D) c.pgv (nI i) = some (f i) := by
  rcases h with ⟨h1, h2, h3⟩ | ⟨j, h1, h2⟩
  · rw [h1, ya_84 (by omega), h3]
  · rw [h1]
    unfold aI
    rw [mkD, h2]
    simp only [if_true]
    rw [if_neg (vp_in_nI hi hn), nI_clamp (by omega)]
theorem char_b : ∀ b, b < 128 → ((nI b &&& nI 255).toUInt32 % 65536).toInt32 = nI b ∧ narrow .char (.int (nI b)) = .int (nI b) := by decide +kernel
theorem shr_0 {n : Nat} (h : n < 2 ^ 31) : nI n >>> (nI 0 &&& nI 31) = nI n := sc_shr0 h
theorem p_paper (h : RR c d D) (a : Int32) : ∃ r, m_X11_paper 10 a (mk c d D) = some r ∧ m_X12_paper 100 a (mk c d D) = some r := by
  obtain ⟨p1, p2, p3, n, f, p4, p5, p6, p7, _⟩ := h.2.2.2.2.2.1
  have e1 := pa_n (d := d) p4
  rcases rgS a c.pgc with ⟨i, hi, rfl⟩ | ha
  · obtain ⟨b, b1, b2, b3⟩ := p7 i hi
    have e2 := pa_a (d := d) (i := i) p4 (by omega) (by omega)
    have e3 := wi_inS (k := i) (n := c.pgc) hi
    have e4 := in_inS (k := i) (n := c.pgc) hi
    obtain ⟨e5, e6⟩ := char_b b (by omega)
    refine ⟨nI b, ?_, ?_⟩
    · simp (disch := omega) only [m_X11_paper, m_J4_length_8abf5, m_J5_length_8abf5, m_J4_charAt_5068e, m_J5_charAt_5068e, m_J0_checkIndex_df160, m_J3_checkIndex_8e157, Option.bind_some, plit, plit64, nI_add, pk_mul, if_true, if_false, or_true, true_or, oifT, Nat.one_ne_zero, ↓reduceIte, Nat.reduceLT, Nat.reduceLeDiff, Nat.reduceEqDiff, Nat.reduceAdd, Nat.reduceMul, Nat.reduceSub, Nat.reduceDiv, nI_eq, nI_leI, nI_ltI, nI_neg, neg_eq, yo_10, yr_10_0, yr_10_1, yr_10_2, yr_10_3, yr_10_4, yr_10_5, yr_10_6, yr_10_7, yr_10_8, yr_10_9, yr_10_10, yr_10_11, yo_11, yr_11_0, yr_11_1, yr_11_2, yr_11_3, yr_11_4, yn_13, ya_13, yo_14, yr_14_0, yr_14_1, yr_14_2, yr_14_3, ya_15, ya_16, yo_83, yr_83_0, yr_83_1, yr_83_3, e3, p1, e1, shr_0, iMin_nI, Nat.min_eq_left p5, show ¬ i < 0 by omega, hi, e2, b2, e5, e6]
    · simp (disch := omega) only [m_X12_paper, Option.bind_some, plit, plit64, nI_add, pk_mul, if_true, if_false, or_true, true_or, oifT, Nat.one_ne_zero, ↓reduceIte, Nat.reduceLT, Nat.reduceLeDiff, Nat.reduceEqDiff, Nat.reduceAdd, Nat.reduceMul, Nat.reduceSub, Nat.reduceDiv, nI_eq, nI_leI, nI_ltI, nI_neg, neg_eq, yo_100, yr_100_0, yr_100_1, yr_100_2, yr_100_3, yr_100_4, yr_100_5, yr_100_6, yr_100_7, yr_100_8, yr_100_9, yr_100_10, yr_100_11, yr_100_12, yr_100_13, yr_100_14, yr_100_15, yr_100_16, yr_100_17, yr_100_18, yr_100_19, yr_100_20, yr_100_21, yr_100_22, yr_100_23, yr_100_24, yr_100_25, yr_100_26, yr_100_27, yr_100_28, ya_101, ya_102, ya_103, ya_104, ya_105, ya_106, ya_107, ya_108, ya_109, ya_110, ya_111, ya_112, ya_113, ya_114, ya_115, ya_116, ya_117, ya_118, ya_119, p3, e4, b3]
  · have e3 := wi_outS (x := a) (n := c.pgc) ha
    have e4 := in_outS (x := a) (n := c.pgc) ha
    refine ⟨-nI 1, ?_, ?_⟩
    · simp (disch := omega) only [m_X11_paper, m_J4_length_8abf5, m_J5_length_8abf5, Option.bind_some, plit, plit64, nI_add, pk_mul, if_true, if_false, or_true, true_or, oifT, Nat.one_ne_zero, ↓reduceIte, Nat.reduceLT, Nat.reduceLeDiff, Nat.reduceEqDiff, Nat.reduceAdd, Nat.reduceMul, Nat.reduceSub, Nat.reduceDiv, nI_eq, nI_leI, nI_ltI, nI_neg, neg_eq, yo_10, yr_10_0, yr_10_1, yr_10_2, yr_10_3, yr_10_4, yr_10_5, yr_10_6, yr_10_7, yr_10_8, yr_10_9, yr_10_10, yr_10_11, yo_11, yr_11_0, yr_11_1, yr_11_2, yr_11_3, yr_11_4, yn_13, ya_13, yo_14, yr_14_0, yr_14_1, yr_14_2, yr_14_3, ya_15, ya_16, yo_83, yr_83_3, e3]
    · simp (disch := omega) only [m_X12_paper, Option.bind_some, plit, plit64, nI_add, pk_mul, if_true, if_false, or_true, true_or, oifT, Nat.one_ne_zero, ↓reduceIte, Nat.reduceLT, Nat.reduceLeDiff, Nat.reduceEqDiff, Nat.reduceAdd, Nat.reduceMul, Nat.reduceSub, Nat.reduceDiv, nI_eq, nI_leI, nI_ltI, nI_neg, neg_eq, yo_100, yr_100_0, yr_100_1, yr_100_2, yr_100_3, yr_100_4, yr_100_5, yr_100_6, yr_100_7, yr_100_8, yr_100_9, yr_100_10, yr_100_11, yr_100_12, yr_100_13, yr_100_14, yr_100_15, yr_100_16, yr_100_17, yr_100_18, yr_100_19, yr_100_20, yr_100_21, yr_100_22, yr_100_23, yr_100_24, yr_100_25, yr_100_26, yr_100_27, yr_100_28, ya_101, ya_102, ya_103, ya_104, ya_105, ya_106, ya_107, ya_108, ya_109, ya_110, ya_111, ya_112, ya_113, ya_114, ya_115, ya_116, ya_117, ya_118, ya_119, p3, e4]
end
