-- the calls that only ask for numbers of the plan
theorem nI_neg {a b : Nat} (h : 0 < b) (hb : b < 2 ^ 31 := by omega) (ha : a < 2 ^ 31 := by omega) : ¬ nI a = -nI b := by
  intro e
  have := congrArg Int32.toInt e
  rw [nI_toInt ha, sb_negT hb] at this
  omega
theorem neg_eq {a b : Nat} (ha : a < 2 ^ 31 := by omega) (hb : b < 2 ^ 31 := by omega) : -nI a = -nI b ↔ a = b := by
  constructor
  · intro e
    have := congrArg Int32.toInt e
    rw [sb_negT ha, sb_negT hb] at this
    omega
  · intro e; rw [e]
section
variable {c : CS} {d : MS} {D : mM} {N k : Nat} {a : Int32} {P : PL}
theorem xhf_in (hk : k < c.pl.n) (hn : c.pl.n ≤ 6) : m_X5_hasFare 11 (nI k) (mk c d D) = some (nI 1) := by
  unfold m_X5_hasFare
  rw [if_neg (nI_pos (by omega)), yr_11_1, Option.bind_some, if_neg (nI_ge (by omega) (by omega))]
  rfl
theorem xhf_out (h : a.toInt < 0 ∨ (c.pl.n : Int) ≤ a.toInt) (hn : c.pl.n ≤ 6) : m_X5_hasFare 11 a (mk c d D) = some (nI 0) := by
  unfold m_X5_hasFare
  by_cases h0 : a < 0
  · rw [if_pos h0]; rfl
  · rw [if_neg h0, yr_11_1, Option.bind_some, if_pos]
    · rfl
    · rw [Int32.lt_iff_toInt_lt] at h0
      rw [Int32.le_iff_toInt_le, nI_toInt (by omega)]
      have : (0 : Int32).toInt = 0 := by decide
      omega
theorem oifT [Decidable True] : oif True = some () := if_pos trivial
theorem yif_in (hk : k < P.n) (h : PR P d.now) : m_X12_isFare 100 (nI k) (mk c d D) = some (nI 1) := by
  have hn := h.n
  have i1 := in_inS (k := k) (n := P.n) hk
  simp only [m_X12_isFare, plit, plit64, yr_100_0, Option.bind_some, ya_101 (show 0 < 129 by omega), h.n_, i1, or_true, oifT]
theorem yif_out (hk : a.toInt < 0 ∨ (P.n : Int) ≤ a.toInt) (h : PR P d.now) : m_X12_isFare 100 a (mk c d D) = some (nI 0) := by
  have hn := h.n
  have i1 := in_outS (x := a) (n := P.n) hk
  simp only [m_X12_isFare, plit, plit64, yr_100_0, Option.bind_some, ya_101 (show 0 < 129 by omega), h.n_, i1, true_or, oifT]
theorem zk0 {k : Nat} (h : k < 4) : zK0 k = some (nI k) := by
  match k, h with
  | 0, _ => rfl
  | 1, _ => rfl
  | 2, _ => rfl
  | 3, _ => rfl
theorem p_of (h : RR c d D) (a b : Int32) : ∃ r, m_X11_of 10 a b (mk c d D) = some r ∧ m_X12_of 100 a b (mk c d D) = some r := by
  have hP := h.1
  have hn := hP.n
  rcases rgS a c.pl.n with ⟨k, hk, rfl⟩ | ha
  · have e1 := xhf_in (d := d) (D := D) hk hn
    have e2 := yif_in (c := c) (D := D) hk hP
    rcases rg b 5 with ⟨j, hj, rfl⟩ | hb
    · have e3 := wi_in (k := j) (m := 5) hj
      have e4 := in_in (k := j) (lo := 0) (hi := 5) (by omega) hj
      have hk6 : k < 6 := by omega
      by_cases h0 : j = 0
      · subst h0
        refine ⟨nI (c.pl.kind k), ?_, ?_⟩
        · simp (disch := omega) only [m_X11_of, Option.bind_some, plit, plit64, nI_add, pk_mul, if_true, if_false, or_true, true_or, oifT, Nat.one_ne_zero, ↓reduceIte, Nat.reduceLT, Nat.reduceLeDiff, Nat.reduceEqDiff, Nat.reduceAdd, Nat.reduceMul, Nat.reduceSub, Nat.reduceDiv, nI_eq, nI_leI, nI_ltI, yo_10, yr_10_0, yr_10_1, yr_10_2, yr_10_3, yr_10_4, yr_10_5, yr_10_6, yr_10_7, yr_10_8, yr_10_9, yr_10_10, yr_10_11, yo_11, yr_11_0, yr_11_1, yr_11_2, yr_11_3, yr_11_4, yn_13, ya_13, yo_14, yr_14_0, yr_14_1, yr_14_2, yr_14_3, ya_15, ya_16, yfar_R, yfo, yf_0, yf_1, yf_2, yf_3, yfoa, e1, e3, zk0 (hP.k hk6), Nat.one_ne_zero]
        · simp (disch := omega) only [m_X12_of, Option.bind_some, plit, plit64, nI_add, pk_mul, if_true, if_false, or_true, true_or, oifT, Nat.one_ne_zero, ↓reduceIte, Nat.reduceLT, Nat.reduceLeDiff, Nat.reduceEqDiff, Nat.reduceAdd, Nat.reduceMul, Nat.reduceSub, Nat.reduceDiv, nI_eq, nI_leI, nI_ltI, yo_100, yr_100_0, yr_100_1, yr_100_2, yr_100_3, yr_100_4, yr_100_5, yr_100_6, yr_100_7, yr_100_8, yr_100_9, yr_100_10, yr_100_11, yr_100_12, yr_100_13, yr_100_14, yr_100_15, yr_100_16, yr_100_17, yr_100_18, yr_100_19, yr_100_20, yr_100_21, yr_100_22, yr_100_23, yr_100_24, yr_100_25, yr_100_26, yr_100_27, yr_100_28, ya_101, ya_102, ya_103, ya_104, ya_105, ya_106, ya_107, ya_108, ya_109, ya_110, ya_111, ya_112, ya_113, ya_114, ya_115, ya_116, ya_117, ya_118, ya_119, e2, e4, hP.k_ hk6, Nat.one_ne_zero]
      · by_cases h1 : j = 1
        · subst h1
          refine ⟨nI (c.pl.price k), ?_, ?_⟩
          · simp (disch := omega) only [m_X11_of, Option.bind_some, plit, plit64, nI_add, pk_mul, if_true, if_false, or_true, true_or, oifT, Nat.one_ne_zero, ↓reduceIte, Nat.reduceLT, Nat.reduceLeDiff, Nat.reduceEqDiff, Nat.reduceAdd, Nat.reduceMul, Nat.reduceSub, Nat.reduceDiv, nI_eq, nI_leI, nI_ltI, yo_10, yr_10_0, yr_10_1, yr_10_2, yr_10_3, yr_10_4, yr_10_5, yr_10_6, yr_10_7, yr_10_8, yr_10_9, yr_10_10, yr_10_11, yo_11, yr_11_0, yr_11_1, yr_11_2, yr_11_3, yr_11_4, yn_13, ya_13, yo_14, yr_14_0, yr_14_1, yr_14_2, yr_14_3, ya_15, ya_16, yfar_R, yfo, yf_0, yf_1, yf_2, yf_3, yfoa, e1, e3, Nat.one_ne_zero]
          · simp (disch := omega) only [m_X12_of, m_X12_price, Option.bind_some, plit, plit64, nI_add, pk_mul, if_true, if_false, or_true, true_or, oifT, Nat.one_ne_zero, ↓reduceIte, Nat.reduceLT, Nat.reduceLeDiff, Nat.reduceEqDiff, Nat.reduceAdd, Nat.reduceMul, Nat.reduceSub, Nat.reduceDiv, nI_eq, nI_leI, nI_ltI, yo_100, yr_100_0, yr_100_1, yr_100_2, yr_100_3, yr_100_4, yr_100_5, yr_100_6, yr_100_7, yr_100_8, yr_100_9, yr_100_10, yr_100_11, yr_100_12, yr_100_13, yr_100_14, yr_100_15, yr_100_16, yr_100_17, yr_100_18, yr_100_19, yr_100_20, yr_100_21, yr_100_22, yr_100_23, yr_100_24, yr_100_25, yr_100_26, yr_100_27, yr_100_28, ya_101, ya_102, ya_103, ya_104, ya_105, ya_106, ya_107, ya_108, ya_109, ya_110, ya_111, ya_112, ya_113, ya_114, ya_115, ya_116, ya_117, ya_118, ya_119, e2, e4, hP.p_ hk6, Nat.one_ne_zero]
        · refine ⟨nI (c.pl.odds k (j - 2)), ?_, ?_⟩
          · simp (disch := omega) only [m_X11_of, Option.bind_some, plit, plit64, nI_add, pk_mul, if_true, if_false, or_true, true_or, oifT, Nat.one_ne_zero, ↓reduceIte, Nat.reduceLT, Nat.reduceLeDiff, Nat.reduceEqDiff, Nat.reduceAdd, Nat.reduceMul, Nat.reduceSub, Nat.reduceDiv, nI_eq, nI_leI, nI_ltI, yo_10, yr_10_0, yr_10_1, yr_10_2, yr_10_3, yr_10_4, yr_10_5, yr_10_6, yr_10_7, yr_10_8, yr_10_9, yr_10_10, yr_10_11, yo_11, yr_11_0, yr_11_1, yr_11_2, yr_11_3, yr_11_4, yn_13, ya_13, yo_14, yr_14_0, yr_14_1, yr_14_2, yr_14_3, ya_15, ya_16, yfar_R, yfo, yf_0, yf_1, yf_2, yf_3, yfoa, e1, e3, Nat.one_ne_zero, h0, h1, pk_sub]
          · simp (disch := omega) only [m_X12_of, Option.bind_some, plit, plit64, nI_add, pk_mul, if_true, if_false, or_true, true_or, oifT, Nat.one_ne_zero, ↓reduceIte, Nat.reduceLT, Nat.reduceLeDiff, Nat.reduceEqDiff, Nat.reduceAdd, Nat.reduceMul, Nat.reduceSub, Nat.reduceDiv, nI_eq, nI_leI, nI_ltI, yo_100, yr_100_0, yr_100_1, yr_100_2, yr_100_3, yr_100_4, yr_100_5, yr_100_6, yr_100_7, yr_100_8, yr_100_9, yr_100_10, yr_100_11, yr_100_12, yr_100_13, yr_100_14, yr_100_15, yr_100_16, yr_100_17, yr_100_18, yr_100_19, yr_100_20, yr_100_21, yr_100_22, yr_100_23, yr_100_24, yr_100_25, yr_100_26, yr_100_27, yr_100_28, ya_101, ya_102, ya_103, ya_104, ya_105, ya_106, ya_107, ya_108, ya_109, ya_110, ya_111, ya_112, ya_113, ya_114, ya_115, ya_116, ya_117, ya_118, ya_119, e2, e4, Nat.one_ne_zero, h0, h1, pk_sub]
            rw [← hP.o_ hk6 (j := j - 2) (by omega)]
            congr 2
            omega
    · have e3 := wi_out (x := b) (m := 5) hb
      have e4 := in_out (x := b) (lo := 0) (hi := 5) (by omega)
      refine ⟨-nI 1, ?_, ?_⟩
      · simp (disch := omega) only [m_X11_of, Option.bind_some, plit, plit64, nI_add, pk_mul, if_true, if_false, or_true, true_or, oifT, Nat.one_ne_zero, ↓reduceIte, Nat.reduceLT, Nat.reduceLeDiff, Nat.reduceEqDiff, Nat.reduceAdd, Nat.reduceMul, Nat.reduceSub, Nat.reduceDiv, nI_eq, nI_leI, nI_ltI, yo_10, yr_10_0, yr_10_1, yr_10_2, yr_10_3, yr_10_4, yr_10_5, yr_10_6, yr_10_7, yr_10_8, yr_10_9, yr_10_10, yr_10_11, yo_11, yr_11_0, yr_11_1, yr_11_2, yr_11_3, yr_11_4, yn_13, ya_13, yo_14, yr_14_0, yr_14_1, yr_14_2, yr_14_3, ya_15, ya_16, yfar_R, yfo, yf_0, yf_1, yf_2, yf_3, yfoa, e1, e3, Nat.one_ne_zero]
      · simp (disch := omega) only [m_X12_of, Option.bind_some, plit, plit64, nI_add, pk_mul, if_true, if_false, or_true, true_or, oifT, Nat.one_ne_zero, ↓reduceIte, Nat.reduceLT, Nat.reduceLeDiff, Nat.reduceEqDiff, Nat.reduceAdd, Nat.reduceMul, Nat.reduceSub, Nat.reduceDiv, nI_eq, nI_leI, nI_ltI, yo_100, yr_100_0, yr_100_1, yr_100_2, yr_100_3, yr_100_4, yr_100_5, yr_100_6, yr_100_7, yr_100_8, yr_100_9, yr_100_10, yr_100_11, yr_100_12, yr_100_13, yr_100_14, yr_100_15, yr_100_16, yr_100_17, yr_100_18, yr_100_19, yr_100_20, yr_100_21, yr_100_22, yr_100_23, yr_100_24, yr_100_25, yr_100_26, yr_100_27, yr_100_28, ya_101, ya_102, ya_103, ya_104, ya_105, ya_106, ya_107, ya_108, ya_109, ya_110, ya_111, ya_112, ya_113, ya_114, ya_115, ya_116, ya_117, ya_118, ya_119, e2, e4, Nat.one_ne_zero]
  · have e1 := xhf_out (d := d) (D := D) ha hn
    have e2 := yif_out (c := c) (D := D) ha hP
    refine ⟨-nI 1, ?_, ?_⟩
    · simp (disch := omega) only [m_X11_of, Option.bind_some, plit, plit64, nI_add, pk_mul, if_true, if_false, or_true, true_or, oifT, Nat.one_ne_zero, ↓reduceIte, Nat.reduceLT, Nat.reduceLeDiff, Nat.reduceEqDiff, Nat.reduceAdd, Nat.reduceMul, Nat.reduceSub, Nat.reduceDiv, nI_eq, nI_leI, nI_ltI, yo_10, yr_10_0, yr_10_1, yr_10_2, yr_10_3, yr_10_4, yr_10_5, yr_10_6, yr_10_7, yr_10_8, yr_10_9, yr_10_10, yr_10_11, yo_11, yr_11_0, yr_11_1, yr_11_2, yr_11_3, yr_11_4, yn_13, ya_13, yo_14, yr_14_0, yr_14_1, yr_14_2, yr_14_3, ya_15, ya_16, yfar_R, yfo, yf_0, yf_1, yf_2, yf_3, yfoa, e1]
    · simp (disch := omega) only [m_X12_of, Option.bind_some, plit, plit64, nI_add, pk_mul, if_true, if_false, or_true, true_or, oifT, Nat.one_ne_zero, ↓reduceIte, Nat.reduceLT, Nat.reduceLeDiff, Nat.reduceEqDiff, Nat.reduceAdd, Nat.reduceMul, Nat.reduceSub, Nat.reduceDiv, nI_eq, nI_leI, nI_ltI, yo_100, yr_100_0, yr_100_1, yr_100_2, yr_100_3, yr_100_4, yr_100_5, yr_100_6, yr_100_7, yr_100_8, yr_100_9, yr_100_10, yr_100_11, yr_100_12, yr_100_13, yr_100_14, yr_100_15, yr_100_16, yr_100_17, yr_100_18, yr_100_19, yr_100_20, yr_100_21, yr_100_22, yr_100_23, yr_100_24, yr_100_25, yr_100_26, yr_100_27, yr_100_28, ya_101, ya_102, ya_103, ya_104, ya_105, ya_106, ya_107, ya_108, ya_109, ya_110, ya_111, ya_112, ya_113, ya_114, ya_115, ya_116, ya_117, ya_118, ya_119, e2]
end
