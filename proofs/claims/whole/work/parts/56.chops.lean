-- chance, turned, had, booked, demand, spill
section
variable {c : CS} {d : MS} {D : mM} {N k : Nat} {a : Int32} {P : PL}
theorem RR.ch (h : RR c d D) {r fw ch : Nat → UInt64} : RR (c.s_crow r) ((d.s_fewer fw).s_chances ch) D := ⟨h.1, h.2.1, h.2.2.1, h.2.2.2.1, h.2.2.2.2.1, h.2.2.2.2.2.1, h.2.2.2.2.2.2.1, h.2.2.2.2.2.2.2⟩
theorem isBooked_in {i : Nat} (h : i ≤ 40) : m_X12_isBooked (nI i) = some (nI 1) := by
  have e := in_in (k := i) (lo := 0) (hi := 40) (by omega) h
  simp only [m_X12_isBooked, Option.bind_some, plit, plit64, nI_add, pk_mul, if_true, if_false, or_true, true_or, oifT, Nat.one_ne_zero, ↓reduceIte, Nat.reduceLT, Nat.reduceLeDiff, Nat.reduceEqDiff, Nat.reduceAdd, Nat.reduceMul, Nat.reduceSub, Nat.reduceDiv, e]
theorem isBooked_out {x : Int32} (h : x.toInt < 0 ∨ 40 < x.toInt) : m_X12_isBooked x = some (nI 0) := by
  have e := in_out (x := x) (lo := 0) (hi := 40) (by omega)
  simp only [m_X12_isBooked, Option.bind_some, plit, plit64, nI_add, pk_mul, if_true, if_false, or_true, true_or, oifT, Nat.one_ne_zero, ↓reduceIte, Nat.reduceLT, Nat.reduceLeDiff, Nat.reduceEqDiff, Nat.reduceAdd, Nat.reduceMul, Nat.reduceSub, Nat.reduceDiv, true_or, e]
theorem ch_above {cs : Nat → UInt64} : ∀ b k, b < k → chD cs b k = FP.dconst0
  | 0, k, h => by unfold chD; rw [if_neg (by omega)]
  | b + 1, k, h => by
    unfold chD stepR
    rw [if_neg (by omega), if_neg (by omega), if_neg (by omega)]
    exact ch_above b k (by omega)
theorem rw_bits (hN : 100 ≤ N) {r : Nat → UInt64} (hr : Rw r) (k : Nat) : m_X9_bitsOfDouble N (r k) = some (r k).toInt64 ∧ m_Jxe99ae_doubleToLongBits_ccdee (r k) = some (r k).toInt64 := by
  refine ⟨bits_Dn (N := N) (by omega) (hr k) (by omega) ?_, dlb (hr k).1⟩
  rw [show (1106 : Nat) = 52 + 1054 from rfl, tp_add]
  refine Int.mul_le_mul_of_nonneg_right ?_ (Int.le_of_lt (tp_pos _))
  have : tp 52 = ((2 ^ 52 : Nat) : Int) := rfl
  omega
theorem ex_bits (hN : 100 ≤ N) {r : Nat → UInt64} (hr : Rw r) {s j : Nat} (hj : j ≤ 40) : m_X9_bitsOfDouble N (exD r s j) = some (exD r s j).toInt64 ∧ m_Jxe99ae_doubleToLongBits_ccdee (exD r s j) = some (exD r s j).toInt64 := by
  have d := ex_dn hr s j hj
  refine ⟨bits_Dn (N := N) (by omega) d (by omega) ?_, dlb d.1⟩
  rw [show (1106 : Nat) = 52 + 1054 from rfl, tp_add]
  refine Int.mul_le_mul_of_nonneg_right ?_ (Int.le_of_lt (tp_pos _))
  have : tp 52 = ((2 ^ 52 : Nat) : Int) := rfl
  omega
theorem had_bits (hN : 100 ≤ N) (hP : PR P d.now) {f b : Nat} {r : Nat → UInt64} (hr : Rw r) (hf : f < 6) (hb : b ≤ 40) : m_X9_bitsOfDouble N (hadD P f b r) = some (hadD P f b r).toInt64 ∧ m_Jxe99ae_doubleToLongBits_ccdee (hadD P f b r) = some (hadD P f b r).toInt64 := by
  obtain ⟨p1, p2⟩ := had_parts (P := P) (f := f) hr hP.r0 hP.r3 (hP.p hf) hb
  obtain ⟨b1, b2⟩ := bits_sub (N := N) (by omega) p1 p2 (by omega)
  exact ⟨b2, dlb b1⟩
theorem p_chance (h : RR c d D) (hN : 100 ≤ N) (a b x : Int32) : ∃ r c' d', m_X11_chance N 10 a b x (mk c d D) = some (r, mk c' d D) ∧ m_X12_chance N 100 a b x (mk c' d D) = some (r, mk c' d' D) ∧ RR c' d' D := by
  have hP := h.1
  have hn := hP.n
  have h0 := hP.r0
  rcases rg a 20 with ⟨t1, ht1, rfl⟩ | ho
  · have et1x := wi_in (k := t1) (m := 20) ht1
    have et1y := isStage_in ht1
    rcases rg b 40 with ⟨b1, hb1, rfl⟩ | ho
    · have eb1x := wi_in (k := b1) (m := 40) hb1
      have eb1y := isBooked_in hb1
      rcases rg x 40 with ⟨k1, hk1, rfl⟩ | ho
      · have ek1x := wi_in (k := k1) (m := 40) hk1
        have ek1y := isBooked_in hk1
        have cf : ∀ n, 1 ≤ n → n ≤ b1 → Cf ((fun _ => showD c.pl t1) n) := fun n _ _ => show_cf hP.r1 hP.r2 ht1
        have hr := ch_rw hb1 cf
        obtain ⟨r, r1, r2⟩ := xshowing (d := d) (D := D) hN hP ht1 hb1
        obtain ⟨fw, ch, c1, c2⟩ := ychances (c := c.s_crow r) (D := D) hN hP ht1 hb1
        obtain ⟨q1, q2⟩ := rw_bits hN hr k1
        have r3 := r2 k1 hk1
        refine ⟨(chD (fun _ => showD c.pl t1) b1 k1).toInt64, c.s_crow r, (d.s_fewer fw).s_chances ch, ?_, ?_, h.ch⟩
        · simp (disch := omega) only [m_X11_chance, Option.bind_some, plit, plit64, nI_add, pk_mul, if_true, if_false, or_true, true_or, oifT, Nat.one_ne_zero, ↓reduceIte, Nat.reduceLT, Nat.reduceLeDiff, Nat.reduceEqDiff, Nat.reduceAdd, Nat.reduceMul, Nat.reduceSub, Nat.reduceDiv, nI_eq, nI_leI, nI_ltI, nI_neg, neg_eq, yo_10, yr_10_0, yr_10_1, yr_10_2, yr_10_3, yr_10_4, yr_10_5, yr_10_6, yr_10_7, yr_10_8, yr_10_9, yr_10_10, yr_10_11, yo_11, yr_11_0, yr_11_1, yr_11_2, yr_11_3, yr_11_4, yn_13, ya_13, yo_14, yr_14_0, yr_14_1, yr_14_2, yr_14_3, ya_15, ya_16, yo_75, et1x, eb1x, ek1x, r1, ya_76, pCS_crow, r3, q1]
        · by_cases z : k1 ≤ b1
          · have c3 := c2 k1 z
            simp (disch := omega) only [m_X12_chance, Option.bind_some, plit, plit64, nI_add, pk_mul, if_true, if_false, or_true, true_or, oifT, Nat.one_ne_zero, ↓reduceIte, Nat.reduceLT, Nat.reduceLeDiff, Nat.reduceEqDiff, Nat.reduceAdd, Nat.reduceMul, Nat.reduceSub, Nat.reduceDiv, nI_eq, nI_leI, nI_ltI, nI_neg, neg_eq, yo_100, yr_100_0, yr_100_1, yr_100_2, yr_100_3, yr_100_4, yr_100_5, yr_100_6, yr_100_7, yr_100_8, yr_100_9, yr_100_10, yr_100_11, yr_100_12, yr_100_13, yr_100_14, yr_100_15, yr_100_16, yr_100_17, yr_100_18, yr_100_19, yr_100_20, yr_100_21, yr_100_22, yr_100_23, yr_100_24, yr_100_25, yr_100_26, yr_100_27, yr_100_28, ya_101, ya_102, ya_103, ya_104, ya_105, ya_106, ya_107, ya_108, ya_109, ya_110, ya_111, ya_112, ya_113, ya_114, ya_115, ya_116, ya_117, ya_118, ya_119, et1y, eb1y, ek1y, c1, z, pMS_chances, c3, q2]
          · have c3 := ch_above (cs := fun _ => showD c.pl t1) b1 k1 (by omega)
            rw [c3] at q2
            rw [c3]
            simp (disch := omega) only [m_X12_chance, Option.bind_some, plit, plit64, nI_add, pk_mul, if_true, if_false, or_true, true_or, oifT, Nat.one_ne_zero, ↓reduceIte, Nat.reduceLT, Nat.reduceLeDiff, Nat.reduceEqDiff, Nat.reduceAdd, Nat.reduceMul, Nat.reduceSub, Nat.reduceDiv, nI_eq, nI_leI, nI_ltI, nI_neg, neg_eq, yo_100, yr_100_0, yr_100_1, yr_100_2, yr_100_3, yr_100_4, yr_100_5, yr_100_6, yr_100_7, yr_100_8, yr_100_9, yr_100_10, yr_100_11, yr_100_12, yr_100_13, yr_100_14, yr_100_15, yr_100_16, yr_100_17, yr_100_18, yr_100_19, yr_100_20, yr_100_21, yr_100_22, yr_100_23, yr_100_24, yr_100_25, yr_100_26, yr_100_27, yr_100_28, ya_101, ya_102, ya_103, ya_104, ya_105, ya_106, ya_107, ya_108, ya_109, ya_110, ya_111, ya_112, ya_113, ya_114, ya_115, ya_116, ya_117, ya_118, ya_119, et1y, eb1y, ek1y, c1, z, q2]
      · have ex := wi_out (x := x) (m := 40) ho
        have ey := isBooked_out ho
        refine ⟨-9223372036854775808, c, d, ?_, ?_, h⟩
        · simp (disch := omega) only [m_X11_chance, Option.bind_some, plit, plit64, nI_add, pk_mul, if_true, if_false, or_true, true_or, oifT, Nat.one_ne_zero, ↓reduceIte, Nat.reduceLT, Nat.reduceLeDiff, Nat.reduceEqDiff, Nat.reduceAdd, Nat.reduceMul, Nat.reduceSub, Nat.reduceDiv, nI_eq, nI_leI, nI_ltI, nI_neg, neg_eq, yo_10, yr_10_0, yr_10_1, yr_10_2, yr_10_3, yr_10_4, yr_10_5, yr_10_6, yr_10_7, yr_10_8, yr_10_9, yr_10_10, yr_10_11, yo_11, yr_11_0, yr_11_1, yr_11_2, yr_11_3, yr_11_4, yn_13, ya_13, yo_14, yr_14_0, yr_14_1, yr_14_2, yr_14_3, ya_15, ya_16, et1x, eb1x, ex]
        · simp (disch := omega) only [m_X12_chance, Option.bind_some, plit, plit64, nI_add, pk_mul, if_true, if_false, or_true, true_or, oifT, Nat.one_ne_zero, ↓reduceIte, Nat.reduceLT, Nat.reduceLeDiff, Nat.reduceEqDiff, Nat.reduceAdd, Nat.reduceMul, Nat.reduceSub, Nat.reduceDiv, nI_eq, nI_leI, nI_ltI, nI_neg, neg_eq, yo_100, yr_100_0, yr_100_1, yr_100_2, yr_100_3, yr_100_4, yr_100_5, yr_100_6, yr_100_7, yr_100_8, yr_100_9, yr_100_10, yr_100_11, yr_100_12, yr_100_13, yr_100_14, yr_100_15, yr_100_16, yr_100_17, yr_100_18, yr_100_19, yr_100_20, yr_100_21, yr_100_22, yr_100_23, yr_100_24, yr_100_25, yr_100_26, yr_100_27, yr_100_28, ya_101, ya_102, ya_103, ya_104, ya_105, ya_106, ya_107, ya_108, ya_109, ya_110, ya_111, ya_112, ya_113, ya_114, ya_115, ya_116, ya_117, ya_118, ya_119, et1y, eb1y, ey]
    · have ex := wi_out (x := b) (m := 40) ho
      have ey := isBooked_out ho
      refine ⟨-9223372036854775808, c, d, ?_, ?_, h⟩
      · simp (disch := omega) only [m_X11_chance, Option.bind_some, plit, plit64, nI_add, pk_mul, if_true, if_false, or_true, true_or, oifT, Nat.one_ne_zero, ↓reduceIte, Nat.reduceLT, Nat.reduceLeDiff, Nat.reduceEqDiff, Nat.reduceAdd, Nat.reduceMul, Nat.reduceSub, Nat.reduceDiv, nI_eq, nI_leI, nI_ltI, nI_neg, neg_eq, yo_10, yr_10_0, yr_10_1, yr_10_2, yr_10_3, yr_10_4, yr_10_5, yr_10_6, yr_10_7, yr_10_8, yr_10_9, yr_10_10, yr_10_11, yo_11, yr_11_0, yr_11_1, yr_11_2, yr_11_3, yr_11_4, yn_13, ya_13, yo_14, yr_14_0, yr_14_1, yr_14_2, yr_14_3, ya_15, ya_16, et1x, ex]
      · simp (disch := omega) only [m_X12_chance, Option.bind_some, plit, plit64, nI_add, pk_mul, if_true, if_false, or_true, true_or, oifT, Nat.one_ne_zero, ↓reduceIte, Nat.reduceLT, Nat.reduceLeDiff, Nat.reduceEqDiff, Nat.reduceAdd, Nat.reduceMul, Nat.reduceSub, Nat.reduceDiv, nI_eq, nI_leI, nI_ltI, nI_neg, neg_eq, yo_100, yr_100_0, yr_100_1, yr_100_2, yr_100_3, yr_100_4, yr_100_5, yr_100_6, yr_100_7, yr_100_8, yr_100_9, yr_100_10, yr_100_11, yr_100_12, yr_100_13, yr_100_14, yr_100_15, yr_100_16, yr_100_17, yr_100_18, yr_100_19, yr_100_20, yr_100_21, yr_100_22, yr_100_23, yr_100_24, yr_100_25, yr_100_26, yr_100_27, yr_100_28, ya_101, ya_102, ya_103, ya_104, ya_105, ya_106, ya_107, ya_108, ya_109, ya_110, ya_111, ya_112, ya_113, ya_114, ya_115, ya_116, ya_117, ya_118, ya_119, et1y, ey]
  · have ex := wi_out (x := a) (m := 20) ho
    have ey := isStage_out ho
    refine ⟨-9223372036854775808, c, d, ?_, ?_, h⟩
    · simp (disch := omega) only [m_X11_chance, Option.bind_some, plit, plit64, nI_add, pk_mul, if_true, if_false, or_true, true_or, oifT, Nat.one_ne_zero, ↓reduceIte, Nat.reduceLT, Nat.reduceLeDiff, Nat.reduceEqDiff, Nat.reduceAdd, Nat.reduceMul, Nat.reduceSub, Nat.reduceDiv, nI_eq, nI_leI, nI_ltI, nI_neg, neg_eq, yo_10, yr_10_0, yr_10_1, yr_10_2, yr_10_3, yr_10_4, yr_10_5, yr_10_6, yr_10_7, yr_10_8, yr_10_9, yr_10_10, yr_10_11, yo_11, yr_11_0, yr_11_1, yr_11_2, yr_11_3, yr_11_4, yn_13, ya_13, yo_14, yr_14_0, yr_14_1, yr_14_2, yr_14_3, ya_15, ya_16, ex]
    · simp (disch := omega) only [m_X12_chance, Option.bind_some, plit, plit64, nI_add, pk_mul, if_true, if_false, or_true, true_or, oifT, Nat.one_ne_zero, ↓reduceIte, Nat.reduceLT, Nat.reduceLeDiff, Nat.reduceEqDiff, Nat.reduceAdd, Nat.reduceMul, Nat.reduceSub, Nat.reduceDiv, nI_eq, nI_leI, nI_ltI, nI_neg, neg_eq, yo_100, yr_100_0, yr_100_1, yr_100_2, yr_100_3, yr_100_4, yr_100_5, yr_100_6, yr_100_7, yr_100_8, yr_100_9, yr_100_10, yr_100_11, yr_100_12, yr_100_13, yr_100_14, yr_100_15, yr_100_16, yr_100_17, yr_100_18, yr_100_19, yr_100_20, yr_100_21, yr_100_22, yr_100_23, yr_100_24, yr_100_25, yr_100_26, yr_100_27, yr_100_28, ya_101, ya_102, ya_103, ya_104, ya_105, ya_106, ya_107, ya_108, ya_109, ya_110, ya_111, ya_112, ya_113, ya_114, ya_115, ya_116, ya_117, ya_118, ya_119, ey]
theorem p_turned (h : RR c d D) (hN : 100 ≤ N) (a b : Int32) : ∃ r c' d', m_X11_turned N 10 a b (mk c d D) = some (r, mk c' d D) ∧ m_X12_turned N 100 a b (mk c' d D) = some (r, mk c' d' D) ∧ RR c' d' D := by
  have hP := h.1
  have hn := hP.n
  have h0 := hP.r0
  rcases rg a 20 with ⟨t1, ht1, rfl⟩ | ho
  · have et1x := wi_in (k := t1) (m := 20) ht1
    have et1y := isStage_in ht1
    rcases rg b 40 with ⟨b1, hb1, rfl⟩ | ho
    · have eb1x := wi_in (k := b1) (m := 40) hb1
      have eb1y := isBooked_in hb1
      have cf : ∀ n, 1 ≤ n → n ≤ b1 → Cf ((fun _ => showD c.pl t1) n) := fun n _ _ => show_cf hP.r1 hP.r2 ht1
      have hr := ch_rw hb1 cf
      obtain ⟨r, r1, r2⟩ := xshowing (d := d) (D := D) hN hP ht1 hb1
      obtain ⟨fw, ch, c1, c2⟩ := ychances (c := c.s_crow r) (D := D) hN hP ht1 hb1
      obtain ⟨q1, q2⟩ := ex_bits (s := c.pl.rules 0) hN hr (j := b1 - c.pl.rules 0) (by omega)
      have x1 := xex (c := c.s_crow r) (d := d) (D := D) (N := N) hN hr r2 (s := c.pl.rules 0) h0 hb1
      have y1 := yturn (c := c.s_crow r) (d := (d.s_fewer fw).s_chances ch) (D := D) (N := N) hN hP hr hb1 c2
      refine ⟨(exD (chD (fun _ => showD c.pl t1) b1) (c.pl.rules 0) (b1 - c.pl.rules 0)).toInt64, c.s_crow r, (d.s_fewer fw).s_chances ch, ?_, ?_, h.ch⟩
      · simp (disch := omega) only [m_X11_turned, Option.bind_some, plit, plit64, nI_add, pk_mul, if_true, if_false, or_true, true_or, oifT, Nat.one_ne_zero, ↓reduceIte, Nat.reduceLT, Nat.reduceLeDiff, Nat.reduceEqDiff, Nat.reduceAdd, Nat.reduceMul, Nat.reduceSub, Nat.reduceDiv, nI_eq, nI_leI, nI_ltI, nI_neg, neg_eq, yo_10, yr_10_0, yr_10_1, yr_10_2, yr_10_3, yr_10_4, yr_10_5, yr_10_6, yr_10_7, yr_10_8, yr_10_9, yr_10_10, yr_10_11, yo_11, yr_11_0, yr_11_1, yr_11_2, yr_11_3, yr_11_4, yn_13, ya_13, yo_14, yr_14_0, yr_14_1, yr_14_2, yr_14_3, ya_15, ya_16, yo_75, et1x, eb1x, r1, pCS_crow, x1, q1]
      · simp (disch := omega) only [m_X12_turned, Option.bind_some, plit, plit64, nI_add, pk_mul, if_true, if_false, or_true, true_or, oifT, Nat.one_ne_zero, ↓reduceIte, Nat.reduceLT, Nat.reduceLeDiff, Nat.reduceEqDiff, Nat.reduceAdd, Nat.reduceMul, Nat.reduceSub, Nat.reduceDiv, nI_eq, nI_leI, nI_ltI, nI_neg, neg_eq, yo_100, yr_100_0, yr_100_1, yr_100_2, yr_100_3, yr_100_4, yr_100_5, yr_100_6, yr_100_7, yr_100_8, yr_100_9, yr_100_10, yr_100_11, yr_100_12, yr_100_13, yr_100_14, yr_100_15, yr_100_16, yr_100_17, yr_100_18, yr_100_19, yr_100_20, yr_100_21, yr_100_22, yr_100_23, yr_100_24, yr_100_25, yr_100_26, yr_100_27, yr_100_28, ya_101, ya_102, ya_103, ya_104, ya_105, ya_106, ya_107, ya_108, ya_109, ya_110, ya_111, ya_112, ya_113, ya_114, ya_115, ya_116, ya_117, ya_118, ya_119, et1y, eb1y, c1, y1, q2]
    · have ex := wi_out (x := b) (m := 40) ho
      have ey := isBooked_out ho
      refine ⟨-9223372036854775808, c, d, ?_, ?_, h⟩
      · simp (disch := omega) only [m_X11_turned, Option.bind_some, plit, plit64, nI_add, pk_mul, if_true, if_false, or_true, true_or, oifT, Nat.one_ne_zero, ↓reduceIte, Nat.reduceLT, Nat.reduceLeDiff, Nat.reduceEqDiff, Nat.reduceAdd, Nat.reduceMul, Nat.reduceSub, Nat.reduceDiv, nI_eq, nI_leI, nI_ltI, nI_neg, neg_eq, yo_10, yr_10_0, yr_10_1, yr_10_2, yr_10_3, yr_10_4, yr_10_5, yr_10_6, yr_10_7, yr_10_8, yr_10_9, yr_10_10, yr_10_11, yo_11, yr_11_0, yr_11_1, yr_11_2, yr_11_3, yr_11_4, yn_13, ya_13, yo_14, yr_14_0, yr_14_1, yr_14_2, yr_14_3, ya_15, ya_16, et1x, ex]
      · simp (disch := omega) only [m_X12_turned, Option.bind_some, plit, plit64, nI_add, pk_mul, if_true, if_false, or_true, true_or, oifT, Nat.one_ne_zero, ↓reduceIte, Nat.reduceLT, Nat.reduceLeDiff, Nat.reduceEqDiff, Nat.reduceAdd, Nat.reduceMul, Nat.reduceSub, Nat.reduceDiv, nI_eq, nI_leI, nI_ltI, nI_neg, neg_eq, yo_100, yr_100_0, yr_100_1, yr_100_2, yr_100_3, yr_100_4, yr_100_5, yr_100_6, yr_100_7, yr_100_8, yr_100_9, yr_100_10, yr_100_11, yr_100_12, yr_100_13, yr_100_14, yr_100_15, yr_100_16, yr_100_17, yr_100_18, yr_100_19, yr_100_20, yr_100_21, yr_100_22, yr_100_23, yr_100_24, yr_100_25, yr_100_26, yr_100_27, yr_100_28, ya_101, ya_102, ya_103, ya_104, ya_105, ya_106, ya_107, ya_108, ya_109, ya_110, ya_111, ya_112, ya_113, ya_114, ya_115, ya_116, ya_117, ya_118, ya_119, et1y, ey]
  · have ex := wi_out (x := a) (m := 20) ho
    have ey := isStage_out ho
    refine ⟨-9223372036854775808, c, d, ?_, ?_, h⟩
    · simp (disch := omega) only [m_X11_turned, Option.bind_some, plit, plit64, nI_add, pk_mul, if_true, if_false, or_true, true_or, oifT, Nat.one_ne_zero, ↓reduceIte, Nat.reduceLT, Nat.reduceLeDiff, Nat.reduceEqDiff, Nat.reduceAdd, Nat.reduceMul, Nat.reduceSub, Nat.reduceDiv, nI_eq, nI_leI, nI_ltI, nI_neg, neg_eq, yo_10, yr_10_0, yr_10_1, yr_10_2, yr_10_3, yr_10_4, yr_10_5, yr_10_6, yr_10_7, yr_10_8, yr_10_9, yr_10_10, yr_10_11, yo_11, yr_11_0, yr_11_1, yr_11_2, yr_11_3, yr_11_4, yn_13, ya_13, yo_14, yr_14_0, yr_14_1, yr_14_2, yr_14_3, ya_15, ya_16, ex]
    · simp (disch := omega) only [m_X12_turned, Option.bind_some, plit, plit64, nI_add, pk_mul, if_true, if_false, or_true, true_or, oifT, Nat.one_ne_zero, ↓reduceIte, Nat.reduceLT, Nat.reduceLeDiff, Nat.reduceEqDiff, Nat.reduceAdd, Nat.reduceMul, Nat.reduceSub, Nat.reduceDiv, nI_eq, nI_leI, nI_ltI, nI_neg, neg_eq, yo_100, yr_100_0, yr_100_1, yr_100_2, yr_100_3, yr_100_4, yr_100_5, yr_100_6, yr_100_7, yr_100_8, yr_100_9, yr_100_10, yr_100_11, yr_100_12, yr_100_13, yr_100_14, yr_100_15, yr_100_16, yr_100_17, yr_100_18, yr_100_19, yr_100_20, yr_100_21, yr_100_22, yr_100_23, yr_100_24, yr_100_25, yr_100_26, yr_100_27, yr_100_28, ya_101, ya_102, ya_103, ya_104, ya_105, ya_106, ya_107, ya_108, ya_109, ya_110, ya_111, ya_112, ya_113, ya_114, ya_115, ya_116, ya_117, ya_118, ya_119, ey]
theorem p_had (h : RR c d D) (hN : 100 ≤ N) (a b x : Int32) : ∃ r c' d', m_X11_had N 10 a b x (mk c d D) = some (r, mk c' d D) ∧ m_X12_had N 100 a b x (mk c' d D) = some (r, mk c' d' D) ∧ RR c' d' D := by
  have hP := h.1
  have hn := hP.n
  have h0 := hP.r0
  rcases rgS a c.pl.n with ⟨f1, hf1, rfl⟩ | ho
  · have ef1x := xhf_in (d := d) (D := D) hf1 hn
    have ef1y := fun c2 : CS => yif_in (c := c2) (D := D) (P := c.pl) hf1 hP
    rcases rg b 20 with ⟨t1, ht1, rfl⟩ | ho
    · have et1x := wi_in (k := t1) (m := 20) ht1
      have et1y := isStage_in ht1
      rcases rg x 40 with ⟨b1, hb1, rfl⟩ | ho
      · have eb1x := wi_in (k := b1) (m := 40) hb1
        have eb1y := isBooked_in hb1
        have cf : ∀ n, 1 ≤ n → n ≤ b1 → Cf ((fun _ => showD c.pl t1) n) := fun n _ _ => show_cf hP.r1 hP.r2 ht1
        have hr := ch_rw hb1 cf
        obtain ⟨r, r1, r2⟩ := xshowing (d := d) (D := D) hN hP ht1 hb1
        obtain ⟨fw, ch, c1, c2⟩ := ychances (c := c.s_crow r) (D := D) hN hP ht1 hb1
        obtain ⟨q1, q2⟩ := had_bits hN hP hr (f := f1) (by omega) hb1
        have x1 := xhad (c := c.s_crow r) (d := d) (D := D) (N := N) hN hr r2 hP (f := f1) (by omega) hb1
        have x1 : m_X0_takings N 75 (nI f1) (nI b1) (mk (c.s_crow r) d D) = some (hadD c.pl f1 b1 (chD (fun _ => showD c.pl t1) b1)) := x1
        have y1 := yhad (c := c.s_crow r) (d := (d.s_fewer fw).s_chances ch) (D := D) (N := N) hN hP hr (f := f1) (by omega) hb1 c2
        refine ⟨(hadD c.pl f1 b1 (chD (fun _ => showD c.pl t1) b1)).toInt64, c.s_crow r, (d.s_fewer fw).s_chances ch, ?_, ?_, h.ch⟩
        · simp (disch := omega) only [m_X11_had, Option.bind_some, plit, plit64, nI_add, pk_mul, if_true, if_false, or_true, true_or, oifT, Nat.one_ne_zero, ↓reduceIte, Nat.reduceLT, Nat.reduceLeDiff, Nat.reduceEqDiff, Nat.reduceAdd, Nat.reduceMul, Nat.reduceSub, Nat.reduceDiv, nI_eq, nI_leI, nI_ltI, nI_neg, neg_eq, yo_10, yr_10_0, yr_10_1, yr_10_2, yr_10_3, yr_10_4, yr_10_5, yr_10_6, yr_10_7, yr_10_8, yr_10_9, yr_10_10, yr_10_11, yo_11, yr_11_0, yr_11_1, yr_11_2, yr_11_3, yr_11_4, yn_13, ya_13, yo_14, yr_14_0, yr_14_1, yr_14_2, yr_14_3, ya_15, ya_16, yo_75, ef1x, et1x, eb1x, r1, x1, q1]
        · simp (disch := omega) only [m_X12_had, Option.bind_some, plit, plit64, nI_add, pk_mul, if_true, if_false, or_true, true_or, oifT, Nat.one_ne_zero, ↓reduceIte, Nat.reduceLT, Nat.reduceLeDiff, Nat.reduceEqDiff, Nat.reduceAdd, Nat.reduceMul, Nat.reduceSub, Nat.reduceDiv, nI_eq, nI_leI, nI_ltI, nI_neg, neg_eq, yo_100, yr_100_0, yr_100_1, yr_100_2, yr_100_3, yr_100_4, yr_100_5, yr_100_6, yr_100_7, yr_100_8, yr_100_9, yr_100_10, yr_100_11, yr_100_12, yr_100_13, yr_100_14, yr_100_15, yr_100_16, yr_100_17, yr_100_18, yr_100_19, yr_100_20, yr_100_21, yr_100_22, yr_100_23, yr_100_24, yr_100_25, yr_100_26, yr_100_27, yr_100_28, ya_101, ya_102, ya_103, ya_104, ya_105, ya_106, ya_107, ya_108, ya_109, ya_110, ya_111, ya_112, ya_113, ya_114, ya_115, ya_116, ya_117, ya_118, ya_119, ef1y, et1y, eb1y, c1, y1, q2]
      · have ex := wi_out (x := x) (m := 40) ho
        have ey := isBooked_out ho
        refine ⟨-9223372036854775808, c, d, ?_, ?_, h⟩
        · simp (disch := omega) only [m_X11_had, Option.bind_some, plit, plit64, nI_add, pk_mul, if_true, if_false, or_true, true_or, oifT, Nat.one_ne_zero, ↓reduceIte, Nat.reduceLT, Nat.reduceLeDiff, Nat.reduceEqDiff, Nat.reduceAdd, Nat.reduceMul, Nat.reduceSub, Nat.reduceDiv, nI_eq, nI_leI, nI_ltI, nI_neg, neg_eq, yo_10, yr_10_0, yr_10_1, yr_10_2, yr_10_3, yr_10_4, yr_10_5, yr_10_6, yr_10_7, yr_10_8, yr_10_9, yr_10_10, yr_10_11, yo_11, yr_11_0, yr_11_1, yr_11_2, yr_11_3, yr_11_4, yn_13, ya_13, yo_14, yr_14_0, yr_14_1, yr_14_2, yr_14_3, ya_15, ya_16, ef1x, et1x, ex]
        · simp (disch := omega) only [m_X12_had, Option.bind_some, plit, plit64, nI_add, pk_mul, if_true, if_false, or_true, true_or, oifT, Nat.one_ne_zero, ↓reduceIte, Nat.reduceLT, Nat.reduceLeDiff, Nat.reduceEqDiff, Nat.reduceAdd, Nat.reduceMul, Nat.reduceSub, Nat.reduceDiv, nI_eq, nI_leI, nI_ltI, nI_neg, neg_eq, yo_100, yr_100_0, yr_100_1, yr_100_2, yr_100_3, yr_100_4, yr_100_5, yr_100_6, yr_100_7, yr_100_8, yr_100_9, yr_100_10, yr_100_11, yr_100_12, yr_100_13, yr_100_14, yr_100_15, yr_100_16, yr_100_17, yr_100_18, yr_100_19, yr_100_20, yr_100_21, yr_100_22, yr_100_23, yr_100_24, yr_100_25, yr_100_26, yr_100_27, yr_100_28, ya_101, ya_102, ya_103, ya_104, ya_105, ya_106, ya_107, ya_108, ya_109, ya_110, ya_111, ya_112, ya_113, ya_114, ya_115, ya_116, ya_117, ya_118, ya_119, ef1y, et1y, ey]
    · have ex := wi_out (x := b) (m := 20) ho
      have ey := isStage_out ho
      refine ⟨-9223372036854775808, c, d, ?_, ?_, h⟩
      · simp (disch := omega) only [m_X11_had, Option.bind_some, plit, plit64, nI_add, pk_mul, if_true, if_false, or_true, true_or, oifT, Nat.one_ne_zero, ↓reduceIte, Nat.reduceLT, Nat.reduceLeDiff, Nat.reduceEqDiff, Nat.reduceAdd, Nat.reduceMul, Nat.reduceSub, Nat.reduceDiv, nI_eq, nI_leI, nI_ltI, nI_neg, neg_eq, yo_10, yr_10_0, yr_10_1, yr_10_2, yr_10_3, yr_10_4, yr_10_5, yr_10_6, yr_10_7, yr_10_8, yr_10_9, yr_10_10, yr_10_11, yo_11, yr_11_0, yr_11_1, yr_11_2, yr_11_3, yr_11_4, yn_13, ya_13, yo_14, yr_14_0, yr_14_1, yr_14_2, yr_14_3, ya_15, ya_16, ef1x, ex]
      · simp (disch := omega) only [m_X12_had, Option.bind_some, plit, plit64, nI_add, pk_mul, if_true, if_false, or_true, true_or, oifT, Nat.one_ne_zero, ↓reduceIte, Nat.reduceLT, Nat.reduceLeDiff, Nat.reduceEqDiff, Nat.reduceAdd, Nat.reduceMul, Nat.reduceSub, Nat.reduceDiv, nI_eq, nI_leI, nI_ltI, nI_neg, neg_eq, yo_100, yr_100_0, yr_100_1, yr_100_2, yr_100_3, yr_100_4, yr_100_5, yr_100_6, yr_100_7, yr_100_8, yr_100_9, yr_100_10, yr_100_11, yr_100_12, yr_100_13, yr_100_14, yr_100_15, yr_100_16, yr_100_17, yr_100_18, yr_100_19, yr_100_20, yr_100_21, yr_100_22, yr_100_23, yr_100_24, yr_100_25, yr_100_26, yr_100_27, yr_100_28, ya_101, ya_102, ya_103, ya_104, ya_105, ya_106, ya_107, ya_108, ya_109, ya_110, ya_111, ya_112, ya_113, ya_114, ya_115, ya_116, ya_117, ya_118, ya_119, ef1y, ey]
  · have ex := xhf_out (d := d) (D := D) ho hn
    have ey := yif_out (c := c) (D := D) ho hP
    refine ⟨-9223372036854775808, c, d, ?_, ?_, h⟩
    · simp (disch := omega) only [m_X11_had, Option.bind_some, plit, plit64, nI_add, pk_mul, if_true, if_false, or_true, true_or, oifT, Nat.one_ne_zero, ↓reduceIte, Nat.reduceLT, Nat.reduceLeDiff, Nat.reduceEqDiff, Nat.reduceAdd, Nat.reduceMul, Nat.reduceSub, Nat.reduceDiv, nI_eq, nI_leI, nI_ltI, nI_neg, neg_eq, yo_10, yr_10_0, yr_10_1, yr_10_2, yr_10_3, yr_10_4, yr_10_5, yr_10_6, yr_10_7, yr_10_8, yr_10_9, yr_10_10, yr_10_11, yo_11, yr_11_0, yr_11_1, yr_11_2, yr_11_3, yr_11_4, yn_13, ya_13, yo_14, yr_14_0, yr_14_1, yr_14_2, yr_14_3, ya_15, ya_16, ex]
    · simp (disch := omega) only [m_X12_had, Option.bind_some, plit, plit64, nI_add, pk_mul, if_true, if_false, or_true, true_or, oifT, Nat.one_ne_zero, ↓reduceIte, Nat.reduceLT, Nat.reduceLeDiff, Nat.reduceEqDiff, Nat.reduceAdd, Nat.reduceMul, Nat.reduceSub, Nat.reduceDiv, nI_eq, nI_leI, nI_ltI, nI_neg, neg_eq, yo_100, yr_100_0, yr_100_1, yr_100_2, yr_100_3, yr_100_4, yr_100_5, yr_100_6, yr_100_7, yr_100_8, yr_100_9, yr_100_10, yr_100_11, yr_100_12, yr_100_13, yr_100_14, yr_100_15, yr_100_16, yr_100_17, yr_100_18, yr_100_19, yr_100_20, yr_100_21, yr_100_22, yr_100_23, yr_100_24, yr_100_25, yr_100_26, yr_100_27, yr_100_28, ya_101, ya_102, ya_103, ya_104, ya_105, ya_106, ya_107, ya_108, ya_109, ya_110, ya_111, ya_112, ya_113, ya_114, ya_115, ya_116, ya_117, ya_118, ya_119, ey]
theorem p_booked (h : RR c d D) (hN : 100 ≤ N) (a b : Int32) : ∃ r c' d', m_X11_booked N 10 a b (mk c d D) = some (r, mk c' d D) ∧ m_X12_booked N 100 a b (mk c' d D) = some (r, mk c' d' D) ∧ RR c' d' D := by
  have hP := h.1
  have hn := hP.n
  have h0 := hP.r0
  rcases rgS a c.pl.n with ⟨f1, hf1, rfl⟩ | ho
  · have ef1x := xhf_in (d := d) (D := D) hf1 hn
    have ef1y := fun c2 : CS => yif_in (c := c2) (D := D) (P := c.pl) hf1 hP
    rcases rg b 20 with ⟨t1, ht1, rfl⟩ | ho
    · have et1x := wi_in (k := t1) (m := 20) ht1
      have et1y := isStage_in ht1
      obtain ⟨r, r1⟩ := xbest (c := c) (d := d) (D := D) hN hP (f := f1) (by omega) ht1
      obtain ⟨fw, ch, c1⟩ := ybest (c := c.s_crow r) (D := D) hN hP (f := f1) (by omega) ht1
      refine ⟨nI (bkD c.pl f1 t1 40).1, c.s_crow r, (d.s_fewer fw).s_chances ch, ?_, ?_, h.ch⟩
      · simp (disch := omega) only [m_X11_booked, Option.bind_some, plit, plit64, nI_add, pk_mul, if_true, if_false, or_true, true_or, oifT, Nat.one_ne_zero, ↓reduceIte, Nat.reduceLT, Nat.reduceLeDiff, Nat.reduceEqDiff, Nat.reduceAdd, Nat.reduceMul, Nat.reduceSub, Nat.reduceDiv, nI_eq, nI_leI, nI_ltI, nI_neg, neg_eq, yo_10, yr_10_0, yr_10_1, yr_10_2, yr_10_3, yr_10_4, yr_10_5, yr_10_6, yr_10_7, yr_10_8, yr_10_9, yr_10_10, yr_10_11, yo_11, yr_11_0, yr_11_1, yr_11_2, yr_11_3, yr_11_4, yn_13, ya_13, yo_14, yr_14_0, yr_14_1, yr_14_2, yr_14_3, ya_15, ya_16, yo_75, ef1x, et1x, r1]
      · simp (disch := omega) only [m_X12_booked, Option.bind_some, plit, plit64, nI_add, pk_mul, if_true, if_false, or_true, true_or, oifT, Nat.one_ne_zero, ↓reduceIte, Nat.reduceLT, Nat.reduceLeDiff, Nat.reduceEqDiff, Nat.reduceAdd, Nat.reduceMul, Nat.reduceSub, Nat.reduceDiv, nI_eq, nI_leI, nI_ltI, nI_neg, neg_eq, yo_100, yr_100_0, yr_100_1, yr_100_2, yr_100_3, yr_100_4, yr_100_5, yr_100_6, yr_100_7, yr_100_8, yr_100_9, yr_100_10, yr_100_11, yr_100_12, yr_100_13, yr_100_14, yr_100_15, yr_100_16, yr_100_17, yr_100_18, yr_100_19, yr_100_20, yr_100_21, yr_100_22, yr_100_23, yr_100_24, yr_100_25, yr_100_26, yr_100_27, yr_100_28, ya_101, ya_102, ya_103, ya_104, ya_105, ya_106, ya_107, ya_108, ya_109, ya_110, ya_111, ya_112, ya_113, ya_114, ya_115, ya_116, ya_117, ya_118, ya_119, ef1y, et1y]
        exact c1
    · have ex := wi_out (x := b) (m := 20) ho
      have ey := isStage_out ho
      refine ⟨-nI 1, c, d, ?_, ?_, h⟩
      · simp (disch := omega) only [m_X11_booked, Option.bind_some, plit, plit64, nI_add, pk_mul, if_true, if_false, or_true, true_or, oifT, Nat.one_ne_zero, ↓reduceIte, Nat.reduceLT, Nat.reduceLeDiff, Nat.reduceEqDiff, Nat.reduceAdd, Nat.reduceMul, Nat.reduceSub, Nat.reduceDiv, nI_eq, nI_leI, nI_ltI, nI_neg, neg_eq, yo_10, yr_10_0, yr_10_1, yr_10_2, yr_10_3, yr_10_4, yr_10_5, yr_10_6, yr_10_7, yr_10_8, yr_10_9, yr_10_10, yr_10_11, yo_11, yr_11_0, yr_11_1, yr_11_2, yr_11_3, yr_11_4, yn_13, ya_13, yo_14, yr_14_0, yr_14_1, yr_14_2, yr_14_3, ya_15, ya_16, ef1x, ex]
      · simp (disch := omega) only [m_X12_booked, Option.bind_some, plit, plit64, nI_add, pk_mul, if_true, if_false, or_true, true_or, oifT, Nat.one_ne_zero, ↓reduceIte, Nat.reduceLT, Nat.reduceLeDiff, Nat.reduceEqDiff, Nat.reduceAdd, Nat.reduceMul, Nat.reduceSub, Nat.reduceDiv, nI_eq, nI_leI, nI_ltI, nI_neg, neg_eq, yo_100, yr_100_0, yr_100_1, yr_100_2, yr_100_3, yr_100_4, yr_100_5, yr_100_6, yr_100_7, yr_100_8, yr_100_9, yr_100_10, yr_100_11, yr_100_12, yr_100_13, yr_100_14, yr_100_15, yr_100_16, yr_100_17, yr_100_18, yr_100_19, yr_100_20, yr_100_21, yr_100_22, yr_100_23, yr_100_24, yr_100_25, yr_100_26, yr_100_27, yr_100_28, ya_101, ya_102, ya_103, ya_104, ya_105, ya_106, ya_107, ya_108, ya_109, ya_110, ya_111, ya_112, ya_113, ya_114, ya_115, ya_116, ya_117, ya_118, ya_119, ef1y, ey]
  · have ex := xhf_out (d := d) (D := D) ho hn
    have ey := yif_out (c := c) (D := D) ho hP
    refine ⟨-nI 1, c, d, ?_, ?_, h⟩
    · simp (disch := omega) only [m_X11_booked, Option.bind_some, plit, plit64, nI_add, pk_mul, if_true, if_false, or_true, true_or, oifT, Nat.one_ne_zero, ↓reduceIte, Nat.reduceLT, Nat.reduceLeDiff, Nat.reduceEqDiff, Nat.reduceAdd, Nat.reduceMul, Nat.reduceSub, Nat.reduceDiv, nI_eq, nI_leI, nI_ltI, nI_neg, neg_eq, yo_10, yr_10_0, yr_10_1, yr_10_2, yr_10_3, yr_10_4, yr_10_5, yr_10_6, yr_10_7, yr_10_8, yr_10_9, yr_10_10, yr_10_11, yo_11, yr_11_0, yr_11_1, yr_11_2, yr_11_3, yr_11_4, yn_13, ya_13, yo_14, yr_14_0, yr_14_1, yr_14_2, yr_14_3, ya_15, ya_16, ex]
    · simp (disch := omega) only [m_X12_booked, Option.bind_some, plit, plit64, nI_add, pk_mul, if_true, if_false, or_true, true_or, oifT, Nat.one_ne_zero, ↓reduceIte, Nat.reduceLT, Nat.reduceLeDiff, Nat.reduceEqDiff, Nat.reduceAdd, Nat.reduceMul, Nat.reduceSub, Nat.reduceDiv, nI_eq, nI_leI, nI_ltI, nI_neg, neg_eq, yo_100, yr_100_0, yr_100_1, yr_100_2, yr_100_3, yr_100_4, yr_100_5, yr_100_6, yr_100_7, yr_100_8, yr_100_9, yr_100_10, yr_100_11, yr_100_12, yr_100_13, yr_100_14, yr_100_15, yr_100_16, yr_100_17, yr_100_18, yr_100_19, yr_100_20, yr_100_21, yr_100_22, yr_100_23, yr_100_24, yr_100_25, yr_100_26, yr_100_27, yr_100_28, ya_101, ya_102, ya_103, ya_104, ya_105, ya_106, ya_107, ya_108, ya_109, ya_110, ya_111, ya_112, ya_113, ya_114, ya_115, ya_116, ya_117, ya_118, ya_119, ey]
theorem p_demand (h : RR c d D) (hN : 100 ≤ N) (a b x : Int32) : ∃ r c' d', m_X11_demand N 10 a b x (mk c d D) = some (r, mk c' d D) ∧ m_X12_demand N 100 a b x (mk c' d D) = some (r, mk c' d' D) ∧ RR c' d' D := by
  have hP := h.1
  have hn := hP.n
  have h0 := hP.r0
  rcases rgS a c.pl.n with ⟨f1, hf1, rfl⟩ | ho
  · have ef1x := xhf_in (d := d) (D := D) hf1 hn
    have ef1y := fun c2 : CS => yif_in (c := c2) (D := D) (P := c.pl) hf1 hP
    rcases rg b 20 with ⟨t1, ht1, rfl⟩ | ho
    · have et1x := wi_in (k := t1) (m := 20) ht1
      have et1y := isStage_in ht1
      rcases rg x 20 with ⟨k1, hk1, rfl⟩ | ho
      · have ek1x := wi_in (k := k1) (m := 20) hk1
        have ek1y := isStage_in hk1
        have cf : ∀ n, 1 ≤ n → n ≤ t1 → Cf (askD c.pl f1 n) := fun n _ _ => ask_cf hP (by omega) (by omega)
        have hr := ch_rw (cs := askD c.pl f1) (b := t1) (by omega) cf
        obtain ⟨r, r1, r2⟩ := xasking (d := d) (D := D) hN hP (f := f1) (by omega) ht1
        obtain ⟨fw, ch, c1, c2⟩ := yasks (c := c.s_crow r) (D := D) hN hP (f := f1) (by omega) ht1
        obtain ⟨q1, q2⟩ := rw_bits hN hr k1
        have r3 := r2 k1 (by omega)
        refine ⟨(chD (askD c.pl f1) t1 k1).toInt64, c.s_crow r, (d.s_fewer fw).s_chances ch, ?_, ?_, h.ch⟩
        · simp (disch := omega) only [m_X11_demand, Option.bind_some, plit, plit64, nI_add, pk_mul, if_true, if_false, or_true, true_or, oifT, Nat.one_ne_zero, ↓reduceIte, Nat.reduceLT, Nat.reduceLeDiff, Nat.reduceEqDiff, Nat.reduceAdd, Nat.reduceMul, Nat.reduceSub, Nat.reduceDiv, nI_eq, nI_leI, nI_ltI, nI_neg, neg_eq, yo_10, yr_10_0, yr_10_1, yr_10_2, yr_10_3, yr_10_4, yr_10_5, yr_10_6, yr_10_7, yr_10_8, yr_10_9, yr_10_10, yr_10_11, yo_11, yr_11_0, yr_11_1, yr_11_2, yr_11_3, yr_11_4, yn_13, ya_13, yo_14, yr_14_0, yr_14_1, yr_14_2, yr_14_3, ya_15, ya_16, yo_75, ef1x, et1x, ek1x, r1, ya_76, pCS_crow, r3, q1]
        · by_cases z : k1 ≤ t1
          · have c3 := c2 k1 z
            simp (disch := omega) only [m_X12_demand, Option.bind_some, plit, plit64, nI_add, pk_mul, if_true, if_false, or_true, true_or, oifT, Nat.one_ne_zero, ↓reduceIte, Nat.reduceLT, Nat.reduceLeDiff, Nat.reduceEqDiff, Nat.reduceAdd, Nat.reduceMul, Nat.reduceSub, Nat.reduceDiv, nI_eq, nI_leI, nI_ltI, nI_neg, neg_eq, yo_100, yr_100_0, yr_100_1, yr_100_2, yr_100_3, yr_100_4, yr_100_5, yr_100_6, yr_100_7, yr_100_8, yr_100_9, yr_100_10, yr_100_11, yr_100_12, yr_100_13, yr_100_14, yr_100_15, yr_100_16, yr_100_17, yr_100_18, yr_100_19, yr_100_20, yr_100_21, yr_100_22, yr_100_23, yr_100_24, yr_100_25, yr_100_26, yr_100_27, yr_100_28, ya_101, ya_102, ya_103, ya_104, ya_105, ya_106, ya_107, ya_108, ya_109, ya_110, ya_111, ya_112, ya_113, ya_114, ya_115, ya_116, ya_117, ya_118, ya_119, ef1y, et1y, ek1y, c1, z, pMS_chances, c3, q2]
          · have c3 := ch_above (cs := askD c.pl f1) t1 k1 (by omega)
            rw [c3] at q2
            rw [c3]
            simp (disch := omega) only [m_X12_demand, Option.bind_some, plit, plit64, nI_add, pk_mul, if_true, if_false, or_true, true_or, oifT, Nat.one_ne_zero, ↓reduceIte, Nat.reduceLT, Nat.reduceLeDiff, Nat.reduceEqDiff, Nat.reduceAdd, Nat.reduceMul, Nat.reduceSub, Nat.reduceDiv, nI_eq, nI_leI, nI_ltI, nI_neg, neg_eq, yo_100, yr_100_0, yr_100_1, yr_100_2, yr_100_3, yr_100_4, yr_100_5, yr_100_6, yr_100_7, yr_100_8, yr_100_9, yr_100_10, yr_100_11, yr_100_12, yr_100_13, yr_100_14, yr_100_15, yr_100_16, yr_100_17, yr_100_18, yr_100_19, yr_100_20, yr_100_21, yr_100_22, yr_100_23, yr_100_24, yr_100_25, yr_100_26, yr_100_27, yr_100_28, ya_101, ya_102, ya_103, ya_104, ya_105, ya_106, ya_107, ya_108, ya_109, ya_110, ya_111, ya_112, ya_113, ya_114, ya_115, ya_116, ya_117, ya_118, ya_119, ef1y, et1y, ek1y, c1, z, q2]
      · have ex := wi_out (x := x) (m := 20) ho
        have ey := isStage_out ho
        refine ⟨-9223372036854775808, c, d, ?_, ?_, h⟩
        · simp (disch := omega) only [m_X11_demand, Option.bind_some, plit, plit64, nI_add, pk_mul, if_true, if_false, or_true, true_or, oifT, Nat.one_ne_zero, ↓reduceIte, Nat.reduceLT, Nat.reduceLeDiff, Nat.reduceEqDiff, Nat.reduceAdd, Nat.reduceMul, Nat.reduceSub, Nat.reduceDiv, nI_eq, nI_leI, nI_ltI, nI_neg, neg_eq, yo_10, yr_10_0, yr_10_1, yr_10_2, yr_10_3, yr_10_4, yr_10_5, yr_10_6, yr_10_7, yr_10_8, yr_10_9, yr_10_10, yr_10_11, yo_11, yr_11_0, yr_11_1, yr_11_2, yr_11_3, yr_11_4, yn_13, ya_13, yo_14, yr_14_0, yr_14_1, yr_14_2, yr_14_3, ya_15, ya_16, ef1x, et1x, ex]
        · simp (disch := omega) only [m_X12_demand, Option.bind_some, plit, plit64, nI_add, pk_mul, if_true, if_false, or_true, true_or, oifT, Nat.one_ne_zero, ↓reduceIte, Nat.reduceLT, Nat.reduceLeDiff, Nat.reduceEqDiff, Nat.reduceAdd, Nat.reduceMul, Nat.reduceSub, Nat.reduceDiv, nI_eq, nI_leI, nI_ltI, nI_neg, neg_eq, yo_100, yr_100_0, yr_100_1, yr_100_2, yr_100_3, yr_100_4, yr_100_5, yr_100_6, yr_100_7, yr_100_8, yr_100_9, yr_100_10, yr_100_11, yr_100_12, yr_100_13, yr_100_14, yr_100_15, yr_100_16, yr_100_17, yr_100_18, yr_100_19, yr_100_20, yr_100_21, yr_100_22, yr_100_23, yr_100_24, yr_100_25, yr_100_26, yr_100_27, yr_100_28, ya_101, ya_102, ya_103, ya_104, ya_105, ya_106, ya_107, ya_108, ya_109, ya_110, ya_111, ya_112, ya_113, ya_114, ya_115, ya_116, ya_117, ya_118, ya_119, ef1y, et1y, ey]
    · have ex := wi_out (x := b) (m := 20) ho
      have ey := isStage_out ho
      refine ⟨-9223372036854775808, c, d, ?_, ?_, h⟩
      · simp (disch := omega) only [m_X11_demand, Option.bind_some, plit, plit64, nI_add, pk_mul, if_true, if_false, or_true, true_or, oifT, Nat.one_ne_zero, ↓reduceIte, Nat.reduceLT, Nat.reduceLeDiff, Nat.reduceEqDiff, Nat.reduceAdd, Nat.reduceMul, Nat.reduceSub, Nat.reduceDiv, nI_eq, nI_leI, nI_ltI, nI_neg, neg_eq, yo_10, yr_10_0, yr_10_1, yr_10_2, yr_10_3, yr_10_4, yr_10_5, yr_10_6, yr_10_7, yr_10_8, yr_10_9, yr_10_10, yr_10_11, yo_11, yr_11_0, yr_11_1, yr_11_2, yr_11_3, yr_11_4, yn_13, ya_13, yo_14, yr_14_0, yr_14_1, yr_14_2, yr_14_3, ya_15, ya_16, ef1x, ex]
      · simp (disch := omega) only [m_X12_demand, Option.bind_some, plit, plit64, nI_add, pk_mul, if_true, if_false, or_true, true_or, oifT, Nat.one_ne_zero, ↓reduceIte, Nat.reduceLT, Nat.reduceLeDiff, Nat.reduceEqDiff, Nat.reduceAdd, Nat.reduceMul, Nat.reduceSub, Nat.reduceDiv, nI_eq, nI_leI, nI_ltI, nI_neg, neg_eq, yo_100, yr_100_0, yr_100_1, yr_100_2, yr_100_3, yr_100_4, yr_100_5, yr_100_6, yr_100_7, yr_100_8, yr_100_9, yr_100_10, yr_100_11, yr_100_12, yr_100_13, yr_100_14, yr_100_15, yr_100_16, yr_100_17, yr_100_18, yr_100_19, yr_100_20, yr_100_21, yr_100_22, yr_100_23, yr_100_24, yr_100_25, yr_100_26, yr_100_27, yr_100_28, ya_101, ya_102, ya_103, ya_104, ya_105, ya_106, ya_107, ya_108, ya_109, ya_110, ya_111, ya_112, ya_113, ya_114, ya_115, ya_116, ya_117, ya_118, ya_119, ef1y, ey]
  · have ex := xhf_out (d := d) (D := D) ho hn
    have ey := yif_out (c := c) (D := D) ho hP
    refine ⟨-9223372036854775808, c, d, ?_, ?_, h⟩
    · simp (disch := omega) only [m_X11_demand, Option.bind_some, plit, plit64, nI_add, pk_mul, if_true, if_false, or_true, true_or, oifT, Nat.one_ne_zero, ↓reduceIte, Nat.reduceLT, Nat.reduceLeDiff, Nat.reduceEqDiff, Nat.reduceAdd, Nat.reduceMul, Nat.reduceSub, Nat.reduceDiv, nI_eq, nI_leI, nI_ltI, nI_neg, neg_eq, yo_10, yr_10_0, yr_10_1, yr_10_2, yr_10_3, yr_10_4, yr_10_5, yr_10_6, yr_10_7, yr_10_8, yr_10_9, yr_10_10, yr_10_11, yo_11, yr_11_0, yr_11_1, yr_11_2, yr_11_3, yr_11_4, yn_13, ya_13, yo_14, yr_14_0, yr_14_1, yr_14_2, yr_14_3, ya_15, ya_16, ex]
    · simp (disch := omega) only [m_X12_demand, Option.bind_some, plit, plit64, nI_add, pk_mul, if_true, if_false, or_true, true_or, oifT, Nat.one_ne_zero, ↓reduceIte, Nat.reduceLT, Nat.reduceLeDiff, Nat.reduceEqDiff, Nat.reduceAdd, Nat.reduceMul, Nat.reduceSub, Nat.reduceDiv, nI_eq, nI_leI, nI_ltI, nI_neg, neg_eq, yo_100, yr_100_0, yr_100_1, yr_100_2, yr_100_3, yr_100_4, yr_100_5, yr_100_6, yr_100_7, yr_100_8, yr_100_9, yr_100_10, yr_100_11, yr_100_12, yr_100_13, yr_100_14, yr_100_15, yr_100_16, yr_100_17, yr_100_18, yr_100_19, yr_100_20, yr_100_21, yr_100_22, yr_100_23, yr_100_24, yr_100_25, yr_100_26, yr_100_27, yr_100_28, ya_101, ya_102, ya_103, ya_104, ya_105, ya_106, ya_107, ya_108, ya_109, ya_110, ya_111, ya_112, ya_113, ya_114, ya_115, ya_116, ya_117, ya_118, ya_119, ey]
theorem p_spill (h : RR c d D) (hN : 100 ≤ N) (a b x : Int32) : ∃ r c' d', m_X11_spill N 10 a b x (mk c d D) = some (r, mk c' d D) ∧ m_X12_spill N 100 a b x (mk c' d D) = some (r, mk c' d' D) ∧ RR c' d' D := by
  have hP := h.1
  have hn := hP.n
  have h0 := hP.r0
  rcases rgS a c.pl.n with ⟨f1, hf1, rfl⟩ | ho
  · have ef1x := xhf_in (d := d) (D := D) hf1 hn
    have ef1y := fun c2 : CS => yif_in (c := c2) (D := D) (P := c.pl) hf1 hP
    rcases rg b 20 with ⟨t1, ht1, rfl⟩ | ho
    · have et1x := wi_in (k := t1) (m := 20) ht1
      have et1y := isStage_in ht1
      rcases rg x 30 with ⟨s1, hs1, rfl⟩ | ho
      · have es1x := wi_in (k := s1) (m := 30) hs1
        have es1y := in_in (k := s1) (lo := 0) (hi := 30) (by omega) hs1
        have cf : ∀ n, 1 ≤ n → n ≤ t1 → Cf (askD c.pl f1 n) := fun n _ _ => ask_cf hP (by omega) (by omega)
        have hr := ch_rw (cs := askD c.pl f1) (b := t1) (by omega) cf
        obtain ⟨r, r1, r2⟩ := xasking (d := d) (D := D) hN hP (f := f1) (by omega) ht1
        obtain ⟨fw, ch, c1, c2⟩ := yasks (c := c.s_crow r) (D := D) hN hP (f := f1) (by omega) ht1
        obtain ⟨q1, q2⟩ := ex_bits (s := s1) hN hr (j := t1 - s1) (by omega)
        have x1 := xex (c := c.s_crow r) (d := d) (D := D) (N := N) hN hr r2 (s := s1) hs1 (b := t1) (by omega)
        have y1 := yspill_go (c := c.s_crow r) (d := (d.s_fewer fw).s_chances ch) (D := D) (N := N) hr (s := s1) hs1 (b := t1) (by omega) c2 N 0 (by omega) (by omega)
        refine ⟨(exD (chD (askD c.pl f1) t1) s1 (t1 - s1)).toInt64, c.s_crow r, (d.s_fewer fw).s_chances ch, ?_, ?_, h.ch⟩
        · simp (disch := omega) only [m_X11_spill, Option.bind_some, plit, plit64, nI_add, pk_mul, if_true, if_false, or_true, true_or, oifT, Nat.one_ne_zero, ↓reduceIte, Nat.reduceLT, Nat.reduceLeDiff, Nat.reduceEqDiff, Nat.reduceAdd, Nat.reduceMul, Nat.reduceSub, Nat.reduceDiv, nI_eq, nI_leI, nI_ltI, nI_neg, neg_eq, yo_10, yr_10_0, yr_10_1, yr_10_2, yr_10_3, yr_10_4, yr_10_5, yr_10_6, yr_10_7, yr_10_8, yr_10_9, yr_10_10, yr_10_11, yo_11, yr_11_0, yr_11_1, yr_11_2, yr_11_3, yr_11_4, yn_13, ya_13, yo_14, yr_14_0, yr_14_1, yr_14_2, yr_14_3, ya_15, ya_16, yo_75, ef1x, et1x, es1x, r1, pCS_crow, x1, q1]
        · simp (disch := omega) only [m_X12_spill, Option.bind_some, plit, plit64, nI_add, pk_mul, if_true, if_false, or_true, true_or, oifT, Nat.one_ne_zero, ↓reduceIte, Nat.reduceLT, Nat.reduceLeDiff, Nat.reduceEqDiff, Nat.reduceAdd, Nat.reduceMul, Nat.reduceSub, Nat.reduceDiv, nI_eq, nI_leI, nI_ltI, nI_neg, neg_eq, yo_100, yr_100_0, yr_100_1, yr_100_2, yr_100_3, yr_100_4, yr_100_5, yr_100_6, yr_100_7, yr_100_8, yr_100_9, yr_100_10, yr_100_11, yr_100_12, yr_100_13, yr_100_14, yr_100_15, yr_100_16, yr_100_17, yr_100_18, yr_100_19, yr_100_20, yr_100_21, yr_100_22, yr_100_23, yr_100_24, yr_100_25, yr_100_26, yr_100_27, yr_100_28, ya_101, ya_102, ya_103, ya_104, ya_105, ya_106, ya_107, ya_108, ya_109, ya_110, ya_111, ya_112, ya_113, ya_114, ya_115, ya_116, ya_117, ya_118, ya_119, ef1y, et1y, es1y, c1]
          exact y1
      · have ex := wi_out (x := x) (m := 30) ho
        have ey := in_out (x := x) (lo := 0) (hi := 30) (by omega)
        refine ⟨-9223372036854775808, c, d, ?_, ?_, h⟩
        · simp (disch := omega) only [m_X11_spill, Option.bind_some, plit, plit64, nI_add, pk_mul, if_true, if_false, or_true, true_or, oifT, Nat.one_ne_zero, ↓reduceIte, Nat.reduceLT, Nat.reduceLeDiff, Nat.reduceEqDiff, Nat.reduceAdd, Nat.reduceMul, Nat.reduceSub, Nat.reduceDiv, nI_eq, nI_leI, nI_ltI, nI_neg, neg_eq, yo_10, yr_10_0, yr_10_1, yr_10_2, yr_10_3, yr_10_4, yr_10_5, yr_10_6, yr_10_7, yr_10_8, yr_10_9, yr_10_10, yr_10_11, yo_11, yr_11_0, yr_11_1, yr_11_2, yr_11_3, yr_11_4, yn_13, ya_13, yo_14, yr_14_0, yr_14_1, yr_14_2, yr_14_3, ya_15, ya_16, ef1x, et1x, ex]
        · simp (disch := omega) only [m_X12_spill, Option.bind_some, plit, plit64, nI_add, pk_mul, if_true, if_false, or_true, true_or, oifT, Nat.one_ne_zero, ↓reduceIte, Nat.reduceLT, Nat.reduceLeDiff, Nat.reduceEqDiff, Nat.reduceAdd, Nat.reduceMul, Nat.reduceSub, Nat.reduceDiv, nI_eq, nI_leI, nI_ltI, nI_neg, neg_eq, yo_100, yr_100_0, yr_100_1, yr_100_2, yr_100_3, yr_100_4, yr_100_5, yr_100_6, yr_100_7, yr_100_8, yr_100_9, yr_100_10, yr_100_11, yr_100_12, yr_100_13, yr_100_14, yr_100_15, yr_100_16, yr_100_17, yr_100_18, yr_100_19, yr_100_20, yr_100_21, yr_100_22, yr_100_23, yr_100_24, yr_100_25, yr_100_26, yr_100_27, yr_100_28, ya_101, ya_102, ya_103, ya_104, ya_105, ya_106, ya_107, ya_108, ya_109, ya_110, ya_111, ya_112, ya_113, ya_114, ya_115, ya_116, ya_117, ya_118, ya_119, ef1y, et1y, ey]
    · have ex := wi_out (x := b) (m := 20) ho
      have ey := isStage_out ho
      refine ⟨-9223372036854775808, c, d, ?_, ?_, h⟩
      · simp (disch := omega) only [m_X11_spill, Option.bind_some, plit, plit64, nI_add, pk_mul, if_true, if_false, or_true, true_or, oifT, Nat.one_ne_zero, ↓reduceIte, Nat.reduceLT, Nat.reduceLeDiff, Nat.reduceEqDiff, Nat.reduceAdd, Nat.reduceMul, Nat.reduceSub, Nat.reduceDiv, nI_eq, nI_leI, nI_ltI, nI_neg, neg_eq, yo_10, yr_10_0, yr_10_1, yr_10_2, yr_10_3, yr_10_4, yr_10_5, yr_10_6, yr_10_7, yr_10_8, yr_10_9, yr_10_10, yr_10_11, yo_11, yr_11_0, yr_11_1, yr_11_2, yr_11_3, yr_11_4, yn_13, ya_13, yo_14, yr_14_0, yr_14_1, yr_14_2, yr_14_3, ya_15, ya_16, ef1x, ex]
      · simp (disch := omega) only [m_X12_spill, Option.bind_some, plit, plit64, nI_add, pk_mul, if_true, if_false, or_true, true_or, oifT, Nat.one_ne_zero, ↓reduceIte, Nat.reduceLT, Nat.reduceLeDiff, Nat.reduceEqDiff, Nat.reduceAdd, Nat.reduceMul, Nat.reduceSub, Nat.reduceDiv, nI_eq, nI_leI, nI_ltI, nI_neg, neg_eq, yo_100, yr_100_0, yr_100_1, yr_100_2, yr_100_3, yr_100_4, yr_100_5, yr_100_6, yr_100_7, yr_100_8, yr_100_9, yr_100_10, yr_100_11, yr_100_12, yr_100_13, yr_100_14, yr_100_15, yr_100_16, yr_100_17, yr_100_18, yr_100_19, yr_100_20, yr_100_21, yr_100_22, yr_100_23, yr_100_24, yr_100_25, yr_100_26, yr_100_27, yr_100_28, ya_101, ya_102, ya_103, ya_104, ya_105, ya_106, ya_107, ya_108, ya_109, ya_110, ya_111, ya_112, ya_113, ya_114, ya_115, ya_116, ya_117, ya_118, ya_119, ef1y, ey]
  · have ex := xhf_out (d := d) (D := D) ho hn
    have ey := yif_out (c := c) (D := D) ho hP
    refine ⟨-9223372036854775808, c, d, ?_, ?_, h⟩
    · simp (disch := omega) only [m_X11_spill, Option.bind_some, plit, plit64, nI_add, pk_mul, if_true, if_false, or_true, true_or, oifT, Nat.one_ne_zero, ↓reduceIte, Nat.reduceLT, Nat.reduceLeDiff, Nat.reduceEqDiff, Nat.reduceAdd, Nat.reduceMul, Nat.reduceSub, Nat.reduceDiv, nI_eq, nI_leI, nI_ltI, nI_neg, neg_eq, yo_10, yr_10_0, yr_10_1, yr_10_2, yr_10_3, yr_10_4, yr_10_5, yr_10_6, yr_10_7, yr_10_8, yr_10_9, yr_10_10, yr_10_11, yo_11, yr_11_0, yr_11_1, yr_11_2, yr_11_3, yr_11_4, yn_13, ya_13, yo_14, yr_14_0, yr_14_1, yr_14_2, yr_14_3, ya_15, ya_16, ex]
    · simp (disch := omega) only [m_X12_spill, Option.bind_some, plit, plit64, nI_add, pk_mul, if_true, if_false, or_true, true_or, oifT, Nat.one_ne_zero, ↓reduceIte, Nat.reduceLT, Nat.reduceLeDiff, Nat.reduceEqDiff, Nat.reduceAdd, Nat.reduceMul, Nat.reduceSub, Nat.reduceDiv, nI_eq, nI_leI, nI_ltI, nI_neg, neg_eq, yo_100, yr_100_0, yr_100_1, yr_100_2, yr_100_3, yr_100_4, yr_100_5, yr_100_6, yr_100_7, yr_100_8, yr_100_9, yr_100_10, yr_100_11, yr_100_12, yr_100_13, yr_100_14, yr_100_15, yr_100_16, yr_100_17, yr_100_18, yr_100_19, yr_100_20, yr_100_21, yr_100_22, yr_100_23, yr_100_24, yr_100_25, yr_100_26, yr_100_27, yr_100_28, ya_101, ya_102, ya_103, ya_104, ya_105, ya_106, ya_107, ya_108, ya_109, ya_110, ya_111, ya_112, ya_113, ya_114, ya_115, ya_116, ya_117, ya_118, ya_119, ey]
end
