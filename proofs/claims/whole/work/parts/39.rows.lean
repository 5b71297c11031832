-- the tape's bytes, trays, lists, the paper's bytes
theorem isTray_in {i : Nat} (h : i ≤ 3) : m_X12_isTray (nI i) = some (nI 1) := by
  have e := in_in (k := i) (lo := 0) (hi := 3) (by omega) h
  simp only [m_X12_isTray, Option.bind_some, plit, plit64, nI_add, pk_mul, if_true, if_false, or_true, true_or, oifT, Nat.one_ne_zero, ↓reduceIte, Nat.reduceLT, Nat.reduceLeDiff, Nat.reduceEqDiff, Nat.reduceAdd, Nat.reduceMul, Nat.reduceSub, Nat.reduceDiv, e]
theorem isTray_out {x : Int32} (h : x.toInt < 0 ∨ 3 < x.toInt) : m_X12_isTray x = some (nI 0) := by
  have e := in_out (x := x) (lo := 0) (hi := 3) (by omega)
  simp only [m_X12_isTray, Option.bind_some, plit, plit64, nI_add, pk_mul, if_true, if_false, or_true, true_or, oifT, Nat.one_ne_zero, ↓reduceIte, Nat.reduceLT, Nat.reduceLeDiff, Nat.reduceEqDiff, Nat.reduceAdd, Nat.reduceMul, Nat.reduceSub, Nat.reduceDiv, true_or, e]
theorem nle_neg {a b : Nat} (h : 0 < b) (hb : b < 2 ^ 31 := by omega) (ha : a < 2 ^ 31 := by omega) : ¬ nI a ≤ -nI b := by
  rw [Int32.le_iff_toInt_le, nI_toInt ha, sb_negT hb]
  omega
theorem cpI_z {M : mM} {a0 a1 n : Nat} {f g : Nat → Int32} (hn : n < 2 ^ 31) (h0 : M[a0]? = some (.inl (0, n, .inl f))) (h1 : M[a1]? = some (.inl (0, n, .inl g))) : cpI M a0 (nI 0) a1 (nI 0) (nI n) = some (M.set a1 (.inl (0, n, .inl (va_cpy f g 0 0 n)))) := by
  unfold cpI cpA
  rw [h0, h1]
  have e0 : (nI 0).toNatClampNeg = 0 := nI_clamp (by omega)
  simp only [e0, nI_clamp hn, Nat.zero_add]
  refine if_pos ⟨trivial, trivial, nI_pos (by omega), nI_pos (by omega), nI_pos hn, Nat.le_refl _, Nat.le_refl _, ?_⟩
  rw [List.all_eq_true]
  intro i _
  rfl
theorem nI_pred' {n : Nat} (h : 1 ≤ n) : nI n - nI 1 = nI (n - 1) := pk_sub h
section
variable {c : CS} {d : MS} {D : mM} {N k : Nat} {a : Int32} {P : PL}
theorem p_feed (h : RR c d D) (a : Int32) : ∃ r c' d', m_X11_feed 10 a (mk c d D) = some (r, mk c' d D) ∧ m_X12_feed 100 a (mk c' d D) = some (r, mk c' d' D) ∧ RR c' d' D := by
  have hT := h.2.2.2.2.1
  have h1 := hT.1
  have h2 := hT.2.1
  by_cases hx : ∃ v, 1 ≤ v ∧ v ≤ 127 ∧ a = nI v
  · obtain ⟨v, v1, v2, rfl⟩ := hx
    have e6 := in_in (k := v) (lo := 1) (hi := 127) v1 v2
    by_cases hs : c.tsize < 120
    · refine ⟨nI (c.tsize + 1), (c.s_tb (va_up c.tb c.tsize (nI v))).s_tsize (c.tsize + 1), (d.s_taped (nI (c.tsize + 1))).s_tape (va_up d.tape c.tsize (nI v)), ?_, ?_, h.1, h.2.1, h.2.2.1, h.2.2.2.1, ⟨?_, rfl, fun i hi => ?_⟩, h.2.2.2.2.2.1, h.2.2.2.2.2.2.1, h.2.2.2.2.2.2.2⟩
      · simp (disch := omega) only [m_X11_feed, m_X7_takeUp, Option.bind_some, plit, plit64, nI_add, pk_mul, if_true, if_false, or_true, true_or, oifT, Nat.one_ne_zero, ↓reduceIte, Nat.reduceLT, Nat.reduceLeDiff, Nat.reduceEqDiff, Nat.reduceAdd, Nat.reduceMul, Nat.reduceSub, Nat.reduceDiv, nI_eq, nI_leI, nI_ltI, nI_neg, neg_eq, yo_10, yr_10_0, yr_10_1, yr_10_2, yr_10_3, yr_10_4, yr_10_5, yr_10_6, yr_10_7, yr_10_8, yr_10_9, yr_10_10, yr_10_11, yo_11, yr_11_0, yr_11_1, yr_11_2, yr_11_3, yr_11_4, yn_13, ya_13, yo_14, yr_14_0, yr_14_1, yr_14_2, yr_14_3, ya_15, ya_16, yo_77, yr_77_0, yr_77_1, yr_77_2, yr_77_3, yr_77_4, yr_77_5, yr_77_6, yr_77_7, yr_77_8, ya_78, yu_78, yw_77_1, show ¬ v < 1 by omega, v2, hs, pCS_tb, pCS_tsize]
      · simp (disch := omega) only [m_X12_feed, Option.bind_some, plit, plit64, nI_add, pk_mul, if_true, if_false, or_true, true_or, oifT, Nat.one_ne_zero, ↓reduceIte, Nat.reduceLT, Nat.reduceLeDiff, Nat.reduceEqDiff, Nat.reduceAdd, Nat.reduceMul, Nat.reduceSub, Nat.reduceDiv, nI_eq, nI_leI, nI_ltI, nI_neg, neg_eq, yo_100, yr_100_0, yr_100_1, yr_100_2, yr_100_3, yr_100_4, yr_100_5, yr_100_6, yr_100_7, yr_100_8, yr_100_9, yr_100_10, yr_100_11, yr_100_12, yr_100_13, yr_100_14, yr_100_15, yr_100_16, yr_100_17, yr_100_18, yr_100_19, yr_100_20, yr_100_21, yr_100_22, yr_100_23, yr_100_24, yr_100_25, yr_100_26, yr_100_27, yr_100_28, ya_101, ya_102, ya_103, ya_104, ya_105, ya_106, ya_107, ya_108, ya_109, ya_110, ya_111, ya_112, ya_113, ya_114, ya_115, ya_116, ya_117, ya_118, ya_119, yw_100_2, yw_100_3, yw_100_5, yw_100_15, yw_100_20, yw_100_21, yw_100_22, yw_100_24, yw_100_25, yw_100_28, yu_101, yu_102, yu_103, yu_104, yu_105, yu_106, yu_107, yu_108, yu_109, yu_110, yu_111, yu_112, yu_113, yu_114, yu_115, yu_116, yu_117, yu_118, yu_119, e6, h2, show ¬ c.tsize = 120 by omega, pMS_taped, pMS_tape]
      · show c.tsize + 1 ≤ 120
        omega
      · have hi : i < c.tsize + 1 := hi
        show ∃ b, 1 ≤ b ∧ b ≤ 127 ∧ va_up c.tb c.tsize (nI v) i = nI b ∧ va_up d.tape c.tsize (nI v) i = nI b
        by_cases e : i = c.tsize
        · subst e
          exact ⟨v, v1, v2, upe, upe⟩
        · rw [upn e, upn e]
          exact hT.2.2 i (by omega)
    · have hs : c.tsize = 120 := by omega
      refine ⟨-nI 4, c, d, ?_, ?_, h⟩
      · simp (disch := omega) only [m_X11_feed, m_X7_takeUp, Option.bind_some, plit, plit64, nI_add, pk_mul, if_true, if_false, or_true, true_or, oifT, Nat.one_ne_zero, ↓reduceIte, Nat.reduceLT, Nat.reduceLeDiff, Nat.reduceEqDiff, Nat.reduceAdd, Nat.reduceMul, Nat.reduceSub, Nat.reduceDiv, nI_eq, nI_leI, nI_ltI, nI_neg, neg_eq, yo_10, yr_10_0, yr_10_1, yr_10_2, yr_10_3, yr_10_4, yr_10_5, yr_10_6, yr_10_7, yr_10_8, yr_10_9, yr_10_10, yr_10_11, yo_11, yr_11_0, yr_11_1, yr_11_2, yr_11_3, yr_11_4, yn_13, ya_13, yo_14, yr_14_0, yr_14_1, yr_14_2, yr_14_3, ya_15, ya_16, yo_77, yr_77_0, yr_77_1, yr_77_2, yr_77_3, yr_77_4, yr_77_5, yr_77_6, yr_77_7, yr_77_8, ya_78, show ¬ v < 1 by omega, v2, hs]
      · simp (disch := omega) only [m_X12_feed, Option.bind_some, plit, plit64, nI_add, pk_mul, if_true, if_false, or_true, true_or, oifT, Nat.one_ne_zero, ↓reduceIte, Nat.reduceLT, Nat.reduceLeDiff, Nat.reduceEqDiff, Nat.reduceAdd, Nat.reduceMul, Nat.reduceSub, Nat.reduceDiv, nI_eq, nI_leI, nI_ltI, nI_neg, neg_eq, yo_100, yr_100_0, yr_100_1, yr_100_2, yr_100_3, yr_100_4, yr_100_5, yr_100_6, yr_100_7, yr_100_8, yr_100_9, yr_100_10, yr_100_11, yr_100_12, yr_100_13, yr_100_14, yr_100_15, yr_100_16, yr_100_17, yr_100_18, yr_100_19, yr_100_20, yr_100_21, yr_100_22, yr_100_23, yr_100_24, yr_100_25, yr_100_26, yr_100_27, yr_100_28, ya_101, ya_102, ya_103, ya_104, ya_105, ya_106, ya_107, ya_108, ya_109, ya_110, ya_111, ya_112, ya_113, ya_114, ya_115, ya_116, ya_117, ya_118, ya_119, yw_100_2, yw_100_3, yw_100_5, yw_100_15, yw_100_20, yw_100_21, yw_100_22, yw_100_24, yw_100_25, yw_100_28, yu_101, yu_102, yu_103, yu_104, yu_105, yu_106, yu_107, yu_108, yu_109, yu_110, yu_111, yu_112, yu_113, yu_114, yu_115, yu_116, yu_117, yu_118, yu_119, e6, h2, hs]
  · have e6 : m_X12_in a.toInt64 (lN 1) (lN 127) = some (nI 0) := by
      refine in_out ?_
      rcases rg a 127 with ⟨v, hv, rfl⟩ | hb2
      · by_cases h1 : 1 ≤ v
        · exact absurd ⟨v, h1, hv, rfl⟩ hx
        · left; rw [nI_toInt (by omega)]; omega
      · omega
    refine ⟨-nI 2, c, d, ?_, ?_, h⟩
    · rcases rg a 127 with ⟨v, hv, rfl⟩ | hb2
      · have : v < 1 := by
          by_cases h1 : 1 ≤ v
          · exact absurd ⟨v, h1, hv, rfl⟩ hx
          · omega
        simp (disch := omega) only [m_X11_feed, Option.bind_some, plit, plit64, nI_add, pk_mul, if_true, if_false, or_true, true_or, oifT, Nat.one_ne_zero, ↓reduceIte, Nat.reduceLT, Nat.reduceLeDiff, Nat.reduceEqDiff, Nat.reduceAdd, Nat.reduceMul, Nat.reduceSub, Nat.reduceDiv, nI_eq, nI_leI, nI_ltI, nI_neg, neg_eq, this]
      · rcases hb2 with hb2 | hb2
        · simp (disch := omega) only [m_X11_feed, Option.bind_some, plit, plit64, nI_add, pk_mul, if_true, if_false, or_true, true_or, oifT, Nat.one_ne_zero, ↓reduceIte, Nat.reduceLT, Nat.reduceLeDiff, Nat.reduceEqDiff, Nat.reduceAdd, Nat.reduceMul, Nat.reduceSub, Nat.reduceDiv, x_lt (x := a) (m := 1) (by omega)]
        · simp (disch := omega) only [m_X11_feed, Option.bind_some, plit, plit64, nI_add, pk_mul, if_true, if_false, or_true, true_or, oifT, Nat.one_ne_zero, ↓reduceIte, Nat.reduceLT, Nat.reduceLeDiff, Nat.reduceEqDiff, Nat.reduceAdd, Nat.reduceMul, Nat.reduceSub, Nat.reduceDiv, x_nlt (x := a) (m := 1) (by omega), x_nle (x := a) (m := 127) (by omega)]
    · simp (disch := omega) only [m_X12_feed, Option.bind_some, plit, plit64, nI_add, pk_mul, if_true, if_false, or_true, true_or, oifT, Nat.one_ne_zero, ↓reduceIte, Nat.reduceLT, Nat.reduceLeDiff, Nat.reduceEqDiff, Nat.reduceAdd, Nat.reduceMul, Nat.reduceSub, Nat.reduceDiv, nI_eq, nI_leI, nI_ltI, nI_neg, neg_eq, yo_100, yr_100_0, yr_100_1, yr_100_2, yr_100_3, yr_100_4, yr_100_5, yr_100_6, yr_100_7, yr_100_8, yr_100_9, yr_100_10, yr_100_11, yr_100_12, yr_100_13, yr_100_14, yr_100_15, yr_100_16, yr_100_17, yr_100_18, yr_100_19, yr_100_20, yr_100_21, yr_100_22, yr_100_23, yr_100_24, yr_100_25, yr_100_26, yr_100_27, yr_100_28, ya_101, ya_102, ya_103, ya_104, ya_105, ya_106, ya_107, ya_108, ya_109, ya_110, ya_111, ya_112, ya_113, ya_114, ya_115, ya_116, ya_117, ya_118, ya_119, e6]
theorem p_clear (h : RR c d D) : ∃ r c' d', m_X11_clear 10 (mk c d D) = some (r, mk c' d D) ∧ m_X12_clear 100 (mk c' d D) = some (r, mk c' d' D) ∧ RR c' d' D := by
  have hT := h.2.2.2.2.1
  refine ⟨nI c.tsize, c.s_tsize 0, d.s_taped (nI 0), ?_, ?_, h.1, h.2.1, h.2.2.1, h.2.2.2.1, ⟨Nat.zero_le _, rfl, fun i hi => absurd hi (Nat.not_lt_zero _)⟩, h.2.2.2.2.2.1, h.2.2.2.2.2.2.1, h.2.2.2.2.2.2.2⟩
  · simp (disch := omega) only [m_X11_clear, m_X7_wipe, Option.bind_some, plit, plit64, nI_add, pk_mul, if_true, if_false, or_true, true_or, oifT, Nat.one_ne_zero, ↓reduceIte, Nat.reduceLT, Nat.reduceLeDiff, Nat.reduceEqDiff, Nat.reduceAdd, Nat.reduceMul, Nat.reduceSub, Nat.reduceDiv, nI_eq, nI_leI, nI_ltI, nI_neg, neg_eq, yo_10, yr_10_0, yr_10_1, yr_10_2, yr_10_3, yr_10_4, yr_10_5, yr_10_6, yr_10_7, yr_10_8, yr_10_9, yr_10_10, yr_10_11, yo_11, yr_11_0, yr_11_1, yr_11_2, yr_11_3, yr_11_4, yn_13, ya_13, yo_14, yr_14_0, yr_14_1, yr_14_2, yr_14_3, ya_15, ya_16, yo_77, yr_77_0, yr_77_1, yr_77_2, yr_77_3, yr_77_4, yr_77_5, yr_77_6, yr_77_7, yr_77_8, ya_78, yw_77_1]
  · simp (disch := omega) only [m_X12_clear, Option.bind_some, plit, plit64, nI_add, pk_mul, if_true, if_false, or_true, true_or, oifT, Nat.one_ne_zero, ↓reduceIte, Nat.reduceLT, Nat.reduceLeDiff, Nat.reduceEqDiff, Nat.reduceAdd, Nat.reduceMul, Nat.reduceSub, Nat.reduceDiv, nI_eq, nI_leI, nI_ltI, nI_neg, neg_eq, yo_100, yr_100_0, yr_100_1, yr_100_2, yr_100_3, yr_100_4, yr_100_5, yr_100_6, yr_100_7, yr_100_8, yr_100_9, yr_100_10, yr_100_11, yr_100_12, yr_100_13, yr_100_14, yr_100_15, yr_100_16, yr_100_17, yr_100_18, yr_100_19, yr_100_20, yr_100_21, yr_100_22, yr_100_23, yr_100_24, yr_100_25, yr_100_26, yr_100_27, yr_100_28, ya_101, ya_102, ya_103, ya_104, ya_105, ya_106, ya_107, ya_108, ya_109, ya_110, ya_111, ya_112, ya_113, ya_114, ya_115, ya_116, ya_117, ya_118, ya_119, yw_100_2, yw_100_3, yw_100_5, yw_100_15, yw_100_20, yw_100_21, yw_100_22, yw_100_24, yw_100_25, yw_100_28, yu_101, yu_102, yu_103, yu_104, yu_105, yu_106, yu_107, yu_108, yu_109, yu_110, yu_111, yu_112, yu_113, yu_114, yu_115, yu_116, yu_117, yu_118, yu_119, hT.2.1]
-- trays
theorem tfill_go {N i : Nat} {v : Int32} (hi : i < 4) : ∀ (n j : Nat) (c : CS), j ≤ 20 → 20 - j < n → ∃ f : Nat → Int32, m_J7_fill_53178_L5 N n (87 + 2 * i) v (nI j) (nI 20) (mk c d D) = some (mk (c.s_tpl (va_up c.tpl i f)) d D) ∧ (∀ q, q < 20 → f q = if j ≤ q then v else c.tpl i q) := by
  intro n
  induction n with
  | zero => intro j c _ h; omega
  | succ n ih =>
    intro j c hj hn
    unfold m_J7_fill_53178_L5
    by_cases h4 : j = 20
    · subst h4
      refine ⟨c.tpl i, ?_, fun q hq => by rw [if_neg (by omega)]⟩
      rw [if_pos (nI_le (by omega) (by omega))]
      have e : va_up c.tpl i (c.tpl i) = c.tpl := by
        funext z
        unfold va_up
        split
        · next h => rw [h]
        · rfl
      rw [e]
      rfl
    · rw [if_neg (by rw [nI_leI (by omega) (by omega)]; omega)]
      rw [ytu hi (by omega), Option.bind_some, nI_1]
      obtain ⟨f, h1, h2⟩ := ih (j + 1) (c.s_tpl (va_up c.tpl i (va_up (c.tpl i) j v))) (by omega) (by omega)
      refine ⟨f, ?_, fun q hq => ?_⟩
      · rw [h1]
        have e : va_up (va_up c.tpl i (va_up (c.tpl i) j v)) i f = va_up c.tpl i f := by
          funext z
          unfold va_up
          split <;> rfl
        simp only [pCS_tpl, qCS_tpl, e]
      · rw [h2 q hq]
        simp only [pCS_tpl, va_up, if_true]
        by_cases h : j + 1 ≤ q
        · rw [if_pos h, if_pos (by omega)]
        · rw [if_neg h]
          by_cases h5 : q = j
          · rw [if_pos h5, if_pos (by omega)]
          · rw [if_neg h5, if_neg (by omega)]
theorem tfill {i : Nat} {v : Int32} (hN : 100 ≤ N) (hi : i < 4) : ∃ f : Nat → Int32, m_J7_fill_53178 N (87 + 2 * i) v (mk c d D) = some (mk (c.s_tpl (va_up c.tpl i f)) d D) ∧ (∀ q, q < 20 → f q = v) := by
  obtain ⟨f, h1, h2⟩ := tfill_go (d := d) (D := D) (N := N) (v := v) hi N 0 c (by omega) (by omega)
  refine ⟨f, ?_, fun q hq => by rw [h2 q hq, if_pos (by omega)]⟩
  unfold m_J7_fill_53178
  rw [ytn hi]
  exact h1
theorem ytray_go {i : Nat} (hi : i < 4) : ∀ (n j : Nat) (d : MS), j ≤ 20 → 20 - j < n → ∃ g : Nat → Int32, m_X12_tray_L54 N n 100 (nI i) (nI j) (mk c d D) = some (nI 1, mk c (d.s_laid g) D) ∧ (∀ z, g z = if 20 * i + j ≤ z ∧ z < 20 * i + 20 then -nI 5 else d.laid z) := by
  intro n
  induction n with
  | zero => intro j d _ h; omega
  | succ n ih =>
    intro j d hj hn
    unfold m_X12_tray_L54
    by_cases h4 : j = 20
    · subst h4
      refine ⟨d.laid, ?_, fun z => by rw [if_neg (by omega)]⟩
      simp (disch := omega) only [Option.bind_some, plit, plit64, nI_add, pk_mul, if_true, if_false, or_true, true_or, oifT, Nat.one_ne_zero, ↓reduceIte, Nat.reduceLT, Nat.reduceLeDiff, Nat.reduceEqDiff, Nat.reduceAdd, Nat.reduceMul, Nat.reduceSub, Nat.reduceDiv, nI_eq, nI_leI, nI_ltI, nI_neg, neg_eq, Nat.le_refl]
      rfl
    · obtain ⟨g, h1, h2⟩ := ih (j + 1) (d.s_laid (va_up d.laid (20 * i + j) (-nI 5))) (by omega) (by omega)
      refine ⟨g, ?_, fun z => ?_⟩
      · simp (disch := omega) only [Option.bind_some, plit, plit64, nI_add, pk_mul, if_true, if_false, or_true, true_or, oifT, Nat.one_ne_zero, ↓reduceIte, Nat.reduceLT, Nat.reduceLeDiff, Nat.reduceEqDiff, Nat.reduceAdd, Nat.reduceMul, Nat.reduceSub, Nat.reduceDiv, nI_eq, nI_leI, nI_ltI, nI_neg, neg_eq, yo_100, yr_100_0, yr_100_1, yr_100_2, yr_100_3, yr_100_4, yr_100_5, yr_100_6, yr_100_7, yr_100_8, yr_100_9, yr_100_10, yr_100_11, yr_100_12, yr_100_13, yr_100_14, yr_100_15, yr_100_16, yr_100_17, yr_100_18, yr_100_19, yr_100_20, yr_100_21, yr_100_22, yr_100_23, yr_100_24, yr_100_25, yr_100_26, yr_100_27, yr_100_28, ya_101, ya_102, ya_103, ya_104, ya_105, ya_106, ya_107, ya_108, ya_109, ya_110, ya_111, ya_112, ya_113, ya_114, ya_115, ya_116, ya_117, ya_118, ya_119, yw_100_2, yw_100_3, yw_100_5, yw_100_15, yw_100_20, yw_100_21, yw_100_22, yw_100_24, yw_100_25, yw_100_28, yu_101, yu_102, yu_103, yu_104, yu_105, yu_106, yu_107, yu_108, yu_109, yu_110, yu_111, yu_112, yu_113, yu_114, yu_115, yu_116, yu_117, yu_118, yu_119, show ¬ 20 ≤ j by omega]
        rw [h1]
        simp only [qMS_laid]
      · rw [h2 z]
        simp only [pMS_laid, va_up]
        repeat' split
        all_goals first | rfl | omega
theorem p_tray (h : RR c d D) (hN : 100 ≤ N) (a b x : Int32) : ∃ r c' d', m_X11_tray N 10 a b x (mk c d D) = some (r, mk c' d D) ∧ m_X12_tray N 100 a b x (mk c' d D) = some (r, mk c' d' D) ∧ RR c' d' D := by
  rcases rg a 3 with ⟨i, hi, rfl⟩ | ha
  · have e1 := wi_in (k := i) (m := 3) hi
    have e2 := isTray_in hi
    rcases rg b 3 with ⟨w, hw, rfl⟩ | hb
    · have e3 := wi_in (k := w) (m := 3) hw
      have e4 := in_in (k := w) (lo := 0) (hi := 3) (by omega) hw
      rcases rg x 20 with ⟨v, hv, rfl⟩ | hx
      · obtain ⟨f, f1, f2⟩ := tfill (c := (c.s_tk (va_up c.tk i w)).s_tsz (va_up c.tsz i (nI v))) (d := d) (D := D) (i := i) (v := -nI 5) hN (by omega)
        simp only [pCS_tsz, pCS_tk] at f1
        obtain ⟨g, g1, g2⟩ := ytray_go (c := (((c.s_tk (va_up c.tk i w)).s_tsz (va_up c.tsz i (nI v))).s_tpl (va_up c.tpl i f))) (D := D) (N := N) (i := i) (by omega) N 0 ((d.s_trayKind (va_up d.trayKind i (nI w))).s_traySize (va_up d.traySize i (nI v))) (by omega) (by omega)
        refine ⟨nI 1, ((c.s_tk (va_up c.tk i w)).s_tsz (va_up c.tsz i (nI v))).s_tpl (va_up c.tpl i f), ((d.s_trayKind (va_up d.trayKind i (nI w))).s_traySize (va_up d.traySize i (nI v))).s_laid g, ?_, ?_, h.1, h.2.1, h.2.2.1, h.2.2.2.1, h.2.2.2.2.1, h.2.2.2.2.2.1, fun z hz => ?_, h.2.2.2.2.2.2.2⟩
        · simp (disch := omega) only [m_X11_tray, m_X8_begin, Option.bind_some, plit, plit64, nI_add, pk_mul, if_true, if_false, or_true, true_or, oifT, Nat.one_ne_zero, ↓reduceIte, Nat.reduceLT, Nat.reduceLeDiff, Nat.reduceEqDiff, Nat.reduceAdd, Nat.reduceMul, Nat.reduceSub, Nat.reduceDiv, nI_eq, nI_leI, nI_ltI, nI_neg, neg_eq, yo_10, yr_10_0, yr_10_1, yr_10_2, yr_10_3, yr_10_4, yr_10_5, yr_10_6, yr_10_7, yr_10_8, yr_10_9, yr_10_10, yr_10_11, yo_11, yr_11_0, yr_11_1, yr_11_2, yr_11_3, yr_11_4, yn_13, ya_13, yo_14, yr_14_0, yr_14_1, yr_14_2, yr_14_3, ya_15, ya_16, ytr_R, yto, yt_0, yt_1, yt_2, ytw_0, ytw_1, ytn, ytc, yts, yta, ytu, pk_sub, e1, e3, hv, Nat.zero_le, zk_in, pCS_tk, f1]
        · simp (disch := omega) only [m_X12_tray, Option.bind_some, plit, plit64, nI_add, pk_mul, if_true, if_false, or_true, true_or, oifT, Nat.one_ne_zero, ↓reduceIte, Nat.reduceLT, Nat.reduceLeDiff, Nat.reduceEqDiff, Nat.reduceAdd, Nat.reduceMul, Nat.reduceSub, Nat.reduceDiv, nI_eq, nI_leI, nI_ltI, nI_neg, neg_eq, yo_100, yr_100_0, yr_100_1, yr_100_2, yr_100_3, yr_100_4, yr_100_5, yr_100_6, yr_100_7, yr_100_8, yr_100_9, yr_100_10, yr_100_11, yr_100_12, yr_100_13, yr_100_14, yr_100_15, yr_100_16, yr_100_17, yr_100_18, yr_100_19, yr_100_20, yr_100_21, yr_100_22, yr_100_23, yr_100_24, yr_100_25, yr_100_26, yr_100_27, yr_100_28, ya_101, ya_102, ya_103, ya_104, ya_105, ya_106, ya_107, ya_108, ya_109, ya_110, ya_111, ya_112, ya_113, ya_114, ya_115, ya_116, ya_117, ya_118, ya_119, yw_100_2, yw_100_3, yw_100_5, yw_100_15, yw_100_20, yw_100_21, yw_100_22, yw_100_24, yw_100_25, yw_100_28, yu_101, yu_102, yu_103, yu_104, yu_105, yu_106, yu_107, yu_108, yu_109, yu_110, yu_111, yu_112, yu_113, yu_114, yu_115, yu_116, yu_117, yu_118, yu_119, e2, e4, hv, Nat.zero_le, pMS_trayKind]
          exact g1
        · show ((va_up c.tsz i (nI v)) z = -11 ∧ (va_up d.trayKind i (nI w)) z = -1) ∨ (∃ n, n ≤ 20 ∧ (va_up c.tsz i (nI v)) z = nI n ∧ (va_up d.traySize i (nI v)) z = nI n ∧ (va_up c.tk i w) z < 4 ∧ (va_up d.trayKind i (nI w)) z = nI ((va_up c.tk i w) z) ∧ ∀ j, j < 20 → (va_up c.tpl i f) z j = g (20 * z + j))
          by_cases e : z = i
          · subst e
            rw [upe, upe, upe, upe, upe]
            exact Or.inr ⟨v, hv, rfl, rfl, by omega, rfl, fun j hj => by rw [f2 j hj, g2, if_pos (by omega)]⟩
          · rw [upn e, upn e, upn e, upn e, upn e]
            rcases h.2.2.2.2.2.2.1 z hz with t | ⟨n, t1, t2, t3, t4, t5, t6⟩
            · exact Or.inl t
            · exact Or.inr ⟨n, t1, t2, t3, t4, t5, fun j hj => by rw [t6 j hj, g2, if_neg (by omega)]; rfl⟩
      · by_cases hx2 : x.toInt < 0
        · refine ⟨-nI 14, c, d, ?_, ?_, h⟩
          · simp (disch := omega) only [m_X11_tray, Option.bind_some, plit, plit64, nI_add, pk_mul, if_true, if_false, or_true, true_or, oifT, Nat.one_ne_zero, ↓reduceIte, Nat.reduceLT, Nat.reduceLeDiff, Nat.reduceEqDiff, Nat.reduceAdd, Nat.reduceMul, Nat.reduceSub, Nat.reduceDiv, nI_eq, nI_leI, nI_ltI, nI_neg, neg_eq, yo_10, yr_10_0, yr_10_1, yr_10_2, yr_10_3, yr_10_4, yr_10_5, yr_10_6, yr_10_7, yr_10_8, yr_10_9, yr_10_10, yr_10_11, yo_11, yr_11_0, yr_11_1, yr_11_2, yr_11_3, yr_11_4, yn_13, ya_13, yo_14, yr_14_0, yr_14_1, yr_14_2, yr_14_3, ya_15, ya_16, pk_sub, e1, e3, x_le (x := x) (m := 20) (by omega), x_nge (x := x) (m := 0) (by omega)]
          · simp (disch := omega) only [m_X12_tray, Option.bind_some, plit, plit64, nI_add, pk_mul, if_true, if_false, or_true, true_or, oifT, Nat.one_ne_zero, ↓reduceIte, Nat.reduceLT, Nat.reduceLeDiff, Nat.reduceEqDiff, Nat.reduceAdd, Nat.reduceMul, Nat.reduceSub, Nat.reduceDiv, nI_eq, nI_leI, nI_ltI, nI_neg, neg_eq, yo_100, yr_100_0, yr_100_1, yr_100_2, yr_100_3, yr_100_4, yr_100_5, yr_100_6, yr_100_7, yr_100_8, yr_100_9, yr_100_10, yr_100_11, yr_100_12, yr_100_13, yr_100_14, yr_100_15, yr_100_16, yr_100_17, yr_100_18, yr_100_19, yr_100_20, yr_100_21, yr_100_22, yr_100_23, yr_100_24, yr_100_25, yr_100_26, yr_100_27, yr_100_28, ya_101, ya_102, ya_103, ya_104, ya_105, ya_106, ya_107, ya_108, ya_109, ya_110, ya_111, ya_112, ya_113, ya_114, ya_115, ya_116, ya_117, ya_118, ya_119, e2, e4, x_le (x := x) (m := 20) (by omega), x_nge (x := x) (m := 0) (by omega)]
        · refine ⟨-nI 2, c, d, ?_, ?_, h⟩
          · simp (disch := omega) only [m_X11_tray, Option.bind_some, plit, plit64, nI_add, pk_mul, if_true, if_false, or_true, true_or, oifT, Nat.one_ne_zero, ↓reduceIte, Nat.reduceLT, Nat.reduceLeDiff, Nat.reduceEqDiff, Nat.reduceAdd, Nat.reduceMul, Nat.reduceSub, Nat.reduceDiv, nI_eq, nI_leI, nI_ltI, nI_neg, neg_eq, yo_10, yr_10_0, yr_10_1, yr_10_2, yr_10_3, yr_10_4, yr_10_5, yr_10_6, yr_10_7, yr_10_8, yr_10_9, yr_10_10, yr_10_11, yo_11, yr_11_0, yr_11_1, yr_11_2, yr_11_3, yr_11_4, yn_13, ya_13, yo_14, yr_14_0, yr_14_1, yr_14_2, yr_14_3, ya_15, ya_16, pk_sub, e1, e3, x_nle (x := x) (m := 20) (by omega)]
          · simp (disch := omega) only [m_X12_tray, Option.bind_some, plit, plit64, nI_add, pk_mul, if_true, if_false, or_true, true_or, oifT, Nat.one_ne_zero, ↓reduceIte, Nat.reduceLT, Nat.reduceLeDiff, Nat.reduceEqDiff, Nat.reduceAdd, Nat.reduceMul, Nat.reduceSub, Nat.reduceDiv, nI_eq, nI_leI, nI_ltI, nI_neg, neg_eq, yo_100, yr_100_0, yr_100_1, yr_100_2, yr_100_3, yr_100_4, yr_100_5, yr_100_6, yr_100_7, yr_100_8, yr_100_9, yr_100_10, yr_100_11, yr_100_12, yr_100_13, yr_100_14, yr_100_15, yr_100_16, yr_100_17, yr_100_18, yr_100_19, yr_100_20, yr_100_21, yr_100_22, yr_100_23, yr_100_24, yr_100_25, yr_100_26, yr_100_27, yr_100_28, ya_101, ya_102, ya_103, ya_104, ya_105, ya_106, ya_107, ya_108, ya_109, ya_110, ya_111, ya_112, ya_113, ya_114, ya_115, ya_116, ya_117, ya_118, ya_119, e2, e4, x_nle (x := x) (m := 20) (by omega)]
    · have e3 := wi_out (x := b) (m := 3) hb
      have e4 := in_out (x := b) (lo := 0) (hi := 3) (by omega)
      refine ⟨-nI 1, c, d, ?_, ?_, h⟩
      · simp (disch := omega) only [m_X11_tray, Option.bind_some, plit, plit64, nI_add, pk_mul, if_true, if_false, or_true, true_or, oifT, Nat.one_ne_zero, ↓reduceIte, Nat.reduceLT, Nat.reduceLeDiff, Nat.reduceEqDiff, Nat.reduceAdd, Nat.reduceMul, Nat.reduceSub, Nat.reduceDiv, nI_eq, nI_leI, nI_ltI, nI_neg, neg_eq, yo_10, yr_10_0, yr_10_1, yr_10_2, yr_10_3, yr_10_4, yr_10_5, yr_10_6, yr_10_7, yr_10_8, yr_10_9, yr_10_10, yr_10_11, yo_11, yr_11_0, yr_11_1, yr_11_2, yr_11_3, yr_11_4, yn_13, ya_13, yo_14, yr_14_0, yr_14_1, yr_14_2, yr_14_3, ya_15, ya_16, pk_sub, e1, e3]
      · simp (disch := omega) only [m_X12_tray, Option.bind_some, plit, plit64, nI_add, pk_mul, if_true, if_false, or_true, true_or, oifT, Nat.one_ne_zero, ↓reduceIte, Nat.reduceLT, Nat.reduceLeDiff, Nat.reduceEqDiff, Nat.reduceAdd, Nat.reduceMul, Nat.reduceSub, Nat.reduceDiv, nI_eq, nI_leI, nI_ltI, nI_neg, neg_eq, yo_100, yr_100_0, yr_100_1, yr_100_2, yr_100_3, yr_100_4, yr_100_5, yr_100_6, yr_100_7, yr_100_8, yr_100_9, yr_100_10, yr_100_11, yr_100_12, yr_100_13, yr_100_14, yr_100_15, yr_100_16, yr_100_17, yr_100_18, yr_100_19, yr_100_20, yr_100_21, yr_100_22, yr_100_23, yr_100_24, yr_100_25, yr_100_26, yr_100_27, yr_100_28, ya_101, ya_102, ya_103, ya_104, ya_105, ya_106, ya_107, ya_108, ya_109, ya_110, ya_111, ya_112, ya_113, ya_114, ya_115, ya_116, ya_117, ya_118, ya_119, e2, e4]
  · have e1 := wi_out (x := a) (m := 3) ha
    have e2 := isTray_out ha
    refine ⟨-nI 1, c, d, ?_, ?_, h⟩
    · simp (disch := omega) only [m_X11_tray, Option.bind_some, plit, plit64, nI_add, pk_mul, if_true, if_false, or_true, true_or, oifT, Nat.one_ne_zero, ↓reduceIte, Nat.reduceLT, Nat.reduceLeDiff, Nat.reduceEqDiff, Nat.reduceAdd, Nat.reduceMul, Nat.reduceSub, Nat.reduceDiv, nI_eq, nI_leI, nI_ltI, nI_neg, neg_eq, yo_10, yr_10_0, yr_10_1, yr_10_2, yr_10_3, yr_10_4, yr_10_5, yr_10_6, yr_10_7, yr_10_8, yr_10_9, yr_10_10, yr_10_11, yo_11, yr_11_0, yr_11_1, yr_11_2, yr_11_3, yr_11_4, yn_13, ya_13, yo_14, yr_14_0, yr_14_1, yr_14_2, yr_14_3, ya_15, ya_16, e1]
    · simp (disch := omega) only [m_X12_tray, Option.bind_some, plit, plit64, nI_add, pk_mul, if_true, if_false, or_true, true_or, oifT, Nat.one_ne_zero, ↓reduceIte, Nat.reduceLT, Nat.reduceLeDiff, Nat.reduceEqDiff, Nat.reduceAdd, Nat.reduceMul, Nat.reduceSub, Nat.reduceDiv, nI_eq, nI_leI, nI_ltI, nI_neg, neg_eq, yo_100, yr_100_0, yr_100_1, yr_100_2, yr_100_3, yr_100_4, yr_100_5, yr_100_6, yr_100_7, yr_100_8, yr_100_9, yr_100_10, yr_100_11, yr_100_12, yr_100_13, yr_100_14, yr_100_15, yr_100_16, yr_100_17, yr_100_18, yr_100_19, yr_100_20, yr_100_21, yr_100_22, yr_100_23, yr_100_24, yr_100_25, yr_100_26, yr_100_27, yr_100_28, ya_101, ya_102, ya_103, ya_104, ya_105, ya_106, ya_107, ya_108, ya_109, ya_110, ya_111, ya_112, ya_113, ya_114, ya_115, ya_116, ya_117, ya_118, ya_119, e2]
theorem whyNot_m {i : Nat} {b : Int32} (hi : i < 4) (h : d.trayKind i = -1) : m_X12_whyNot 100 (nI i) b (mk c d D) = some (-nI 11) := by
  simp (disch := omega) only [m_X12_whyNot, Option.bind_some, plit, plit64, nI_add, pk_mul, if_true, if_false, or_true, true_or, oifT, Nat.one_ne_zero, ↓reduceIte, Nat.reduceLT, Nat.reduceLeDiff, Nat.reduceEqDiff, Nat.reduceAdd, Nat.reduceMul, Nat.reduceSub, Nat.reduceDiv, nI_eq, nI_leI, nI_ltI, nI_neg, neg_eq, yo_100, yr_100_0, yr_100_1, yr_100_2, yr_100_3, yr_100_4, yr_100_5, yr_100_6, yr_100_7, yr_100_8, yr_100_9, yr_100_10, yr_100_11, yr_100_12, yr_100_13, yr_100_14, yr_100_15, yr_100_16, yr_100_17, yr_100_18, yr_100_19, yr_100_20, yr_100_21, yr_100_22, yr_100_23, yr_100_24, yr_100_25, yr_100_26, yr_100_27, yr_100_28, ya_101, ya_102, ya_103, ya_104, ya_105, ya_106, ya_107, ya_108, ya_109, ya_110, ya_111, ya_112, ya_113, ya_114, ya_115, ya_116, ya_117, ya_118, ya_119, h, nle_neg]
theorem whyNot_in {i k q n : Nat} (hi : i < 4) (h : d.trayKind i = nI k) (hk : k < 4) (hs : d.traySize i = nI n) (hn : n ≤ 20) (hq : q < n) : m_X12_whyNot 100 (nI i) (nI q) (mk c d D) = some (nI 0) := by
  have e := in_inS (k := q) (n := n) hq
  simp (disch := omega) only [m_X12_whyNot, Option.bind_some, plit, plit64, nI_add, pk_mul, if_true, if_false, or_true, true_or, oifT, Nat.one_ne_zero, ↓reduceIte, Nat.reduceLT, Nat.reduceLeDiff, Nat.reduceEqDiff, Nat.reduceAdd, Nat.reduceMul, Nat.reduceSub, Nat.reduceDiv, nI_eq, nI_leI, nI_ltI, nI_neg, neg_eq, yo_100, yr_100_0, yr_100_1, yr_100_2, yr_100_3, yr_100_4, yr_100_5, yr_100_6, yr_100_7, yr_100_8, yr_100_9, yr_100_10, yr_100_11, yr_100_12, yr_100_13, yr_100_14, yr_100_15, yr_100_16, yr_100_17, yr_100_18, yr_100_19, yr_100_20, yr_100_21, yr_100_22, yr_100_23, yr_100_24, yr_100_25, yr_100_26, yr_100_27, yr_100_28, ya_101, ya_102, ya_103, ya_104, ya_105, ya_106, ya_107, ya_108, ya_109, ya_110, ya_111, ya_112, ya_113, ya_114, ya_115, ya_116, ya_117, ya_118, ya_119, h, hs, Nat.zero_le, e]
theorem whyNot_out {i k n : Nat} {b : Int32} (hi : i < 4) (h : d.trayKind i = nI k) (hk : k < 4) (hs : d.traySize i = nI n) (hn : n ≤ 20) (hq : b.toInt < 0 ∨ (n : Int) ≤ b.toInt) : m_X12_whyNot 100 (nI i) b (mk c d D) = some (-nI 12) := by
  have e := in_outS (x := b) (n := n) hq
  simp (disch := omega) only [m_X12_whyNot, Option.bind_some, plit, plit64, nI_add, pk_mul, if_true, if_false, or_true, true_or, oifT, Nat.one_ne_zero, ↓reduceIte, Nat.reduceLT, Nat.reduceLeDiff, Nat.reduceEqDiff, Nat.reduceAdd, Nat.reduceMul, Nat.reduceSub, Nat.reduceDiv, nI_eq, nI_leI, nI_ltI, nI_neg, neg_eq, yo_100, yr_100_0, yr_100_1, yr_100_2, yr_100_3, yr_100_4, yr_100_5, yr_100_6, yr_100_7, yr_100_8, yr_100_9, yr_100_10, yr_100_11, yr_100_12, yr_100_13, yr_100_14, yr_100_15, yr_100_16, yr_100_17, yr_100_18, yr_100_19, yr_100_20, yr_100_21, yr_100_22, yr_100_23, yr_100_24, yr_100_25, yr_100_26, yr_100_27, yr_100_28, ya_101, ya_102, ya_103, ya_104, ya_105, ya_106, ya_107, ya_108, ya_109, ya_110, ya_111, ya_112, ya_113, ya_114, ya_115, ya_116, ya_117, ya_118, ya_119, h, hs, Nat.zero_le, e]
theorem wi_inS {k n : Nat} (h : k < n) (h3 : n < 2 ^ 31 := by omega) : m_X11_within (nI k) (nI n - nI 1) = some (nI 1) := by
  rw [pk_sub (by omega)]
  exact wi_in (by omega)
theorem wi_outS {x : Int32} {n : Nat} (h : x.toInt < 0 ∨ (n : Int) ≤ x.toInt) (h3 : n < 2 ^ 31 := by omega) : m_X11_within x (nI n - nI 1) = some (nI 0) := by
  unfold m_X11_within
  by_cases h0 : x < 0
  · rw [if_pos h0]; rfl
  · rw [if_neg h0, if_pos]
    · rfl
    · rw [Int32.lt_iff_toInt_lt] at h0 ⊢
      rw [pred_I h3]
      have : (0 : Int32).toInt = 0 := by decide
      omega
theorem p_laid (h : RR c d D) (a b : Int32) : ∃ r, m_X11_laid 10 a b (mk c d D) = some r ∧ m_X12_laid 100 a b (mk c d D) = some r := by
  rcases rg a 3 with ⟨i, hi, rfl⟩ | ha
  · have e1 := wi_in (k := i) (m := 3) hi
    have e2 := isTray_in hi
    rcases h.2.2.2.2.2.2.1 i (by omega) with ⟨t1, t2⟩ | ⟨n, t1, t2, t3, t4, t5, t6⟩
    · have e3 := whyNot_m (c := c) (d := d) (D := D) (i := i) (b := b) (by omega) t2
      refine ⟨-nI 11, ?_, ?_⟩
      · simp (disch := omega) only [m_X11_laid, Option.bind_some, plit, plit64, nI_add, pk_mul, if_true, if_false, or_true, true_or, oifT, Nat.one_ne_zero, ↓reduceIte, Nat.reduceLT, Nat.reduceLeDiff, Nat.reduceEqDiff, Nat.reduceAdd, Nat.reduceMul, Nat.reduceSub, Nat.reduceDiv, nI_eq, nI_leI, nI_ltI, nI_neg, neg_eq, yo_10, yr_10_0, yr_10_1, yr_10_2, yr_10_3, yr_10_4, yr_10_5, yr_10_6, yr_10_7, yr_10_8, yr_10_9, yr_10_10, yr_10_11, yo_11, yr_11_0, yr_11_1, yr_11_2, yr_11_3, yr_11_4, yn_13, ya_13, yo_14, yr_14_0, yr_14_1, yr_14_2, yr_14_3, ya_15, ya_16, ytr_R, yto, yt_0, yt_1, yt_2, ytw_0, ytw_1, ytn, ytc, yts, yta, ytu, e1, t1]
      · simp (disch := omega) only [m_X12_laid, Option.bind_some, plit, plit64, nI_add, pk_mul, if_true, if_false, or_true, true_or, oifT, Nat.one_ne_zero, ↓reduceIte, Nat.reduceLT, Nat.reduceLeDiff, Nat.reduceEqDiff, Nat.reduceAdd, Nat.reduceMul, Nat.reduceSub, Nat.reduceDiv, nI_eq, nI_leI, nI_ltI, nI_neg, neg_eq, yo_100, yr_100_0, yr_100_1, yr_100_2, yr_100_3, yr_100_4, yr_100_5, yr_100_6, yr_100_7, yr_100_8, yr_100_9, yr_100_10, yr_100_11, yr_100_12, yr_100_13, yr_100_14, yr_100_15, yr_100_16, yr_100_17, yr_100_18, yr_100_19, yr_100_20, yr_100_21, yr_100_22, yr_100_23, yr_100_24, yr_100_25, yr_100_26, yr_100_27, yr_100_28, ya_101, ya_102, ya_103, ya_104, ya_105, ya_106, ya_107, ya_108, ya_109, ya_110, ya_111, ya_112, ya_113, ya_114, ya_115, ya_116, ya_117, ya_118, ya_119, e2, e3, neg_eq (a := 11) (b := 0), show ¬ (-nI 11 = nI 0) by decide]
    · rcases rgS b n with ⟨q, hq, rfl⟩ | hb
      · have e3 := whyNot_in (c := c) (d := d) (D := D) (i := i) (by omega) t5 t4 t3 t1 hq
        have e4 := wi_inS (k := q) (n := n) hq
        refine ⟨c.tpl i q, ?_, ?_⟩
        · simp (disch := omega) only [m_X11_laid, Option.bind_some, plit, plit64, nI_add, pk_mul, if_true, if_false, or_true, true_or, oifT, Nat.one_ne_zero, ↓reduceIte, Nat.reduceLT, Nat.reduceLeDiff, Nat.reduceEqDiff, Nat.reduceAdd, Nat.reduceMul, Nat.reduceSub, Nat.reduceDiv, nI_eq, nI_leI, nI_ltI, nI_neg, neg_eq, yo_10, yr_10_0, yr_10_1, yr_10_2, yr_10_3, yr_10_4, yr_10_5, yr_10_6, yr_10_7, yr_10_8, yr_10_9, yr_10_10, yr_10_11, yo_11, yr_11_0, yr_11_1, yr_11_2, yr_11_3, yr_11_4, yn_13, ya_13, yo_14, yr_14_0, yr_14_1, yr_14_2, yr_14_3, ya_15, ya_16, ytr_R, yto, yt_0, yt_1, yt_2, ytw_0, ytw_1, ytn, ytc, yts, yta, ytu, e1, t2, e4]
        · simp (disch := omega) only [m_X12_laid, Option.bind_some, plit, plit64, nI_add, pk_mul, if_true, if_false, or_true, true_or, oifT, Nat.one_ne_zero, ↓reduceIte, Nat.reduceLT, Nat.reduceLeDiff, Nat.reduceEqDiff, Nat.reduceAdd, Nat.reduceMul, Nat.reduceSub, Nat.reduceDiv, nI_eq, nI_leI, nI_ltI, nI_neg, neg_eq, yo_100, yr_100_0, yr_100_1, yr_100_2, yr_100_3, yr_100_4, yr_100_5, yr_100_6, yr_100_7, yr_100_8, yr_100_9, yr_100_10, yr_100_11, yr_100_12, yr_100_13, yr_100_14, yr_100_15, yr_100_16, yr_100_17, yr_100_18, yr_100_19, yr_100_20, yr_100_21, yr_100_22, yr_100_23, yr_100_24, yr_100_25, yr_100_26, yr_100_27, yr_100_28, ya_101, ya_102, ya_103, ya_104, ya_105, ya_106, ya_107, ya_108, ya_109, ya_110, ya_111, ya_112, ya_113, ya_114, ya_115, ya_116, ya_117, ya_118, ya_119, e2, e3, t6 q (by omega)]
      · have e3 := whyNot_out (c := c) (d := d) (D := D) (i := i) (by omega) t5 t4 t3 t1 hb
        have e4 := wi_outS (x := b) (n := n) hb
        refine ⟨-nI 12, ?_, ?_⟩
        · simp (disch := omega) only [m_X11_laid, Option.bind_some, plit, plit64, nI_add, pk_mul, if_true, if_false, or_true, true_or, oifT, Nat.one_ne_zero, ↓reduceIte, Nat.reduceLT, Nat.reduceLeDiff, Nat.reduceEqDiff, Nat.reduceAdd, Nat.reduceMul, Nat.reduceSub, Nat.reduceDiv, nI_eq, nI_leI, nI_ltI, nI_neg, neg_eq, yo_10, yr_10_0, yr_10_1, yr_10_2, yr_10_3, yr_10_4, yr_10_5, yr_10_6, yr_10_7, yr_10_8, yr_10_9, yr_10_10, yr_10_11, yo_11, yr_11_0, yr_11_1, yr_11_2, yr_11_3, yr_11_4, yn_13, ya_13, yo_14, yr_14_0, yr_14_1, yr_14_2, yr_14_3, ya_15, ya_16, ytr_R, yto, yt_0, yt_1, yt_2, ytw_0, ytw_1, ytn, ytc, yts, yta, ytu, e1, t2, e4]
        · simp (disch := omega) only [m_X12_laid, Option.bind_some, plit, plit64, nI_add, pk_mul, if_true, if_false, or_true, true_or, oifT, Nat.one_ne_zero, ↓reduceIte, Nat.reduceLT, Nat.reduceLeDiff, Nat.reduceEqDiff, Nat.reduceAdd, Nat.reduceMul, Nat.reduceSub, Nat.reduceDiv, nI_eq, nI_leI, nI_ltI, nI_neg, neg_eq, yo_100, yr_100_0, yr_100_1, yr_100_2, yr_100_3, yr_100_4, yr_100_5, yr_100_6, yr_100_7, yr_100_8, yr_100_9, yr_100_10, yr_100_11, yr_100_12, yr_100_13, yr_100_14, yr_100_15, yr_100_16, yr_100_17, yr_100_18, yr_100_19, yr_100_20, yr_100_21, yr_100_22, yr_100_23, yr_100_24, yr_100_25, yr_100_26, yr_100_27, yr_100_28, ya_101, ya_102, ya_103, ya_104, ya_105, ya_106, ya_107, ya_108, ya_109, ya_110, ya_111, ya_112, ya_113, ya_114, ya_115, ya_116, ya_117, ya_118, ya_119, e2, e3, show ¬ (-nI 12 = nI 0) by decide]
  · have e1 := wi_out (x := a) (m := 3) ha
    have e2 := isTray_out ha
    refine ⟨-nI 1, ?_, ?_⟩
    · simp (disch := omega) only [m_X11_laid, Option.bind_some, plit, plit64, nI_add, pk_mul, if_true, if_false, or_true, true_or, oifT, Nat.one_ne_zero, ↓reduceIte, Nat.reduceLT, Nat.reduceLeDiff, Nat.reduceEqDiff, Nat.reduceAdd, Nat.reduceMul, Nat.reduceSub, Nat.reduceDiv, nI_eq, nI_leI, nI_ltI, nI_neg, neg_eq, yo_10, yr_10_0, yr_10_1, yr_10_2, yr_10_3, yr_10_4, yr_10_5, yr_10_6, yr_10_7, yr_10_8, yr_10_9, yr_10_10, yr_10_11, yo_11, yr_11_0, yr_11_1, yr_11_2, yr_11_3, yr_11_4, yn_13, ya_13, yo_14, yr_14_0, yr_14_1, yr_14_2, yr_14_3, ya_15, ya_16, e1]
    · simp (disch := omega) only [m_X12_laid, Option.bind_some, plit, plit64, nI_add, pk_mul, if_true, if_false, or_true, true_or, oifT, Nat.one_ne_zero, ↓reduceIte, Nat.reduceLT, Nat.reduceLeDiff, Nat.reduceEqDiff, Nat.reduceAdd, Nat.reduceMul, Nat.reduceSub, Nat.reduceDiv, nI_eq, nI_leI, nI_ltI, nI_neg, neg_eq, yo_100, yr_100_0, yr_100_1, yr_100_2, yr_100_3, yr_100_4, yr_100_5, yr_100_6, yr_100_7, yr_100_8, yr_100_9, yr_100_10, yr_100_11, yr_100_12, yr_100_13, yr_100_14, yr_100_15, yr_100_16, yr_100_17, yr_100_18, yr_100_19, yr_100_20, yr_100_21, yr_100_22, yr_100_23, yr_100_24, yr_100_25, yr_100_26, yr_100_27, yr_100_28, ya_101, ya_102, ya_103, ya_104, ya_105, ya_106, ya_107, ya_108, ya_109, ya_110, ya_111, ya_112, ya_113, ya_114, ya_115, ya_116, ya_117, ya_118, ya_119, e2]
end
