-- what is laid, trays like another; lists
section
variable {c : CS} {d : MS} {D : mM} {N k : Nat} {a : Int32} {P : PL}
theorem isOf_eq {M : mM} (hN : 10 ≤ N) {k1 k2 : Nat} (h1 : k1 < 4) (h2 : k2 < 4) : m_X3_isOf N k1 k2 M = m_X12_isUnder (nI k1) (nI k2) := by
  obtain ⟨m, rfl⟩ : ∃ m, N = m + 10 := ⟨N - 10, by omega⟩
  match k1, k2, h1, h2 with
  | 0, 0, _, _ => rfl
  | 0, 1, _, _ => rfl
  | 0, 2, _, _ => rfl
  | 0, 3, _, _ => rfl
  | 1, 0, _, _ => rfl
  | 1, 1, _, _ => rfl
  | 1, 2, _, _ => rfl
  | 1, 3, _, _ => rfl
  | 2, 0, _, _ => rfl
  | 2, 1, _, _ => rfl
  | 2, 2, _, _ => rfl
  | 2, 3, _, _ => rfl
  | 3, 0, _, _ => rfl
  | 3, 1, _, _ => rfl
  | 3, 2, _, _ => rfl
  | 3, 3, _, _ => rfl
theorem isUnder_01 {k1 k2 : Nat} (h1 : k1 < 4) (h2 : k2 < 4) : m_X12_isUnder (nI k1) (nI k2) = some (nI 0) ∨ m_X12_isUnder (nI k1) (nI k2) = some (nI 1) := by
  unfold m_X12_isUnder
  repeat' split
  all_goals first | exact Or.inl rfl | exact Or.inr rfl
theorem lit_neg {a : Nat} {x : Int32} (h : x.toInt ≠ -(a : Int)) (ha : a < 2 ^ 31 := by omega) : ¬ x = -nI a := by
  intro e; rw [e, sb_negT ha] at h; exact h rfl
/-- what is laid at a place of a tray -/
theorem TR.lay (h : TR c d) {i q n : Nat} (hi : i < 4) (v : Int32) : TR (c.s_tpl (va_up c.tpl i (va_up (c.tpl i) q v))) (d.s_laid (va_up d.laid (20 * i + q) v)) ∨ ¬ q < 20 := by
  by_cases hq : q < 20
  · left
    intro z hz
    show (c.tsz z = -11 ∧ d.trayKind z = -1) ∨ (∃ n, n ≤ 20 ∧ c.tsz z = nI n ∧ d.traySize z = nI n ∧ c.tk z < 4 ∧ d.trayKind z = nI (c.tk z) ∧ ∀ j, j < 20 → va_up c.tpl i (va_up (c.tpl i) q v) z j = va_up d.laid (20 * i + q) v (20 * z + j))
    rcases h z hz with t | ⟨n, t1, t2, t3, t4, t5, t6⟩
    · exact Or.inl t
    · refine Or.inr ⟨n, t1, t2, t3, t4, t5, fun j hj => ?_⟩
      by_cases e : z = i
      · subst e
        rw [upe]
        by_cases e2 : j = q
        · subst e2; rw [upe, upe]
        · rw [upn e2, upn (by omega), t6 j hj]
      · rw [upn e, upn (by omega), t6 j hj]
  · exact Or.inr hq
theorem p_lays (h : RR c d D) (hN : 10 ≤ N) (a b x : Int32) : ∃ r c' d', m_X11_lays N 10 a b x (mk c d D) = some (r, mk c' d D) ∧ m_X12_lays 100 a b x (mk c' d D) = some (r, mk c' d' D) ∧ RR c' d' D := by
  have hP := h.1
  have hn := hP.n
  rcases rg a 3 with ⟨i, hi, rfl⟩ | ha
  · have e1 := wi_in (k := i) (m := 3) hi
    have e2 := isTray_in hi
    -- the fare is none, or there is such a one
    by_cases hx : x = -nI 1 ∨ ∃ f, f < c.pl.n ∧ x = nI f
    · have q1 : m_X11_lays N 10 (nI i) b x (mk c d D) = m_X11_lays_J26 N 10 (nI i) b x (mk c d D) := by
        rcases hx with rfl | ⟨f, hf, rfl⟩
        · simp (disch := omega) only [m_X11_lays, Option.bind_some, plit, plit64, nI_add, pk_mul, if_true, if_false, or_true, true_or, oifT, Nat.one_ne_zero, ↓reduceIte, Nat.reduceLT, Nat.reduceLeDiff, Nat.reduceEqDiff, Nat.reduceAdd, Nat.reduceMul, Nat.reduceSub, Nat.reduceDiv, nI_eq, nI_leI, nI_ltI, nI_neg, neg_eq, e1]
        · have e5 := xhf_in (d := d) (D := D) hf hn
          simp (disch := omega) only [m_X11_lays, Option.bind_some, plit, plit64, nI_add, pk_mul, if_true, if_false, or_true, true_or, oifT, Nat.one_ne_zero, ↓reduceIte, Nat.reduceLT, Nat.reduceLeDiff, Nat.reduceEqDiff, Nat.reduceAdd, Nat.reduceMul, Nat.reduceSub, Nat.reduceDiv, nI_eq, nI_leI, nI_ltI, nI_neg, neg_eq, yo_10, yr_10_0, yr_10_1, yr_10_2, yr_10_3, yr_10_4, yr_10_5, yr_10_6, yr_10_7, yr_10_8, yr_10_9, yr_10_10, yr_10_11, yo_11, yr_11_0, yr_11_1, yr_11_2, yr_11_3, yr_11_4, yn_13, ya_13, yo_14, yr_14_0, yr_14_1, yr_14_2, yr_14_3, ya_15, ya_16, e1, e5]
      have q2 : ∀ c2 : CS, m_X12_lays 100 (nI i) b x (mk c2 d D) = m_X12_lays_J22 100 (nI i) b x (mk c2 d D) := fun c2 => by
        rcases hx with rfl | ⟨f, hf, rfl⟩
        · simp (disch := omega) only [m_X12_lays, Option.bind_some, plit, plit64, nI_add, pk_mul, if_true, if_false, or_true, true_or, oifT, Nat.one_ne_zero, ↓reduceIte, Nat.reduceLT, Nat.reduceLeDiff, Nat.reduceEqDiff, Nat.reduceAdd, Nat.reduceMul, Nat.reduceSub, Nat.reduceDiv, nI_eq, nI_leI, nI_ltI, nI_neg, neg_eq, e2]
        · have e5 := yif_in (c := c2) (D := D) hf hP
          simp (disch := omega) only [m_X12_lays, Option.bind_some, plit, plit64, nI_add, pk_mul, if_true, if_false, or_true, true_or, oifT, Nat.one_ne_zero, ↓reduceIte, Nat.reduceLT, Nat.reduceLeDiff, Nat.reduceEqDiff, Nat.reduceAdd, Nat.reduceMul, Nat.reduceSub, Nat.reduceDiv, nI_eq, nI_leI, nI_ltI, nI_neg, neg_eq, yo_100, yr_100_0, yr_100_1, yr_100_2, yr_100_3, yr_100_4, yr_100_5, yr_100_6, yr_100_7, yr_100_8, yr_100_9, yr_100_10, yr_100_11, yr_100_12, yr_100_13, yr_100_14, yr_100_15, yr_100_16, yr_100_17, yr_100_18, yr_100_19, yr_100_20, yr_100_21, yr_100_22, yr_100_23, yr_100_24, yr_100_25, yr_100_26, yr_100_27, yr_100_28, ya_101, ya_102, ya_103, ya_104, ya_105, ya_106, ya_107, ya_108, ya_109, ya_110, ya_111, ya_112, ya_113, ya_114, ya_115, ya_116, ya_117, ya_118, ya_119, e2, e5]
      rcases h.2.2.2.2.2.2.1 i (by omega) with ⟨t1, t2⟩ | ⟨n, t1, t2, t3, t4, t5, t6⟩
      · have e3 := whyNot_m (c := c) (d := d) (D := D) (i := i) (b := b) (by omega) t2
        refine ⟨-nI 11, c, d, ?_, ?_, h⟩
        · rw [q1]; simp (disch := omega) only [m_X11_lays_J26, Option.bind_some, plit, plit64, nI_add, pk_mul, if_true, if_false, or_true, true_or, oifT, Nat.one_ne_zero, ↓reduceIte, Nat.reduceLT, Nat.reduceLeDiff, Nat.reduceEqDiff, Nat.reduceAdd, Nat.reduceMul, Nat.reduceSub, Nat.reduceDiv, nI_eq, nI_leI, nI_ltI, nI_neg, neg_eq, yo_10, yr_10_0, yr_10_1, yr_10_2, yr_10_3, yr_10_4, yr_10_5, yr_10_6, yr_10_7, yr_10_8, yr_10_9, yr_10_10, yr_10_11, yo_11, yr_11_0, yr_11_1, yr_11_2, yr_11_3, yr_11_4, yn_13, ya_13, yo_14, yr_14_0, yr_14_1, yr_14_2, yr_14_3, ya_15, ya_16, ytr_R, yto, yt_0, yt_1, yt_2, ytw_0, ytw_1, ytn, ytc, yts, yta, ytu, t1]
        · rw [q2]; simp (disch := omega) only [m_X12_lays_J22, Option.bind_some, plit, plit64, nI_add, pk_mul, if_true, if_false, or_true, true_or, oifT, Nat.one_ne_zero, ↓reduceIte, Nat.reduceLT, Nat.reduceLeDiff, Nat.reduceEqDiff, Nat.reduceAdd, Nat.reduceMul, Nat.reduceSub, Nat.reduceDiv, nI_eq, nI_leI, nI_ltI, nI_neg, neg_eq, yo_100, yr_100_0, yr_100_1, yr_100_2, yr_100_3, yr_100_4, yr_100_5, yr_100_6, yr_100_7, yr_100_8, yr_100_9, yr_100_10, yr_100_11, yr_100_12, yr_100_13, yr_100_14, yr_100_15, yr_100_16, yr_100_17, yr_100_18, yr_100_19, yr_100_20, yr_100_21, yr_100_22, yr_100_23, yr_100_24, yr_100_25, yr_100_26, yr_100_27, yr_100_28, ya_101, ya_102, ya_103, ya_104, ya_105, ya_106, ya_107, ya_108, ya_109, ya_110, ya_111, ya_112, ya_113, ya_114, ya_115, ya_116, ya_117, ya_118, ya_119, e3, show ¬ (-nI 11 = nI 0) by decide]
      · rcases rgS b n with ⟨q, hq, rfl⟩ | hb
        · have e3 := fun c2 : CS => whyNot_in (c := c2) (d := d) (D := D) (i := i) (by omega) t5 t4 t3 t1 hq
          have e4 := wi_inS (k := q) (n := n) hq
          rcases hx with rfl | ⟨f, hf, rfl⟩
          · have hT := (TR.lay (n := n) h.2.2.2.2.2.2.1 (i := i) (q := q) (by omega) (-nI 5)).resolve_right (by omega)
            refine ⟨nI 1, c.s_tpl (va_up c.tpl i (va_up (c.tpl i) q (-nI 5))), d.s_laid (va_up d.laid (20 * i + q) (-nI 5)), ?_, ?_, h.1, h.2.1, h.2.2.1, h.2.2.2.1, h.2.2.2.2.1, h.2.2.2.2.2.1, hT, h.2.2.2.2.2.2.2⟩
            · rw [q1]; simp (disch := omega) only [m_X11_lays_J26, m_X11_lays_J95, Option.bind_some, plit, plit64, nI_add, pk_mul, if_true, if_false, or_true, true_or, oifT, Nat.one_ne_zero, ↓reduceIte, Nat.reduceLT, Nat.reduceLeDiff, Nat.reduceEqDiff, Nat.reduceAdd, Nat.reduceMul, Nat.reduceSub, Nat.reduceDiv, nI_eq, nI_leI, nI_ltI, nI_neg, neg_eq, yo_10, yr_10_0, yr_10_1, yr_10_2, yr_10_3, yr_10_4, yr_10_5, yr_10_6, yr_10_7, yr_10_8, yr_10_9, yr_10_10, yr_10_11, yo_11, yr_11_0, yr_11_1, yr_11_2, yr_11_3, yr_11_4, yn_13, ya_13, yo_14, yr_14_0, yr_14_1, yr_14_2, yr_14_3, ya_15, ya_16, ytr_R, yto, yt_0, yt_1, yt_2, ytw_0, ytw_1, ytn, ytc, yts, yta, ytu, t2, e4]
            · rw [q2]; simp (disch := omega) only [m_X12_lays_J22, m_X12_lays_J67, Option.bind_some, plit, plit64, nI_add, pk_mul, if_true, if_false, or_true, true_or, oifT, Nat.one_ne_zero, ↓reduceIte, Nat.reduceLT, Nat.reduceLeDiff, Nat.reduceEqDiff, Nat.reduceAdd, Nat.reduceMul, Nat.reduceSub, Nat.reduceDiv, nI_eq, nI_leI, nI_ltI, nI_neg, neg_eq, yo_100, yr_100_0, yr_100_1, yr_100_2, yr_100_3, yr_100_4, yr_100_5, yr_100_6, yr_100_7, yr_100_8, yr_100_9, yr_100_10, yr_100_11, yr_100_12, yr_100_13, yr_100_14, yr_100_15, yr_100_16, yr_100_17, yr_100_18, yr_100_19, yr_100_20, yr_100_21, yr_100_22, yr_100_23, yr_100_24, yr_100_25, yr_100_26, yr_100_27, yr_100_28, ya_101, ya_102, ya_103, ya_104, ya_105, ya_106, ya_107, ya_108, ya_109, ya_110, ya_111, ya_112, ya_113, ya_114, ya_115, ya_116, ya_117, ya_118, ya_119, yw_100_2, yw_100_3, yw_100_5, yw_100_15, yw_100_20, yw_100_21, yw_100_22, yw_100_24, yw_100_25, yw_100_28, yu_101, yu_102, yu_103, yu_104, yu_105, yu_106, yu_107, yu_108, yu_109, yu_110, yu_111, yu_112, yu_113, yu_114, yu_115, yu_116, yu_117, yu_118, yu_119, e3]
          · have hk := hP.k (i := f) (by omega)
            have hkr := hP.k_ (i := f) (by omega)
            have e6 := isOf_eq (M := mk c d D) (N := N) hN hk t4
            rcases isUnder_01 hk t4 with e7 | e7
            · rw [e7] at e6
              refine ⟨-nI 16, c, d, ?_, ?_, h⟩
              · rw [q1]; simp (disch := omega) only [m_X11_lays_J26, m_X11_lays_J95, Option.bind_some, plit, plit64, nI_add, pk_mul, if_true, if_false, or_true, true_or, oifT, Nat.one_ne_zero, ↓reduceIte, Nat.reduceLT, Nat.reduceLeDiff, Nat.reduceEqDiff, Nat.reduceAdd, Nat.reduceMul, Nat.reduceSub, Nat.reduceDiv, nI_eq, nI_leI, nI_ltI, nI_neg, neg_eq, yo_10, yr_10_0, yr_10_1, yr_10_2, yr_10_3, yr_10_4, yr_10_5, yr_10_6, yr_10_7, yr_10_8, yr_10_9, yr_10_10, yr_10_11, yo_11, yr_11_0, yr_11_1, yr_11_2, yr_11_3, yr_11_4, yn_13, ya_13, yo_14, yr_14_0, yr_14_1, yr_14_2, yr_14_3, ya_15, ya_16, ytr_R, yto, yt_0, yt_1, yt_2, ytw_0, ytw_1, ytn, ytc, yts, yta, ytu, yfar_R, yfo, yf_0, yf_1, yf_2, yf_3, yfoa, t2, e4, oif, hk, e6]
              · rw [q2]; simp (disch := omega) only [m_X12_lays_J22, m_X12_lays_J67, Option.bind_some, plit, plit64, nI_add, pk_mul, if_true, if_false, or_true, true_or, oifT, Nat.one_ne_zero, ↓reduceIte, Nat.reduceLT, Nat.reduceLeDiff, Nat.reduceEqDiff, Nat.reduceAdd, Nat.reduceMul, Nat.reduceSub, Nat.reduceDiv, nI_eq, nI_leI, nI_ltI, nI_neg, neg_eq, yo_100, yr_100_0, yr_100_1, yr_100_2, yr_100_3, yr_100_4, yr_100_5, yr_100_6, yr_100_7, yr_100_8, yr_100_9, yr_100_10, yr_100_11, yr_100_12, yr_100_13, yr_100_14, yr_100_15, yr_100_16, yr_100_17, yr_100_18, yr_100_19, yr_100_20, yr_100_21, yr_100_22, yr_100_23, yr_100_24, yr_100_25, yr_100_26, yr_100_27, yr_100_28, ya_101, ya_102, ya_103, ya_104, ya_105, ya_106, ya_107, ya_108, ya_109, ya_110, ya_111, ya_112, ya_113, ya_114, ya_115, ya_116, ya_117, ya_118, ya_119, yw_100_2, yw_100_3, yw_100_5, yw_100_15, yw_100_20, yw_100_21, yw_100_22, yw_100_24, yw_100_25, yw_100_28, yu_101, yu_102, yu_103, yu_104, yu_105, yu_106, yu_107, yu_108, yu_109, yu_110, yu_111, yu_112, yu_113, yu_114, yu_115, yu_116, yu_117, yu_118, yu_119, e3, hkr, t5, e7]
            · rw [e7] at e6
              have hT := (TR.lay (n := n) h.2.2.2.2.2.2.1 (i := i) (q := q) (by omega) (nI f)).resolve_right (by omega)
              refine ⟨nI 1, c.s_tpl (va_up c.tpl i (va_up (c.tpl i) q (nI f))), d.s_laid (va_up d.laid (20 * i + q) (nI f)), ?_, ?_, h.1, h.2.1, h.2.2.1, h.2.2.2.1, h.2.2.2.2.1, h.2.2.2.2.2.1, hT, h.2.2.2.2.2.2.2⟩
              · rw [q1]; simp (disch := omega) only [m_X11_lays_J26, m_X11_lays_J95, Option.bind_some, plit, plit64, nI_add, pk_mul, if_true, if_false, or_true, true_or, oifT, Nat.one_ne_zero, ↓reduceIte, Nat.reduceLT, Nat.reduceLeDiff, Nat.reduceEqDiff, Nat.reduceAdd, Nat.reduceMul, Nat.reduceSub, Nat.reduceDiv, nI_eq, nI_leI, nI_ltI, nI_neg, neg_eq, yo_10, yr_10_0, yr_10_1, yr_10_2, yr_10_3, yr_10_4, yr_10_5, yr_10_6, yr_10_7, yr_10_8, yr_10_9, yr_10_10, yr_10_11, yo_11, yr_11_0, yr_11_1, yr_11_2, yr_11_3, yr_11_4, yn_13, ya_13, yo_14, yr_14_0, yr_14_1, yr_14_2, yr_14_3, ya_15, ya_16, ytr_R, yto, yt_0, yt_1, yt_2, ytw_0, ytw_1, ytn, ytc, yts, yta, ytu, yfar_R, yfo, yf_0, yf_1, yf_2, yf_3, yfoa, t2, e4, oif, hk, e6]
              · rw [q2]; simp (disch := omega) only [m_X12_lays_J22, m_X12_lays_J67, Option.bind_some, plit, plit64, nI_add, pk_mul, if_true, if_false, or_true, true_or, oifT, Nat.one_ne_zero, ↓reduceIte, Nat.reduceLT, Nat.reduceLeDiff, Nat.reduceEqDiff, Nat.reduceAdd, Nat.reduceMul, Nat.reduceSub, Nat.reduceDiv, nI_eq, nI_leI, nI_ltI, nI_neg, neg_eq, yo_100, yr_100_0, yr_100_1, yr_100_2, yr_100_3, yr_100_4, yr_100_5, yr_100_6, yr_100_7, yr_100_8, yr_100_9, yr_100_10, yr_100_11, yr_100_12, yr_100_13, yr_100_14, yr_100_15, yr_100_16, yr_100_17, yr_100_18, yr_100_19, yr_100_20, yr_100_21, yr_100_22, yr_100_23, yr_100_24, yr_100_25, yr_100_26, yr_100_27, yr_100_28, ya_101, ya_102, ya_103, ya_104, ya_105, ya_106, ya_107, ya_108, ya_109, ya_110, ya_111, ya_112, ya_113, ya_114, ya_115, ya_116, ya_117, ya_118, ya_119, yw_100_2, yw_100_3, yw_100_5, yw_100_15, yw_100_20, yw_100_21, yw_100_22, yw_100_24, yw_100_25, yw_100_28, yu_101, yu_102, yu_103, yu_104, yu_105, yu_106, yu_107, yu_108, yu_109, yu_110, yu_111, yu_112, yu_113, yu_114, yu_115, yu_116, yu_117, yu_118, yu_119, e3, hkr, t5, e7]
        · have e3 := whyNot_out (c := c) (d := d) (D := D) (i := i) (by omega) t5 t4 t3 t1 hb
          have e4 := wi_outS (x := b) (n := n) hb
          refine ⟨-nI 12, c, d, ?_, ?_, h⟩
          · rw [q1]; simp (disch := omega) only [m_X11_lays_J26, Option.bind_some, plit, plit64, nI_add, pk_mul, if_true, if_false, or_true, true_or, oifT, Nat.one_ne_zero, ↓reduceIte, Nat.reduceLT, Nat.reduceLeDiff, Nat.reduceEqDiff, Nat.reduceAdd, Nat.reduceMul, Nat.reduceSub, Nat.reduceDiv, nI_eq, nI_leI, nI_ltI, nI_neg, neg_eq, yo_10, yr_10_0, yr_10_1, yr_10_2, yr_10_3, yr_10_4, yr_10_5, yr_10_6, yr_10_7, yr_10_8, yr_10_9, yr_10_10, yr_10_11, yo_11, yr_11_0, yr_11_1, yr_11_2, yr_11_3, yr_11_4, yn_13, ya_13, yo_14, yr_14_0, yr_14_1, yr_14_2, yr_14_3, ya_15, ya_16, ytr_R, yto, yt_0, yt_1, yt_2, ytw_0, ytw_1, ytn, ytc, yts, yta, ytu, t2, e4]
          · rw [q2]; simp (disch := omega) only [m_X12_lays_J22, Option.bind_some, plit, plit64, nI_add, pk_mul, if_true, if_false, or_true, true_or, oifT, Nat.one_ne_zero, ↓reduceIte, Nat.reduceLT, Nat.reduceLeDiff, Nat.reduceEqDiff, Nat.reduceAdd, Nat.reduceMul, Nat.reduceSub, Nat.reduceDiv, nI_eq, nI_leI, nI_ltI, nI_neg, neg_eq, yo_100, yr_100_0, yr_100_1, yr_100_2, yr_100_3, yr_100_4, yr_100_5, yr_100_6, yr_100_7, yr_100_8, yr_100_9, yr_100_10, yr_100_11, yr_100_12, yr_100_13, yr_100_14, yr_100_15, yr_100_16, yr_100_17, yr_100_18, yr_100_19, yr_100_20, yr_100_21, yr_100_22, yr_100_23, yr_100_24, yr_100_25, yr_100_26, yr_100_27, yr_100_28, ya_101, ya_102, ya_103, ya_104, ya_105, ya_106, ya_107, ya_108, ya_109, ya_110, ya_111, ya_112, ya_113, ya_114, ya_115, ya_116, ya_117, ya_118, ya_119, e3, show ¬ (-nI 12 = nI 0) by decide]
    · have hx1 : ¬ x = -nI 1 := fun e => hx (Or.inl e)
      have hx2 : x.toInt < 0 ∨ (c.pl.n : Int) ≤ x.toInt := by
        rcases rgS x c.pl.n with h1 | h1
        · exact absurd (Or.inr h1) hx
        · exact h1
      have e5 := xhf_out (d := d) (D := D) hx2 hn
      have e6 := yif_out (c := c) (D := D) hx2 hP
      refine ⟨-nI 1, c, d, ?_, ?_, h⟩
      · simp (disch := omega) only [m_X11_lays, Option.bind_some, plit, plit64, nI_add, pk_mul, if_true, if_false, or_true, true_or, oifT, Nat.one_ne_zero, ↓reduceIte, Nat.reduceLT, Nat.reduceLeDiff, Nat.reduceEqDiff, Nat.reduceAdd, Nat.reduceMul, Nat.reduceSub, Nat.reduceDiv, nI_eq, nI_leI, nI_ltI, nI_neg, neg_eq, yo_10, yr_10_0, yr_10_1, yr_10_2, yr_10_3, yr_10_4, yr_10_5, yr_10_6, yr_10_7, yr_10_8, yr_10_9, yr_10_10, yr_10_11, yo_11, yr_11_0, yr_11_1, yr_11_2, yr_11_3, yr_11_4, yn_13, ya_13, yo_14, yr_14_0, yr_14_1, yr_14_2, yr_14_3, ya_15, ya_16, e1, e5, hx1]
      · simp (disch := omega) only [m_X12_lays, Option.bind_some, plit, plit64, nI_add, pk_mul, if_true, if_false, or_true, true_or, oifT, Nat.one_ne_zero, ↓reduceIte, Nat.reduceLT, Nat.reduceLeDiff, Nat.reduceEqDiff, Nat.reduceAdd, Nat.reduceMul, Nat.reduceSub, Nat.reduceDiv, nI_eq, nI_leI, nI_ltI, nI_neg, neg_eq, yo_100, yr_100_0, yr_100_1, yr_100_2, yr_100_3, yr_100_4, yr_100_5, yr_100_6, yr_100_7, yr_100_8, yr_100_9, yr_100_10, yr_100_11, yr_100_12, yr_100_13, yr_100_14, yr_100_15, yr_100_16, yr_100_17, yr_100_18, yr_100_19, yr_100_20, yr_100_21, yr_100_22, yr_100_23, yr_100_24, yr_100_25, yr_100_26, yr_100_27, yr_100_28, ya_101, ya_102, ya_103, ya_104, ya_105, ya_106, ya_107, ya_108, ya_109, ya_110, ya_111, ya_112, ya_113, ya_114, ya_115, ya_116, ya_117, ya_118, ya_119, e2, e6, hx1]
  · have e1 := wi_out (x := a) (m := 3) ha
    have e2 := isTray_out ha
    refine ⟨-nI 1, c, d, ?_, ?_, h⟩
    · simp (disch := omega) only [m_X11_lays, Option.bind_some, plit, plit64, nI_add, pk_mul, if_true, if_false, or_true, true_or, oifT, Nat.one_ne_zero, ↓reduceIte, Nat.reduceLT, Nat.reduceLeDiff, Nat.reduceEqDiff, Nat.reduceAdd, Nat.reduceMul, Nat.reduceSub, Nat.reduceDiv, nI_eq, nI_leI, nI_ltI, nI_neg, neg_eq, yo_10, yr_10_0, yr_10_1, yr_10_2, yr_10_3, yr_10_4, yr_10_5, yr_10_6, yr_10_7, yr_10_8, yr_10_9, yr_10_10, yr_10_11, yo_11, yr_11_0, yr_11_1, yr_11_2, yr_11_3, yr_11_4, yn_13, ya_13, yo_14, yr_14_0, yr_14_1, yr_14_2, yr_14_3, ya_15, ya_16, e1]
    · simp (disch := omega) only [m_X12_lays, Option.bind_some, plit, plit64, nI_add, pk_mul, if_true, if_false, or_true, true_or, oifT, Nat.one_ne_zero, ↓reduceIte, Nat.reduceLT, Nat.reduceLeDiff, Nat.reduceEqDiff, Nat.reduceAdd, Nat.reduceMul, Nat.reduceSub, Nat.reduceDiv, nI_eq, nI_leI, nI_ltI, nI_neg, neg_eq, yo_100, yr_100_0, yr_100_1, yr_100_2, yr_100_3, yr_100_4, yr_100_5, yr_100_6, yr_100_7, yr_100_8, yr_100_9, yr_100_10, yr_100_11, yr_100_12, yr_100_13, yr_100_14, yr_100_15, yr_100_16, yr_100_17, yr_100_18, yr_100_19, yr_100_20, yr_100_21, yr_100_22, yr_100_23, yr_100_24, yr_100_25, yr_100_26, yr_100_27, yr_100_28, ya_101, ya_102, ya_103, ya_104, ya_105, ya_106, ya_107, ya_108, ya_109, ya_110, ya_111, ya_112, ya_113, ya_114, ya_115, ya_116, ya_117, ya_118, ya_119, e2]
theorem ylike_go {i o : Nat} {v : Int32} (hi : i < 4) (ho : o < 4) : ∀ (n j : Nat) (d : MS), j ≤ 20 → 20 - j < n → d.traySize i = v → ∃ g : Nat → Int32, m_X12_like_L54 N n 100 (nI i) (nI o) (nI j) (mk c d D) = some (v, mk c (d.s_laid g) D) ∧ (∀ z, g z = if 20 * i + j ≤ z ∧ z < 20 * i + 20 then d.laid (z - 20 * i + 20 * o) else d.laid z) := by
  intro n
  induction n with
  | zero => intro j d _ h; omega
  | succ n ih =>
    intro j d hj hn hv
    unfold m_X12_like_L54
    by_cases h4 : j = 20
    · subst h4
      refine ⟨d.laid, ?_, fun z => by rw [if_neg (by omega)]⟩
      simp (disch := omega) only [Option.bind_some, plit, plit64, nI_add, pk_mul, if_true, if_false, or_true, true_or, oifT, Nat.one_ne_zero, ↓reduceIte, Nat.reduceLT, Nat.reduceLeDiff, Nat.reduceEqDiff, Nat.reduceAdd, Nat.reduceMul, Nat.reduceSub, Nat.reduceDiv, nI_eq, nI_leI, nI_ltI, nI_neg, neg_eq, yo_100, yr_100_0, yr_100_1, yr_100_2, yr_100_3, yr_100_4, yr_100_5, yr_100_6, yr_100_7, yr_100_8, yr_100_9, yr_100_10, yr_100_11, yr_100_12, yr_100_13, yr_100_14, yr_100_15, yr_100_16, yr_100_17, yr_100_18, yr_100_19, yr_100_20, yr_100_21, yr_100_22, yr_100_23, yr_100_24, yr_100_25, yr_100_26, yr_100_27, yr_100_28, ya_101, ya_102, ya_103, ya_104, ya_105, ya_106, ya_107, ya_108, ya_109, ya_110, ya_111, ya_112, ya_113, ya_114, ya_115, ya_116, ya_117, ya_118, ya_119, Nat.le_refl, hv]
      rfl
    · obtain ⟨g, h1, h2⟩ := ih (j + 1) (d.s_laid (va_up d.laid (20 * i + j) (d.laid (20 * o + j)))) (by omega) (by omega) hv
      refine ⟨g, ?_, fun z => ?_⟩
      · simp (disch := omega) only [Option.bind_some, plit, plit64, nI_add, pk_mul, if_true, if_false, or_true, true_or, oifT, Nat.one_ne_zero, ↓reduceIte, Nat.reduceLT, Nat.reduceLeDiff, Nat.reduceEqDiff, Nat.reduceAdd, Nat.reduceMul, Nat.reduceSub, Nat.reduceDiv, nI_eq, nI_leI, nI_ltI, nI_neg, neg_eq, yo_100, yr_100_0, yr_100_1, yr_100_2, yr_100_3, yr_100_4, yr_100_5, yr_100_6, yr_100_7, yr_100_8, yr_100_9, yr_100_10, yr_100_11, yr_100_12, yr_100_13, yr_100_14, yr_100_15, yr_100_16, yr_100_17, yr_100_18, yr_100_19, yr_100_20, yr_100_21, yr_100_22, yr_100_23, yr_100_24, yr_100_25, yr_100_26, yr_100_27, yr_100_28, ya_101, ya_102, ya_103, ya_104, ya_105, ya_106, ya_107, ya_108, ya_109, ya_110, ya_111, ya_112, ya_113, ya_114, ya_115, ya_116, ya_117, ya_118, ya_119, yw_100_2, yw_100_3, yw_100_5, yw_100_15, yw_100_20, yw_100_21, yw_100_22, yw_100_24, yw_100_25, yw_100_28, yu_101, yu_102, yu_103, yu_104, yu_105, yu_106, yu_107, yu_108, yu_109, yu_110, yu_111, yu_112, yu_113, yu_114, yu_115, yu_116, yu_117, yu_118, yu_119, show ¬ 20 ≤ j by omega]
        rw [h1]
        simp only [qMS_laid]
      · rw [h2 z]
        simp only [pMS_laid, va_up]
        by_cases e : i = o
        · subst e
          repeat' split
          all_goals first | rfl | omega | (congr 1; omega)
        · repeat' split
          all_goals first | rfl | omega | (congr 1; omega)
theorem p_like (h : RR c d D) (hN : 100 ≤ N) (a b : Int32) : ∃ r c' d', m_X11_like 10 a b (mk c d D) = some (r, mk c' d D) ∧ m_X12_like N 100 a b (mk c' d D) = some (r, mk c' d' D) ∧ RR c' d' D := by
  rcases rg a 3 with ⟨i, hi, rfl⟩ | ha
  · have e1 := wi_in (k := i) (m := 3) hi
    have e2 := isTray_in hi
    rcases rg b 3 with ⟨o, ho, rfl⟩ | hb
    · have e3 := wi_in (k := o) (m := 3) ho
      have e4 := isTray_in ho
      rcases h.2.2.2.2.2.2.1 o (by omega) with ⟨t1, t2⟩ | ⟨n, t1, t2, t3, t4, t5, t6⟩
      · refine ⟨-nI 11, c, d, ?_, ?_, h⟩
        · simp (disch := omega) only [m_X11_like, Option.bind_some, plit, plit64, nI_add, pk_mul, if_true, if_false, or_true, true_or, oifT, Nat.one_ne_zero, ↓reduceIte, Nat.reduceLT, Nat.reduceLeDiff, Nat.reduceEqDiff, Nat.reduceAdd, Nat.reduceMul, Nat.reduceSub, Nat.reduceDiv, nI_eq, nI_leI, nI_ltI, nI_neg, neg_eq, yo_10, yr_10_0, yr_10_1, yr_10_2, yr_10_3, yr_10_4, yr_10_5, yr_10_6, yr_10_7, yr_10_8, yr_10_9, yr_10_10, yr_10_11, yo_11, yr_11_0, yr_11_1, yr_11_2, yr_11_3, yr_11_4, yn_13, ya_13, yo_14, yr_14_0, yr_14_1, yr_14_2, yr_14_3, ya_15, ya_16, ytr_R, yto, yt_0, yt_1, yt_2, ytw_0, ytw_1, ytn, ytc, yts, yta, ytu, e1, e3, t1]
        · simp (disch := omega) only [m_X12_like, Option.bind_some, plit, plit64, nI_add, pk_mul, if_true, if_false, or_true, true_or, oifT, Nat.one_ne_zero, ↓reduceIte, Nat.reduceLT, Nat.reduceLeDiff, Nat.reduceEqDiff, Nat.reduceAdd, Nat.reduceMul, Nat.reduceSub, Nat.reduceDiv, nI_eq, nI_leI, nI_ltI, nI_neg, neg_eq, yo_100, yr_100_0, yr_100_1, yr_100_2, yr_100_3, yr_100_4, yr_100_5, yr_100_6, yr_100_7, yr_100_8, yr_100_9, yr_100_10, yr_100_11, yr_100_12, yr_100_13, yr_100_14, yr_100_15, yr_100_16, yr_100_17, yr_100_18, yr_100_19, yr_100_20, yr_100_21, yr_100_22, yr_100_23, yr_100_24, yr_100_25, yr_100_26, yr_100_27, yr_100_28, ya_101, ya_102, ya_103, ya_104, ya_105, ya_106, ya_107, ya_108, ya_109, ya_110, ya_111, ya_112, ya_113, ya_114, ya_115, ya_116, ya_117, ya_118, ya_119, e2, e4, t2, nle_neg]
      · have hz : ∀ (c2 : CS), cpI (mk c2 d D) (87 + 2 * o) (nI 0) (87 + 2 * i) (nI 0) (nI 20) = some (mk (c2.s_tpl (va_up c2.tpl i (va_cpy (c2.tpl o) (c2.tpl i) 0 0 20))) d D) := fun c2 => by
          rw [cpI_z (by omega) (ytc (by omega)) (ytc (by omega)), yts (by omega)]
        have et : (va_up c.tsz i (c.tsz o)) o = c.tsz o := by
          by_cases e : o = i
          · subst e; exact upe
          · exact upn e
        have et2 : (va_up d.trayKind i (d.trayKind o)) o = d.trayKind o := by
          by_cases e : o = i
          · subst e; exact upe
          · exact upn e
        have et3 : (va_up c.tk i (c.tk o)) o = c.tk o := by
          by_cases e : o = i
          · subst e; exact upe
          · exact upn e
        obtain ⟨g, g1, g2⟩ := ylike_go (c := (((c.s_tk (va_up c.tk i (c.tk o))).s_tsz (va_up c.tsz i (c.tsz o))).s_tpl (va_up c.tpl i (va_cpy (c.tpl o) (c.tpl i) 0 0 20)))) (D := D) (N := N) (i := i) (o := o) (v := d.traySize o) (by omega) (by omega) N 0 ((d.s_trayKind (va_up d.trayKind i (d.trayKind o))).s_traySize (va_up d.traySize i (d.traySize o))) (by omega) (by omega) upe
        refine ⟨nI n, ((c.s_tk (va_up c.tk i (c.tk o))).s_tsz (va_up c.tsz i (c.tsz o))).s_tpl (va_up c.tpl i (va_cpy (c.tpl o) (c.tpl i) 0 0 20)), ((d.s_trayKind (va_up d.trayKind i (d.trayKind o))).s_traySize (va_up d.traySize i (d.traySize o))).s_laid g, ?_, ?_, h.1, h.2.1, h.2.2.1, h.2.2.2.1, h.2.2.2.2.1, h.2.2.2.2.2.1, fun z hz => ?_, h.2.2.2.2.2.2.2⟩
        · simp (disch := omega) only [m_X11_like, m_X8_become, Option.bind_some, plit, plit64, nI_add, pk_mul, if_true, if_false, or_true, true_or, oifT, Nat.one_ne_zero, ↓reduceIte, Nat.reduceLT, Nat.reduceLeDiff, Nat.reduceEqDiff, Nat.reduceAdd, Nat.reduceMul, Nat.reduceSub, Nat.reduceDiv, nI_eq, nI_leI, nI_ltI, nI_neg, neg_eq, yo_10, yr_10_0, yr_10_1, yr_10_2, yr_10_3, yr_10_4, yr_10_5, yr_10_6, yr_10_7, yr_10_8, yr_10_9, yr_10_10, yr_10_11, yo_11, yr_11_0, yr_11_1, yr_11_2, yr_11_3, yr_11_4, yn_13, ya_13, yo_14, yr_14_0, yr_14_1, yr_14_2, yr_14_3, ya_15, ya_16, ytr_R, yto, yt_0, yt_1, yt_2, ytw_0, ytw_1, ytn, ytc, yts, yta, ytu, e1, e3, t2, pCS_tk, pCS_tsz, pCS_tpl, hz, upe]
        · simp (disch := omega) only [m_X12_like, Option.bind_some, plit, plit64, nI_add, pk_mul, if_true, if_false, or_true, true_or, oifT, Nat.one_ne_zero, ↓reduceIte, Nat.reduceLT, Nat.reduceLeDiff, Nat.reduceEqDiff, Nat.reduceAdd, Nat.reduceMul, Nat.reduceSub, Nat.reduceDiv, nI_eq, nI_leI, nI_ltI, nI_neg, neg_eq, yo_100, yr_100_0, yr_100_1, yr_100_2, yr_100_3, yr_100_4, yr_100_5, yr_100_6, yr_100_7, yr_100_8, yr_100_9, yr_100_10, yr_100_11, yr_100_12, yr_100_13, yr_100_14, yr_100_15, yr_100_16, yr_100_17, yr_100_18, yr_100_19, yr_100_20, yr_100_21, yr_100_22, yr_100_23, yr_100_24, yr_100_25, yr_100_26, yr_100_27, yr_100_28, ya_101, ya_102, ya_103, ya_104, ya_105, ya_106, ya_107, ya_108, ya_109, ya_110, ya_111, ya_112, ya_113, ya_114, ya_115, ya_116, ya_117, ya_118, ya_119, yw_100_2, yw_100_3, yw_100_5, yw_100_15, yw_100_20, yw_100_21, yw_100_22, yw_100_24, yw_100_25, yw_100_28, yu_101, yu_102, yu_103, yu_104, yu_105, yu_106, yu_107, yu_108, yu_109, yu_110, yu_111, yu_112, yu_113, yu_114, yu_115, yu_116, yu_117, yu_118, yu_119, e2, e4, t5, Nat.zero_le, pMS_trayKind]
          rw [t5, t3] at g1
          rw [t3]
          exact g1
        · show ((va_up c.tsz i (c.tsz o)) z = -11 ∧ (va_up d.trayKind i (d.trayKind o)) z = -1) ∨ (∃ n, n ≤ 20 ∧ (va_up c.tsz i (c.tsz o)) z = nI n ∧ (va_up d.traySize i (d.traySize o)) z = nI n ∧ (va_up c.tk i (c.tk o)) z < 4 ∧ (va_up d.trayKind i (d.trayKind o)) z = nI ((va_up c.tk i (c.tk o)) z) ∧ ∀ j, j < 20 → (va_up c.tpl i (va_cpy (c.tpl o) (c.tpl i) 0 0 20)) z j = g (20 * z + j))
          by_cases e : z = i
          · subst e
            rw [upe, upe, upe, upe, upe]
            refine Or.inr ⟨n, t1, t2, t3, t4, t5, fun j hj => ?_⟩
            rw [g2, if_pos (by omega)]
            unfold va_cpy
            rw [if_pos (by omega)]
            show c.tpl o (0 + (j - 0)) = d.laid (20 * z + j - 20 * z + 20 * o)
            rw [show 0 + (j - 0) = j by omega, t6 j hj]
            congr 1
            omega
          · rw [upn e, upn e, upn e, upn e, upn e]
            rcases h.2.2.2.2.2.2.1 z hz with t | ⟨n, t1, t2, t3, t4, t5, t6⟩
            · exact Or.inl t
            · exact Or.inr ⟨n, t1, t2, t3, t4, t5, fun j hj => by rw [t6 j hj, g2, if_neg (by omega)]; rfl⟩
    · have e3 := wi_out (x := b) (m := 3) hb
      have e4 := isTray_out hb
      refine ⟨-nI 1, c, d, ?_, ?_, h⟩
      · simp (disch := omega) only [m_X11_like, Option.bind_some, plit, plit64, nI_add, pk_mul, if_true, if_false, or_true, true_or, oifT, Nat.one_ne_zero, ↓reduceIte, Nat.reduceLT, Nat.reduceLeDiff, Nat.reduceEqDiff, Nat.reduceAdd, Nat.reduceMul, Nat.reduceSub, Nat.reduceDiv, nI_eq, nI_leI, nI_ltI, nI_neg, neg_eq, yo_10, yr_10_0, yr_10_1, yr_10_2, yr_10_3, yr_10_4, yr_10_5, yr_10_6, yr_10_7, yr_10_8, yr_10_9, yr_10_10, yr_10_11, yo_11, yr_11_0, yr_11_1, yr_11_2, yr_11_3, yr_11_4, yn_13, ya_13, yo_14, yr_14_0, yr_14_1, yr_14_2, yr_14_3, ya_15, ya_16, e1, e3]
      · simp (disch := omega) only [m_X12_like, Option.bind_some, plit, plit64, nI_add, pk_mul, if_true, if_false, or_true, true_or, oifT, Nat.one_ne_zero, ↓reduceIte, Nat.reduceLT, Nat.reduceLeDiff, Nat.reduceEqDiff, Nat.reduceAdd, Nat.reduceMul, Nat.reduceSub, Nat.reduceDiv, nI_eq, nI_leI, nI_ltI, nI_neg, neg_eq, yo_100, yr_100_0, yr_100_1, yr_100_2, yr_100_3, yr_100_4, yr_100_5, yr_100_6, yr_100_7, yr_100_8, yr_100_9, yr_100_10, yr_100_11, yr_100_12, yr_100_13, yr_100_14, yr_100_15, yr_100_16, yr_100_17, yr_100_18, yr_100_19, yr_100_20, yr_100_21, yr_100_22, yr_100_23, yr_100_24, yr_100_25, yr_100_26, yr_100_27, yr_100_28, ya_101, ya_102, ya_103, ya_104, ya_105, ya_106, ya_107, ya_108, ya_109, ya_110, ya_111, ya_112, ya_113, ya_114, ya_115, ya_116, ya_117, ya_118, ya_119, e2, e4]
  · have e1 := wi_out (x := a) (m := 3) ha
    have e2 := isTray_out ha
    refine ⟨-nI 1, c, d, ?_, ?_, h⟩
    · simp (disch := omega) only [m_X11_like, Option.bind_some, plit, plit64, nI_add, pk_mul, if_true, if_false, or_true, true_or, oifT, Nat.one_ne_zero, ↓reduceIte, Nat.reduceLT, Nat.reduceLeDiff, Nat.reduceEqDiff, Nat.reduceAdd, Nat.reduceMul, Nat.reduceSub, Nat.reduceDiv, nI_eq, nI_leI, nI_ltI, nI_neg, neg_eq, yo_10, yr_10_0, yr_10_1, yr_10_2, yr_10_3, yr_10_4, yr_10_5, yr_10_6, yr_10_7, yr_10_8, yr_10_9, yr_10_10, yr_10_11, yo_11, yr_11_0, yr_11_1, yr_11_2, yr_11_3, yr_11_4, yn_13, ya_13, yo_14, yr_14_0, yr_14_1, yr_14_2, yr_14_3, ya_15, ya_16, e1]
    · simp (disch := omega) only [m_X12_like, Option.bind_some, plit, plit64, nI_add, pk_mul, if_true, if_false, or_true, true_or, oifT, Nat.one_ne_zero, ↓reduceIte, Nat.reduceLT, Nat.reduceLeDiff, Nat.reduceEqDiff, Nat.reduceAdd, Nat.reduceMul, Nat.reduceSub, Nat.reduceDiv, nI_eq, nI_leI, nI_ltI, nI_neg, neg_eq, yo_100, yr_100_0, yr_100_1, yr_100_2, yr_100_3, yr_100_4, yr_100_5, yr_100_6, yr_100_7, yr_100_8, yr_100_9, yr_100_10, yr_100_11, yr_100_12, yr_100_13, yr_100_14, yr_100_15, yr_100_16, yr_100_17, yr_100_18, yr_100_19, yr_100_20, yr_100_21, yr_100_22, yr_100_23, yr_100_24, yr_100_25, yr_100_26, yr_100_27, yr_100_28, ya_101, ya_102, ya_103, ya_104, ya_105, ya_106, ya_107, ya_108, ya_109, ya_110, ya_111, ya_112, ya_113, ya_114, ya_115, ya_116, ya_117, ya_118, ya_119, e2]
-- lists
theorem lfill_go {i : Nat} {v : Int64} (hi : i < 4) : ∀ (n j : Nat) (c : CS), j ≤ 31 → 31 - j < n → ∃ f : Nat → Int64, m_J7_fill_d0a16_L6 N n (95 + i) v (nI j) (nI 31) (mk c d D) = some (mk (c.s_li (va_up c.li i f)) d D) ∧ (∀ q, q < 31 → f q = if j ≤ q then v else c.li i q) := by
  intro n
  induction n with
  | zero => intro j c _ h; omega
  | succ n ih =>
    intro j c hj hn
    unfold m_J7_fill_d0a16_L6
    by_cases h4 : j = 31
    · subst h4
      refine ⟨c.li i, ?_, fun q hq => by rw [if_neg (by omega)]⟩
      rw [if_pos (nI_le (by omega) (by omega))]
      have e : va_up c.li i (c.li i) = c.li := by
        funext z
        unfold va_up
        split
        · next h => rw [h]
        · rfl
      rw [e]
      rfl
    · rw [if_neg (by rw [nI_leI (by omega) (by omega)]; omega)]
      rw [ylu hi (by omega), Option.bind_some, nI_1]
      obtain ⟨f, h1, h2⟩ := ih (j + 1) (c.s_li (va_up c.li i (va_up (c.li i) j v))) (by omega) (by omega)
      refine ⟨f, ?_, fun q hq => ?_⟩
      · rw [h1]
        have e : va_up (va_up c.li i (va_up (c.li i) j v)) i f = va_up c.li i f := by
          funext z
          unfold va_up
          split <;> rfl
        simp only [pCS_li, qCS_li, e]
      · rw [h2 q hq]
        simp only [pCS_li, va_up, if_true]
        by_cases h : j + 1 ≤ q
        · rw [if_pos h, if_pos (by omega)]
        · rw [if_neg h]
          by_cases h5 : q = j
          · rw [if_pos h5, if_pos (by omega)]
          · rw [if_neg h5, if_neg (by omega)]
theorem lfill {i : Nat} {v : Int64} (hN : 100 ≤ N) (hi : i < 4) : ∃ f : Nat → Int64, m_J7_fill_d0a16 N (95 + i) v (mk c d D) = some (mk (c.s_li (va_up c.li i f)) d D) ∧ (∀ q, q < 31 → f q = v) := by
  obtain ⟨f, h1, h2⟩ := lfill_go (d := d) (D := D) (N := N) (v := v) hi N 0 c (by omega) (by omega)
  refine ⟨f, ?_, fun q hq => by rw [h2 q hq, if_pos (by omega)]⟩
  unfold m_J7_fill_d0a16
  rw [yln hi]
  exact h1
theorem ylist_go {i : Nat} (hi : i < 4) : ∀ (n j : Nat) (d : MS), j ≤ 31 → 31 - j < n → ∃ g : Nat → Int64, m_X12_list_L34 N n 100 (nI i) (nI j) (mk c d D) = some (nI 1, mk c (d.s_items g) D) ∧ (∀ z, g z = if 31 * i + j ≤ z ∧ z < 31 * i + 31 then lN 0 else d.items z) := by
  intro n
  induction n with
  | zero => intro j d _ h; omega
  | succ n ih =>
    intro j d hj hn
    unfold m_X12_list_L34
    by_cases h4 : j = 31
    · subst h4
      refine ⟨d.items, ?_, fun z => by rw [if_neg (by omega)]⟩
      simp (disch := omega) only [Option.bind_some, plit, plit64, nI_add, pk_mul, if_true, if_false, or_true, true_or, oifT, Nat.one_ne_zero, ↓reduceIte, Nat.reduceLT, Nat.reduceLeDiff, Nat.reduceEqDiff, Nat.reduceAdd, Nat.reduceMul, Nat.reduceSub, Nat.reduceDiv, nI_eq, nI_leI, nI_ltI, nI_neg, neg_eq, Nat.le_refl]
      rfl
    · obtain ⟨g, h1, h2⟩ := ih (j + 1) (d.s_items (va_up d.items (31 * i + j) (lN 0))) (by omega) (by omega)
      refine ⟨g, ?_, fun z => ?_⟩
      · simp (disch := omega) only [Option.bind_some, plit, plit64, nI_add, pk_mul, if_true, if_false, or_true, true_or, oifT, Nat.one_ne_zero, ↓reduceIte, Nat.reduceLT, Nat.reduceLeDiff, Nat.reduceEqDiff, Nat.reduceAdd, Nat.reduceMul, Nat.reduceSub, Nat.reduceDiv, nI_eq, nI_leI, nI_ltI, nI_neg, neg_eq, yo_100, yr_100_0, yr_100_1, yr_100_2, yr_100_3, yr_100_4, yr_100_5, yr_100_6, yr_100_7, yr_100_8, yr_100_9, yr_100_10, yr_100_11, yr_100_12, yr_100_13, yr_100_14, yr_100_15, yr_100_16, yr_100_17, yr_100_18, yr_100_19, yr_100_20, yr_100_21, yr_100_22, yr_100_23, yr_100_24, yr_100_25, yr_100_26, yr_100_27, yr_100_28, ya_101, ya_102, ya_103, ya_104, ya_105, ya_106, ya_107, ya_108, ya_109, ya_110, ya_111, ya_112, ya_113, ya_114, ya_115, ya_116, ya_117, ya_118, ya_119, yw_100_2, yw_100_3, yw_100_5, yw_100_15, yw_100_20, yw_100_21, yw_100_22, yw_100_24, yw_100_25, yw_100_28, yu_101, yu_102, yu_103, yu_104, yu_105, yu_106, yu_107, yu_108, yu_109, yu_110, yu_111, yu_112, yu_113, yu_114, yu_115, yu_116, yu_117, yu_118, yu_119, show ¬ 31 ≤ j by omega]
        rw [h1]
        simp only [qMS_items]
      · rw [h2 z]
        simp only [pMS_items, va_up]
        repeat' split
        all_goals first | rfl | omega
theorem p_list (h : RR c d D) (hN : 100 ≤ N) (a x : Int32) : ∃ r c' d', m_X11_list N 10 a x (mk c d D) = some (r, mk c' d D) ∧ m_X12_list N 100 a x (mk c' d D) = some (r, mk c' d' D) ∧ RR c' d' D := by
  rcases rg a 3 with ⟨i, hi, rfl⟩ | ha
  · have e1 := wi_in (k := i) (m := 3) hi
    have e2 := isTray_in hi
    rcases rg x 31 with ⟨v, hv, rfl⟩ | hx
    · obtain ⟨f, f1, f2⟩ := lfill (c := c) (d := d) (D := D) (i := i) (v := lN 0) hN (by omega)
      obtain ⟨g, g1, g2⟩ := ylist_go (c := (c.s_li (va_up c.li i f)).s_ls (va_up c.ls i (nI v))) (D := D) (N := N) (i := i) (by omega) N 0 (d.s_listSize (va_up d.listSize i (nI v))) (by omega) (by omega)
      refine ⟨nI 1, (c.s_li (va_up c.li i f)).s_ls (va_up c.ls i (nI v)), (d.s_listSize (va_up d.listSize i (nI v))).s_items g, ?_, ?_, h.1, h.2.1, h.2.2.1, h.2.2.2.1, h.2.2.2.2.1, h.2.2.2.2.2.1, h.2.2.2.2.2.2.1, fun z hz => ?_⟩
      · simp (disch := omega) only [m_X11_list, Option.bind_some, plit, plit64, nI_add, pk_mul, if_true, if_false, or_true, true_or, oifT, Nat.one_ne_zero, ↓reduceIte, Nat.reduceLT, Nat.reduceLeDiff, Nat.reduceEqDiff, Nat.reduceAdd, Nat.reduceMul, Nat.reduceSub, Nat.reduceDiv, nI_eq, nI_leI, nI_ltI, nI_neg, neg_eq, yo_10, yr_10_0, yr_10_1, yr_10_2, yr_10_3, yr_10_4, yr_10_5, yr_10_6, yr_10_7, yr_10_8, yr_10_9, yr_10_10, yr_10_11, yo_11, yr_11_0, yr_11_1, yr_11_2, yr_11_3, yr_11_4, yn_13, ya_13, yo_14, yr_14_0, yr_14_1, yr_14_2, yr_14_3, ya_15, ya_16, ya_99, yli_R, ylc, yls, yln, yla, ylu, yu_99, e1, hv, Nat.zero_le, f1, pCS_li]
      · simp (disch := omega) only [m_X12_list, Option.bind_some, plit, plit64, nI_add, pk_mul, if_true, if_false, or_true, true_or, oifT, Nat.one_ne_zero, ↓reduceIte, Nat.reduceLT, Nat.reduceLeDiff, Nat.reduceEqDiff, Nat.reduceAdd, Nat.reduceMul, Nat.reduceSub, Nat.reduceDiv, nI_eq, nI_leI, nI_ltI, nI_neg, neg_eq, yo_100, yr_100_0, yr_100_1, yr_100_2, yr_100_3, yr_100_4, yr_100_5, yr_100_6, yr_100_7, yr_100_8, yr_100_9, yr_100_10, yr_100_11, yr_100_12, yr_100_13, yr_100_14, yr_100_15, yr_100_16, yr_100_17, yr_100_18, yr_100_19, yr_100_20, yr_100_21, yr_100_22, yr_100_23, yr_100_24, yr_100_25, yr_100_26, yr_100_27, yr_100_28, ya_101, ya_102, ya_103, ya_104, ya_105, ya_106, ya_107, ya_108, ya_109, ya_110, ya_111, ya_112, ya_113, ya_114, ya_115, ya_116, ya_117, ya_118, ya_119, yw_100_2, yw_100_3, yw_100_5, yw_100_15, yw_100_20, yw_100_21, yw_100_22, yw_100_24, yw_100_25, yw_100_28, yu_101, yu_102, yu_103, yu_104, yu_105, yu_106, yu_107, yu_108, yu_109, yu_110, yu_111, yu_112, yu_113, yu_114, yu_115, yu_116, yu_117, yu_118, yu_119, e2, hv, Nat.zero_le]
        exact g1
      · show ((va_up c.ls i (nI v)) z = -11 ∧ (va_up d.listSize i (nI v)) z = -1) ∨ (∃ n, n ≤ 31 ∧ (va_up c.ls i (nI v)) z = nI n ∧ (va_up d.listSize i (nI v)) z = nI n ∧ ∀ j, j < 31 → (va_up c.li i f) z j = g (31 * z + j))
        by_cases e : z = i
        · subst e
          rw [upe, upe, upe]
          exact Or.inr ⟨v, hv, rfl, rfl, fun j hj => by rw [f2 j hj, g2, if_pos (by omega)]⟩
        · rw [upn e, upn e, upn e]
          rcases h.2.2.2.2.2.2.2 z hz with t | ⟨n, t1, t2, t3, t4⟩
          · exact Or.inl t
          · exact Or.inr ⟨n, t1, t2, t3, fun j hj => by rw [t4 j hj, g2, if_neg (by omega)]; rfl⟩
    · by_cases hx2 : x.toInt < 0
      · refine ⟨-nI 14, c, d, ?_, ?_, h⟩
        · simp (disch := omega) only [m_X11_list, Option.bind_some, plit, plit64, nI_add, pk_mul, if_true, if_false, or_true, true_or, oifT, Nat.one_ne_zero, ↓reduceIte, Nat.reduceLT, Nat.reduceLeDiff, Nat.reduceEqDiff, Nat.reduceAdd, Nat.reduceMul, Nat.reduceSub, Nat.reduceDiv, nI_eq, nI_leI, nI_ltI, nI_neg, neg_eq, yo_10, yr_10_0, yr_10_1, yr_10_2, yr_10_3, yr_10_4, yr_10_5, yr_10_6, yr_10_7, yr_10_8, yr_10_9, yr_10_10, yr_10_11, yo_11, yr_11_0, yr_11_1, yr_11_2, yr_11_3, yr_11_4, yn_13, ya_13, yo_14, yr_14_0, yr_14_1, yr_14_2, yr_14_3, ya_15, ya_16, e1, x_le (x := x) (m := 31) (by omega), x_nge (x := x) (m := 0) (by omega)]
        · simp (disch := omega) only [m_X12_list, Option.bind_some, plit, plit64, nI_add, pk_mul, if_true, if_false, or_true, true_or, oifT, Nat.one_ne_zero, ↓reduceIte, Nat.reduceLT, Nat.reduceLeDiff, Nat.reduceEqDiff, Nat.reduceAdd, Nat.reduceMul, Nat.reduceSub, Nat.reduceDiv, nI_eq, nI_leI, nI_ltI, nI_neg, neg_eq, yo_100, yr_100_0, yr_100_1, yr_100_2, yr_100_3, yr_100_4, yr_100_5, yr_100_6, yr_100_7, yr_100_8, yr_100_9, yr_100_10, yr_100_11, yr_100_12, yr_100_13, yr_100_14, yr_100_15, yr_100_16, yr_100_17, yr_100_18, yr_100_19, yr_100_20, yr_100_21, yr_100_22, yr_100_23, yr_100_24, yr_100_25, yr_100_26, yr_100_27, yr_100_28, ya_101, ya_102, ya_103, ya_104, ya_105, ya_106, ya_107, ya_108, ya_109, ya_110, ya_111, ya_112, ya_113, ya_114, ya_115, ya_116, ya_117, ya_118, ya_119, e2, x_le (x := x) (m := 31) (by omega), x_nge (x := x) (m := 0) (by omega)]
      · refine ⟨-nI 2, c, d, ?_, ?_, h⟩
        · simp (disch := omega) only [m_X11_list, Option.bind_some, plit, plit64, nI_add, pk_mul, if_true, if_false, or_true, true_or, oifT, Nat.one_ne_zero, ↓reduceIte, Nat.reduceLT, Nat.reduceLeDiff, Nat.reduceEqDiff, Nat.reduceAdd, Nat.reduceMul, Nat.reduceSub, Nat.reduceDiv, nI_eq, nI_leI, nI_ltI, nI_neg, neg_eq, yo_10, yr_10_0, yr_10_1, yr_10_2, yr_10_3, yr_10_4, yr_10_5, yr_10_6, yr_10_7, yr_10_8, yr_10_9, yr_10_10, yr_10_11, yo_11, yr_11_0, yr_11_1, yr_11_2, yr_11_3, yr_11_4, yn_13, ya_13, yo_14, yr_14_0, yr_14_1, yr_14_2, yr_14_3, ya_15, ya_16, e1, x_nle (x := x) (m := 31) (by omega)]
        · simp (disch := omega) only [m_X12_list, Option.bind_some, plit, plit64, nI_add, pk_mul, if_true, if_false, or_true, true_or, oifT, Nat.one_ne_zero, ↓reduceIte, Nat.reduceLT, Nat.reduceLeDiff, Nat.reduceEqDiff, Nat.reduceAdd, Nat.reduceMul, Nat.reduceSub, Nat.reduceDiv, nI_eq, nI_leI, nI_ltI, nI_neg, neg_eq, yo_100, yr_100_0, yr_100_1, yr_100_2, yr_100_3, yr_100_4, yr_100_5, yr_100_6, yr_100_7, yr_100_8, yr_100_9, yr_100_10, yr_100_11, yr_100_12, yr_100_13, yr_100_14, yr_100_15, yr_100_16, yr_100_17, yr_100_18, yr_100_19, yr_100_20, yr_100_21, yr_100_22, yr_100_23, yr_100_24, yr_100_25, yr_100_26, yr_100_27, yr_100_28, ya_101, ya_102, ya_103, ya_104, ya_105, ya_106, ya_107, ya_108, ya_109, ya_110, ya_111, ya_112, ya_113, ya_114, ya_115, ya_116, ya_117, ya_118, ya_119, e2, x_nle (x := x) (m := 31) (by omega)]
  · have e1 := wi_out (x := a) (m := 3) ha
    have e2 := isTray_out ha
    refine ⟨-nI 1, c, d, ?_, ?_, h⟩
    · simp (disch := omega) only [m_X11_list, Option.bind_some, plit, plit64, nI_add, pk_mul, if_true, if_false, or_true, true_or, oifT, Nat.one_ne_zero, ↓reduceIte, Nat.reduceLT, Nat.reduceLeDiff, Nat.reduceEqDiff, Nat.reduceAdd, Nat.reduceMul, Nat.reduceSub, Nat.reduceDiv, nI_eq, nI_leI, nI_ltI, nI_neg, neg_eq, yo_10, yr_10_0, yr_10_1, yr_10_2, yr_10_3, yr_10_4, yr_10_5, yr_10_6, yr_10_7, yr_10_8, yr_10_9, yr_10_10, yr_10_11, yo_11, yr_11_0, yr_11_1, yr_11_2, yr_11_3, yr_11_4, yn_13, ya_13, yo_14, yr_14_0, yr_14_1, yr_14_2, yr_14_3, ya_15, ya_16, e1]
    · simp (disch := omega) only [m_X12_list, Option.bind_some, plit, plit64, nI_add, pk_mul, if_true, if_false, or_true, true_or, oifT, Nat.one_ne_zero, ↓reduceIte, Nat.reduceLT, Nat.reduceLeDiff, Nat.reduceEqDiff, Nat.reduceAdd, Nat.reduceMul, Nat.reduceSub, Nat.reduceDiv, nI_eq, nI_leI, nI_ltI, nI_neg, neg_eq, yo_100, yr_100_0, yr_100_1, yr_100_2, yr_100_3, yr_100_4, yr_100_5, yr_100_6, yr_100_7, yr_100_8, yr_100_9, yr_100_10, yr_100_11, yr_100_12, yr_100_13, yr_100_14, yr_100_15, yr_100_16, yr_100_17, yr_100_18, yr_100_19, yr_100_20, yr_100_21, yr_100_22, yr_100_23, yr_100_24, yr_100_25, yr_100_26, yr_100_27, yr_100_28, ya_101, ya_102, ya_103, ya_104, ya_105, ya_106, ya_107, ya_108, ya_109, ya_110, ya_111, ya_112, ya_113, ya_114, ya_115, ya_116, ya_117, ya_118, ya_119, e2]
theorem p_set (h : RR c d D) (a b : Int32) (x : Int64) : ∃ r c' d', m_X11_set 10 a b x (mk c d D) = some (r, mk c' d D) ∧ m_X12_set 100 a b x (mk c' d D) = some (r, mk c' d' D) ∧ RR c' d' D := by
  rcases rg a 3 with ⟨i, hi, rfl⟩ | ha
  · have e1 := wi_in (k := i) (m := 3) hi
    have e2 := isTray_in hi
    rcases h.2.2.2.2.2.2.2 i (by omega) with ⟨t1, t2⟩ | ⟨n, t1, t2, t3, t4⟩
    · refine ⟨-nI 11, c, d, ?_, ?_, h⟩
      · simp (disch := omega) only [m_X11_set, Option.bind_some, plit, plit64, nI_add, pk_mul, if_true, if_false, or_true, true_or, oifT, Nat.one_ne_zero, ↓reduceIte, Nat.reduceLT, Nat.reduceLeDiff, Nat.reduceEqDiff, Nat.reduceAdd, Nat.reduceMul, Nat.reduceSub, Nat.reduceDiv, nI_eq, nI_leI, nI_ltI, nI_neg, neg_eq, yo_10, yr_10_0, yr_10_1, yr_10_2, yr_10_3, yr_10_4, yr_10_5, yr_10_6, yr_10_7, yr_10_8, yr_10_9, yr_10_10, yr_10_11, yo_11, yr_11_0, yr_11_1, yr_11_2, yr_11_3, yr_11_4, yn_13, ya_13, yo_14, yr_14_0, yr_14_1, yr_14_2, yr_14_3, ya_15, ya_16, ya_99, yli_R, ylc, yls, yln, yla, ylu, e1, t1]
      · simp (disch := omega) only [m_X12_set, Option.bind_some, plit, plit64, nI_add, pk_mul, if_true, if_false, or_true, true_or, oifT, Nat.one_ne_zero, ↓reduceIte, Nat.reduceLT, Nat.reduceLeDiff, Nat.reduceEqDiff, Nat.reduceAdd, Nat.reduceMul, Nat.reduceSub, Nat.reduceDiv, nI_eq, nI_leI, nI_ltI, nI_neg, neg_eq, yo_100, yr_100_0, yr_100_1, yr_100_2, yr_100_3, yr_100_4, yr_100_5, yr_100_6, yr_100_7, yr_100_8, yr_100_9, yr_100_10, yr_100_11, yr_100_12, yr_100_13, yr_100_14, yr_100_15, yr_100_16, yr_100_17, yr_100_18, yr_100_19, yr_100_20, yr_100_21, yr_100_22, yr_100_23, yr_100_24, yr_100_25, yr_100_26, yr_100_27, yr_100_28, ya_101, ya_102, ya_103, ya_104, ya_105, ya_106, ya_107, ya_108, ya_109, ya_110, ya_111, ya_112, ya_113, ya_114, ya_115, ya_116, ya_117, ya_118, ya_119, e2, t2, nle_neg]
    · rcases rgS b n with ⟨q, hq, rfl⟩ | hb
      · have e3 := wi_inS (k := q) (n := n) hq
        have e4 := in_inS (k := q) (n := n) hq
        refine ⟨nI 1, c.s_li (va_up c.li i (va_up (c.li i) q x)), d.s_items (va_up d.items (31 * i + q) x), ?_, ?_, h.1, h.2.1, h.2.2.1, h.2.2.2.1, h.2.2.2.2.1, h.2.2.2.2.2.1, h.2.2.2.2.2.2.1, fun z hz => ?_⟩
        · simp (disch := omega) only [m_X11_set, Option.bind_some, plit, plit64, nI_add, pk_mul, if_true, if_false, or_true, true_or, oifT, Nat.one_ne_zero, ↓reduceIte, Nat.reduceLT, Nat.reduceLeDiff, Nat.reduceEqDiff, Nat.reduceAdd, Nat.reduceMul, Nat.reduceSub, Nat.reduceDiv, nI_eq, nI_leI, nI_ltI, nI_neg, neg_eq, yo_10, yr_10_0, yr_10_1, yr_10_2, yr_10_3, yr_10_4, yr_10_5, yr_10_6, yr_10_7, yr_10_8, yr_10_9, yr_10_10, yr_10_11, yo_11, yr_11_0, yr_11_1, yr_11_2, yr_11_3, yr_11_4, yn_13, ya_13, yo_14, yr_14_0, yr_14_1, yr_14_2, yr_14_3, ya_15, ya_16, ya_99, yli_R, ylc, yls, yln, yla, ylu, e1, t2, e3]
        · simp (disch := omega) only [m_X12_set, Option.bind_some, plit, plit64, nI_add, pk_mul, if_true, if_false, or_true, true_or, oifT, Nat.one_ne_zero, ↓reduceIte, Nat.reduceLT, Nat.reduceLeDiff, Nat.reduceEqDiff, Nat.reduceAdd, Nat.reduceMul, Nat.reduceSub, Nat.reduceDiv, nI_eq, nI_leI, nI_ltI, nI_neg, neg_eq, yo_100, yr_100_0, yr_100_1, yr_100_2, yr_100_3, yr_100_4, yr_100_5, yr_100_6, yr_100_7, yr_100_8, yr_100_9, yr_100_10, yr_100_11, yr_100_12, yr_100_13, yr_100_14, yr_100_15, yr_100_16, yr_100_17, yr_100_18, yr_100_19, yr_100_20, yr_100_21, yr_100_22, yr_100_23, yr_100_24, yr_100_25, yr_100_26, yr_100_27, yr_100_28, ya_101, ya_102, ya_103, ya_104, ya_105, ya_106, ya_107, ya_108, ya_109, ya_110, ya_111, ya_112, ya_113, ya_114, ya_115, ya_116, ya_117, ya_118, ya_119, yw_100_2, yw_100_3, yw_100_5, yw_100_15, yw_100_20, yw_100_21, yw_100_22, yw_100_24, yw_100_25, yw_100_28, yu_101, yu_102, yu_103, yu_104, yu_105, yu_106, yu_107, yu_108, yu_109, yu_110, yu_111, yu_112, yu_113, yu_114, yu_115, yu_116, yu_117, yu_118, yu_119, e2, t3, Nat.zero_le, e4]
        · show (c.ls z = -11 ∧ d.listSize z = -1) ∨ (∃ n, n ≤ 31 ∧ c.ls z = nI n ∧ d.listSize z = nI n ∧ ∀ j, j < 31 → (va_up c.li i (va_up (c.li i) q x)) z j = (va_up d.items (31 * i + q) x) (31 * z + j))
          rcases h.2.2.2.2.2.2.2 z hz with t | ⟨m, s1, s2, s3, s4⟩
          · exact Or.inl t
          · refine Or.inr ⟨m, s1, s2, s3, fun j hj => ?_⟩
            by_cases e : z = i
            · subst e
              rw [upe]
              by_cases e5 : j = q
              · subst e5; rw [upe, upe]
              · rw [upn e5, upn (by omega), s4 j hj]
            · rw [upn e, upn (by omega), s4 j hj]
      · have e3 := wi_outS (x := b) (n := n) hb
        have e4 := in_outS (x := b) (n := n) hb
        refine ⟨-nI 12, c, d, ?_, ?_, h⟩
        · simp (disch := omega) only [m_X11_set, Option.bind_some, plit, plit64, nI_add, pk_mul, if_true, if_false, or_true, true_or, oifT, Nat.one_ne_zero, ↓reduceIte, Nat.reduceLT, Nat.reduceLeDiff, Nat.reduceEqDiff, Nat.reduceAdd, Nat.reduceMul, Nat.reduceSub, Nat.reduceDiv, nI_eq, nI_leI, nI_ltI, nI_neg, neg_eq, yo_10, yr_10_0, yr_10_1, yr_10_2, yr_10_3, yr_10_4, yr_10_5, yr_10_6, yr_10_7, yr_10_8, yr_10_9, yr_10_10, yr_10_11, yo_11, yr_11_0, yr_11_1, yr_11_2, yr_11_3, yr_11_4, yn_13, ya_13, yo_14, yr_14_0, yr_14_1, yr_14_2, yr_14_3, ya_15, ya_16, ya_99, yli_R, ylc, yls, yln, yla, ylu, e1, t2, e3]
        · simp (disch := omega) only [m_X12_set, Option.bind_some, plit, plit64, nI_add, pk_mul, if_true, if_false, or_true, true_or, oifT, Nat.one_ne_zero, ↓reduceIte, Nat.reduceLT, Nat.reduceLeDiff, Nat.reduceEqDiff, Nat.reduceAdd, Nat.reduceMul, Nat.reduceSub, Nat.reduceDiv, nI_eq, nI_leI, nI_ltI, nI_neg, neg_eq, yo_100, yr_100_0, yr_100_1, yr_100_2, yr_100_3, yr_100_4, yr_100_5, yr_100_6, yr_100_7, yr_100_8, yr_100_9, yr_100_10, yr_100_11, yr_100_12, yr_100_13, yr_100_14, yr_100_15, yr_100_16, yr_100_17, yr_100_18, yr_100_19, yr_100_20, yr_100_21, yr_100_22, yr_100_23, yr_100_24, yr_100_25, yr_100_26, yr_100_27, yr_100_28, ya_101, ya_102, ya_103, ya_104, ya_105, ya_106, ya_107, ya_108, ya_109, ya_110, ya_111, ya_112, ya_113, ya_114, ya_115, ya_116, ya_117, ya_118, ya_119, yw_100_2, yw_100_3, yw_100_5, yw_100_15, yw_100_20, yw_100_21, yw_100_22, yw_100_24, yw_100_25, yw_100_28, yu_101, yu_102, yu_103, yu_104, yu_105, yu_106, yu_107, yu_108, yu_109, yu_110, yu_111, yu_112, yu_113, yu_114, yu_115, yu_116, yu_117, yu_118, yu_119, e2, t3, Nat.zero_le, e4]
  · have e1 := wi_out (x := a) (m := 3) ha
    have e2 := isTray_out ha
    refine ⟨-nI 1, c, d, ?_, ?_, h⟩
    · simp (disch := omega) only [m_X11_set, Option.bind_some, plit, plit64, nI_add, pk_mul, if_true, if_false, or_true, true_or, oifT, Nat.one_ne_zero, ↓reduceIte, Nat.reduceLT, Nat.reduceLeDiff, Nat.reduceEqDiff, Nat.reduceAdd, Nat.reduceMul, Nat.reduceSub, Nat.reduceDiv, nI_eq, nI_leI, nI_ltI, nI_neg, neg_eq, yo_10, yr_10_0, yr_10_1, yr_10_2, yr_10_3, yr_10_4, yr_10_5, yr_10_6, yr_10_7, yr_10_8, yr_10_9, yr_10_10, yr_10_11, yo_11, yr_11_0, yr_11_1, yr_11_2, yr_11_3, yr_11_4, yn_13, ya_13, yo_14, yr_14_0, yr_14_1, yr_14_2, yr_14_3, ya_15, ya_16, e1]
    · simp (disch := omega) only [m_X12_set, Option.bind_some, plit, plit64, nI_add, pk_mul, if_true, if_false, or_true, true_or, oifT, Nat.one_ne_zero, ↓reduceIte, Nat.reduceLT, Nat.reduceLeDiff, Nat.reduceEqDiff, Nat.reduceAdd, Nat.reduceMul, Nat.reduceSub, Nat.reduceDiv, nI_eq, nI_leI, nI_ltI, nI_neg, neg_eq, yo_100, yr_100_0, yr_100_1, yr_100_2, yr_100_3, yr_100_4, yr_100_5, yr_100_6, yr_100_7, yr_100_8, yr_100_9, yr_100_10, yr_100_11, yr_100_12, yr_100_13, yr_100_14, yr_100_15, yr_100_16, yr_100_17, yr_100_18, yr_100_19, yr_100_20, yr_100_21, yr_100_22, yr_100_23, yr_100_24, yr_100_25, yr_100_26, yr_100_27, yr_100_28, ya_101, ya_102, ya_103, ya_104, ya_105, ya_106, ya_107, ya_108, ya_109, ya_110, ya_111, ya_112, ya_113, ya_114, ya_115, ya_116, ya_117, ya_118, ya_119, e2]
theorem p_get (h : RR c d D) (a b : Int32) : ∃ r, m_X11_get 10 a b (mk c d D) = some r ∧ m_X12_get 100 a b (mk c d D) = some r := by
  rcases rg a 3 with ⟨i, hi, rfl⟩ | ha
  · have e1 := wi_in (k := i) (m := 3) hi
    have e2 := isTray_in hi
    rcases h.2.2.2.2.2.2.2 i (by omega) with ⟨t1, t2⟩ | ⟨n, t1, t2, t3, t4⟩
    · have e3 : m_X11_within b (-11 - nI 1) = some (nI 0) := by
        unfold m_X11_within
        by_cases h0 : b < 0
        · rw [if_pos h0]; rfl
        · rw [if_neg h0, if_pos]
          · rfl
          · rw [Int32.lt_iff_toInt_lt] at h0 ⊢
            have e5 : (-11 - nI 1 : Int32).toInt = -12 := by decide
            have : (0 : Int32).toInt = 0 := by decide
            omega
      have e4 : m_X12_in b.toInt64 (lN 0) (-1 - nI 1).toInt64 = some (nI 0) := by
        have e5 : (-1 - nI 1 : Int32).toInt64.toInt = -2 := by decide
        have e6 : (lN 0).toInt = 0 := by decide
        exact in_neg (by rw [e5, e6]; omega)
      simp only [plit] at e3 e4
      refine ⟨-9223372036854775808, ?_, ?_⟩
      · simp (disch := omega) only [m_X11_get, Option.bind_some, plit, plit64, nI_add, pk_mul, if_true, if_false, or_true, true_or, oifT, Nat.one_ne_zero, ↓reduceIte, Nat.reduceLT, Nat.reduceLeDiff, Nat.reduceEqDiff, Nat.reduceAdd, Nat.reduceMul, Nat.reduceSub, Nat.reduceDiv, nI_eq, nI_leI, nI_ltI, nI_neg, neg_eq, yo_10, yr_10_0, yr_10_1, yr_10_2, yr_10_3, yr_10_4, yr_10_5, yr_10_6, yr_10_7, yr_10_8, yr_10_9, yr_10_10, yr_10_11, yo_11, yr_11_0, yr_11_1, yr_11_2, yr_11_3, yr_11_4, yn_13, ya_13, yo_14, yr_14_0, yr_14_1, yr_14_2, yr_14_3, ya_15, ya_16, ya_99, yli_R, ylc, yls, yln, yla, ylu, e1, t1, e3]
      · simp (disch := omega) only [m_X12_get, Option.bind_some, plit, plit64, nI_add, pk_mul, if_true, if_false, or_true, true_or, oifT, Nat.one_ne_zero, ↓reduceIte, Nat.reduceLT, Nat.reduceLeDiff, Nat.reduceEqDiff, Nat.reduceAdd, Nat.reduceMul, Nat.reduceSub, Nat.reduceDiv, nI_eq, nI_leI, nI_ltI, nI_neg, neg_eq, yo_100, yr_100_0, yr_100_1, yr_100_2, yr_100_3, yr_100_4, yr_100_5, yr_100_6, yr_100_7, yr_100_8, yr_100_9, yr_100_10, yr_100_11, yr_100_12, yr_100_13, yr_100_14, yr_100_15, yr_100_16, yr_100_17, yr_100_18, yr_100_19, yr_100_20, yr_100_21, yr_100_22, yr_100_23, yr_100_24, yr_100_25, yr_100_26, yr_100_27, yr_100_28, ya_101, ya_102, ya_103, ya_104, ya_105, ya_106, ya_107, ya_108, ya_109, ya_110, ya_111, ya_112, ya_113, ya_114, ya_115, ya_116, ya_117, ya_118, ya_119, e2, t2, e4]
    · rcases rgS b n with ⟨q, hq, rfl⟩ | hb
      · have e3 := wi_inS (k := q) (n := n) hq
        have e4 := in_inS (k := q) (n := n) hq
        refine ⟨c.li i q, ?_, ?_⟩
        · simp (disch := omega) only [m_X11_get, Option.bind_some, plit, plit64, nI_add, pk_mul, if_true, if_false, or_true, true_or, oifT, Nat.one_ne_zero, ↓reduceIte, Nat.reduceLT, Nat.reduceLeDiff, Nat.reduceEqDiff, Nat.reduceAdd, Nat.reduceMul, Nat.reduceSub, Nat.reduceDiv, nI_eq, nI_leI, nI_ltI, nI_neg, neg_eq, yo_10, yr_10_0, yr_10_1, yr_10_2, yr_10_3, yr_10_4, yr_10_5, yr_10_6, yr_10_7, yr_10_8, yr_10_9, yr_10_10, yr_10_11, yo_11, yr_11_0, yr_11_1, yr_11_2, yr_11_3, yr_11_4, yn_13, ya_13, yo_14, yr_14_0, yr_14_1, yr_14_2, yr_14_3, ya_15, ya_16, ya_99, yli_R, ylc, yls, yln, yla, ylu, e1, t2, e3]
        · simp (disch := omega) only [m_X12_get, Option.bind_some, plit, plit64, nI_add, pk_mul, if_true, if_false, or_true, true_or, oifT, Nat.one_ne_zero, ↓reduceIte, Nat.reduceLT, Nat.reduceLeDiff, Nat.reduceEqDiff, Nat.reduceAdd, Nat.reduceMul, Nat.reduceSub, Nat.reduceDiv, nI_eq, nI_leI, nI_ltI, nI_neg, neg_eq, yo_100, yr_100_0, yr_100_1, yr_100_2, yr_100_3, yr_100_4, yr_100_5, yr_100_6, yr_100_7, yr_100_8, yr_100_9, yr_100_10, yr_100_11, yr_100_12, yr_100_13, yr_100_14, yr_100_15, yr_100_16, yr_100_17, yr_100_18, yr_100_19, yr_100_20, yr_100_21, yr_100_22, yr_100_23, yr_100_24, yr_100_25, yr_100_26, yr_100_27, yr_100_28, ya_101, ya_102, ya_103, ya_104, ya_105, ya_106, ya_107, ya_108, ya_109, ya_110, ya_111, ya_112, ya_113, ya_114, ya_115, ya_116, ya_117, ya_118, ya_119, yw_100_2, yw_100_3, yw_100_5, yw_100_15, yw_100_20, yw_100_21, yw_100_22, yw_100_24, yw_100_25, yw_100_28, yu_101, yu_102, yu_103, yu_104, yu_105, yu_106, yu_107, yu_108, yu_109, yu_110, yu_111, yu_112, yu_113, yu_114, yu_115, yu_116, yu_117, yu_118, yu_119, e2, t3, e4, t4 q (by omega)]
      · have e3 := wi_outS (x := b) (n := n) hb
        have e4 := in_outS (x := b) (n := n) hb
        refine ⟨-9223372036854775808, ?_, ?_⟩
        · simp (disch := omega) only [m_X11_get, Option.bind_some, plit, plit64, nI_add, pk_mul, if_true, if_false, or_true, true_or, oifT, Nat.one_ne_zero, ↓reduceIte, Nat.reduceLT, Nat.reduceLeDiff, Nat.reduceEqDiff, Nat.reduceAdd, Nat.reduceMul, Nat.reduceSub, Nat.reduceDiv, nI_eq, nI_leI, nI_ltI, nI_neg, neg_eq, yo_10, yr_10_0, yr_10_1, yr_10_2, yr_10_3, yr_10_4, yr_10_5, yr_10_6, yr_10_7, yr_10_8, yr_10_9, yr_10_10, yr_10_11, yo_11, yr_11_0, yr_11_1, yr_11_2, yr_11_3, yr_11_4, yn_13, ya_13, yo_14, yr_14_0, yr_14_1, yr_14_2, yr_14_3, ya_15, ya_16, ya_99, yli_R, ylc, yls, yln, yla, ylu, e1, t2, e3]
        · simp (disch := omega) only [m_X12_get, Option.bind_some, plit, plit64, nI_add, pk_mul, if_true, if_false, or_true, true_or, oifT, Nat.one_ne_zero, ↓reduceIte, Nat.reduceLT, Nat.reduceLeDiff, Nat.reduceEqDiff, Nat.reduceAdd, Nat.reduceMul, Nat.reduceSub, Nat.reduceDiv, nI_eq, nI_leI, nI_ltI, nI_neg, neg_eq, yo_100, yr_100_0, yr_100_1, yr_100_2, yr_100_3, yr_100_4, yr_100_5, yr_100_6, yr_100_7, yr_100_8, yr_100_9, yr_100_10, yr_100_11, yr_100_12, yr_100_13, yr_100_14, yr_100_15, yr_100_16, yr_100_17, yr_100_18, yr_100_19, yr_100_20, yr_100_21, yr_100_22, yr_100_23, yr_100_24, yr_100_25, yr_100_26, yr_100_27, yr_100_28, ya_101, ya_102, ya_103, ya_104, ya_105, ya_106, ya_107, ya_108, ya_109, ya_110, ya_111, ya_112, ya_113, ya_114, ya_115, ya_116, ya_117, ya_118, ya_119, yw_100_2, yw_100_3, yw_100_5, yw_100_15, yw_100_20, yw_100_21, yw_100_22, yw_100_24, yw_100_25, yw_100_28, yu_101, yu_102, yu_103, yu_104, yu_105, yu_106, yu_107, yu_108, yu_109, yu_110, yu_111, yu_112, yu_113, yu_114, yu_115, yu_116, yu_117, yu_118, yu_119, e2, t3, e4]
  · have e1 := wi_out (x := a) (m := 3) ha
    have e2 := isTray_out ha
    refine ⟨-9223372036854775808, ?_, ?_⟩
    · simp (disch := omega) only [m_X11_get, Option.bind_some, plit, plit64, nI_add, pk_mul, if_true, if_false, or_true, true_or, oifT, Nat.one_ne_zero, ↓reduceIte, Nat.reduceLT, Nat.reduceLeDiff, Nat.reduceEqDiff, Nat.reduceAdd, Nat.reduceMul, Nat.reduceSub, Nat.reduceDiv, nI_eq, nI_leI, nI_ltI, nI_neg, neg_eq, yo_10, yr_10_0, yr_10_1, yr_10_2, yr_10_3, yr_10_4, yr_10_5, yr_10_6, yr_10_7, yr_10_8, yr_10_9, yr_10_10, yr_10_11, yo_11, yr_11_0, yr_11_1, yr_11_2, yr_11_3, yr_11_4, yn_13, ya_13, yo_14, yr_14_0, yr_14_1, yr_14_2, yr_14_3, ya_15, ya_16, e1]
    · simp (disch := omega) only [m_X12_get, Option.bind_some, plit, plit64, nI_add, pk_mul, if_true, if_false, or_true, true_or, oifT, Nat.one_ne_zero, ↓reduceIte, Nat.reduceLT, Nat.reduceLeDiff, Nat.reduceEqDiff, Nat.reduceAdd, Nat.reduceMul, Nat.reduceSub, Nat.reduceDiv, nI_eq, nI_leI, nI_ltI, nI_neg, neg_eq, yo_100, yr_100_0, yr_100_1, yr_100_2, yr_100_3, yr_100_4, yr_100_5, yr_100_6, yr_100_7, yr_100_8, yr_100_9, yr_100_10, yr_100_11, yr_100_12, yr_100_13, yr_100_14, yr_100_15, yr_100_16, yr_100_17, yr_100_18, yr_100_19, yr_100_20, yr_100_21, yr_100_22, yr_100_23, yr_100_24, yr_100_25, yr_100_26, yr_100_27, yr_100_28, ya_101, ya_102, ya_103, ya_104, ya_105, ya_106, ya_107, ya_108, ya_109, ya_110, ya_111, ya_112, ya_113, ya_114, ya_115, ya_116, ya_117, ya_118, ya_119, e2]
end
