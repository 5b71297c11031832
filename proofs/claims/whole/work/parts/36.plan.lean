-- the calls that change the plan's numbers
section
variable {c : CS} {d : MS} {D : mM} {N k : Nat} {a : Int32} {P : PL}
theorem out_in {x : Int32} {m : Nat} (h : ¬ ∃ k, k ≤ m ∧ x = nI k) (hm : m < 2 ^ 31 := by omega) : x.toInt < 0 ∨ (m : Int) < x.toInt := by
  rcases rg x m hm with h1 | h1
  · exact absurd h1 h
  · exact h1
theorem xodds_go (hn : c.pl.n ≤ 6) {j : Nat} (hj : j < 4) (ho : ∀ i, i < 6 → c.pl.odds i j ≤ 100) : ∀ n i s : Nat, i ≤ c.pl.n → c.pl.n - i < n → s ≤ 100 * i → ∃ r, r ≤ 600 ∧ r + osum c.pl.odds j i = s + osum c.pl.odds j c.pl.n ∧ m_X5_oddsTogether_L4 N (mk c d D) n 11 (nI j) (nI s) (nI i) = some (nI r) := by
  intro n
  induction n with
  | zero => intro i s _ h; omega
  | succ n ih =>
    intro i s hi h hs
    unfold m_X5_oddsTogether_L4
    by_cases e : i = c.pl.n
    · subst e
      refine ⟨s, by omega, rfl, ?_⟩
      simp (disch := omega) only [Option.bind_some, plit, plit64, nI_add, pk_mul, if_true, if_false, or_true, true_or, oifT, Nat.one_ne_zero, ↓reduceIte, Nat.reduceLT, Nat.reduceLeDiff, Nat.reduceEqDiff, Nat.reduceAdd, Nat.reduceMul, Nat.reduceSub, Nat.reduceDiv, nI_eq, nI_leI, nI_ltI, yo_10, yr_10_0, yr_10_1, yr_10_2, yr_10_3, yr_10_4, yr_10_5, yr_10_6, yr_10_7, yr_10_8, yr_10_9, yr_10_10, yr_10_11, yo_11, yr_11_0, yr_11_1, yr_11_2, yr_11_3, yr_11_4, yn_13, ya_13, yo_14, yr_14_0, yr_14_1, yr_14_2, yr_14_3, ya_15, ya_16, yfar_R, yfo, yf_0, yf_1, yf_2, yf_3, yfoa, Nat.le_refl]
    · have h1 := ho i (by omega)
      obtain ⟨r, h2, h3, h4⟩ := ih (i + 1) (s + c.pl.odds i j) (by omega) (by omega) (by omega)
      refine ⟨r, h2, ?_, ?_⟩
      · have : osum c.pl.odds j (i + 1) = osum c.pl.odds j i + c.pl.odds i j := rfl
        omega
      · simp (disch := omega) only [Option.bind_some, plit, plit64, nI_add, pk_mul, if_true, if_false, or_true, true_or, oifT, Nat.one_ne_zero, ↓reduceIte, Nat.reduceLT, Nat.reduceLeDiff, Nat.reduceEqDiff, Nat.reduceAdd, Nat.reduceMul, Nat.reduceSub, Nat.reduceDiv, nI_eq, nI_leI, nI_ltI, yo_10, yr_10_0, yr_10_1, yr_10_2, yr_10_3, yr_10_4, yr_10_5, yr_10_6, yr_10_7, yr_10_8, yr_10_9, yr_10_10, yr_10_11, yo_11, yr_11_0, yr_11_1, yr_11_2, yr_11_3, yr_11_4, yn_13, ya_13, yo_14, yr_14_0, yr_14_1, yr_14_2, yr_14_3, ya_15, ya_16, yfar_R, yfo, yf_0, yf_1, yf_2, yf_3, yfoa, show ¬ c.pl.n ≤ i by omega]
        exact h4
theorem xodds (hn : c.pl.n ≤ 6) {j : Nat} (hj : j < 4) (ho : ∀ i, i < 6 → c.pl.odds i j ≤ 100) (hN : 10 ≤ N) : m_X5_oddsTogether N 11 (nI j) (mk c d D) = some (nI (osum c.pl.odds j c.pl.n)) := by
  obtain ⟨r, h2, h3, h4⟩ := xodds_go (c := c) (d := d) (D := D) (N := N) hn hj ho N 0 0 (by omega) (by omega) (by omega)
  have : r = osum c.pl.odds j c.pl.n := by
    have : osum c.pl.odds j 0 = 0 := rfl
    omega
  subst this
  exact h4
/-- the reference's sum of odds, the fare's own left out -/
def osumB (o : Nat → Nat → Nat) (k j : Nat) : Nat → Nat
  | 0 => 0
  | n + 1 => osumB o k j n + if n = k then 0 else o n j
theorem osumB_eq {o : Nat → Nat → Nat} {k j : Nat} : ∀ n : Nat, osumB o k j n + (if k < n then o k j else 0) = osum o j n
  | 0 => rfl
  | n + 1 => by
    unfold osumB osum
    have := osumB_eq (o := o) (k := k) (j := j) n
    by_cases e : n = k
    · subst e
      rw [if_neg (by omega)] at this
      rw [if_pos rfl, if_pos (by omega)]
      omega
    · rw [if_neg e]
      by_cases e2 : k < n
      · rw [if_pos e2] at this
        rw [if_pos (by omega)]
        omega
      · rw [if_neg e2] at this
        rw [if_neg (by omega)]
        omega
theorem yodds_go (h : PR P d.now) {k j v : Nat} (hk : k < P.n) (hj : j < 4) (hv : v ≤ 100) : ∀ n i s : Nat, i ≤ P.n → P.n - i < n → s ≤ v + 100 * i → ∃ r, r + osumB P.odds k j i = s + osumB P.odds k j P.n ∧ m_X12_odds__L43 N n 100 (nI k) (nI j) (nI v) (nI s) (nI i) (mk c d D) = if r ≤ 100 then some (nI (P.odds k j), mk c (d.s_now (va_up d.now (18 + 4 * k + j) (nI v))) D) else some (-nI 2, mk c d D) := by
  have hn := h.n
  intro n
  induction n with
  | zero => intro i s _ h; omega
  | succ n ih =>
    intro i s hi h1 hs
    unfold m_X12_odds__L43
    by_cases e : i = P.n
    · subst e
      refine ⟨s, rfl, ?_⟩
      have ek := h.o_ (i := k) (j := j) (by omega) hj
      by_cases hs1 : s ≤ 100
      · simp (disch := omega) only [Option.bind_some, plit, plit64, nI_add, pk_mul, if_true, if_false, or_true, true_or, oifT, Nat.one_ne_zero, ↓reduceIte, Nat.reduceLT, Nat.reduceLeDiff, Nat.reduceEqDiff, Nat.reduceAdd, Nat.reduceMul, Nat.reduceSub, Nat.reduceDiv, nI_eq, nI_leI, nI_ltI, yo_100, yr_100_0, yr_100_1, yr_100_2, yr_100_3, yr_100_4, yr_100_5, yr_100_6, yr_100_7, yr_100_8, yr_100_9, yr_100_10, yr_100_11, yr_100_12, yr_100_13, yr_100_14, yr_100_15, yr_100_16, yr_100_17, yr_100_18, yr_100_19, yr_100_20, yr_100_21, yr_100_22, yr_100_23, yr_100_24, yr_100_25, yr_100_26, yr_100_27, yr_100_28, ya_101, ya_102, ya_103, ya_104, ya_105, ya_106, ya_107, ya_108, ya_109, ya_110, ya_111, ya_112, ya_113, ya_114, ya_115, ya_116, ya_117, ya_118, ya_119, yw_100_2, yw_100_3, yw_100_5, yw_100_15, yw_100_20, yw_100_21, yw_100_22, yw_100_24, yw_100_25, yw_100_28, yu_101, yu_102, yu_103, yu_104, yu_105, yu_106, yu_107, yu_108, yu_109, yu_110, yu_111, yu_112, yu_113, yu_114, yu_115, yu_116, yu_117, yu_118, yu_119, Nat.le_refl, h.n_, hs1, ek]
      · simp (disch := omega) only [Option.bind_some, plit, plit64, nI_add, pk_mul, if_true, if_false, or_true, true_or, oifT, Nat.one_ne_zero, ↓reduceIte, Nat.reduceLT, Nat.reduceLeDiff, Nat.reduceEqDiff, Nat.reduceAdd, Nat.reduceMul, Nat.reduceSub, Nat.reduceDiv, nI_eq, nI_leI, nI_ltI, yo_100, yr_100_0, yr_100_1, yr_100_2, yr_100_3, yr_100_4, yr_100_5, yr_100_6, yr_100_7, yr_100_8, yr_100_9, yr_100_10, yr_100_11, yr_100_12, yr_100_13, yr_100_14, yr_100_15, yr_100_16, yr_100_17, yr_100_18, yr_100_19, yr_100_20, yr_100_21, yr_100_22, yr_100_23, yr_100_24, yr_100_25, yr_100_26, yr_100_27, yr_100_28, ya_101, ya_102, ya_103, ya_104, ya_105, ya_106, ya_107, ya_108, ya_109, ya_110, ya_111, ya_112, ya_113, ya_114, ya_115, ya_116, ya_117, ya_118, ya_119, yw_100_2, yw_100_3, yw_100_5, yw_100_15, yw_100_20, yw_100_21, yw_100_22, yw_100_24, yw_100_25, yw_100_28, yu_101, yu_102, yu_103, yu_104, yu_105, yu_106, yu_107, yu_108, yu_109, yu_110, yu_111, yu_112, yu_113, yu_114, yu_115, yu_116, yu_117, yu_118, yu_119, Nat.le_refl, h.n_, hs1]
    · have h1 := h.o (i := i) (j := j) (by omega) hj
      have ei := h.o_ (i := i) (j := j) (by omega) hj
      by_cases e2 : i = k
      · obtain ⟨r, h3, h4⟩ := ih (i + 1) (s + 0) (by omega) (by omega) (by omega)
        refine ⟨r, ?_, ?_⟩
        · have : osumB P.odds k j (i + 1) = osumB P.odds k j i + if i = k then 0 else P.odds i j := rfl
          rw [if_pos e2] at this
          omega
        · subst e2
          simp (disch := omega) only [m_X12_odds__J80, Option.bind_some, plit, plit64, nI_add, pk_mul, if_true, if_false, or_true, true_or, oifT, Nat.one_ne_zero, ↓reduceIte, Nat.reduceLT, Nat.reduceLeDiff, Nat.reduceEqDiff, Nat.reduceAdd, Nat.reduceMul, Nat.reduceSub, Nat.reduceDiv, nI_eq, nI_leI, nI_ltI, yo_100, yr_100_0, yr_100_1, yr_100_2, yr_100_3, yr_100_4, yr_100_5, yr_100_6, yr_100_7, yr_100_8, yr_100_9, yr_100_10, yr_100_11, yr_100_12, yr_100_13, yr_100_14, yr_100_15, yr_100_16, yr_100_17, yr_100_18, yr_100_19, yr_100_20, yr_100_21, yr_100_22, yr_100_23, yr_100_24, yr_100_25, yr_100_26, yr_100_27, yr_100_28, ya_101, ya_102, ya_103, ya_104, ya_105, ya_106, ya_107, ya_108, ya_109, ya_110, ya_111, ya_112, ya_113, ya_114, ya_115, ya_116, ya_117, ya_118, ya_119, yw_100_2, yw_100_3, yw_100_5, yw_100_15, yw_100_20, yw_100_21, yw_100_22, yw_100_24, yw_100_25, yw_100_28, yu_101, yu_102, yu_103, yu_104, yu_105, yu_106, yu_107, yu_108, yu_109, yu_110, yu_111, yu_112, yu_113, yu_114, yu_115, yu_116, yu_117, yu_118, yu_119, show ¬ P.n ≤ i by omega, h.n_]
          exact h4
      · obtain ⟨r, h3, h4⟩ := ih (i + 1) (s + P.odds i j) (by omega) (by omega) (by omega)
        refine ⟨r, ?_, ?_⟩
        · have : osumB P.odds k j (i + 1) = osumB P.odds k j i + if i = k then 0 else P.odds i j := rfl
          rw [if_neg e2] at this
          omega
        · simp (disch := omega) only [m_X12_odds__J80, Option.bind_some, plit, plit64, nI_add, pk_mul, if_true, if_false, or_true, true_or, oifT, Nat.one_ne_zero, ↓reduceIte, Nat.reduceLT, Nat.reduceLeDiff, Nat.reduceEqDiff, Nat.reduceAdd, Nat.reduceMul, Nat.reduceSub, Nat.reduceDiv, nI_eq, nI_leI, nI_ltI, yo_100, yr_100_0, yr_100_1, yr_100_2, yr_100_3, yr_100_4, yr_100_5, yr_100_6, yr_100_7, yr_100_8, yr_100_9, yr_100_10, yr_100_11, yr_100_12, yr_100_13, yr_100_14, yr_100_15, yr_100_16, yr_100_17, yr_100_18, yr_100_19, yr_100_20, yr_100_21, yr_100_22, yr_100_23, yr_100_24, yr_100_25, yr_100_26, yr_100_27, yr_100_28, ya_101, ya_102, ya_103, ya_104, ya_105, ya_106, ya_107, ya_108, ya_109, ya_110, ya_111, ya_112, ya_113, ya_114, ya_115, ya_116, ya_117, ya_118, ya_119, yw_100_2, yw_100_3, yw_100_5, yw_100_15, yw_100_20, yw_100_21, yw_100_22, yw_100_24, yw_100_25, yw_100_28, yu_101, yu_102, yu_103, yu_104, yu_105, yu_106, yu_107, yu_108, yu_109, yu_110, yu_111, yu_112, yu_113, yu_114, yu_115, yu_116, yu_117, yu_118, yu_119, show ¬ P.n ≤ i by omega, h.n_, e2, ei]
          exact h4
theorem p_odds (h : RR c d D) (hN : 10 ≤ N) (a b x : Int32) : ∃ r c' d', m_X11_odds N 10 a b x (mk c d D) = some (r, mk c' d D) ∧ m_X12_odds_ N 100 a b x (mk c' d D) = some (r, mk c' d' D) ∧ RR c' d' D := by
  have hP := h.1
  have hn := hP.n
  rcases rgS a c.pl.n with ⟨k, hk, rfl⟩ | ha
  · have e1 := xhf_in (d := d) (D := D) hk hn
    have e2 := fun c2 => yif_in (c := c2) (D := D) hk hP
    rcases rg b 3 with ⟨j, hj, rfl⟩ | hb
    · have e3 := wi_in (k := j) (m := 3) hj
      have e4 := in_in (k := j) (lo := 0) (hi := 3) (by omega) hj
      rcases rg x 100 with ⟨v, hv, rfl⟩ | hx
      · have e5 := wi_in (k := v) (m := 100) hv
        have e6 := in_in (k := v) (lo := 0) (hi := 100) (by omega) hv
        have e7 := xodds (d := d) (D := D) (N := N) hn (j := j) (by omega) (fun i hi => hP.o hi (by omega)) hN
        have hos := hP.os (j := j) (by omega)
        have hB := osumB_eq (o := c.pl.odds) (k := k) (j := j) c.pl.n
        rw [if_pos hk] at hB
        by_cases hs : osum c.pl.odds j c.pl.n - c.pl.odds k j + v ≤ 100
        · obtain ⟨r, h3, h4⟩ := yodds_go (c := (c.s_pl (c.pl.s_odds (va_up c.pl.odds k (va_up (c.pl.odds k) j v)))).s_made 0) (D := D) (N := N) hP hk (j := j) (by omega) hv N 0 v (by omega) (by omega) (by omega)
          have : osumB c.pl.odds k j 0 = 0 := rfl
          rw [if_pos (by omega)] at h4
          refine ⟨nI (c.pl.odds k j), (c.s_pl (c.pl.s_odds (va_up c.pl.odds k (va_up (c.pl.odds k) j v)))).s_made 0, d.s_now (va_up d.now (18 + 4 * k + j) (nI v)), ?_, ?_, h.forget _ _ (hP.u_odds hk (by omega) hv (by omega)) ⟨rfl, rfl⟩ (fun z h1 h2 => upn (by omega))⟩
          · simp (disch := omega) only [m_X11_odds, m_X10_forget, Option.bind_some, plit, plit64, nI_add, pk_mul, if_true, if_false, or_true, true_or, oifT, Nat.one_ne_zero, ↓reduceIte, Nat.reduceLT, Nat.reduceLeDiff, Nat.reduceEqDiff, Nat.reduceAdd, Nat.reduceMul, Nat.reduceSub, Nat.reduceDiv, nI_eq, nI_leI, nI_ltI, yo_10, yr_10_0, yr_10_1, yr_10_2, yr_10_3, yr_10_4, yr_10_5, yr_10_6, yr_10_7, yr_10_8, yr_10_9, yr_10_10, yr_10_11, yo_11, yr_11_0, yr_11_1, yr_11_2, yr_11_3, yr_11_4, yn_13, ya_13, yo_14, yr_14_0, yr_14_1, yr_14_2, yr_14_3, ya_15, ya_16, yfar_R, yfo, yf_0, yf_1, yf_2, yf_3, yfoa, yfw_0, yfw_1, yfw_2, yfou, yw_11_1, yw_11_4, yu_13, yw_14_3, yu_15, yu_16, yw_49_3, yu_72, yru, yo_49, e1, e3, e5, e7, pk_sub, hs]
          · simp (disch := omega) only [m_X12_odds_, Option.bind_some, plit, plit64, nI_add, pk_mul, if_true, if_false, or_true, true_or, oifT, Nat.one_ne_zero, ↓reduceIte, Nat.reduceLT, Nat.reduceLeDiff, Nat.reduceEqDiff, Nat.reduceAdd, Nat.reduceMul, Nat.reduceSub, Nat.reduceDiv, nI_eq, nI_leI, nI_ltI, yo_100, yr_100_0, yr_100_1, yr_100_2, yr_100_3, yr_100_4, yr_100_5, yr_100_6, yr_100_7, yr_100_8, yr_100_9, yr_100_10, yr_100_11, yr_100_12, yr_100_13, yr_100_14, yr_100_15, yr_100_16, yr_100_17, yr_100_18, yr_100_19, yr_100_20, yr_100_21, yr_100_22, yr_100_23, yr_100_24, yr_100_25, yr_100_26, yr_100_27, yr_100_28, ya_101, ya_102, ya_103, ya_104, ya_105, ya_106, ya_107, ya_108, ya_109, ya_110, ya_111, ya_112, ya_113, ya_114, ya_115, ya_116, ya_117, ya_118, ya_119, e2, e4, e6]
            exact h4
        · obtain ⟨r, h3, h4⟩ := yodds_go (c := c) (D := D) (N := N) hP hk (j := j) (by omega) hv N 0 v (by omega) (by omega) (by omega)
          have : osumB c.pl.odds k j 0 = 0 := rfl
          rw [if_neg (by omega)] at h4
          refine ⟨-nI 2, c, d, ?_, ?_, h⟩
          · simp (disch := omega) only [m_X11_odds, m_X10_forget, Option.bind_some, plit, plit64, nI_add, pk_mul, if_true, if_false, or_true, true_or, oifT, Nat.one_ne_zero, ↓reduceIte, Nat.reduceLT, Nat.reduceLeDiff, Nat.reduceEqDiff, Nat.reduceAdd, Nat.reduceMul, Nat.reduceSub, Nat.reduceDiv, nI_eq, nI_leI, nI_ltI, yo_10, yr_10_0, yr_10_1, yr_10_2, yr_10_3, yr_10_4, yr_10_5, yr_10_6, yr_10_7, yr_10_8, yr_10_9, yr_10_10, yr_10_11, yo_11, yr_11_0, yr_11_1, yr_11_2, yr_11_3, yr_11_4, yn_13, ya_13, yo_14, yr_14_0, yr_14_1, yr_14_2, yr_14_3, ya_15, ya_16, yfar_R, yfo, yf_0, yf_1, yf_2, yf_3, yfoa, yfw_0, yfw_1, yfw_2, yfou, yw_11_1, yw_11_4, yu_13, yw_14_3, yu_15, yu_16, yw_49_3, yu_72, yru, yo_49, e1, e3, e5, e7, pk_sub, hs]
          · simp (disch := omega) only [m_X12_odds_, Option.bind_some, plit, plit64, nI_add, pk_mul, if_true, if_false, or_true, true_or, oifT, Nat.one_ne_zero, ↓reduceIte, Nat.reduceLT, Nat.reduceLeDiff, Nat.reduceEqDiff, Nat.reduceAdd, Nat.reduceMul, Nat.reduceSub, Nat.reduceDiv, nI_eq, nI_leI, nI_ltI, yo_100, yr_100_0, yr_100_1, yr_100_2, yr_100_3, yr_100_4, yr_100_5, yr_100_6, yr_100_7, yr_100_8, yr_100_9, yr_100_10, yr_100_11, yr_100_12, yr_100_13, yr_100_14, yr_100_15, yr_100_16, yr_100_17, yr_100_18, yr_100_19, yr_100_20, yr_100_21, yr_100_22, yr_100_23, yr_100_24, yr_100_25, yr_100_26, yr_100_27, yr_100_28, ya_101, ya_102, ya_103, ya_104, ya_105, ya_106, ya_107, ya_108, ya_109, ya_110, ya_111, ya_112, ya_113, ya_114, ya_115, ya_116, ya_117, ya_118, ya_119, e2, e4, e6]
            exact h4
      · have e5 := wi_out (x := x) (m := 100) hx
        have e6 := in_out (x := x) (lo := 0) (hi := 100) (by omega)
        refine ⟨-nI 2, c, d, ?_, ?_, h⟩
        · simp (disch := omega) only [m_X11_odds, Option.bind_some, plit, plit64, nI_add, pk_mul, if_true, if_false, or_true, true_or, oifT, Nat.one_ne_zero, ↓reduceIte, Nat.reduceLT, Nat.reduceLeDiff, Nat.reduceEqDiff, Nat.reduceAdd, Nat.reduceMul, Nat.reduceSub, Nat.reduceDiv, nI_eq, nI_leI, nI_ltI, yo_10, yr_10_0, yr_10_1, yr_10_2, yr_10_3, yr_10_4, yr_10_5, yr_10_6, yr_10_7, yr_10_8, yr_10_9, yr_10_10, yr_10_11, yo_11, yr_11_0, yr_11_1, yr_11_2, yr_11_3, yr_11_4, yn_13, ya_13, yo_14, yr_14_0, yr_14_1, yr_14_2, yr_14_3, ya_15, ya_16, yfar_R, yfo, yf_0, yf_1, yf_2, yf_3, yfoa, e1, e3, e5]
        · simp (disch := omega) only [m_X12_odds_, Option.bind_some, plit, plit64, nI_add, pk_mul, if_true, if_false, or_true, true_or, oifT, Nat.one_ne_zero, ↓reduceIte, Nat.reduceLT, Nat.reduceLeDiff, Nat.reduceEqDiff, Nat.reduceAdd, Nat.reduceMul, Nat.reduceSub, Nat.reduceDiv, nI_eq, nI_leI, nI_ltI, yo_100, yr_100_0, yr_100_1, yr_100_2, yr_100_3, yr_100_4, yr_100_5, yr_100_6, yr_100_7, yr_100_8, yr_100_9, yr_100_10, yr_100_11, yr_100_12, yr_100_13, yr_100_14, yr_100_15, yr_100_16, yr_100_17, yr_100_18, yr_100_19, yr_100_20, yr_100_21, yr_100_22, yr_100_23, yr_100_24, yr_100_25, yr_100_26, yr_100_27, yr_100_28, ya_101, ya_102, ya_103, ya_104, ya_105, ya_106, ya_107, ya_108, ya_109, ya_110, ya_111, ya_112, ya_113, ya_114, ya_115, ya_116, ya_117, ya_118, ya_119, e2, e4, e6]
    · have e3 := wi_out (x := b) (m := 3) hb
      have e4 := in_out (x := b) (lo := 0) (hi := 3) (by omega)
      refine ⟨-nI 1, c, d, ?_, ?_, h⟩
      · simp (disch := omega) only [m_X11_odds, Option.bind_some, plit, plit64, nI_add, pk_mul, if_true, if_false, or_true, true_or, oifT, Nat.one_ne_zero, ↓reduceIte, Nat.reduceLT, Nat.reduceLeDiff, Nat.reduceEqDiff, Nat.reduceAdd, Nat.reduceMul, Nat.reduceSub, Nat.reduceDiv, nI_eq, nI_leI, nI_ltI, yo_10, yr_10_0, yr_10_1, yr_10_2, yr_10_3, yr_10_4, yr_10_5, yr_10_6, yr_10_7, yr_10_8, yr_10_9, yr_10_10, yr_10_11, yo_11, yr_11_0, yr_11_1, yr_11_2, yr_11_3, yr_11_4, yn_13, ya_13, yo_14, yr_14_0, yr_14_1, yr_14_2, yr_14_3, ya_15, ya_16, yfar_R, yfo, yf_0, yf_1, yf_2, yf_3, yfoa, e1, e3]
      · simp (disch := omega) only [m_X12_odds_, Option.bind_some, plit, plit64, nI_add, pk_mul, if_true, if_false, or_true, true_or, oifT, Nat.one_ne_zero, ↓reduceIte, Nat.reduceLT, Nat.reduceLeDiff, Nat.reduceEqDiff, Nat.reduceAdd, Nat.reduceMul, Nat.reduceSub, Nat.reduceDiv, nI_eq, nI_leI, nI_ltI, yo_100, yr_100_0, yr_100_1, yr_100_2, yr_100_3, yr_100_4, yr_100_5, yr_100_6, yr_100_7, yr_100_8, yr_100_9, yr_100_10, yr_100_11, yr_100_12, yr_100_13, yr_100_14, yr_100_15, yr_100_16, yr_100_17, yr_100_18, yr_100_19, yr_100_20, yr_100_21, yr_100_22, yr_100_23, yr_100_24, yr_100_25, yr_100_26, yr_100_27, yr_100_28, ya_101, ya_102, ya_103, ya_104, ya_105, ya_106, ya_107, ya_108, ya_109, ya_110, ya_111, ya_112, ya_113, ya_114, ya_115, ya_116, ya_117, ya_118, ya_119, e2, e4]
  · have e1 := xhf_out (d := d) (D := D) ha hn
    have e2 := yif_out (c := c) (D := D) ha hP
    refine ⟨-nI 1, c, d, ?_, ?_, h⟩
    · simp (disch := omega) only [m_X11_odds, Option.bind_some, plit, plit64, nI_add, pk_mul, if_true, if_false, or_true, true_or, oifT, Nat.one_ne_zero, ↓reduceIte, Nat.reduceLT, Nat.reduceLeDiff, Nat.reduceEqDiff, Nat.reduceAdd, Nat.reduceMul, Nat.reduceSub, Nat.reduceDiv, nI_eq, nI_leI, nI_ltI, yo_10, yr_10_0, yr_10_1, yr_10_2, yr_10_3, yr_10_4, yr_10_5, yr_10_6, yr_10_7, yr_10_8, yr_10_9, yr_10_10, yr_10_11, yo_11, yr_11_0, yr_11_1, yr_11_2, yr_11_3, yr_11_4, yn_13, ya_13, yo_14, yr_14_0, yr_14_1, yr_14_2, yr_14_3, ya_15, ya_16, yfar_R, yfo, yf_0, yf_1, yf_2, yf_3, yfoa, e1]
    · simp (disch := omega) only [m_X12_odds_, Option.bind_some, plit, plit64, nI_add, pk_mul, if_true, if_false, or_true, true_or, oifT, Nat.one_ne_zero, ↓reduceIte, Nat.reduceLT, Nat.reduceLeDiff, Nat.reduceEqDiff, Nat.reduceAdd, Nat.reduceMul, Nat.reduceSub, Nat.reduceDiv, nI_eq, nI_leI, nI_ltI, yo_100, yr_100_0, yr_100_1, yr_100_2, yr_100_3, yr_100_4, yr_100_5, yr_100_6, yr_100_7, yr_100_8, yr_100_9, yr_100_10, yr_100_11, yr_100_12, yr_100_13, yr_100_14, yr_100_15, yr_100_16, yr_100_17, yr_100_18, yr_100_19, yr_100_20, yr_100_21, yr_100_22, yr_100_23, yr_100_24, yr_100_25, yr_100_26, yr_100_27, yr_100_28, ya_101, ya_102, ya_103, ya_104, ya_105, ya_106, ya_107, ya_108, ya_109, ya_110, ya_111, ya_112, ya_113, ya_114, ya_115, ya_116, ya_117, ya_118, ya_119, e2]
theorem p_drop (h : RR c d D) : ∃ r c' d', m_X11_drop 10 (mk c d D) = some (r, mk c' d D) ∧ m_X12_drop 100 (mk c' d D) = some (r, mk c' d' D) ∧ RR c' d' D := by
  have hP := h.1
  have hn := hP.n
  by_cases h0 : c.pl.n = 0
  · refine ⟨-nI 3, c, d, ?_, ?_, h⟩
    · simp (disch := omega) only [m_X11_drop, Option.bind_some, plit, plit64, nI_add, pk_mul, if_true, if_false, or_true, true_or, oifT, Nat.one_ne_zero, ↓reduceIte, Nat.reduceLT, Nat.reduceLeDiff, Nat.reduceEqDiff, Nat.reduceAdd, Nat.reduceMul, Nat.reduceSub, Nat.reduceDiv, nI_eq, nI_leI, nI_ltI, yo_10, yr_10_0, yr_10_1, yr_10_2, yr_10_3, yr_10_4, yr_10_5, yr_10_6, yr_10_7, yr_10_8, yr_10_9, yr_10_10, yr_10_11, yo_11, yr_11_0, yr_11_1, yr_11_2, yr_11_3, yr_11_4, yn_13, ya_13, yo_14, yr_14_0, yr_14_1, yr_14_2, yr_14_3, ya_15, ya_16, h0, show ¬ 1 ≤ 0 by omega]
    · simp (disch := omega) only [m_X12_drop, Option.bind_some, plit, plit64, nI_add, pk_mul, if_true, if_false, or_true, true_or, oifT, Nat.one_ne_zero, ↓reduceIte, Nat.reduceLT, Nat.reduceLeDiff, Nat.reduceEqDiff, Nat.reduceAdd, Nat.reduceMul, Nat.reduceSub, Nat.reduceDiv, nI_eq, nI_leI, nI_ltI, yo_100, yr_100_0, yr_100_1, yr_100_2, yr_100_3, yr_100_4, yr_100_5, yr_100_6, yr_100_7, yr_100_8, yr_100_9, yr_100_10, yr_100_11, yr_100_12, yr_100_13, yr_100_14, yr_100_15, yr_100_16, yr_100_17, yr_100_18, yr_100_19, yr_100_20, yr_100_21, yr_100_22, yr_100_23, yr_100_24, yr_100_25, yr_100_26, yr_100_27, yr_100_28, ya_101, ya_102, ya_103, ya_104, ya_105, ya_106, ya_107, ya_108, ya_109, ya_110, ya_111, ya_112, ya_113, ya_114, ya_115, ya_116, ya_117, ya_118, ya_119, hP.n_, h0]
  · refine ⟨nI (c.pl.n - 1), (c.s_pl (c.pl.s_n (c.pl.n - 1))).s_made 0, d.s_now (va_up d.now 0 (nI (c.pl.n - 1))), ?_, ?_, h.forget _ _ (hP.u_drop (by omega)) ⟨rfl, rfl⟩ (fun z h1 h2 => upn (by omega))⟩
    · simp (disch := omega) only [m_X11_drop, m_X10_forget, Option.bind_some, plit, plit64, nI_add, pk_mul, if_true, if_false, or_true, true_or, oifT, Nat.one_ne_zero, ↓reduceIte, Nat.reduceLT, Nat.reduceLeDiff, Nat.reduceEqDiff, Nat.reduceAdd, Nat.reduceMul, Nat.reduceSub, Nat.reduceDiv, nI_eq, nI_leI, nI_ltI, yo_10, yr_10_0, yr_10_1, yr_10_2, yr_10_3, yr_10_4, yr_10_5, yr_10_6, yr_10_7, yr_10_8, yr_10_9, yr_10_10, yr_10_11, yo_11, yr_11_0, yr_11_1, yr_11_2, yr_11_3, yr_11_4, yn_13, ya_13, yo_14, yr_14_0, yr_14_1, yr_14_2, yr_14_3, ya_15, ya_16, yw_11_1, yw_11_4, yu_13, yw_14_3, yu_15, yu_16, yw_49_3, yu_72, yru, yo_49, show 1 ≤ c.pl.n by omega, pk_sub, pCS_made, pCS_pl, pPL_n]
    · simp (disch := omega) only [m_X12_drop, Option.bind_some, plit, plit64, nI_add, pk_mul, if_true, if_false, or_true, true_or, oifT, Nat.one_ne_zero, ↓reduceIte, Nat.reduceLT, Nat.reduceLeDiff, Nat.reduceEqDiff, Nat.reduceAdd, Nat.reduceMul, Nat.reduceSub, Nat.reduceDiv, nI_eq, nI_leI, nI_ltI, yo_100, yr_100_0, yr_100_1, yr_100_2, yr_100_3, yr_100_4, yr_100_5, yr_100_6, yr_100_7, yr_100_8, yr_100_9, yr_100_10, yr_100_11, yr_100_12, yr_100_13, yr_100_14, yr_100_15, yr_100_16, yr_100_17, yr_100_18, yr_100_19, yr_100_20, yr_100_21, yr_100_22, yr_100_23, yr_100_24, yr_100_25, yr_100_26, yr_100_27, yr_100_28, ya_101, ya_102, ya_103, ya_104, ya_105, ya_106, ya_107, ya_108, ya_109, ya_110, ya_111, ya_112, ya_113, ya_114, ya_115, ya_116, ya_117, ya_118, ya_119, yw_100_2, yw_100_3, yw_100_5, yw_100_15, yw_100_20, yw_100_21, yw_100_22, yw_100_24, yw_100_25, yw_100_28, yu_101, yu_102, yu_103, yu_104, yu_105, yu_106, yu_107, yu_108, yu_109, yu_110, yu_111, yu_112, yu_113, yu_114, yu_115, yu_116, yu_117, yu_118, yu_119, hP.n_, h0, pk_sub, pMS_now, upe]
theorem zMost_in {i : Nat} (h : i < 4) : zMost (nI i) = some (nI (bdR i)) := by
  match i, h with
  | 0, _ => rfl
  | 1, _ => rfl
  | 2, _ => rfl
  | 3, _ => rfl
theorem bdR_le (i : Nat) : bdR i ≤ 9999 := by
  unfold bdR
  repeat' split
  all_goals omega
theorem p_rule (h : RR c d D) (a b : Int32) : ∃ r c' d', m_X11_rule 10 a b (mk c d D) = some (r, mk c' d D) ∧ m_X12_rule 100 a b (mk c' d D) = some (r, mk c' d' D) ∧ RR c' d' D := by
  have hP := h.1
  rcases rg a 3 with ⟨i, hi, rfl⟩ | ha
  · have e3 := wi_in (k := i) (m := 3) hi
    have e4 := in_in (k := i) (lo := 0) (hi := 3) (by omega) hi
    have hb := bdR_le i
    have er := hP.r_ (i := i) (by omega)
    have hu : ∀ c2 : CS, m_X12_rule 100 (nI i) b (mk c2 d D) = m_X12_rule_J41 100 (nI i) b b.toInt64 (lN 0) (lN (bdR i)) (mk c2 d D) := fun c2 => by
      unfold bdR
      simp (disch := omega) only [m_X12_rule, Option.bind_some, plit, plit64, nI_add, pk_mul, if_true, if_false, or_true, true_or, oifT, Nat.one_ne_zero, ↓reduceIte, Nat.reduceLT, Nat.reduceLeDiff, Nat.reduceEqDiff, Nat.reduceAdd, Nat.reduceMul, Nat.reduceSub, Nat.reduceDiv, nI_eq, nI_leI, nI_ltI, e4]
      repeat' split
      all_goals first | rfl | omega
    rcases rg b (bdR i) with ⟨v, hv, rfl⟩ | hx
    · have e5 := wi_in (k := v) (m := bdR i) hv
      have e6 := in_in (k := v) (lo := 0) (hi := bdR i) (by omega) hv
      refine ⟨nI (c.pl.rules i), (c.s_pl (c.pl.s_rules (va_up c.pl.rules i v))).s_made 0, d.s_now (va_up d.now (1 + i) (nI v)), ?_, ?_, h.forget _ _ (hP.u_rule (by omega) hv) ⟨rfl, rfl⟩ (fun z h1 h2 => upn (by omega))⟩
      · simp (disch := omega) only [m_X11_rule, m_X10_forget, Option.bind_some, plit, plit64, nI_add, pk_mul, if_true, if_false, or_true, true_or, oifT, Nat.one_ne_zero, ↓reduceIte, Nat.reduceLT, Nat.reduceLeDiff, Nat.reduceEqDiff, Nat.reduceAdd, Nat.reduceMul, Nat.reduceSub, Nat.reduceDiv, nI_eq, nI_leI, nI_ltI, yo_10, yr_10_0, yr_10_1, yr_10_2, yr_10_3, yr_10_4, yr_10_5, yr_10_6, yr_10_7, yr_10_8, yr_10_9, yr_10_10, yr_10_11, yo_11, yr_11_0, yr_11_1, yr_11_2, yr_11_3, yr_11_4, yn_13, ya_13, yo_14, yr_14_0, yr_14_1, yr_14_2, yr_14_3, ya_15, ya_16, yw_11_1, yw_11_4, yu_13, yw_14_3, yu_15, yu_16, yw_49_3, yu_72, yru, yo_49, e3, zMost_in, e5]
      · rw [hu]
        simp (disch := omega) only [m_X12_rule_J41, Option.bind_some, plit, plit64, nI_add, pk_mul, if_true, if_false, or_true, true_or, oifT, Nat.one_ne_zero, ↓reduceIte, Nat.reduceLT, Nat.reduceLeDiff, Nat.reduceEqDiff, Nat.reduceAdd, Nat.reduceMul, Nat.reduceSub, Nat.reduceDiv, nI_eq, nI_leI, nI_ltI, yo_100, yr_100_0, yr_100_1, yr_100_2, yr_100_3, yr_100_4, yr_100_5, yr_100_6, yr_100_7, yr_100_8, yr_100_9, yr_100_10, yr_100_11, yr_100_12, yr_100_13, yr_100_14, yr_100_15, yr_100_16, yr_100_17, yr_100_18, yr_100_19, yr_100_20, yr_100_21, yr_100_22, yr_100_23, yr_100_24, yr_100_25, yr_100_26, yr_100_27, yr_100_28, ya_101, ya_102, ya_103, ya_104, ya_105, ya_106, ya_107, ya_108, ya_109, ya_110, ya_111, ya_112, ya_113, ya_114, ya_115, ya_116, ya_117, ya_118, ya_119, yw_100_2, yw_100_3, yw_100_5, yw_100_15, yw_100_20, yw_100_21, yw_100_22, yw_100_24, yw_100_25, yw_100_28, yu_101, yu_102, yu_103, yu_104, yu_105, yu_106, yu_107, yu_108, yu_109, yu_110, yu_111, yu_112, yu_113, yu_114, yu_115, yu_116, yu_117, yu_118, yu_119, e6, er]
    · have e5 := wi_out (x := b) (m := bdR i) hx
      have e6 := in_out (x := b) (lo := 0) (hi := bdR i) (by omega)
      refine ⟨-nI 2, c, d, ?_, ?_, h⟩
      · simp (disch := omega) only [m_X11_rule, m_X10_forget, Option.bind_some, plit, plit64, nI_add, pk_mul, if_true, if_false, or_true, true_or, oifT, Nat.one_ne_zero, ↓reduceIte, Nat.reduceLT, Nat.reduceLeDiff, Nat.reduceEqDiff, Nat.reduceAdd, Nat.reduceMul, Nat.reduceSub, Nat.reduceDiv, nI_eq, nI_leI, nI_ltI, yo_10, yr_10_0, yr_10_1, yr_10_2, yr_10_3, yr_10_4, yr_10_5, yr_10_6, yr_10_7, yr_10_8, yr_10_9, yr_10_10, yr_10_11, yo_11, yr_11_0, yr_11_1, yr_11_2, yr_11_3, yr_11_4, yn_13, ya_13, yo_14, yr_14_0, yr_14_1, yr_14_2, yr_14_3, ya_15, ya_16, yw_11_1, yw_11_4, yu_13, yw_14_3, yu_15, yu_16, yw_49_3, yu_72, yru, e3, zMost_in, e5]
      · rw [hu]
        simp (disch := omega) only [m_X12_rule_J41, Option.bind_some, plit, plit64, nI_add, pk_mul, if_true, if_false, or_true, true_or, oifT, Nat.one_ne_zero, ↓reduceIte, Nat.reduceLT, Nat.reduceLeDiff, Nat.reduceEqDiff, Nat.reduceAdd, Nat.reduceMul, Nat.reduceSub, Nat.reduceDiv, nI_eq, nI_leI, nI_ltI, yo_100, yr_100_0, yr_100_1, yr_100_2, yr_100_3, yr_100_4, yr_100_5, yr_100_6, yr_100_7, yr_100_8, yr_100_9, yr_100_10, yr_100_11, yr_100_12, yr_100_13, yr_100_14, yr_100_15, yr_100_16, yr_100_17, yr_100_18, yr_100_19, yr_100_20, yr_100_21, yr_100_22, yr_100_23, yr_100_24, yr_100_25, yr_100_26, yr_100_27, yr_100_28, ya_101, ya_102, ya_103, ya_104, ya_105, ya_106, ya_107, ya_108, ya_109, ya_110, ya_111, ya_112, ya_113, ya_114, ya_115, ya_116, ya_117, ya_118, ya_119, yw_100_2, yw_100_3, yw_100_5, yw_100_15, yw_100_20, yw_100_21, yw_100_22, yw_100_24, yw_100_25, yw_100_28, yu_101, yu_102, yu_103, yu_104, yu_105, yu_106, yu_107, yu_108, yu_109, yu_110, yu_111, yu_112, yu_113, yu_114, yu_115, yu_116, yu_117, yu_118, yu_119, e6]
  · have e3 := wi_out (x := a) (m := 3) ha
    have e4 := in_out (x := a) (lo := 0) (hi := 3) (by omega)
    refine ⟨-nI 1, c, d, ?_, ?_, h⟩
    · simp (disch := omega) only [m_X11_rule, Option.bind_some, plit, plit64, nI_add, pk_mul, if_true, if_false, or_true, true_or, oifT, Nat.one_ne_zero, ↓reduceIte, Nat.reduceLT, Nat.reduceLeDiff, Nat.reduceEqDiff, Nat.reduceAdd, Nat.reduceMul, Nat.reduceSub, Nat.reduceDiv, nI_eq, nI_leI, nI_ltI, yo_10, yr_10_0, yr_10_1, yr_10_2, yr_10_3, yr_10_4, yr_10_5, yr_10_6, yr_10_7, yr_10_8, yr_10_9, yr_10_10, yr_10_11, yo_11, yr_11_0, yr_11_1, yr_11_2, yr_11_3, yr_11_4, yn_13, ya_13, yo_14, yr_14_0, yr_14_1, yr_14_2, yr_14_3, ya_15, ya_16, e3]
    · simp (disch := omega) only [m_X12_rule, Option.bind_some, plit, plit64, nI_add, pk_mul, if_true, if_false, or_true, true_or, oifT, Nat.one_ne_zero, ↓reduceIte, Nat.reduceLT, Nat.reduceLeDiff, Nat.reduceEqDiff, Nat.reduceAdd, Nat.reduceMul, Nat.reduceSub, Nat.reduceDiv, nI_eq, nI_leI, nI_ltI, yo_100, yr_100_0, yr_100_1, yr_100_2, yr_100_3, yr_100_4, yr_100_5, yr_100_6, yr_100_7, yr_100_8, yr_100_9, yr_100_10, yr_100_11, yr_100_12, yr_100_13, yr_100_14, yr_100_15, yr_100_16, yr_100_17, yr_100_18, yr_100_19, yr_100_20, yr_100_21, yr_100_22, yr_100_23, yr_100_24, yr_100_25, yr_100_26, yr_100_27, yr_100_28, ya_101, ya_102, ya_103, ya_104, ya_105, ya_106, ya_107, ya_108, ya_109, ya_110, ya_111, ya_112, ya_113, ya_114, ya_115, ya_116, ya_117, ya_118, ya_119, e4]
theorem p_hand (h : RR c d D) (a b : Int32) : ∃ r c' d', m_X11_hand 10 a b (mk c d D) = some (r, mk c' d D) ∧ m_X12_hand 100 a b (mk c' d D) = some (r, mk c' d' D) ∧ RR c' d' D := by
  have hP := h.1
  have hn := hP.n
  rcases rgS a c.pl.n with ⟨k, hk, rfl⟩ | ha
  · have e1 := xhf_in (d := d) (D := D) hk hn
    have e2 := fun c2 => yif_in (c := c2) (D := D) hk hP
    have eh := hP.h_ (i := k) (by omega)
    rcases rg b 30 with ⟨v, hv, rfl⟩ | hb
    · have e3 := wi_in (k := v) (m := 30) hv
      have e4 := in_in (k := v) (lo := 0) (hi := 30) (by omega) hv
      refine ⟨nI (c.pl.hand k), c.s_pl (c.pl.s_hand (va_up c.pl.hand k v)), d.s_now (va_up d.now (122 + k) (nI v)), ?_, ?_, h.keep _ _ (hP.u_hand (by omega) hv) (h.2.1.like ⟨rfl, rfl⟩ hP.rc (fun z h1 h2 => upn (by omega))) ⟨rfl, rfl, rfl⟩ rfl rfl⟩
      · simp (disch := omega) only [m_X11_hand, Option.bind_some, plit, plit64, nI_add, pk_mul, if_true, if_false, or_true, true_or, oifT, Nat.one_ne_zero, ↓reduceIte, Nat.reduceLT, Nat.reduceLeDiff, Nat.reduceEqDiff, Nat.reduceAdd, Nat.reduceMul, Nat.reduceSub, Nat.reduceDiv, nI_eq, nI_leI, nI_ltI, yo_10, yr_10_0, yr_10_1, yr_10_2, yr_10_3, yr_10_4, yr_10_5, yr_10_6, yr_10_7, yr_10_8, yr_10_9, yr_10_10, yr_10_11, yo_11, yr_11_0, yr_11_1, yr_11_2, yr_11_3, yr_11_4, yn_13, ya_13, yo_14, yr_14_0, yr_14_1, yr_14_2, yr_14_3, ya_15, ya_16, yfar_R, yfo, yf_0, yf_1, yf_2, yf_3, yfoa, yfw_0, yfw_1, yfw_2, yfou, e1, e3]
      · simp (disch := omega) only [m_X12_hand, Option.bind_some, plit, plit64, nI_add, pk_mul, if_true, if_false, or_true, true_or, oifT, Nat.one_ne_zero, ↓reduceIte, Nat.reduceLT, Nat.reduceLeDiff, Nat.reduceEqDiff, Nat.reduceAdd, Nat.reduceMul, Nat.reduceSub, Nat.reduceDiv, nI_eq, nI_leI, nI_ltI, yo_100, yr_100_0, yr_100_1, yr_100_2, yr_100_3, yr_100_4, yr_100_5, yr_100_6, yr_100_7, yr_100_8, yr_100_9, yr_100_10, yr_100_11, yr_100_12, yr_100_13, yr_100_14, yr_100_15, yr_100_16, yr_100_17, yr_100_18, yr_100_19, yr_100_20, yr_100_21, yr_100_22, yr_100_23, yr_100_24, yr_100_25, yr_100_26, yr_100_27, yr_100_28, ya_101, ya_102, ya_103, ya_104, ya_105, ya_106, ya_107, ya_108, ya_109, ya_110, ya_111, ya_112, ya_113, ya_114, ya_115, ya_116, ya_117, ya_118, ya_119, yw_100_2, yw_100_3, yw_100_5, yw_100_15, yw_100_20, yw_100_21, yw_100_22, yw_100_24, yw_100_25, yw_100_28, yu_101, yu_102, yu_103, yu_104, yu_105, yu_106, yu_107, yu_108, yu_109, yu_110, yu_111, yu_112, yu_113, yu_114, yu_115, yu_116, yu_117, yu_118, yu_119, e2, e4, eh]
    · have e3 := wi_out (x := b) (m := 30) hb
      have e4 := in_out (x := b) (lo := 0) (hi := 30) (by omega)
      refine ⟨-nI 2, c, d, ?_, ?_, h⟩
      · simp (disch := omega) only [m_X11_hand, Option.bind_some, plit, plit64, nI_add, pk_mul, if_true, if_false, or_true, true_or, oifT, Nat.one_ne_zero, ↓reduceIte, Nat.reduceLT, Nat.reduceLeDiff, Nat.reduceEqDiff, Nat.reduceAdd, Nat.reduceMul, Nat.reduceSub, Nat.reduceDiv, nI_eq, nI_leI, nI_ltI, yo_10, yr_10_0, yr_10_1, yr_10_2, yr_10_3, yr_10_4, yr_10_5, yr_10_6, yr_10_7, yr_10_8, yr_10_9, yr_10_10, yr_10_11, yo_11, yr_11_0, yr_11_1, yr_11_2, yr_11_3, yr_11_4, yn_13, ya_13, yo_14, yr_14_0, yr_14_1, yr_14_2, yr_14_3, ya_15, ya_16, yfar_R, yfo, yf_0, yf_1, yf_2, yf_3, yfoa, yfw_0, yfw_1, yfw_2, yfou, e1, e3]
      · simp (disch := omega) only [m_X12_hand, Option.bind_some, plit, plit64, nI_add, pk_mul, if_true, if_false, or_true, true_or, oifT, Nat.one_ne_zero, ↓reduceIte, Nat.reduceLT, Nat.reduceLeDiff, Nat.reduceEqDiff, Nat.reduceAdd, Nat.reduceMul, Nat.reduceSub, Nat.reduceDiv, nI_eq, nI_leI, nI_ltI, yo_100, yr_100_0, yr_100_1, yr_100_2, yr_100_3, yr_100_4, yr_100_5, yr_100_6, yr_100_7, yr_100_8, yr_100_9, yr_100_10, yr_100_11, yr_100_12, yr_100_13, yr_100_14, yr_100_15, yr_100_16, yr_100_17, yr_100_18, yr_100_19, yr_100_20, yr_100_21, yr_100_22, yr_100_23, yr_100_24, yr_100_25, yr_100_26, yr_100_27, yr_100_28, ya_101, ya_102, ya_103, ya_104, ya_105, ya_106, ya_107, ya_108, ya_109, ya_110, ya_111, ya_112, ya_113, ya_114, ya_115, ya_116, ya_117, ya_118, ya_119, yw_100_2, yw_100_3, yw_100_5, yw_100_15, yw_100_20, yw_100_21, yw_100_22, yw_100_24, yw_100_25, yw_100_28, yu_101, yu_102, yu_103, yu_104, yu_105, yu_106, yu_107, yu_108, yu_109, yu_110, yu_111, yu_112, yu_113, yu_114, yu_115, yu_116, yu_117, yu_118, yu_119, e2, e4]
  · have e1 := xhf_out (d := d) (D := D) ha hn
    have e2 := yif_out (c := c) (D := D) ha hP
    refine ⟨-nI 1, c, d, ?_, ?_, h⟩
    · simp (disch := omega) only [m_X11_hand, Option.bind_some, plit, plit64, nI_add, pk_mul, if_true, if_false, or_true, true_or, oifT, Nat.one_ne_zero, ↓reduceIte, Nat.reduceLT, Nat.reduceLeDiff, Nat.reduceEqDiff, Nat.reduceAdd, Nat.reduceMul, Nat.reduceSub, Nat.reduceDiv, nI_eq, nI_leI, nI_ltI, yo_10, yr_10_0, yr_10_1, yr_10_2, yr_10_3, yr_10_4, yr_10_5, yr_10_6, yr_10_7, yr_10_8, yr_10_9, yr_10_10, yr_10_11, yo_11, yr_11_0, yr_11_1, yr_11_2, yr_11_3, yr_11_4, yn_13, ya_13, yo_14, yr_14_0, yr_14_1, yr_14_2, yr_14_3, ya_15, ya_16, yfar_R, yfo, yf_0, yf_1, yf_2, yf_3, yfoa, e1]
    · simp (disch := omega) only [m_X12_hand, Option.bind_some, plit, plit64, nI_add, pk_mul, if_true, if_false, or_true, true_or, oifT, Nat.one_ne_zero, ↓reduceIte, Nat.reduceLT, Nat.reduceLeDiff, Nat.reduceEqDiff, Nat.reduceAdd, Nat.reduceMul, Nat.reduceSub, Nat.reduceDiv, nI_eq, nI_leI, nI_ltI, yo_100, yr_100_0, yr_100_1, yr_100_2, yr_100_3, yr_100_4, yr_100_5, yr_100_6, yr_100_7, yr_100_8, yr_100_9, yr_100_10, yr_100_11, yr_100_12, yr_100_13, yr_100_14, yr_100_15, yr_100_16, yr_100_17, yr_100_18, yr_100_19, yr_100_20, yr_100_21, yr_100_22, yr_100_23, yr_100_24, yr_100_25, yr_100_26, yr_100_27, yr_100_28, ya_101, ya_102, ya_103, ya_104, ya_105, ya_106, ya_107, ya_108, ya_109, ya_110, ya_111, ya_112, ya_113, ya_114, ya_115, ya_116, ya_117, ya_118, ya_119, e2]
theorem p_seed (h : RR c d D) (a : Int32) : ∃ r c' d', m_X11_seed 10 a (mk c d D) = some (r, mk c' d D) ∧ m_X12_seed 100 a (mk c' d D) = some (r, mk c' d' D) ∧ RR c' d' D := by
  have hP := h.1
  refine ⟨c.pl.seed, c.s_pl (c.pl.s_seed a), d.s_now (va_up d.now 128 a), ?_, ?_, h.keep _ _ (hP.u_seed a) (h.2.1.like ⟨rfl, rfl⟩ hP.rc (fun z h1 h2 => upn (by omega))) ⟨rfl, rfl, rfl⟩ rfl rfl⟩
  · simp (disch := omega) only [m_X11_seed, Option.bind_some, plit, plit64, nI_add, pk_mul, if_true, if_false, or_true, true_or, oifT, Nat.one_ne_zero, ↓reduceIte, Nat.reduceLT, Nat.reduceLeDiff, Nat.reduceEqDiff, Nat.reduceAdd, Nat.reduceMul, Nat.reduceSub, Nat.reduceDiv, nI_eq, nI_leI, nI_ltI, yo_10, yr_10_0, yr_10_1, yr_10_2, yr_10_3, yr_10_4, yr_10_5, yr_10_6, yr_10_7, yr_10_8, yr_10_9, yr_10_10, yr_10_11, yo_11, yr_11_0, yr_11_1, yr_11_2, yr_11_3, yr_11_4, yn_13, ya_13, yo_14, yr_14_0, yr_14_1, yr_14_2, yr_14_3, ya_15, ya_16, yw_11_1, yw_11_4, yu_13, yw_14_3, yu_15, yu_16]
  · simp (disch := omega) only [m_X12_seed, Option.bind_some, plit, plit64, nI_add, pk_mul, if_true, if_false, or_true, true_or, oifT, Nat.one_ne_zero, ↓reduceIte, Nat.reduceLT, Nat.reduceLeDiff, Nat.reduceEqDiff, Nat.reduceAdd, Nat.reduceMul, Nat.reduceSub, Nat.reduceDiv, nI_eq, nI_leI, nI_ltI, yo_100, yr_100_0, yr_100_1, yr_100_2, yr_100_3, yr_100_4, yr_100_5, yr_100_6, yr_100_7, yr_100_8, yr_100_9, yr_100_10, yr_100_11, yr_100_12, yr_100_13, yr_100_14, yr_100_15, yr_100_16, yr_100_17, yr_100_18, yr_100_19, yr_100_20, yr_100_21, yr_100_22, yr_100_23, yr_100_24, yr_100_25, yr_100_26, yr_100_27, yr_100_28, ya_101, ya_102, ya_103, ya_104, ya_105, ya_106, ya_107, ya_108, ya_109, ya_110, ya_111, ya_112, ya_113, ya_114, ya_115, ya_116, ya_117, ya_118, ya_119, yw_100_2, yw_100_3, yw_100_5, yw_100_15, yw_100_20, yw_100_21, yw_100_22, yw_100_24, yw_100_25, yw_100_28, yu_101, yu_102, yu_103, yu_104, yu_105, yu_106, yu_107, yu_108, yu_109, yu_110, yu_111, yu_112, yu_113, yu_114, yu_115, yu_116, yu_117, yu_118, yu_119, hP.s_]
theorem isLeg_in {i : Nat} (h : i ≤ 3) : m_X12_isLeg (nI i) = some (nI 1) := by
  have e := in_in (k := i) (lo := 0) (hi := 3) (by omega) h
  simp only [m_X12_isLeg, Option.bind_some, plit, plit64, nI_add, pk_mul, if_true, if_false, or_true, true_or, oifT, Nat.one_ne_zero, ↓reduceIte, Nat.reduceLT, Nat.reduceLeDiff, Nat.reduceEqDiff, Nat.reduceAdd, Nat.reduceMul, Nat.reduceSub, Nat.reduceDiv, e]
theorem isLeg_out {x : Int32} (h : x.toInt < 0 ∨ 3 < x.toInt) : m_X12_isLeg x = some (nI 0) := by
  have e := in_out (x := x) (lo := 0) (hi := 3) (by omega)
  simp only [m_X12_isLeg, Option.bind_some, plit, plit64, nI_add, pk_mul, if_true, if_false, or_true, true_or, oifT, Nat.one_ne_zero, ↓reduceIte, Nat.reduceLT, Nat.reduceLeDiff, Nat.reduceEqDiff, Nat.reduceAdd, Nat.reduceMul, Nat.reduceSub, Nat.reduceDiv, true_or, e]
theorem p_leg (h : RR c d D) (a b x : Int32) : ∃ r c' d', m_X11_leg 10 a b x (mk c d D) = some (r, mk c' d D) ∧ m_X12_leg 100 a b x (mk c' d D) = some (r, mk c' d' D) ∧ RR c' d' D := by
  have hP := h.1
  rcases rg a 3 with ⟨i, hi, rfl⟩ | ha
  · have e1 := wi_in (k := i) (m := 3) hi
    have e2 := isLeg_in hi
    have el := hP.l_ (i := i) (by omega)
    have ef := hP.f_ (i := i) (by omega)
    rcases rg b 1 with ⟨w, hw, rfl⟩ | hb
    · have e3 := wi_in (k := w) (m := 1) hw
      have e4 := in_in (k := w) (lo := 0) (hi := 1) (by omega) hw
      by_cases hw0 : w = 0
      · subst hw0
        by_cases hx : ∃ v, 1 ≤ v ∧ v ≤ 9999 ∧ x = nI v
        · obtain ⟨v, h1, hv, rfl⟩ := hx
          have e6 := in_in (k := v) (lo := 1) (hi := 9999) h1 hv
          refine ⟨nI (c.pl.len i), c.s_pl (c.pl.s_len (va_up c.pl.len i v)), d.s_now (va_up d.now (42 + i) (nI v)), ?_, ?_, h.keep _ _ (hP.u_len (by omega) ⟨h1, hv⟩) (h.2.1.like ⟨rfl, rfl⟩ hP.rc (fun z h1 h2 => upn (by omega))) ⟨rfl, rfl, rfl⟩ rfl rfl⟩
          · simp (disch := omega) only [m_X11_leg, m_X11_leg_J27, m_X11_leg_J61, m_X11_leg_J89, Option.bind_some, plit, plit64, nI_add, pk_mul, if_true, if_false, or_true, true_or, oifT, Nat.one_ne_zero, ↓reduceIte, Nat.reduceLT, Nat.reduceLeDiff, Nat.reduceEqDiff, Nat.reduceAdd, Nat.reduceMul, Nat.reduceSub, Nat.reduceDiv, nI_eq, nI_leI, nI_ltI, yo_10, yr_10_0, yr_10_1, yr_10_2, yr_10_3, yr_10_4, yr_10_5, yr_10_6, yr_10_7, yr_10_8, yr_10_9, yr_10_10, yr_10_11, yo_11, yr_11_0, yr_11_1, yr_11_2, yr_11_3, yr_11_4, yn_13, ya_13, yo_14, yr_14_0, yr_14_1, yr_14_2, yr_14_3, ya_15, ya_16, yw_11_1, yw_11_4, yu_13, yw_14_3, yu_15, yu_16, e1, e3, show ¬ v < 1 by omega, hv]
          · simp (disch := omega) only [m_X12_leg, m_X12_leg_J30, m_X12_leg_J43, m_X12_leg_J63, Option.bind_some, plit, plit64, nI_add, pk_mul, if_true, if_false, or_true, true_or, oifT, Nat.one_ne_zero, ↓reduceIte, Nat.reduceLT, Nat.reduceLeDiff, Nat.reduceEqDiff, Nat.reduceAdd, Nat.reduceMul, Nat.reduceSub, Nat.reduceDiv, nI_eq, nI_leI, nI_ltI, yo_100, yr_100_0, yr_100_1, yr_100_2, yr_100_3, yr_100_4, yr_100_5, yr_100_6, yr_100_7, yr_100_8, yr_100_9, yr_100_10, yr_100_11, yr_100_12, yr_100_13, yr_100_14, yr_100_15, yr_100_16, yr_100_17, yr_100_18, yr_100_19, yr_100_20, yr_100_21, yr_100_22, yr_100_23, yr_100_24, yr_100_25, yr_100_26, yr_100_27, yr_100_28, ya_101, ya_102, ya_103, ya_104, ya_105, ya_106, ya_107, ya_108, ya_109, ya_110, ya_111, ya_112, ya_113, ya_114, ya_115, ya_116, ya_117, ya_118, ya_119, yw_100_2, yw_100_3, yw_100_5, yw_100_15, yw_100_20, yw_100_21, yw_100_22, yw_100_24, yw_100_25, yw_100_28, yu_101, yu_102, yu_103, yu_104, yu_105, yu_106, yu_107, yu_108, yu_109, yu_110, yu_111, yu_112, yu_113, yu_114, yu_115, yu_116, yu_117, yu_118, yu_119, e2, e4, e6, el]
        · have e6 : m_X12_in x.toInt64 (lN 1) (lN 9999) = some (nI 0) := by
            refine in_out ?_
            rcases rg x 9999 with ⟨v, hv, rfl⟩ | hb2
            · by_cases h1 : 1 ≤ v
              · exact absurd ⟨v, h1, hv, rfl⟩ hx
              · left; rw [nI_toInt (by omega)]; omega
            · omega
          refine ⟨-nI 2, c, d, ?_, ?_, h⟩
          · by_cases g1 : x < nI 1
            · simp (disch := omega) only [m_X11_leg, m_X11_leg_J27, Option.bind_some, plit, plit64, nI_add, pk_mul, if_true, if_false, or_true, true_or, oifT, Nat.one_ne_zero, ↓reduceIte, Nat.reduceLT, Nat.reduceLeDiff, Nat.reduceEqDiff, Nat.reduceAdd, Nat.reduceMul, Nat.reduceSub, Nat.reduceDiv, nI_eq, nI_leI, nI_ltI, yo_10, yr_10_0, yr_10_1, yr_10_2, yr_10_3, yr_10_4, yr_10_5, yr_10_6, yr_10_7, yr_10_8, yr_10_9, yr_10_10, yr_10_11, yo_11, yr_11_0, yr_11_1, yr_11_2, yr_11_3, yr_11_4, yn_13, ya_13, yo_14, yr_14_0, yr_14_1, yr_14_2, yr_14_3, ya_15, ya_16, yw_11_1, yw_11_4, yu_13, yw_14_3, yu_15, yu_16, e1, e3, g1]
            · have g2 : ¬ x ≤ nI 9999 := by
                intro g2
                rw [Int32.lt_iff_toInt_lt, nI_toInt (by omega)] at g1
                rw [Int32.le_iff_toInt_le, nI_toInt (by omega)] at g2
                rcases rg x 9999 with ⟨pr, hpr, rfl⟩ | hb2
                · rw [nI_toInt (by omega)] at g1
                  exact hx ⟨pr, by omega, hpr, rfl⟩
                · omega
              simp (disch := omega) only [m_X11_leg, m_X11_leg_J27, Option.bind_some, plit, plit64, nI_add, pk_mul, if_true, if_false, or_true, true_or, oifT, Nat.one_ne_zero, ↓reduceIte, Nat.reduceLT, Nat.reduceLeDiff, Nat.reduceEqDiff, Nat.reduceAdd, Nat.reduceMul, Nat.reduceSub, Nat.reduceDiv, nI_eq, nI_leI, nI_ltI, yo_10, yr_10_0, yr_10_1, yr_10_2, yr_10_3, yr_10_4, yr_10_5, yr_10_6, yr_10_7, yr_10_8, yr_10_9, yr_10_10, yr_10_11, yo_11, yr_11_0, yr_11_1, yr_11_2, yr_11_3, yr_11_4, yn_13, ya_13, yo_14, yr_14_0, yr_14_1, yr_14_2, yr_14_3, ya_15, ya_16, yw_11_1, yw_11_4, yu_13, yw_14_3, yu_15, yu_16, e1, e3, g1, g2]
          · simp (disch := omega) only [m_X12_leg, m_X12_leg_J30, m_X12_leg_J43, m_X12_leg_J63, Option.bind_some, plit, plit64, nI_add, pk_mul, if_true, if_false, or_true, true_or, oifT, Nat.one_ne_zero, ↓reduceIte, Nat.reduceLT, Nat.reduceLeDiff, Nat.reduceEqDiff, Nat.reduceAdd, Nat.reduceMul, Nat.reduceSub, Nat.reduceDiv, nI_eq, nI_leI, nI_ltI, yo_100, yr_100_0, yr_100_1, yr_100_2, yr_100_3, yr_100_4, yr_100_5, yr_100_6, yr_100_7, yr_100_8, yr_100_9, yr_100_10, yr_100_11, yr_100_12, yr_100_13, yr_100_14, yr_100_15, yr_100_16, yr_100_17, yr_100_18, yr_100_19, yr_100_20, yr_100_21, yr_100_22, yr_100_23, yr_100_24, yr_100_25, yr_100_26, yr_100_27, yr_100_28, ya_101, ya_102, ya_103, ya_104, ya_105, ya_106, ya_107, ya_108, ya_109, ya_110, ya_111, ya_112, ya_113, ya_114, ya_115, ya_116, ya_117, ya_118, ya_119, yw_100_2, yw_100_3, yw_100_5, yw_100_15, yw_100_20, yw_100_21, yw_100_22, yw_100_24, yw_100_25, yw_100_28, yu_101, yu_102, yu_103, yu_104, yu_105, yu_106, yu_107, yu_108, yu_109, yu_110, yu_111, yu_112, yu_113, yu_114, yu_115, yu_116, yu_117, yu_118, yu_119, e2, e4, e6]
      · have hw1 : w = 1 := by omega
        subst hw1
        rcases rg x 99 with ⟨v, hv, rfl⟩ | hx
        · have e5 := wi_in (k := v) (m := 99) hv
          have e6 := in_in (k := v) (lo := 0) (hi := 99) (by omega) hv
          refine ⟨nI (c.pl.free i), c.s_pl (c.pl.s_free (va_up c.pl.free i v)), d.s_now (va_up d.now (46 + i) (nI v)), ?_, ?_, h.keep _ _ (hP.u_free (by omega) hv) (h.2.1.like ⟨rfl, rfl⟩ hP.rc (fun z h1 h2 => upn (by omega))) ⟨rfl, rfl, rfl⟩ rfl rfl⟩
          · simp (disch := omega) only [m_X11_leg, m_X11_leg_J27, m_X11_leg_J61, m_X11_leg_J89, Option.bind_some, plit, plit64, nI_add, pk_mul, if_true, if_false, or_true, true_or, oifT, Nat.one_ne_zero, ↓reduceIte, Nat.reduceLT, Nat.reduceLeDiff, Nat.reduceEqDiff, Nat.reduceAdd, Nat.reduceMul, Nat.reduceSub, Nat.reduceDiv, nI_eq, nI_leI, nI_ltI, yo_10, yr_10_0, yr_10_1, yr_10_2, yr_10_3, yr_10_4, yr_10_5, yr_10_6, yr_10_7, yr_10_8, yr_10_9, yr_10_10, yr_10_11, yo_11, yr_11_0, yr_11_1, yr_11_2, yr_11_3, yr_11_4, yn_13, ya_13, yo_14, yr_14_0, yr_14_1, yr_14_2, yr_14_3, ya_15, ya_16, yw_11_1, yw_11_4, yu_13, yw_14_3, yu_15, yu_16, e1, e3, e5]
          · simp (disch := omega) only [m_X12_leg, m_X12_leg_J30, m_X12_leg_J43, m_X12_leg_J63, Option.bind_some, plit, plit64, nI_add, pk_mul, if_true, if_false, or_true, true_or, oifT, Nat.one_ne_zero, ↓reduceIte, Nat.reduceLT, Nat.reduceLeDiff, Nat.reduceEqDiff, Nat.reduceAdd, Nat.reduceMul, Nat.reduceSub, Nat.reduceDiv, nI_eq, nI_leI, nI_ltI, yo_100, yr_100_0, yr_100_1, yr_100_2, yr_100_3, yr_100_4, yr_100_5, yr_100_6, yr_100_7, yr_100_8, yr_100_9, yr_100_10, yr_100_11, yr_100_12, yr_100_13, yr_100_14, yr_100_15, yr_100_16, yr_100_17, yr_100_18, yr_100_19, yr_100_20, yr_100_21, yr_100_22, yr_100_23, yr_100_24, yr_100_25, yr_100_26, yr_100_27, yr_100_28, ya_101, ya_102, ya_103, ya_104, ya_105, ya_106, ya_107, ya_108, ya_109, ya_110, ya_111, ya_112, ya_113, ya_114, ya_115, ya_116, ya_117, ya_118, ya_119, yw_100_2, yw_100_3, yw_100_5, yw_100_15, yw_100_20, yw_100_21, yw_100_22, yw_100_24, yw_100_25, yw_100_28, yu_101, yu_102, yu_103, yu_104, yu_105, yu_106, yu_107, yu_108, yu_109, yu_110, yu_111, yu_112, yu_113, yu_114, yu_115, yu_116, yu_117, yu_118, yu_119, e2, e4, e6, ef]
        · have e5 := wi_out (x := x) (m := 99) hx
          have e6 := in_out (x := x) (lo := 0) (hi := 99) (by omega)
          refine ⟨-nI 2, c, d, ?_, ?_, h⟩
          · simp (disch := omega) only [m_X11_leg, m_X11_leg_J27, m_X11_leg_J61, m_X11_leg_J89, Option.bind_some, plit, plit64, nI_add, pk_mul, if_true, if_false, or_true, true_or, oifT, Nat.one_ne_zero, ↓reduceIte, Nat.reduceLT, Nat.reduceLeDiff, Nat.reduceEqDiff, Nat.reduceAdd, Nat.reduceMul, Nat.reduceSub, Nat.reduceDiv, nI_eq, nI_leI, nI_ltI, yo_10, yr_10_0, yr_10_1, yr_10_2, yr_10_3, yr_10_4, yr_10_5, yr_10_6, yr_10_7, yr_10_8, yr_10_9, yr_10_10, yr_10_11, yo_11, yr_11_0, yr_11_1, yr_11_2, yr_11_3, yr_11_4, yn_13, ya_13, yo_14, yr_14_0, yr_14_1, yr_14_2, yr_14_3, ya_15, ya_16, yw_11_1, yw_11_4, yu_13, yw_14_3, yu_15, yu_16, e1, e3, e5]
          · simp (disch := omega) only [m_X12_leg, m_X12_leg_J30, m_X12_leg_J43, m_X12_leg_J63, Option.bind_some, plit, plit64, nI_add, pk_mul, if_true, if_false, or_true, true_or, oifT, Nat.one_ne_zero, ↓reduceIte, Nat.reduceLT, Nat.reduceLeDiff, Nat.reduceEqDiff, Nat.reduceAdd, Nat.reduceMul, Nat.reduceSub, Nat.reduceDiv, nI_eq, nI_leI, nI_ltI, yo_100, yr_100_0, yr_100_1, yr_100_2, yr_100_3, yr_100_4, yr_100_5, yr_100_6, yr_100_7, yr_100_8, yr_100_9, yr_100_10, yr_100_11, yr_100_12, yr_100_13, yr_100_14, yr_100_15, yr_100_16, yr_100_17, yr_100_18, yr_100_19, yr_100_20, yr_100_21, yr_100_22, yr_100_23, yr_100_24, yr_100_25, yr_100_26, yr_100_27, yr_100_28, ya_101, ya_102, ya_103, ya_104, ya_105, ya_106, ya_107, ya_108, ya_109, ya_110, ya_111, ya_112, ya_113, ya_114, ya_115, ya_116, ya_117, ya_118, ya_119, yw_100_2, yw_100_3, yw_100_5, yw_100_15, yw_100_20, yw_100_21, yw_100_22, yw_100_24, yw_100_25, yw_100_28, yu_101, yu_102, yu_103, yu_104, yu_105, yu_106, yu_107, yu_108, yu_109, yu_110, yu_111, yu_112, yu_113, yu_114, yu_115, yu_116, yu_117, yu_118, yu_119, e2, e4, e6]
    · have e3 := wi_out (x := b) (m := 1) hb
      have e4 := in_out (x := b) (lo := 0) (hi := 1) (by omega)
      refine ⟨-nI 1, c, d, ?_, ?_, h⟩
      · simp (disch := omega) only [m_X11_leg, Option.bind_some, plit, plit64, nI_add, pk_mul, if_true, if_false, or_true, true_or, oifT, Nat.one_ne_zero, ↓reduceIte, Nat.reduceLT, Nat.reduceLeDiff, Nat.reduceEqDiff, Nat.reduceAdd, Nat.reduceMul, Nat.reduceSub, Nat.reduceDiv, nI_eq, nI_leI, nI_ltI, yo_10, yr_10_0, yr_10_1, yr_10_2, yr_10_3, yr_10_4, yr_10_5, yr_10_6, yr_10_7, yr_10_8, yr_10_9, yr_10_10, yr_10_11, yo_11, yr_11_0, yr_11_1, yr_11_2, yr_11_3, yr_11_4, yn_13, ya_13, yo_14, yr_14_0, yr_14_1, yr_14_2, yr_14_3, ya_15, ya_16, e1, e3]
      · simp (disch := omega) only [m_X12_leg, Option.bind_some, plit, plit64, nI_add, pk_mul, if_true, if_false, or_true, true_or, oifT, Nat.one_ne_zero, ↓reduceIte, Nat.reduceLT, Nat.reduceLeDiff, Nat.reduceEqDiff, Nat.reduceAdd, Nat.reduceMul, Nat.reduceSub, Nat.reduceDiv, nI_eq, nI_leI, nI_ltI, yo_100, yr_100_0, yr_100_1, yr_100_2, yr_100_3, yr_100_4, yr_100_5, yr_100_6, yr_100_7, yr_100_8, yr_100_9, yr_100_10, yr_100_11, yr_100_12, yr_100_13, yr_100_14, yr_100_15, yr_100_16, yr_100_17, yr_100_18, yr_100_19, yr_100_20, yr_100_21, yr_100_22, yr_100_23, yr_100_24, yr_100_25, yr_100_26, yr_100_27, yr_100_28, ya_101, ya_102, ya_103, ya_104, ya_105, ya_106, ya_107, ya_108, ya_109, ya_110, ya_111, ya_112, ya_113, ya_114, ya_115, ya_116, ya_117, ya_118, ya_119, e2, e4]
  · have e1 := wi_out (x := a) (m := 3) ha
    have e2 := isLeg_out ha
    refine ⟨-nI 1, c, d, ?_, ?_, h⟩
    · simp (disch := omega) only [m_X11_leg, Option.bind_some, plit, plit64, nI_add, pk_mul, if_true, if_false, or_true, true_or, oifT, Nat.one_ne_zero, ↓reduceIte, Nat.reduceLT, Nat.reduceLeDiff, Nat.reduceEqDiff, Nat.reduceAdd, Nat.reduceMul, Nat.reduceSub, Nat.reduceDiv, nI_eq, nI_leI, nI_ltI, yo_10, yr_10_0, yr_10_1, yr_10_2, yr_10_3, yr_10_4, yr_10_5, yr_10_6, yr_10_7, yr_10_8, yr_10_9, yr_10_10, yr_10_11, yo_11, yr_11_0, yr_11_1, yr_11_2, yr_11_3, yr_11_4, yn_13, ya_13, yo_14, yr_14_0, yr_14_1, yr_14_2, yr_14_3, ya_15, ya_16, e1]
    · simp (disch := omega) only [m_X12_leg, Option.bind_some, plit, plit64, nI_add, pk_mul, if_true, if_false, or_true, true_or, oifT, Nat.one_ne_zero, ↓reduceIte, Nat.reduceLT, Nat.reduceLeDiff, Nat.reduceEqDiff, Nat.reduceAdd, Nat.reduceMul, Nat.reduceSub, Nat.reduceDiv, nI_eq, nI_leI, nI_ltI, yo_100, yr_100_0, yr_100_1, yr_100_2, yr_100_3, yr_100_4, yr_100_5, yr_100_6, yr_100_7, yr_100_8, yr_100_9, yr_100_10, yr_100_11, yr_100_12, yr_100_13, yr_100_14, yr_100_15, yr_100_16, yr_100_17, yr_100_18, yr_100_19, yr_100_20, yr_100_21, yr_100_22, yr_100_23, yr_100_24, yr_100_25, yr_100_26, yr_100_27, yr_100_28, ya_101, ya_102, ya_103, ya_104, ya_105, ya_106, ya_107, ya_108, ya_109, ya_110, ya_111, ya_112, ya_113, ya_114, ya_115, ya_116, ya_117, ya_118, ya_119, e2]
end
