-- shows, net, netCut on both sides
theorem hun_eq {k : Nat} : FP.ddiv (FP.i2d (nI k)) 4636737291354636288 = hundredth k := rfl
section
variable {c : CS} {d : MS} {D : mM} {N k : Nat} {a : Int32} {P : PL}
theorem xshow_go (h1 : c.pl.rules 1 ≤ 50) (h2 : c.pl.rules 2 ≤ 50) {t : Nat} (ht : t ≤ 20) : ∀ n j : Nat, j ≤ t → t - j < n → m_X5_showing_L32 N (mk c d D) n (nI t) (FP.dsub FP.dconst1 (hundredth (c.pl.rules 1))) (showD c.pl j) (nI j) = some (showD c.pl t) := by
  intro n
  induction n with
  | zero => intro j _ h; omega
  | succ n ih =>
    intro j hj hn
    unfold m_X5_showing_L32
    by_cases e : j = t
    · subst e
      rw [if_pos (nI_le (by omega) (by omega))]
    · rw [if_neg (by rw [nI_leI (by omega) (by omega)]; omega)]
      have e2 : FP.dmul (showD c.pl j) (FP.dsub FP.dconst1 (hundredth (c.pl.rules 1))) = showD c.pl (j + 1) := rfl
      rw [e2, oD_fin (show_dp h1 h2 (j + 1) (by omega)).1.1, Option.bind_some, nI_1]
      exact ih (j + 1) (by omega) (by omega)
theorem xshow (h1 : c.pl.rules 1 ≤ 50) (h2 : c.pl.rules 2 ≤ 50) {t : Nat} (ht : t ≤ 20) (hN : 100 ≤ N) : m_X5_showing N 11 (nI t) (mk c d D) = some (showD c.pl t) := by
  have g := xshow_go (d := d) (D := D) (N := N) h1 h2 ht N 0 (by omega) (by omega)
  have f1 := oD_fin (hu_dn (k := c.pl.rules 1) (by omega)).1
  have f2 := oD_fin (hu_dn (k := c.pl.rules 2) (by omega)).1
  have f3 := oD_fin (st_dp h1).1
  have f4 := oD_fin (st_dp h2).1
  have e : showD c.pl 0 = FP.dsub FP.dconst1 (hundredth (c.pl.rules 2)) := rfl
  rw [e] at g
  simp (disch := omega) only [m_X5_showing, Option.bind_some, plit, plit64, nI_add, pk_mul, if_true, if_false, or_true, true_or, oifT, Nat.one_ne_zero, ↓reduceIte, Nat.reduceLT, Nat.reduceLeDiff, Nat.reduceEqDiff, Nat.reduceAdd, Nat.reduceMul, Nat.reduceSub, Nat.reduceDiv, yo_10, yr_10_0, yr_10_1, yr_10_2, yr_10_3, yr_10_4, yr_10_5, yr_10_6, yr_10_7, yr_10_8, yr_10_9, yr_10_10, yr_10_11, yo_11, yr_11_0, yr_11_1, yr_11_2, yr_11_3, yr_11_4, yn_13, ya_13, yo_14, yr_14_0, yr_14_1, yr_14_2, yr_14_3, ya_15, ya_16, hun_eq, f1, f2, f3, f4, g]
theorem yshow_go (h1 : P.rules 1 ≤ 50) (h2 : P.rules 2 ≤ 50) {t : Nat} (ht : t ≤ 20) : ∀ n j : Nat, j ≤ t → t - j < n → m_X12_showing_L32 N (mk c d D) n (nI t) (FP.dsub FP.dconst1 (hundredth (P.rules 1))) (showD P j) (nI j) = some (showD P t) := by
  intro n
  induction n with
  | zero => intro j _ h; omega
  | succ n ih =>
    intro j hj hn
    unfold m_X12_showing_L32
    by_cases e : j = t
    · subst e
      rw [if_pos (nI_le (by omega) (by omega))]
    · rw [if_neg (by rw [nI_leI (by omega) (by omega)]; omega)]
      have e2 : FP.dmul (showD P j) (FP.dsub FP.dconst1 (hundredth (P.rules 1))) = showD P (j + 1) := rfl
      rw [e2, oD_fin (show_dp h1 h2 (j + 1) (by omega)).1.1, Option.bind_some, nI_1]
      exact ih (j + 1) (by omega) (by omega)
theorem yshow (hP : PR P d.now) {t : Nat} (ht : t ≤ 20) (hN : 100 ≤ N) : m_X12_showing N 100 (nI t) (mk c d D) = some (showD P t) := by
  have h1 := hP.r1
  have h2 := hP.r2
  have g := yshow_go (c := c) (d := d) (D := D) (N := N) h1 h2 ht N 0 (by omega) (by omega)
  have f1 := oD_fin (hu_dn (k := P.rules 1) (by omega)).1
  have f2 := oD_fin (hu_dn (k := P.rules 2) (by omega)).1
  have f3 := oD_fin (st_dp h1).1
  have f4 := oD_fin (st_dp h2).1
  have e : showD P 0 = FP.dsub FP.dconst1 (hundredth (P.rules 2)) := rfl
  rw [e] at g
  simp (disch := omega) only [m_X12_showing, Option.bind_some, plit, plit64, nI_add, pk_mul, if_true, if_false, or_true, true_or, oifT, Nat.one_ne_zero, ↓reduceIte, Nat.reduceLT, Nat.reduceLeDiff, Nat.reduceEqDiff, Nat.reduceAdd, Nat.reduceMul, Nat.reduceSub, Nat.reduceDiv, yo_100, yr_100_0, yr_100_1, yr_100_2, yr_100_3, yr_100_4, yr_100_5, yr_100_6, yr_100_7, yr_100_8, yr_100_9, yr_100_10, yr_100_11, yr_100_12, yr_100_13, yr_100_14, yr_100_15, yr_100_16, yr_100_17, yr_100_18, yr_100_19, yr_100_20, yr_100_21, yr_100_22, yr_100_23, yr_100_24, yr_100_25, yr_100_26, yr_100_27, yr_100_28, ya_101, ya_102, ya_103, ya_104, ya_105, ya_106, ya_107, ya_108, ya_109, ya_110, ya_111, ya_112, ya_113, ya_114, ya_115, ya_116, ya_117, ya_118, ya_119, hP.r1_, hP.r2_, hun_eq, f1, f2, f3, f4, g]
theorem keep_x : ∀ k, k < 4 → (zK2 k).bind (fun x7 => (oD (FP.ddiv (FP.i2d x7) 4616189618054758400))) = some (keepD k) := by decide +kernel
theorem keep_x2 {k : Nat} (h : k < 4) : ∃ q, zK2 k = some q ∧ oD (FP.ddiv (FP.i2d q) 4616189618054758400) = some (keepD k) := by
  have := keep_x k h
  obtain ⟨q, q1, q2⟩ := Option.bind_eq_some_iff.mp this
  exact ⟨q, q1, q2⟩
theorem keep_y : ∀ k, k < 4 → m_X12_keeps (nI k) = some (keepD k) := by decide +kernel
theorem xnet (h1 : c.pl.rules 1 ≤ 50) (h2 : c.pl.rules 2 ≤ 50) {f t : Nat} (hf : f < 6) (ht : t ≤ 20) (hp : 1 ≤ c.pl.price f) (hp2 : c.pl.price f ≤ 9999) (hk : c.pl.kind f < 4) : m_X5_netBy 11 (nI f) (showD c.pl t) (mk c d D) = some (netD c.pl f t) := by
  obtain ⟨n1, n2, n3, n4⟩ := net_parts h1 h2 ht hp hp2 hk
  obtain ⟨q, q1, q2⟩ := keep_x2 hk
  have f1 := oD_fin n1.1
  have f2 := oD_fin n2.1
  have f3 := oD_fin n3.1
  have f4 := oD_fin n4.1
  have e : FP.dmul (FP.i2d (nI (c.pl.price f))) (FP.dadd (showD c.pl t) (FP.dmul (FP.dsub FP.dconst1 (showD c.pl t)) (keepD (c.pl.kind f)))) = netD c.pl f t := rfl
  simp (disch := omega) only [m_X5_netBy, Option.bind_some, plit, plit64, nI_add, pk_mul, if_true, if_false, or_true, true_or, oifT, Nat.one_ne_zero, ↓reduceIte, Nat.reduceLT, Nat.reduceLeDiff, Nat.reduceEqDiff, Nat.reduceAdd, Nat.reduceMul, Nat.reduceSub, Nat.reduceDiv, yo_10, yr_10_0, yr_10_1, yr_10_2, yr_10_3, yr_10_4, yr_10_5, yr_10_6, yr_10_7, yr_10_8, yr_10_9, yr_10_10, yr_10_11, yo_11, yr_11_0, yr_11_1, yr_11_2, yr_11_3, yr_11_4, yn_13, ya_13, yo_14, yr_14_0, yr_14_1, yr_14_2, yr_14_3, ya_15, ya_16, yfar_R, yfo, yf_0, yf_1, yf_2, yf_3, yfoa, q1, q2, f1, f2, f3, e, f4]
theorem ynet (hP : PR P d.now) {f t : Nat} (hf : f < P.n) (ht : t ≤ 20) (hN : 100 ≤ N) : m_X12_netOf N 100 (nI f) (nI t) (mk c d D) = some (netD P f t) := by
  have hn := hP.n
  obtain ⟨n1, n2, n3, n4⟩ := net_parts hP.r1 hP.r2 ht (hP.pp hf) (hP.p (by omega)) (hP.k (by omega))
  have f1 := oD_fin n1.1
  have f2 := oD_fin n2.1
  have f3 := oD_fin n3.1
  have f4 := oD_fin n4.1
  have s1 := yshow (c := c) (D := D) (N := N) hP ht hN
  have k1 := keep_y (P.kind f) (hP.k (by omega))
  have p1 := yprice (c := c) (D := D) hP (i := f) (by omega)
  have kr := hP.k_ (i := f) (by omega)
  have e : FP.dmul (FP.i2d (nI (P.price f))) (FP.dadd (showD P t) (FP.dmul (FP.dsub FP.dconst1 (showD P t)) (keepD (P.kind f)))) = netD P f t := rfl
  simp (disch := omega) only [m_X12_netOf, Option.bind_some, plit, plit64, nI_add, pk_mul, if_true, if_false, or_true, true_or, oifT, Nat.one_ne_zero, ↓reduceIte, Nat.reduceLT, Nat.reduceLeDiff, Nat.reduceEqDiff, Nat.reduceAdd, Nat.reduceMul, Nat.reduceSub, Nat.reduceDiv, yo_100, yr_100_0, yr_100_1, yr_100_2, yr_100_3, yr_100_4, yr_100_5, yr_100_6, yr_100_7, yr_100_8, yr_100_9, yr_100_10, yr_100_11, yr_100_12, yr_100_13, yr_100_14, yr_100_15, yr_100_16, yr_100_17, yr_100_18, yr_100_19, yr_100_20, yr_100_21, yr_100_22, yr_100_23, yr_100_24, yr_100_25, yr_100_26, yr_100_27, yr_100_28, ya_101, ya_102, ya_103, ya_104, ya_105, ya_106, ya_107, ya_108, ya_109, ya_110, ya_111, ya_112, ya_113, ya_114, ya_115, ya_116, ya_117, ya_118, ya_119, s1, p1, kr, k1, f1, f2, f3, e, f4]
theorem isStage_in {i : Nat} (h : i ≤ 20) : m_X12_isStage (nI i) = some (nI 1) := by
  have e := in_in (k := i) (lo := 0) (hi := 20) (by omega) h
  simp only [m_X12_isStage, Option.bind_some, plit, plit64, nI_add, pk_mul, if_true, if_false, or_true, true_or, oifT, Nat.one_ne_zero, ↓reduceIte, Nat.reduceLT, Nat.reduceLeDiff, Nat.reduceEqDiff, Nat.reduceAdd, Nat.reduceMul, Nat.reduceSub, Nat.reduceDiv, e]
theorem isStage_out {x : Int32} (h : x.toInt < 0 ∨ 20 < x.toInt) : m_X12_isStage x = some (nI 0) := by
  have e := in_out (x := x) (lo := 0) (hi := 20) (by omega)
  simp only [m_X12_isStage, Option.bind_some, plit, plit64, nI_add, pk_mul, if_true, if_false, or_true, true_or, oifT, Nat.one_ne_zero, ↓reduceIte, Nat.reduceLT, Nat.reduceLeDiff, Nat.reduceEqDiff, Nat.reduceAdd, Nat.reduceMul, Nat.reduceSub, Nat.reduceDiv, true_or, e]
theorem p_shows (h : RR c d D) (hN : 100 ≤ N) (a : Int32) : ∃ r, m_X11_shows N 10 a (mk c d D) = some r ∧ m_X12_shows N 100 a (mk c d D) = some r := by
  have hP := h.1
  rcases rg a 20 with ⟨t, ht, rfl⟩ | ha
  · have e1 := wi_in (k := t) (m := 20) ht
    have e2 := isStage_in ht
    have s1 := xshow (d := d) (D := D) hP.r1 hP.r2 ht hN
    have s2 := yshow (c := c) (D := D) (N := N) hP ht hN
    have dd := (show_dp hP.r1 hP.r2 t ht).1
    have b1 := bits_Dn (N := N) (by omega) dd.dn (by omega) (tp_mono (by omega))
    have b2 := dlb dd.1
    refine ⟨(showD c.pl t).toInt64, ?_, ?_⟩
    · simp (disch := omega) only [m_X11_shows, Option.bind_some, plit, plit64, nI_add, pk_mul, if_true, if_false, or_true, true_or, oifT, Nat.one_ne_zero, ↓reduceIte, Nat.reduceLT, Nat.reduceLeDiff, Nat.reduceEqDiff, Nat.reduceAdd, Nat.reduceMul, Nat.reduceSub, Nat.reduceDiv, nI_eq, nI_leI, nI_ltI, nI_neg, neg_eq, yo_10, yr_10_0, yr_10_1, yr_10_2, yr_10_3, yr_10_4, yr_10_5, yr_10_6, yr_10_7, yr_10_8, yr_10_9, yr_10_10, yr_10_11, yo_11, yr_11_0, yr_11_1, yr_11_2, yr_11_3, yr_11_4, yn_13, ya_13, yo_14, yr_14_0, yr_14_1, yr_14_2, yr_14_3, ya_15, ya_16, e1, s1, b1]
    · simp (disch := omega) only [m_X12_shows, Option.bind_some, plit, plit64, nI_add, pk_mul, if_true, if_false, or_true, true_or, oifT, Nat.one_ne_zero, ↓reduceIte, Nat.reduceLT, Nat.reduceLeDiff, Nat.reduceEqDiff, Nat.reduceAdd, Nat.reduceMul, Nat.reduceSub, Nat.reduceDiv, nI_eq, nI_leI, nI_ltI, nI_neg, neg_eq, yo_100, yr_100_0, yr_100_1, yr_100_2, yr_100_3, yr_100_4, yr_100_5, yr_100_6, yr_100_7, yr_100_8, yr_100_9, yr_100_10, yr_100_11, yr_100_12, yr_100_13, yr_100_14, yr_100_15, yr_100_16, yr_100_17, yr_100_18, yr_100_19, yr_100_20, yr_100_21, yr_100_22, yr_100_23, yr_100_24, yr_100_25, yr_100_26, yr_100_27, yr_100_28, ya_101, ya_102, ya_103, ya_104, ya_105, ya_106, ya_107, ya_108, ya_109, ya_110, ya_111, ya_112, ya_113, ya_114, ya_115, ya_116, ya_117, ya_118, ya_119, e2, s2, b2]
  · have e1 := wi_out (x := a) (m := 20) ha
    have e2 := isStage_out ha
    refine ⟨-9223372036854775808, ?_, ?_⟩
    · simp (disch := omega) only [m_X11_shows, Option.bind_some, plit, plit64, nI_add, pk_mul, if_true, if_false, or_true, true_or, oifT, Nat.one_ne_zero, ↓reduceIte, Nat.reduceLT, Nat.reduceLeDiff, Nat.reduceEqDiff, Nat.reduceAdd, Nat.reduceMul, Nat.reduceSub, Nat.reduceDiv, nI_eq, nI_leI, nI_ltI, nI_neg, neg_eq, yo_10, yr_10_0, yr_10_1, yr_10_2, yr_10_3, yr_10_4, yr_10_5, yr_10_6, yr_10_7, yr_10_8, yr_10_9, yr_10_10, yr_10_11, yo_11, yr_11_0, yr_11_1, yr_11_2, yr_11_3, yr_11_4, yn_13, ya_13, yo_14, yr_14_0, yr_14_1, yr_14_2, yr_14_3, ya_15, ya_16, e1]
    · simp (disch := omega) only [m_X12_shows, Option.bind_some, plit, plit64, nI_add, pk_mul, if_true, if_false, or_true, true_or, oifT, Nat.one_ne_zero, ↓reduceIte, Nat.reduceLT, Nat.reduceLeDiff, Nat.reduceEqDiff, Nat.reduceAdd, Nat.reduceMul, Nat.reduceSub, Nat.reduceDiv, nI_eq, nI_leI, nI_ltI, nI_neg, neg_eq, yo_100, yr_100_0, yr_100_1, yr_100_2, yr_100_3, yr_100_4, yr_100_5, yr_100_6, yr_100_7, yr_100_8, yr_100_9, yr_100_10, yr_100_11, yr_100_12, yr_100_13, yr_100_14, yr_100_15, yr_100_16, yr_100_17, yr_100_18, yr_100_19, yr_100_20, yr_100_21, yr_100_22, yr_100_23, yr_100_24, yr_100_25, yr_100_26, yr_100_27, yr_100_28, ya_101, ya_102, ya_103, ya_104, ya_105, ya_106, ya_107, ya_108, ya_109, ya_110, ya_111, ya_112, ya_113, ya_114, ya_115, ya_116, ya_117, ya_118, ya_119, e2]
theorem p_net (h : RR c d D) (hN : 100 ≤ N) (a b : Int32) : ∃ r, m_X11_net N 10 a b (mk c d D) = some r ∧ m_X12_net N 100 a b (mk c d D) = some r := by
  have hP := h.1
  have hn := hP.n
  rcases rgS a c.pl.n with ⟨k, hk, rfl⟩ | ha
  · have e1 := xhf_in (d := d) (D := D) hk hn
    have e2 := yif_in (c := c) (D := D) hk hP
    rcases rg b 20 with ⟨t, ht, rfl⟩ | hb
    · have e3 := wi_in (k := t) (m := 20) ht
      have e4 := isStage_in ht
      have s1 := xshow (d := d) (D := D) hP.r1 hP.r2 ht hN
      have s2 := xnet (d := d) (D := D) hP.r1 hP.r2 (f := k) (by omega) ht (hP.pp hk) (hP.p (by omega)) (hP.k (by omega))
      have s3 := ynet (c := c) (D := D) (N := N) hP hk ht hN
      have dd := (net_parts hP.r1 hP.r2 ht (hP.pp hk) (hP.p (by omega)) (hP.k (by omega))).2.2.2
      have b1 := bits_Dn (N := N) (by omega) dd.dn (by omega) (by
        have := tp_mono (a := 1089) (b := 1106) (by omega)
        have e : tp 1089 = 32768 * tp 1074 := by rw [show (1089 : Nat) = 15 + 1074 from rfl, tp_add]; rfl
        have := tp_pos 1074
        omega)
      have b2 := dlb dd.1
      refine ⟨(netD c.pl k t).toInt64, ?_, ?_⟩
      · simp (disch := omega) only [m_X11_net, Option.bind_some, plit, plit64, nI_add, pk_mul, if_true, if_false, or_true, true_or, oifT, Nat.one_ne_zero, ↓reduceIte, Nat.reduceLT, Nat.reduceLeDiff, Nat.reduceEqDiff, Nat.reduceAdd, Nat.reduceMul, Nat.reduceSub, Nat.reduceDiv, nI_eq, nI_leI, nI_ltI, nI_neg, neg_eq, yo_10, yr_10_0, yr_10_1, yr_10_2, yr_10_3, yr_10_4, yr_10_5, yr_10_6, yr_10_7, yr_10_8, yr_10_9, yr_10_10, yr_10_11, yo_11, yr_11_0, yr_11_1, yr_11_2, yr_11_3, yr_11_4, yn_13, ya_13, yo_14, yr_14_0, yr_14_1, yr_14_2, yr_14_3, ya_15, ya_16, e1, e3, s1, s2, b1]
      · simp (disch := omega) only [m_X12_net, Option.bind_some, plit, plit64, nI_add, pk_mul, if_true, if_false, or_true, true_or, oifT, Nat.one_ne_zero, ↓reduceIte, Nat.reduceLT, Nat.reduceLeDiff, Nat.reduceEqDiff, Nat.reduceAdd, Nat.reduceMul, Nat.reduceSub, Nat.reduceDiv, nI_eq, nI_leI, nI_ltI, nI_neg, neg_eq, yo_100, yr_100_0, yr_100_1, yr_100_2, yr_100_3, yr_100_4, yr_100_5, yr_100_6, yr_100_7, yr_100_8, yr_100_9, yr_100_10, yr_100_11, yr_100_12, yr_100_13, yr_100_14, yr_100_15, yr_100_16, yr_100_17, yr_100_18, yr_100_19, yr_100_20, yr_100_21, yr_100_22, yr_100_23, yr_100_24, yr_100_25, yr_100_26, yr_100_27, yr_100_28, ya_101, ya_102, ya_103, ya_104, ya_105, ya_106, ya_107, ya_108, ya_109, ya_110, ya_111, ya_112, ya_113, ya_114, ya_115, ya_116, ya_117, ya_118, ya_119, e2, e4, s3, b2]
    · have e3 := wi_out (x := b) (m := 20) hb
      have e4 := isStage_out hb
      refine ⟨-9223372036854775808, ?_, ?_⟩
      · simp (disch := omega) only [m_X11_net, Option.bind_some, plit, plit64, nI_add, pk_mul, if_true, if_false, or_true, true_or, oifT, Nat.one_ne_zero, ↓reduceIte, Nat.reduceLT, Nat.reduceLeDiff, Nat.reduceEqDiff, Nat.reduceAdd, Nat.reduceMul, Nat.reduceSub, Nat.reduceDiv, nI_eq, nI_leI, nI_ltI, nI_neg, neg_eq, yo_10, yr_10_0, yr_10_1, yr_10_2, yr_10_3, yr_10_4, yr_10_5, yr_10_6, yr_10_7, yr_10_8, yr_10_9, yr_10_10, yr_10_11, yo_11, yr_11_0, yr_11_1, yr_11_2, yr_11_3, yr_11_4, yn_13, ya_13, yo_14, yr_14_0, yr_14_1, yr_14_2, yr_14_3, ya_15, ya_16, e1, e3]
      · simp (disch := omega) only [m_X12_net, Option.bind_some, plit, plit64, nI_add, pk_mul, if_true, if_false, or_true, true_or, oifT, Nat.one_ne_zero, ↓reduceIte, Nat.reduceLT, Nat.reduceLeDiff, Nat.reduceEqDiff, Nat.reduceAdd, Nat.reduceMul, Nat.reduceSub, Nat.reduceDiv, nI_eq, nI_leI, nI_ltI, nI_neg, neg_eq, yo_100, yr_100_0, yr_100_1, yr_100_2, yr_100_3, yr_100_4, yr_100_5, yr_100_6, yr_100_7, yr_100_8, yr_100_9, yr_100_10, yr_100_11, yr_100_12, yr_100_13, yr_100_14, yr_100_15, yr_100_16, yr_100_17, yr_100_18, yr_100_19, yr_100_20, yr_100_21, yr_100_22, yr_100_23, yr_100_24, yr_100_25, yr_100_26, yr_100_27, yr_100_28, ya_101, ya_102, ya_103, ya_104, ya_105, ya_106, ya_107, ya_108, ya_109, ya_110, ya_111, ya_112, ya_113, ya_114, ya_115, ya_116, ya_117, ya_118, ya_119, e2, e4]
  · have e1 := xhf_out (d := d) (D := D) ha hn
    have e2 := yif_out (c := c) (D := D) ha hP
    refine ⟨-9223372036854775808, ?_, ?_⟩
    · simp (disch := omega) only [m_X11_net, Option.bind_some, plit, plit64, nI_add, pk_mul, if_true, if_false, or_true, true_or, oifT, Nat.one_ne_zero, ↓reduceIte, Nat.reduceLT, Nat.reduceLeDiff, Nat.reduceEqDiff, Nat.reduceAdd, Nat.reduceMul, Nat.reduceSub, Nat.reduceDiv, nI_eq, nI_leI, nI_ltI, nI_neg, neg_eq, yo_10, yr_10_0, yr_10_1, yr_10_2, yr_10_3, yr_10_4, yr_10_5, yr_10_6, yr_10_7, yr_10_8, yr_10_9, yr_10_10, yr_10_11, yo_11, yr_11_0, yr_11_1, yr_11_2, yr_11_3, yr_11_4, yn_13, ya_13, yo_14, yr_14_0, yr_14_1, yr_14_2, yr_14_3, ya_15, ya_16, e1]
    · simp (disch := omega) only [m_X12_net, Option.bind_some, plit, plit64, nI_add, pk_mul, if_true, if_false, or_true, true_or, oifT, Nat.one_ne_zero, ↓reduceIte, Nat.reduceLT, Nat.reduceLeDiff, Nat.reduceEqDiff, Nat.reduceAdd, Nat.reduceMul, Nat.reduceSub, Nat.reduceDiv, nI_eq, nI_leI, nI_ltI, nI_neg, neg_eq, yo_100, yr_100_0, yr_100_1, yr_100_2, yr_100_3, yr_100_4, yr_100_5, yr_100_6, yr_100_7, yr_100_8, yr_100_9, yr_100_10, yr_100_11, yr_100_12, yr_100_13, yr_100_14, yr_100_15, yr_100_16, yr_100_17, yr_100_18, yr_100_19, yr_100_20, yr_100_21, yr_100_22, yr_100_23, yr_100_24, yr_100_25, yr_100_26, yr_100_27, yr_100_28, ya_101, ya_102, ya_103, ya_104, ya_105, ya_106, ya_107, ya_108, ya_109, ya_110, ya_111, ya_112, ya_113, ya_114, ya_115, ya_116, ya_117, ya_118, ya_119, e2]
theorem p_netCut (h : RR c d D) (hN : 100 ≤ N) (a b : Int32) : ∃ r, m_X11_netCut N 10 a b (mk c d D) = some r ∧ m_X12_netCut N 100 a b (mk c d D) = some r := by
  have hP := h.1
  have hn := hP.n
  rcases rgS a c.pl.n with ⟨k, hk, rfl⟩ | ha
  · have e1 := xhf_in (d := d) (D := D) hk hn
    have e2 := yif_in (c := c) (D := D) hk hP
    rcases rg b 20 with ⟨t, ht, rfl⟩ | hb
    · have e3 := wi_in (k := t) (m := 20) ht
      have e4 := isStage_in ht
      have s1 := xshow (d := d) (D := D) hP.r1 hP.r2 ht hN
      have s2 := xnet (d := d) (D := D) hP.r1 hP.r2 (f := k) (by omega) ht (hP.pp hk) (hP.p (by omega)) (hP.k (by omega))
      have s3 := ynet (c := c) (D := D) (N := N) hP hk ht hN
      refine ⟨FP.d2i (netD c.pl k t), ?_, ?_⟩
      · simp (disch := omega) only [m_X11_netCut, Option.bind_some, plit, plit64, nI_add, pk_mul, if_true, if_false, or_true, true_or, oifT, Nat.one_ne_zero, ↓reduceIte, Nat.reduceLT, Nat.reduceLeDiff, Nat.reduceEqDiff, Nat.reduceAdd, Nat.reduceMul, Nat.reduceSub, Nat.reduceDiv, nI_eq, nI_leI, nI_ltI, nI_neg, neg_eq, yo_10, yr_10_0, yr_10_1, yr_10_2, yr_10_3, yr_10_4, yr_10_5, yr_10_6, yr_10_7, yr_10_8, yr_10_9, yr_10_10, yr_10_11, yo_11, yr_11_0, yr_11_1, yr_11_2, yr_11_3, yr_11_4, yn_13, ya_13, yo_14, yr_14_0, yr_14_1, yr_14_2, yr_14_3, ya_15, ya_16, e1, e3, s1, s2]
      · simp (disch := omega) only [m_X12_netCut, Option.bind_some, plit, plit64, nI_add, pk_mul, if_true, if_false, or_true, true_or, oifT, Nat.one_ne_zero, ↓reduceIte, Nat.reduceLT, Nat.reduceLeDiff, Nat.reduceEqDiff, Nat.reduceAdd, Nat.reduceMul, Nat.reduceSub, Nat.reduceDiv, nI_eq, nI_leI, nI_ltI, nI_neg, neg_eq, yo_100, yr_100_0, yr_100_1, yr_100_2, yr_100_3, yr_100_4, yr_100_5, yr_100_6, yr_100_7, yr_100_8, yr_100_9, yr_100_10, yr_100_11, yr_100_12, yr_100_13, yr_100_14, yr_100_15, yr_100_16, yr_100_17, yr_100_18, yr_100_19, yr_100_20, yr_100_21, yr_100_22, yr_100_23, yr_100_24, yr_100_25, yr_100_26, yr_100_27, yr_100_28, ya_101, ya_102, ya_103, ya_104, ya_105, ya_106, ya_107, ya_108, ya_109, ya_110, ya_111, ya_112, ya_113, ya_114, ya_115, ya_116, ya_117, ya_118, ya_119, e2, e4, s3]
    · have e3 := wi_out (x := b) (m := 20) hb
      have e4 := isStage_out hb
      refine ⟨-nI 1, ?_, ?_⟩
      · simp (disch := omega) only [m_X11_netCut, Option.bind_some, plit, plit64, nI_add, pk_mul, if_true, if_false, or_true, true_or, oifT, Nat.one_ne_zero, ↓reduceIte, Nat.reduceLT, Nat.reduceLeDiff, Nat.reduceEqDiff, Nat.reduceAdd, Nat.reduceMul, Nat.reduceSub, Nat.reduceDiv, nI_eq, nI_leI, nI_ltI, nI_neg, neg_eq, yo_10, yr_10_0, yr_10_1, yr_10_2, yr_10_3, yr_10_4, yr_10_5, yr_10_6, yr_10_7, yr_10_8, yr_10_9, yr_10_10, yr_10_11, yo_11, yr_11_0, yr_11_1, yr_11_2, yr_11_3, yr_11_4, yn_13, ya_13, yo_14, yr_14_0, yr_14_1, yr_14_2, yr_14_3, ya_15, ya_16, e1, e3]
      · simp (disch := omega) only [m_X12_netCut, Option.bind_some, plit, plit64, nI_add, pk_mul, if_true, if_false, or_true, true_or, oifT, Nat.one_ne_zero, ↓reduceIte, Nat.reduceLT, Nat.reduceLeDiff, Nat.reduceEqDiff, Nat.reduceAdd, Nat.reduceMul, Nat.reduceSub, Nat.reduceDiv, nI_eq, nI_leI, nI_ltI, nI_neg, neg_eq, yo_100, yr_100_0, yr_100_1, yr_100_2, yr_100_3, yr_100_4, yr_100_5, yr_100_6, yr_100_7, yr_100_8, yr_100_9, yr_100_10, yr_100_11, yr_100_12, yr_100_13, yr_100_14, yr_100_15, yr_100_16, yr_100_17, yr_100_18, yr_100_19, yr_100_20, yr_100_21, yr_100_22, yr_100_23, yr_100_24, yr_100_25, yr_100_26, yr_100_27, yr_100_28, ya_101, ya_102, ya_103, ya_104, ya_105, ya_106, ya_107, ya_108, ya_109, ya_110, ya_111, ya_112, ya_113, ya_114, ya_115, ya_116, ya_117, ya_118, ya_119, e2, e4]
  · have e1 := xhf_out (d := d) (D := D) ha hn
    have e2 := yif_out (c := c) (D := D) ha hP
    refine ⟨-nI 1, ?_, ?_⟩
    · simp (disch := omega) only [m_X11_netCut, Option.bind_some, plit, plit64, nI_add, pk_mul, if_true, if_false, or_true, true_or, oifT, Nat.one_ne_zero, ↓reduceIte, Nat.reduceLT, Nat.reduceLeDiff, Nat.reduceEqDiff, Nat.reduceAdd, Nat.reduceMul, Nat.reduceSub, Nat.reduceDiv, nI_eq, nI_leI, nI_ltI, nI_neg, neg_eq, yo_10, yr_10_0, yr_10_1, yr_10_2, yr_10_3, yr_10_4, yr_10_5, yr_10_6, yr_10_7, yr_10_8, yr_10_9, yr_10_10, yr_10_11, yo_11, yr_11_0, yr_11_1, yr_11_2, yr_11_3, yr_11_4, yn_13, ya_13, yo_14, yr_14_0, yr_14_1, yr_14_2, yr_14_3, ya_15, ya_16, e1]
    · simp (disch := omega) only [m_X12_netCut, Option.bind_some, plit, plit64, nI_add, pk_mul, if_true, if_false, or_true, true_or, oifT, Nat.one_ne_zero, ↓reduceIte, Nat.reduceLT, Nat.reduceLeDiff, Nat.reduceEqDiff, Nat.reduceAdd, Nat.reduceMul, Nat.reduceSub, Nat.reduceDiv, nI_eq, nI_leI, nI_ltI, nI_neg, neg_eq, yo_100, yr_100_0, yr_100_1, yr_100_2, yr_100_3, yr_100_4, yr_100_5, yr_100_6, yr_100_7, yr_100_8, yr_100_9, yr_100_10, yr_100_11, yr_100_12, yr_100_13, yr_100_14, yr_100_15, yr_100_16, yr_100_17, yr_100_18, yr_100_19, yr_100_20, yr_100_21, yr_100_22, yr_100_23, yr_100_24, yr_100_25, yr_100_26, yr_100_27, yr_100_28, ya_101, ya_102, ya_103, ya_104, ya_105, ya_106, ya_107, ya_108, ya_109, ya_110, ya_111, ya_112, ya_113, ya_114, ya_115, ya_116, ya_117, ya_118, ya_119, e2]
end
