-- the reference's chances
section
variable {c : CS} {d : MS} {D : mM} {N k : Nat} {a : Int32} {P : PL}
theorem ych_in {b i : Nat} (hb : b ≤ 40) (hi : i < b) {r : Nat → UInt64} {x : UInt64} (hm : FP.Core.DFin (FP.dsub FP.dconst1 x)) (F1 : ∀ k, FP.Core.DFin (FP.dmul (r k) (FP.dsub FP.dconst1 x))) (F2 : ∀ k, FP.Core.DFin (FP.dmul (r k) x)) (F3 : ∀ k j, FP.Core.DFin (FP.dadd (FP.dmul (r k) (FP.dsub FP.dconst1 x)) (FP.dmul (r j) x))) {kk : Nat → Int32 → UInt64 → Int32 → mM → Option mM} : ∀ (n j : Nat) (d : MS), 1 ≤ j → j ≤ i + 1 → i + 1 - j < n → (∀ k, k ≤ i → d.fewer k = r k) → (∀ k, k < j → d.chances k = stepR (i + 1) r (FP.dsub FP.dconst1 x) x k) → ∃ ch : Nat → UInt64, m_X12_chances_L71 N kk n 100 (nI b) x (nI (i + 1)) (nI j) (mk c d D) = kk 100 (nI b) x (nI (i + 1 + 1)) (mk c (d.s_chances ch) D) ∧ (∀ k, k ≤ i + 1 → ch k = stepR (i + 1) r (FP.dsub FP.dconst1 x) x k) := by
  intro n
  induction n with
  | zero => intro j d _ _ h; omega
  | succ n ih =>
    intro j d h1 hj hn hf hc
    have o0 := oD_fin hm
    unfold m_X12_chances_L71
    by_cases e : j = i + 1
    · subst e
      have f0 := hf i (Nat.le_refl _)
      have o1 := oD_fin (F2 i)
      refine ⟨va_up d.chances (i + 1) (FP.dmul (r i) x), ?_, fun k hk => ?_⟩
      · simp (disch := omega) only [Option.bind_some, plit, plit64, nI_add, pk_mul, if_true, if_false, or_true, true_or, oifT, Nat.one_ne_zero, ↓reduceIte, Nat.reduceLT, Nat.reduceLeDiff, Nat.reduceEqDiff, Nat.reduceAdd, Nat.reduceMul, Nat.reduceSub, Nat.reduceDiv, nI_eq, nI_leI, nI_ltI, nI_neg, neg_eq, yo_100, yr_100_0, yr_100_1, yr_100_2, yr_100_3, yr_100_4, yr_100_5, yr_100_6, yr_100_7, yr_100_8, yr_100_9, yr_100_10, yr_100_11, yr_100_12, yr_100_13, yr_100_14, yr_100_15, yr_100_16, yr_100_17, yr_100_18, yr_100_19, yr_100_20, yr_100_21, yr_100_22, yr_100_23, yr_100_24, yr_100_25, yr_100_26, yr_100_27, yr_100_28, ya_101, ya_102, ya_103, ya_104, ya_105, ya_106, ya_107, ya_108, ya_109, ya_110, ya_111, ya_112, ya_113, ya_114, ya_115, ya_116, ya_117, ya_118, ya_119, yw_100_2, yw_100_3, yw_100_5, yw_100_15, yw_100_20, yw_100_21, yw_100_22, yw_100_24, yw_100_25, yw_100_28, yu_101, yu_102, yu_103, yu_104, yu_105, yu_106, yu_107, yu_108, yu_109, yu_110, yu_111, yu_112, yu_113, yu_114, yu_115, yu_116, yu_117, yu_118, yu_119, Nat.le_refl, pk_sub, Nat.add_sub_cancel, f0, o1]
      · by_cases e2 : k = i + 1
        · subst e2
          rw [upe]
          unfold stepR
          rw [if_neg (by omega), if_pos rfl, Nat.add_sub_cancel]
        · rw [upn e2]
          exact hc k (by omega)
    · have f0 := hf j (by omega)
      have f1 := hf (j - 1) (by omega)
      have o1 := oD_fin (F1 j)
      have o2 := oD_fin (F2 (j - 1))
      have o3 := oD_fin (F3 j (j - 1))
      obtain ⟨ch, c1, c2⟩ := ih (j + 1) (d.s_chances (va_up d.chances j (FP.dadd (FP.dmul (r j) (FP.dsub FP.dconst1 x)) (FP.dmul (r (j - 1)) x)))) (by omega) (by omega) (by omega) hf (fun k hk => by
        show va_up d.chances j _ k = _
        by_cases e2 : k = j
        · subst e2
          rw [upe]
          unfold stepR
          rw [if_neg (by omega), if_neg e, if_pos (by omega)]
        · rw [upn e2]
          exact hc k (by omega))
      refine ⟨ch, ?_, c2⟩
      simp (disch := omega) only [Option.bind_some, plit, plit64, nI_add, pk_mul, if_true, if_false, or_true, true_or, oifT, Nat.one_ne_zero, ↓reduceIte, Nat.reduceLT, Nat.reduceLeDiff, Nat.reduceEqDiff, Nat.reduceAdd, Nat.reduceMul, Nat.reduceSub, Nat.reduceDiv, nI_eq, nI_leI, nI_ltI, nI_neg, neg_eq, yo_100, yr_100_0, yr_100_1, yr_100_2, yr_100_3, yr_100_4, yr_100_5, yr_100_6, yr_100_7, yr_100_8, yr_100_9, yr_100_10, yr_100_11, yr_100_12, yr_100_13, yr_100_14, yr_100_15, yr_100_16, yr_100_17, yr_100_18, yr_100_19, yr_100_20, yr_100_21, yr_100_22, yr_100_23, yr_100_24, yr_100_25, yr_100_26, yr_100_27, yr_100_28, ya_101, ya_102, ya_103, ya_104, ya_105, ya_106, ya_107, ya_108, ya_109, ya_110, ya_111, ya_112, ya_113, ya_114, ya_115, ya_116, ya_117, ya_118, ya_119, yw_100_2, yw_100_3, yw_100_5, yw_100_15, yw_100_20, yw_100_21, yw_100_22, yw_100_24, yw_100_25, yw_100_28, yu_101, yu_102, yu_103, yu_104, yu_105, yu_106, yu_107, yu_108, yu_109, yu_110, yu_111, yu_112, yu_113, yu_114, yu_115, yu_116, yu_117, yu_118, yu_119, show ¬ i + 1 ≤ j by omega, pk_sub, f0, f1, o0, o1, o2, o3]
      rw [c1]
      rfl
theorem ych_cp (hN : 100 ≤ N) {b i : Nat} (hb : b ≤ 40) (hi : i < b) {r : Nat → UInt64} {x : UInt64} (hm : FP.Core.DFin (FP.dsub FP.dconst1 x)) (F1 : ∀ k, FP.Core.DFin (FP.dmul (r k) (FP.dsub FP.dconst1 x))) (F2 : ∀ k, FP.Core.DFin (FP.dmul (r k) x)) (F3 : ∀ k j, FP.Core.DFin (FP.dadd (FP.dmul (r k) (FP.dsub FP.dconst1 x)) (FP.dmul (r j) x))) {kk : Nat → Int32 → UInt64 → Int32 → mM → Option mM} : ∀ (n j : Nat) (d : MS), j ≤ i + 1 → i + 1 - j < n → (∀ k, k < j → d.fewer k = r k) → (∀ k, k ≤ i → d.chances k = r k) → ∃ fw ch : Nat → UInt64, m_X12_chances_L25 N kk n 100 (nI b) x (nI (i + 1)) (nI j) (mk c d D) = kk 100 (nI b) x (nI (i + 1 + 1)) (mk c ((d.s_fewer fw).s_chances ch) D) ∧ (∀ k, k ≤ i + 1 → ch k = stepR (i + 1) r (FP.dsub FP.dconst1 x) x k) := by
  intro n
  induction n with
  | zero => intro j d _ h; omega
  | succ n ih =>
    intro j d hj hn hf hc
    have o0 := oD_fin hm
    unfold m_X12_chances_L25
    by_cases e : j = i + 1
    · subst e
      have f0 := hf 0 (by omega)
      have o1 := oD_fin (F1 0)
      obtain ⟨ch, c1, c2⟩ := ych_in (c := c) (D := D) (N := N) hb hi hm F1 F2 F3 (kk := kk) N 1 (d.s_chances (va_up d.chances 0 (FP.dmul (r 0) (FP.dsub FP.dconst1 x)))) (by omega) (by omega) (by omega) (fun k hk => hf k (by omega)) (fun k hk => by
        have : k = 0 := by omega
        subst this
        show va_up d.chances 0 (FP.dmul (r 0) (FP.dsub FP.dconst1 x)) 0 = _
        rw [upe]
        unfold stepR
        rw [if_pos rfl])
      refine ⟨d.fewer, ch, ?_, c2⟩
      simp (disch := omega) only [Option.bind_some, plit, plit64, nI_add, pk_mul, if_true, if_false, or_true, true_or, oifT, Nat.one_ne_zero, ↓reduceIte, Nat.reduceLT, Nat.reduceLeDiff, Nat.reduceEqDiff, Nat.reduceAdd, Nat.reduceMul, Nat.reduceSub, Nat.reduceDiv, nI_eq, nI_leI, nI_ltI, nI_neg, neg_eq, yo_100, yr_100_0, yr_100_1, yr_100_2, yr_100_3, yr_100_4, yr_100_5, yr_100_6, yr_100_7, yr_100_8, yr_100_9, yr_100_10, yr_100_11, yr_100_12, yr_100_13, yr_100_14, yr_100_15, yr_100_16, yr_100_17, yr_100_18, yr_100_19, yr_100_20, yr_100_21, yr_100_22, yr_100_23, yr_100_24, yr_100_25, yr_100_26, yr_100_27, yr_100_28, ya_101, ya_102, ya_103, ya_104, ya_105, ya_106, ya_107, ya_108, ya_109, ya_110, ya_111, ya_112, ya_113, ya_114, ya_115, ya_116, ya_117, ya_118, ya_119, yw_100_2, yw_100_3, yw_100_5, yw_100_15, yw_100_20, yw_100_21, yw_100_22, yw_100_24, yw_100_25, yw_100_28, yu_101, yu_102, yu_103, yu_104, yu_105, yu_106, yu_107, yu_108, yu_109, yu_110, yu_111, yu_112, yu_113, yu_114, yu_115, yu_116, yu_117, yu_118, yu_119, Nat.le_refl, f0, o0, o1]
      rw [c1]
      rfl
    · have c0 := hc j (by omega)
      obtain ⟨fw, ch, c1, c2⟩ := ih (j + 1) (d.s_fewer (va_up d.fewer j (r j))) (by omega) (by omega) (fun k hk => by
        show va_up d.fewer j _ k = _
        by_cases e2 : k = j
        · subst e2; exact upe
        · rw [upn e2]; exact hf k (by omega)) hc
      refine ⟨fw, ch, ?_, c2⟩
      simp (disch := omega) only [Option.bind_some, plit, plit64, nI_add, pk_mul, if_true, if_false, or_true, true_or, oifT, Nat.one_ne_zero, ↓reduceIte, Nat.reduceLT, Nat.reduceLeDiff, Nat.reduceEqDiff, Nat.reduceAdd, Nat.reduceMul, Nat.reduceSub, Nat.reduceDiv, nI_eq, nI_leI, nI_ltI, nI_neg, neg_eq, yo_100, yr_100_0, yr_100_1, yr_100_2, yr_100_3, yr_100_4, yr_100_5, yr_100_6, yr_100_7, yr_100_8, yr_100_9, yr_100_10, yr_100_11, yr_100_12, yr_100_13, yr_100_14, yr_100_15, yr_100_16, yr_100_17, yr_100_18, yr_100_19, yr_100_20, yr_100_21, yr_100_22, yr_100_23, yr_100_24, yr_100_25, yr_100_26, yr_100_27, yr_100_28, ya_101, ya_102, ya_103, ya_104, ya_105, ya_106, ya_107, ya_108, ya_109, ya_110, ya_111, ya_112, ya_113, ya_114, ya_115, ya_116, ya_117, ya_118, ya_119, yw_100_2, yw_100_3, yw_100_5, yw_100_15, yw_100_20, yw_100_21, yw_100_22, yw_100_24, yw_100_25, yw_100_28, yu_101, yu_102, yu_103, yu_104, yu_105, yu_106, yu_107, yu_108, yu_109, yu_110, yu_111, yu_112, yu_113, yu_114, yu_115, yu_116, yu_117, yu_118, yu_119, show ¬ i + 1 ≤ j by omega, c0]
      rw [c1]
      rfl
theorem yas_in {f b i : Nat} (hb : b ≤ 40) (hi : i < b) {r : Nat → UInt64} {x : UInt64} (hm : FP.Core.DFin (FP.dsub FP.dconst1 x)) (F1 : ∀ k, FP.Core.DFin (FP.dmul (r k) (FP.dsub FP.dconst1 x))) (F2 : ∀ k, FP.Core.DFin (FP.dmul (r k) x)) (F3 : ∀ k j, FP.Core.DFin (FP.dadd (FP.dmul (r k) (FP.dsub FP.dconst1 x)) (FP.dmul (r j) x))) {kk : Nat → Int32 → Int32 → Int32 → mM → Option mM} : ∀ (n j : Nat) (d : MS), 1 ≤ j → j ≤ i + 1 → i + 1 - j < n → (∀ k, k ≤ i → d.fewer k = r k) → (∀ k, k < j → d.chances k = stepR (i + 1) r (FP.dsub FP.dconst1 x) x k) → ∃ ch : Nat → UInt64, m_X12_asks_L76 N kk n 100 (nI f) (nI b) (nI (i + 1)) x (nI j) (mk c d D) = kk 100 (nI f) (nI b) (nI (i + 1 + 1)) (mk c (d.s_chances ch) D) ∧ (∀ k, k ≤ i + 1 → ch k = stepR (i + 1) r (FP.dsub FP.dconst1 x) x k) := by
  intro n
  induction n with
  | zero => intro j d _ _ h; omega
  | succ n ih =>
    intro j d h1 hj hn hf hc
    have o0 := oD_fin hm
    unfold m_X12_asks_L76
    by_cases e : j = i + 1
    · subst e
      have f0 := hf i (Nat.le_refl _)
      have o1 := oD_fin (F2 i)
      refine ⟨va_up d.chances (i + 1) (FP.dmul (r i) x), ?_, fun k hk => ?_⟩
      · simp (disch := omega) only [Option.bind_some, plit, plit64, nI_add, pk_mul, if_true, if_false, or_true, true_or, oifT, Nat.one_ne_zero, ↓reduceIte, Nat.reduceLT, Nat.reduceLeDiff, Nat.reduceEqDiff, Nat.reduceAdd, Nat.reduceMul, Nat.reduceSub, Nat.reduceDiv, nI_eq, nI_leI, nI_ltI, nI_neg, neg_eq, yo_100, yr_100_0, yr_100_1, yr_100_2, yr_100_3, yr_100_4, yr_100_5, yr_100_6, yr_100_7, yr_100_8, yr_100_9, yr_100_10, yr_100_11, yr_100_12, yr_100_13, yr_100_14, yr_100_15, yr_100_16, yr_100_17, yr_100_18, yr_100_19, yr_100_20, yr_100_21, yr_100_22, yr_100_23, yr_100_24, yr_100_25, yr_100_26, yr_100_27, yr_100_28, ya_101, ya_102, ya_103, ya_104, ya_105, ya_106, ya_107, ya_108, ya_109, ya_110, ya_111, ya_112, ya_113, ya_114, ya_115, ya_116, ya_117, ya_118, ya_119, yw_100_2, yw_100_3, yw_100_5, yw_100_15, yw_100_20, yw_100_21, yw_100_22, yw_100_24, yw_100_25, yw_100_28, yu_101, yu_102, yu_103, yu_104, yu_105, yu_106, yu_107, yu_108, yu_109, yu_110, yu_111, yu_112, yu_113, yu_114, yu_115, yu_116, yu_117, yu_118, yu_119, Nat.le_refl, pk_sub, Nat.add_sub_cancel, f0, o1]
      · by_cases e2 : k = i + 1
        · subst e2
          rw [upe]
          unfold stepR
          rw [if_neg (by omega), if_pos rfl, Nat.add_sub_cancel]
        · rw [upn e2]
          exact hc k (by omega)
    · have f0 := hf j (by omega)
      have f1 := hf (j - 1) (by omega)
      have o1 := oD_fin (F1 j)
      have o2 := oD_fin (F2 (j - 1))
      have o3 := oD_fin (F3 j (j - 1))
      obtain ⟨ch, c1, c2⟩ := ih (j + 1) (d.s_chances (va_up d.chances j (FP.dadd (FP.dmul (r j) (FP.dsub FP.dconst1 x)) (FP.dmul (r (j - 1)) x)))) (by omega) (by omega) (by omega) hf (fun k hk => by
        show va_up d.chances j _ k = _
        by_cases e2 : k = j
        · subst e2
          rw [upe]
          unfold stepR
          rw [if_neg (by omega), if_neg e, if_pos (by omega)]
        · rw [upn e2]
          exact hc k (by omega))
      refine ⟨ch, ?_, c2⟩
      simp (disch := omega) only [Option.bind_some, plit, plit64, nI_add, pk_mul, if_true, if_false, or_true, true_or, oifT, Nat.one_ne_zero, ↓reduceIte, Nat.reduceLT, Nat.reduceLeDiff, Nat.reduceEqDiff, Nat.reduceAdd, Nat.reduceMul, Nat.reduceSub, Nat.reduceDiv, nI_eq, nI_leI, nI_ltI, nI_neg, neg_eq, yo_100, yr_100_0, yr_100_1, yr_100_2, yr_100_3, yr_100_4, yr_100_5, yr_100_6, yr_100_7, yr_100_8, yr_100_9, yr_100_10, yr_100_11, yr_100_12, yr_100_13, yr_100_14, yr_100_15, yr_100_16, yr_100_17, yr_100_18, yr_100_19, yr_100_20, yr_100_21, yr_100_22, yr_100_23, yr_100_24, yr_100_25, yr_100_26, yr_100_27, yr_100_28, ya_101, ya_102, ya_103, ya_104, ya_105, ya_106, ya_107, ya_108, ya_109, ya_110, ya_111, ya_112, ya_113, ya_114, ya_115, ya_116, ya_117, ya_118, ya_119, yw_100_2, yw_100_3, yw_100_5, yw_100_15, yw_100_20, yw_100_21, yw_100_22, yw_100_24, yw_100_25, yw_100_28, yu_101, yu_102, yu_103, yu_104, yu_105, yu_106, yu_107, yu_108, yu_109, yu_110, yu_111, yu_112, yu_113, yu_114, yu_115, yu_116, yu_117, yu_118, yu_119, show ¬ i + 1 ≤ j by omega, pk_sub, f0, f1, o0, o1, o2, o3]
      rw [c1]
      rfl
theorem yas_cp (hN : 100 ≤ N) {f b i : Nat} (hb : b ≤ 40) (hi : i < b) {r : Nat → UInt64} {x : UInt64} (hm : FP.Core.DFin (FP.dsub FP.dconst1 x)) (F1 : ∀ k, FP.Core.DFin (FP.dmul (r k) (FP.dsub FP.dconst1 x))) (F2 : ∀ k, FP.Core.DFin (FP.dmul (r k) x)) (F3 : ∀ k j, FP.Core.DFin (FP.dadd (FP.dmul (r k) (FP.dsub FP.dconst1 x)) (FP.dmul (r j) x))) {kk : Nat → Int32 → Int32 → Int32 → mM → Option mM} : ∀ (n j : Nat) (d : MS), j ≤ i + 1 → i + 1 - j < n → (∀ k, k < j → d.fewer k = r k) → (∀ k, k ≤ i → d.chances k = r k) → ∃ fw ch : Nat → UInt64, m_X12_asks_L30 N kk n 100 (nI f) (nI b) (nI (i + 1)) x (nI j) (mk c d D) = kk 100 (nI f) (nI b) (nI (i + 1 + 1)) (mk c ((d.s_fewer fw).s_chances ch) D) ∧ (∀ k, k ≤ i + 1 → ch k = stepR (i + 1) r (FP.dsub FP.dconst1 x) x k) := by
  intro n
  induction n with
  | zero => intro j d _ h; omega
  | succ n ih =>
    intro j d hj hn hf hc
    have o0 := oD_fin hm
    unfold m_X12_asks_L30
    by_cases e : j = i + 1
    · subst e
      have f0 := hf 0 (by omega)
      have o1 := oD_fin (F1 0)
      obtain ⟨ch, c1, c2⟩ := yas_in (c := c) (D := D) (N := N) hb hi hm F1 F2 F3 (kk := kk) N 1 (d.s_chances (va_up d.chances 0 (FP.dmul (r 0) (FP.dsub FP.dconst1 x)))) (by omega) (by omega) (by omega) (fun k hk => hf k (by omega)) (fun k hk => by
        have : k = 0 := by omega
        subst this
        show va_up d.chances 0 (FP.dmul (r 0) (FP.dsub FP.dconst1 x)) 0 = _
        rw [upe]
        unfold stepR
        rw [if_pos rfl])
      refine ⟨d.fewer, ch, ?_, c2⟩
      simp (disch := omega) only [Option.bind_some, plit, plit64, nI_add, pk_mul, if_true, if_false, or_true, true_or, oifT, Nat.one_ne_zero, ↓reduceIte, Nat.reduceLT, Nat.reduceLeDiff, Nat.reduceEqDiff, Nat.reduceAdd, Nat.reduceMul, Nat.reduceSub, Nat.reduceDiv, nI_eq, nI_leI, nI_ltI, nI_neg, neg_eq, yo_100, yr_100_0, yr_100_1, yr_100_2, yr_100_3, yr_100_4, yr_100_5, yr_100_6, yr_100_7, yr_100_8, yr_100_9, yr_100_10, yr_100_11, yr_100_12, yr_100_13, yr_100_14, yr_100_15, yr_100_16, yr_100_17, yr_100_18, yr_100_19, yr_100_20, yr_100_21, yr_100_22, yr_100_23, yr_100_24, yr_100_25, yr_100_26, yr_100_27, yr_100_28, ya_101, ya_102, ya_103, ya_104, ya_105, ya_106, ya_107, ya_108, ya_109, ya_110, ya_111, ya_112, ya_113, ya_114, ya_115, ya_116, ya_117, ya_118, ya_119, yw_100_2, yw_100_3, yw_100_5, yw_100_15, yw_100_20, yw_100_21, yw_100_22, yw_100_24, yw_100_25, yw_100_28, yu_101, yu_102, yu_103, yu_104, yu_105, yu_106, yu_107, yu_108, yu_109, yu_110, yu_111, yu_112, yu_113, yu_114, yu_115, yu_116, yu_117, yu_118, yu_119, Nat.le_refl, f0, o0, o1]
      rw [c1]
      rfl
    · have c0 := hc j (by omega)
      obtain ⟨fw, ch, c1, c2⟩ := ih (j + 1) (d.s_fewer (va_up d.fewer j (r j))) (by omega) (by omega) (fun k hk => by
        show va_up d.fewer j _ k = _
        by_cases e2 : k = j
        · subst e2; exact upe
        · rw [upn e2]; exact hf k (by omega)) hc
      refine ⟨fw, ch, ?_, c2⟩
      simp (disch := omega) only [Option.bind_some, plit, plit64, nI_add, pk_mul, if_true, if_false, or_true, true_or, oifT, Nat.one_ne_zero, ↓reduceIte, Nat.reduceLT, Nat.reduceLeDiff, Nat.reduceEqDiff, Nat.reduceAdd, Nat.reduceMul, Nat.reduceSub, Nat.reduceDiv, nI_eq, nI_leI, nI_ltI, nI_neg, neg_eq, yo_100, yr_100_0, yr_100_1, yr_100_2, yr_100_3, yr_100_4, yr_100_5, yr_100_6, yr_100_7, yr_100_8, yr_100_9, yr_100_10, yr_100_11, yr_100_12, yr_100_13, yr_100_14, yr_100_15, yr_100_16, yr_100_17, yr_100_18, yr_100_19, yr_100_20, yr_100_21, yr_100_22, yr_100_23, yr_100_24, yr_100_25, yr_100_26, yr_100_27, yr_100_28, ya_101, ya_102, ya_103, ya_104, ya_105, ya_106, ya_107, ya_108, ya_109, ya_110, ya_111, ya_112, ya_113, ya_114, ya_115, ya_116, ya_117, ya_118, ya_119, yw_100_2, yw_100_3, yw_100_5, yw_100_15, yw_100_20, yw_100_21, yw_100_22, yw_100_24, yw_100_25, yw_100_28, yu_101, yu_102, yu_103, yu_104, yu_105, yu_106, yu_107, yu_108, yu_109, yu_110, yu_111, yu_112, yu_113, yu_114, yu_115, yu_116, yu_117, yu_118, yu_119, show ¬ i + 1 ≤ j by omega, c0]
      rw [c1]
      rfl
theorem ych_go (hN : 100 ≤ N) {x : UInt64} (hx : Cf x) {b : Nat} (hb : b ≤ 40) : ∀ (n i : Nat) (d : MS), i ≤ b → b - i < n → (∀ k, k ≤ i → d.chances k = chD (fun _ => x) i k) → ∃ fw ch : Nat → UInt64, m_X12_chances_L16 N n 100 (nI b) x (nI (i + 1)) (mk c d D) = some (mk c ((d.s_fewer fw).s_chances ch) D) ∧ (∀ k, k ≤ b → ch k = chD (fun _ => x) b k) := by
  intro n
  induction n with
  | zero => intro i d _ h; omega
  | succ n ih =>
    intro i d hi hn hc
    unfold m_X12_chances_L16
    by_cases e : i = b
    · subst e
      refine ⟨d.fewer, d.chances, ?_, hc⟩
      rw [if_pos (nI_lt (by omega) (by omega))]
      rfl
    · obtain ⟨f1, f2, f3, -⟩ := ch_step (b := i) (R := 2 ^ 20 + 2 * i) (by omega) (by omega) hx (ch_dn i (by omega) (fun n h1 h2 => hx))
      obtain ⟨fw, ch, c1, c2⟩ := ych_cp (c := c) (D := D) hN hb (i := i) (by omega) (r := chD (fun _ => x) i) hx.2.1 f1 f2 f3 (kk := m_X12_chances_L16 N n) N 0 d (by omega) (by omega) (fun k hk => absurd hk (Nat.not_lt_zero _)) hc
      obtain ⟨fw2, ch2, c3, c4⟩ := ih (i + 1) ((d.s_fewer fw).s_chances ch) (by omega) (by omega) c2
      refine ⟨fw2, ch2, ?_, c4⟩
      rw [if_neg (nI_nlt (by omega) (by omega))]
      refine c1.trans (c3.trans ?_)
      rfl
theorem yas_go (hN : 100 ≤ N) {f b : Nat} (hf : f < 6) (hb : b ≤ 20) : ∀ (n i : Nat) (d : MS), PR P d.now → i ≤ b → b - i < n → (∀ k, k ≤ i → d.chances k = chD (askD P f) i k) → ∃ fw ch : Nat → UInt64, m_X12_asks_L9 N n 100 (nI f) (nI b) (nI (i + 1)) (mk c d D) = some (mk c ((d.s_fewer fw).s_chances ch) D) ∧ (∀ k, k ≤ b → ch k = chD (askD P f) b k) := by
  intro n
  induction n with
  | zero => intro i d _ _ h; omega
  | succ n ih =>
    intro i d hP hi hn hc
    unfold m_X12_asks_L9
    by_cases e : i = b
    · subst e
      refine ⟨d.fewer, d.chances, ?_, hc⟩
      rw [if_pos (nI_lt (by omega) (by omega))]
      rfl
    · have hx := ask_cf hP hf (n := i + 1) (by omega)
      obtain ⟨f1, f2, f3, -⟩ := ch_step (b := i) (R := 2 ^ 20 + 2 * i) (by omega) (by omega) hx (ch_dn (cs := askD P f) i (by omega) (fun n h1 h2 => ask_cf hP hf (by omega)))
      obtain ⟨fw, ch, c1, c2⟩ := yas_cp (c := c) (D := D) hN (f := f) (b := b) (by omega) (i := i) (by omega) (r := chD (askD P f) i) hx.2.1 f1 f2 f3 (kk := m_X12_asks_L9 N n) N 0 d (by omega) (by omega) (fun k hk => absurd hk (Nat.not_lt_zero _)) hc
      obtain ⟨fw2, ch2, c3, c4⟩ := ih (i + 1) ((d.s_fewer fw).s_chances ch) hP (by omega) (by omega) c2
      have o1 := yodds (c := c) (D := D) hP (f := f) hf (t := i + 1) (by omega) (by omega)
      have o2 := oD_fin hx.1.1
      refine ⟨fw2, ch2, ?_, c4⟩
      rw [if_neg (nI_nlt (by omega) (by omega)), yo_100, Option.bind_some, o1, Option.bind_some]
      unfold askD at o2 c1
      rw [hun_eq, o2, Option.bind_some]
      refine c1.trans (c3.trans ?_)
      rfl
theorem ychances (hN : 100 ≤ N) (hP : PR P d.now) {t b : Nat} (ht : t ≤ 20) (hb : b ≤ 40) : ∃ fw ch : Nat → UInt64, m_X12_chances N 100 (nI t) (nI b) (mk c d D) = some (mk c ((d.s_fewer fw).s_chances ch) D) ∧ (∀ k, k ≤ b → ch k = chD (fun _ => showD P t) b k) := by
  have s1 := yshow (c := c) (D := D) (N := N) hP ht hN
  obtain ⟨fw, ch, c1, c2⟩ := ych_go (c := c) (D := D) hN (show_cf hP.r1 hP.r2 ht) hb N 0 (d.s_chances (va_up d.chances 0 FP.dconst1)) (by omega) (by omega) (fun k hk => by
    have : k = 0 := by omega
    subst this
    show va_up d.chances 0 _ 0 = _
    rw [upe]
    rfl)
  refine ⟨fw, ch, ?_, c2⟩
  simp (disch := omega) only [m_X12_chances, Option.bind_some, plit, plit64, nI_add, pk_mul, if_true, if_false, or_true, true_or, oifT, Nat.one_ne_zero, ↓reduceIte, Nat.reduceLT, Nat.reduceLeDiff, Nat.reduceEqDiff, Nat.reduceAdd, Nat.reduceMul, Nat.reduceSub, Nat.reduceDiv, yo_100, yr_100_0, yr_100_1, yr_100_2, yr_100_3, yr_100_4, yr_100_5, yr_100_6, yr_100_7, yr_100_8, yr_100_9, yr_100_10, yr_100_11, yr_100_12, yr_100_13, yr_100_14, yr_100_15, yr_100_16, yr_100_17, yr_100_18, yr_100_19, yr_100_20, yr_100_21, yr_100_22, yr_100_23, yr_100_24, yr_100_25, yr_100_26, yr_100_27, yr_100_28, ya_101, ya_102, ya_103, ya_104, ya_105, ya_106, ya_107, ya_108, ya_109, ya_110, ya_111, ya_112, ya_113, ya_114, ya_115, ya_116, ya_117, ya_118, ya_119, yw_100_2, yw_100_3, yw_100_5, yw_100_15, yw_100_20, yw_100_21, yw_100_22, yw_100_24, yw_100_25, yw_100_28, yu_101, yu_102, yu_103, yu_104, yu_105, yu_106, yu_107, yu_108, yu_109, yu_110, yu_111, yu_112, yu_113, yu_114, yu_115, yu_116, yu_117, yu_118, yu_119, s1]
  refine c1.trans ?_
  rfl
theorem yasks (hN : 100 ≤ N) (hP : PR P d.now) {f b : Nat} (hf : f < 6) (hb : b ≤ 20) : ∃ fw ch : Nat → UInt64, m_X12_asks N 100 (nI f) (nI b) (mk c d D) = some (mk c ((d.s_fewer fw).s_chances ch) D) ∧ (∀ k, k ≤ b → ch k = chD (askD P f) b k) := by
  obtain ⟨fw, ch, c1, c2⟩ := yas_go (c := c) (D := D) hN hf hb N 0 (d.s_chances (va_up d.chances 0 FP.dconst1)) hP (by omega) (by omega) (fun k hk => by
    have : k = 0 := by omega
    subst this
    show va_up d.chances 0 _ 0 = _
    rw [upe]
    rfl)
  refine ⟨fw, ch, ?_, c2⟩
  simp (disch := omega) only [m_X12_asks, Option.bind_some, plit, plit64, nI_add, pk_mul, if_true, if_false, or_true, true_or, oifT, Nat.one_ne_zero, ↓reduceIte, Nat.reduceLT, Nat.reduceLeDiff, Nat.reduceEqDiff, Nat.reduceAdd, Nat.reduceMul, Nat.reduceSub, Nat.reduceDiv, yo_100, yr_100_0, yr_100_1, yr_100_2, yr_100_3, yr_100_4, yr_100_5, yr_100_6, yr_100_7, yr_100_8, yr_100_9, yr_100_10, yr_100_11, yr_100_12, yr_100_13, yr_100_14, yr_100_15, yr_100_16, yr_100_17, yr_100_18, yr_100_19, yr_100_20, yr_100_21, yr_100_22, yr_100_23, yr_100_24, yr_100_25, yr_100_26, yr_100_27, yr_100_28, ya_101, ya_102, ya_103, ya_104, ya_105, ya_106, ya_107, ya_108, ya_109, ya_110, ya_111, ya_112, ya_113, ya_114, ya_115, ya_116, ya_117, ya_118, ya_119, yw_100_2, yw_100_3, yw_100_5, yw_100_15, yw_100_20, yw_100_21, yw_100_22, yw_100_24, yw_100_25, yw_100_28, yu_101, yu_102, yu_103, yu_104, yu_105, yu_106, yu_107, yu_108, yu_109, yu_110, yu_111, yu_112, yu_113, yu_114, yu_115, yu_116, yu_117, yu_118, yu_119]
  refine c1.trans ?_
  rfl
theorem yturn_go (hP : PR P d.now) {r : Nat → UInt64} (hr : Rw r) {b : Nat} (hb : b ≤ 40) (hc : ∀ k, k ≤ b → d.chances k = r k) : ∀ n j : Nat, j ≤ b - P.rules 0 → b - P.rules 0 - j < n → m_X12_turnedOf_L12 N (mk c d D) n 100 (nI b) (exD r (P.rules 0) j) (nI (P.rules 0 + j + 1)) = some (exD r (P.rules 0) (b - P.rules 0)) := by
  have h0 := hP.r0
  intro n
  induction n with
  | zero => intro j _ h; omega
  | succ n ih =>
    intro j hj hn
    unfold m_X12_turnedOf_L12
    by_cases e : j = b - P.rules 0
    · subst e
      rw [if_pos (nI_lt (by omega) (by omega))]
    · have ih := ih (j + 1) (by omega) (by omega)
      have o1 := oD_fin (part_dn hr (q := j + 1) (k := P.rules 0 + (j + 1)) (by omega)).1
      have o2 := oD_fin (ex_dn hr (P.rules 0) (j + 1) (by omega)).1
      have e2 : exD r (P.rules 0) (j + 1) = FP.dadd (exD r (P.rules 0) j) (FP.dmul (FP.i2d (nI (j + 1))) (r (P.rules 0 + (j + 1)))) := rfl
      rw [e2] at o2 ih
      have c0 := hc (P.rules 0 + (j + 1)) (by omega)
      simp (disch := omega) only [Option.bind_some, plit, plit64, nI_add, pk_mul, if_true, if_false, or_true, true_or, oifT, Nat.one_ne_zero, ↓reduceIte, Nat.reduceLT, Nat.reduceLeDiff, Nat.reduceEqDiff, Nat.reduceAdd, Nat.reduceMul, Nat.reduceSub, Nat.reduceDiv, nI_eq, nI_leI, nI_ltI, nI_neg, neg_eq, yo_100, yr_100_0, yr_100_1, yr_100_2, yr_100_3, yr_100_4, yr_100_5, yr_100_6, yr_100_7, yr_100_8, yr_100_9, yr_100_10, yr_100_11, yr_100_12, yr_100_13, yr_100_14, yr_100_15, yr_100_16, yr_100_17, yr_100_18, yr_100_19, yr_100_20, yr_100_21, yr_100_22, yr_100_23, yr_100_24, yr_100_25, yr_100_26, yr_100_27, yr_100_28, ya_101, ya_102, ya_103, ya_104, ya_105, ya_106, ya_107, ya_108, ya_109, ya_110, ya_111, ya_112, ya_113, ya_114, ya_115, ya_116, ya_117, ya_118, ya_119, hP.r0_, show ¬ b < P.rules 0 + (j + 1) by omega, c0, pk_sub, show P.rules 0 + (j + 1) - P.rules 0 = j + 1 by omega, show P.rules 0 + j + 1 = P.rules 0 + (j + 1) by omega, o1, o2]
      exact ih
theorem yturn (hN : 100 ≤ N) (hP : PR P d.now) {r : Nat → UInt64} (hr : Rw r) {b : Nat} (hb : b ≤ 40) (hc : ∀ k, k ≤ b → d.chances k = r k) : m_X12_turnedOf N 100 (nI b) (mk c d D) = some (exD r (P.rules 0) (b - P.rules 0)) := by
  have h0 := hP.r0
  have := yturn_go (c := c) (D := D) (N := N) hP hr hb hc N 0 (by omega) (by omega)
  simp (disch := omega) only [m_X12_turnedOf, Option.bind_some, plit, plit64, nI_add, pk_mul, if_true, if_false, or_true, true_or, oifT, Nat.one_ne_zero, ↓reduceIte, Nat.reduceLT, Nat.reduceLeDiff, Nat.reduceEqDiff, Nat.reduceAdd, Nat.reduceMul, Nat.reduceSub, Nat.reduceDiv, yo_100, yr_100_0, yr_100_1, yr_100_2, yr_100_3, yr_100_4, yr_100_5, yr_100_6, yr_100_7, yr_100_8, yr_100_9, yr_100_10, yr_100_11, yr_100_12, yr_100_13, yr_100_14, yr_100_15, yr_100_16, yr_100_17, yr_100_18, yr_100_19, yr_100_20, yr_100_21, yr_100_22, yr_100_23, yr_100_24, yr_100_25, yr_100_26, yr_100_27, yr_100_28, ya_101, ya_102, ya_103, ya_104, ya_105, ya_106, ya_107, ya_108, ya_109, ya_110, ya_111, ya_112, ya_113, ya_114, ya_115, ya_116, ya_117, ya_118, ya_119, hP.r0_]
  exact this
theorem yhad_go (hN : 100 ≤ N) (hP : PR P d.now) {r : Nat → UInt64} (hr : Rw r) {f b : Nat} (hf : f < 6) (hb : b ≤ 40) (hc : ∀ k, k ≤ b → d.chances k = r k) : ∀ n j : Nat, j ≤ b + 1 → b + 1 - j < n → m_X12_hadOf_L5 N (mk c d D) n 100 (nI f) (nI b) (suD r (P.rules 0) j) (nI j) = some (hadD P f b r) := by
  have h0 := hP.r0
  have h3 := hP.r3
  intro n
  induction n with
  | zero => intro j _ h; omega
  | succ n ih =>
    intro j hj hn
    unfold m_X12_hadOf_L5
    by_cases e : j = b + 1
    · subst e
      obtain ⟨p1, p2⟩ := had_parts (P := P) (f := f) hr h0 h3 (hP.p hf) hb
      have o1 := oD_fin p1.1
      have o2 := oD_fin p2.1
      have o3 := oD_fin (bits_sub (N := 100) (by omega) p1 p2 (by omega)).1
      have x1 := yturn (c := c) (D := D) (N := N) hN hP hr hb hc
      have q1 := yprice (c := c) (D := D) hP (i := f) hf
      simp (disch := omega) only [Option.bind_some, plit, plit64, nI_add, pk_mul, if_true, if_false, or_true, true_or, oifT, Nat.one_ne_zero, ↓reduceIte, Nat.reduceLT, Nat.reduceLeDiff, Nat.reduceEqDiff, Nat.reduceAdd, Nat.reduceMul, Nat.reduceSub, Nat.reduceDiv, nI_eq, nI_leI, nI_ltI, nI_neg, neg_eq, yo_100, yr_100_0, yr_100_1, yr_100_2, yr_100_3, yr_100_4, yr_100_5, yr_100_6, yr_100_7, yr_100_8, yr_100_9, yr_100_10, yr_100_11, yr_100_12, yr_100_13, yr_100_14, yr_100_15, yr_100_16, yr_100_17, yr_100_18, yr_100_19, yr_100_20, yr_100_21, yr_100_22, yr_100_23, yr_100_24, yr_100_25, yr_100_26, yr_100_27, yr_100_28, ya_101, ya_102, ya_103, ya_104, ya_105, ya_106, ya_107, ya_108, ya_109, ya_110, ya_111, ya_112, ya_113, ya_114, ya_115, ya_116, ya_117, ya_118, ya_119, show b < b + 1 by omega, q1, o1, x1, hP.r3_, o2, o3]
      rfl
    · have ih := ih (j + 1) (by omega) (by omega)
      have o1 := oD_fin (part_dn hr (q := min j (P.rules 0)) (k := j) (by omega)).1
      have o2 := oD_fin (su_dn hr h0 (j + 1) (by omega)).1
      have e2 : suD r (P.rules 0) (j + 1) = FP.dadd (suD r (P.rules 0) j) (FP.dmul (FP.i2d (nI (min j (P.rules 0)))) (r j)) := rfl
      rw [e2] at o2 ih
      have c0 := hc j (by omega)
      by_cases q : P.rules 0 ≤ j
      · rw [Nat.min_eq_right q] at o1 o2 ih
        simp (disch := omega) only [m_X12_hadOf_J34, Option.bind_some, plit, plit64, nI_add, pk_mul, if_true, if_false, or_true, true_or, oifT, Nat.one_ne_zero, ↓reduceIte, Nat.reduceLT, Nat.reduceLeDiff, Nat.reduceEqDiff, Nat.reduceAdd, Nat.reduceMul, Nat.reduceSub, Nat.reduceDiv, nI_eq, nI_leI, nI_ltI, nI_neg, neg_eq, yo_100, yr_100_0, yr_100_1, yr_100_2, yr_100_3, yr_100_4, yr_100_5, yr_100_6, yr_100_7, yr_100_8, yr_100_9, yr_100_10, yr_100_11, yr_100_12, yr_100_13, yr_100_14, yr_100_15, yr_100_16, yr_100_17, yr_100_18, yr_100_19, yr_100_20, yr_100_21, yr_100_22, yr_100_23, yr_100_24, yr_100_25, yr_100_26, yr_100_27, yr_100_28, ya_101, ya_102, ya_103, ya_104, ya_105, ya_106, ya_107, ya_108, ya_109, ya_110, ya_111, ya_112, ya_113, ya_114, ya_115, ya_116, ya_117, ya_118, ya_119, hP.r0_, show ¬ b < j by omega, q, c0, o1, o2]
        exact ih
      · rw [Nat.min_eq_left (by omega)] at o1 o2 ih
        simp (disch := omega) only [m_X12_hadOf_J34, Option.bind_some, plit, plit64, nI_add, pk_mul, if_true, if_false, or_true, true_or, oifT, Nat.one_ne_zero, ↓reduceIte, Nat.reduceLT, Nat.reduceLeDiff, Nat.reduceEqDiff, Nat.reduceAdd, Nat.reduceMul, Nat.reduceSub, Nat.reduceDiv, nI_eq, nI_leI, nI_ltI, nI_neg, neg_eq, yo_100, yr_100_0, yr_100_1, yr_100_2, yr_100_3, yr_100_4, yr_100_5, yr_100_6, yr_100_7, yr_100_8, yr_100_9, yr_100_10, yr_100_11, yr_100_12, yr_100_13, yr_100_14, yr_100_15, yr_100_16, yr_100_17, yr_100_18, yr_100_19, yr_100_20, yr_100_21, yr_100_22, yr_100_23, yr_100_24, yr_100_25, yr_100_26, yr_100_27, yr_100_28, ya_101, ya_102, ya_103, ya_104, ya_105, ya_106, ya_107, ya_108, ya_109, ya_110, ya_111, ya_112, ya_113, ya_114, ya_115, ya_116, ya_117, ya_118, ya_119, hP.r0_, show ¬ b < j by omega, q, c0, o1, o2]
        exact ih
theorem yhad (hN : 100 ≤ N) (hP : PR P d.now) {r : Nat → UInt64} (hr : Rw r) {f b : Nat} (hf : f < 6) (hb : b ≤ 40) (hc : ∀ k, k ≤ b → d.chances k = r k) : m_X12_hadOf N 100 (nI f) (nI b) (mk c d D) = some (hadD P f b r) :=
  yhad_go (c := c) (D := D) hN hP hr hf hb hc N 0 (by omega) (by omega)
theorem yspill_go {r : Nat → UInt64} (hr : Rw r) {s b : Nat} (hs : s ≤ 30) (hb : b ≤ 40) (hc : ∀ k, k ≤ b → d.chances k = r k) : ∀ n j : Nat, j ≤ b - s → b - s - j < n → m_X12_spill_L45 N n 100 (nI b) (nI s) (exD r s j) (nI (s + j + 1)) (mk c d D) = some ((exD r s (b - s)).toInt64, mk c d D) := by
  intro n
  induction n with
  | zero => intro j _ h; omega
  | succ n ih =>
    intro j hj hn
    unfold m_X12_spill_L45
    by_cases e : j = b - s
    · subst e
      rw [if_pos (nI_lt (by omega) (by omega)), dlb (ex_dn hr s (b - s) (by omega)).1, Option.bind_some]
    · have ih := ih (j + 1) (by omega) (by omega)
      have o1 := oD_fin (part_dn hr (q := j + 1) (k := s + (j + 1)) (by omega)).1
      have o2 := oD_fin (ex_dn hr s (j + 1) (by omega)).1
      have e2 : exD r s (j + 1) = FP.dadd (exD r s j) (FP.dmul (FP.i2d (nI (j + 1))) (r (s + (j + 1)))) := rfl
      rw [e2] at o2 ih
      have c0 := hc (s + (j + 1)) (by omega)
      simp (disch := omega) only [Option.bind_some, plit, plit64, nI_add, pk_mul, if_true, if_false, or_true, true_or, oifT, Nat.one_ne_zero, ↓reduceIte, Nat.reduceLT, Nat.reduceLeDiff, Nat.reduceEqDiff, Nat.reduceAdd, Nat.reduceMul, Nat.reduceSub, Nat.reduceDiv, nI_eq, nI_leI, nI_ltI, nI_neg, neg_eq, yo_100, yr_100_0, yr_100_1, yr_100_2, yr_100_3, yr_100_4, yr_100_5, yr_100_6, yr_100_7, yr_100_8, yr_100_9, yr_100_10, yr_100_11, yr_100_12, yr_100_13, yr_100_14, yr_100_15, yr_100_16, yr_100_17, yr_100_18, yr_100_19, yr_100_20, yr_100_21, yr_100_22, yr_100_23, yr_100_24, yr_100_25, yr_100_26, yr_100_27, yr_100_28, ya_101, ya_102, ya_103, ya_104, ya_105, ya_106, ya_107, ya_108, ya_109, ya_110, ya_111, ya_112, ya_113, ya_114, ya_115, ya_116, ya_117, ya_118, ya_119, show ¬ b < s + (j + 1) by omega, c0, pk_sub, show s + (j + 1) - s = j + 1 by omega, show s + j + 1 = s + (j + 1) by omega, o1, o2]
      exact ih
theorem ybest_go (hN : 100 ≤ N) {f t : Nat} (hf : f < 6) (ht : t ≤ 20) : ∀ (n b : Nat) (d : MS), PR P d.now → b ≤ 40 → 40 - b < n → ∃ fw ch : Nat → UInt64, m_X12_booked_L25 N n 100 (nI f) (nI t) (nI (bkD P f t b).1) (bkD P f t b).2 (nI (b + 1)) (mk c d D) = some (nI (bkD P f t 40).1, mk c ((d.s_fewer fw).s_chances ch) D) := by
  intro n
  induction n with
  | zero => intro b d _ _ h; omega
  | succ n ih =>
    intro b d hP hb hn
    unfold m_X12_booked_L25
    by_cases e : b = 40
    · subst e
      refine ⟨d.fewer, d.chances, ?_⟩
      rw [if_pos (by decide)]
      rfl
    · have hx := show_cf hP.r1 hP.r2 ht
      obtain ⟨fw, ch, c1, c2⟩ := ychances (c := c) (D := D) (N := N) hN hP ht (b := b + 1) (by omega)
      have x1 := yhad (c := c) (d := (d.s_fewer fw).s_chances ch) (D := D) hN hP (ch_rw (cs := fun _ => showD P t) (b := b + 1) (by omega) (fun n h1 h2 => hx)) hf (b := b + 1) (by omega) c2
      obtain ⟨fw2, ch2, c3⟩ := ih (b + 1) ((d.s_fewer fw).s_chances ch) hP (by omega) (by omega)
      have ek : bkD P f t (b + 1) = if Op.cmpValue (FP.dcmp (hadD P f (b + 1) (chD (fun _ => showD P t) (b + 1))) (bkD P f t b).2) CmpOp.l ≤ 0 then bkD P f t b else (b + 1, hadD P f (b + 1) (chD (fun _ => showD P t) (b + 1))) := rfl
      have g1 := had_fin hP hf ht (b := b + 1) (by omega)
      have g2 := bk_fin hP hf ht b hb
      have cq : (0 < Op.cmpValue (FP.dcmp (hadD P f (b + 1) (chD (fun _ => showD P t) (b + 1))) (bkD P f t b).2) CmpOp.g) ↔ ¬ Op.cmpValue (FP.dcmp (hadD P f (b + 1) (chD (fun _ => showD P t) (b + 1))) (bkD P f t b).2) CmpOp.l ≤ 0 := by
        obtain ⟨o, ho⟩ : ∃ o, FP.dcmp (hadD P f (b + 1) (chD (fun _ => showD P t) (b + 1))) (bkD P f t b).2 = some o := ⟨_, FP.Core.dcmp_zval (fin_nn g1) (fin_nn g2)⟩
        rw [ho]
        cases o
        · rw [cv_lt, cv_lt]; decide
        · rw [cv_eq, cv_eq]; decide
        · rw [cv_gt, cv_gt]; decide
      refine ⟨fw2, ch2, ?_⟩
      rw [if_neg (by rw [show (40 : Int32) = nI 40 from rfl, nI_ltI (by omega) (by omega)]; omega), yo_100, Option.bind_some, c1, Option.bind_some, yo_100, Option.bind_some, x1, Option.bind_some, if_neg (nI_nle (by omega) (by omega))]
      by_cases q : Op.cmpValue (FP.dcmp (hadD P f (b + 1) (chD (fun _ => showD P t) (b + 1))) (bkD P f t b).2) CmpOp.l ≤ 0
      · rw [ek, if_pos q] at c3
        rw [if_neg (fun z => cq.mp z q)]
        unfold m_X12_booked_J71
        rw [nI_1]
        refine c3.trans ?_
        rfl
      · rw [ek, if_neg q] at c3
        rw [if_pos (cq.mpr q)]
        unfold m_X12_booked_J64 m_X12_booked_J71
        rw [nI_1]
        refine c3.trans ?_
        rfl
theorem ybest (hN : 100 ≤ N) (hP : PR P d.now) {f t : Nat} (hf : f < 6) (ht : t ≤ 20) : ∃ fw ch : Nat → UInt64, m_X12_booked_L25 N N 100 (nI f) (nI t) (nI 0) FP.dconst0 (nI 0) (mk c d D) = some (nI (bkD P f t 40).1, mk c ((d.s_fewer fw).s_chances ch) D) := by
  obtain ⟨M, rfl⟩ : ∃ M, N = M + 1 := ⟨N - 1, by omega⟩
  have hx := show_cf hP.r1 hP.r2 ht
  obtain ⟨fw, ch, c1, c2⟩ := ychances (c := c) (D := D) (N := M + 1) hN hP ht (b := 0) (by omega)
  have x1 := yhad (c := c) (d := (d.s_fewer fw).s_chances ch) (D := D) hN hP (ch_rw (cs := fun _ => showD P t) (b := 0) (by omega) (fun n h1 h2 => hx)) hf (b := 0) (by omega) c2
  obtain ⟨fw2, ch2, c3⟩ := ybest_go (c := c) (D := D) (P := P) hN hf ht M 0 ((d.s_fewer fw).s_chances ch) hP (by omega) (by omega)
  refine ⟨fw2, ch2, ?_⟩
  unfold m_X12_booked_L25
  rw [if_neg (by decide), yo_100, Option.bind_some, c1, Option.bind_some, yo_100, Option.bind_some, x1, Option.bind_some, if_pos (by decide)]
  unfold m_X12_booked_J64 m_X12_booked_J71
  refine c3.trans ?_
  rfl
end
