-- ways
def cb : Nat → Nat → Nat
  | 0, i => if i = 0 then 1 else 0
  | n + 1, i => if i = 0 then cb n 0 else cb n i + cb n (i - 1)
theorem cb_le : ∀ n i, cb n i ≤ 2 ^ n
  | 0, i => by unfold cb; split <;> omega
  | n + 1, i => by
    have h1 := cb_le n i
    have h2 := cb_le n (i - 1)
    have h3 := cb_le n 0
    unfold cb
    split <;> omega
theorem cb_0 : ∀ n i, n < i → cb n i = 0
  | 0, i, h => by unfold cb; rw [if_neg (by omega)]
  | n + 1, i, h => by
    unfold cb
    rw [if_neg (by omega), cb_0 n i (by omega), cb_0 n (i - 1) (by omega)]
theorem cb_63 {n i : Nat} (h : n ≤ 40) : cb n i < 2 ^ 63 := by
  have h1 := cb_le n i
  have h2 : 2 ^ n ≤ 2 ^ 40 := Nat.pow_le_pow_right (by omega) h
  omega
section
variable {c : CS} {d : MS} {D : mM} {N k : Nat} {a : Int32} {P : PL}
theorem wfill_go : ∀ (n j : Nat) (c : CS), j ≤ 41 → 41 - j < n → ∃ r : Nat → Int64, m_J7_fill_d0a16_L6 N n 74 (lN 0) (nI j) (nI 41) (mk c d D) = some (mk (c.s_wrow r) d D) ∧ (∀ q, q < 41 → r q = if j ≤ q then lN 0 else c.wrow q) := by
  intro n
  induction n with
  | zero => intro j c _ h; omega
  | succ n ih =>
    intro j c hj hn
    unfold m_J7_fill_d0a16_L6
    by_cases h4 : j = 41
    · subst h4
      refine ⟨c.wrow, ?_, fun q hq => by rw [if_neg (by omega)]⟩
      rw [if_pos (nI_le (by omega) (by omega))]
      rfl
    · rw [if_neg (by rw [nI_leI (by omega) (by omega)]; omega), yu_74 (by omega), Option.bind_some, nI_1]
      obtain ⟨f, h1, h2⟩ := ih (j + 1) (c.s_wrow (va_up c.wrow j (lN 0))) (by omega) (by omega)
      refine ⟨f, ?_, fun q hq => ?_⟩
      · rw [h1]; rfl
      · rw [h2 q hq]
        simp only [pCS_wrow, va_up]
        repeat' split
        all_goals first | rfl | omega
theorem wfill (hN : 100 ≤ N) : ∃ r : Nat → Int64, m_J7_fill_d0a16 N 74 (lN 0) (mk c d D) = some (mk (c.s_wrow r) d D) ∧ (∀ q, q < 41 → r q = lN 0) := by
  obtain ⟨r, r1, r2⟩ := wfill_go (d := d) (D := D) (N := N) N 0 c (by omega) (by omega)
  refine ⟨r, ?_, fun q hq => by rw [r2 q hq, if_pos (by omega)]⟩
  unfold m_J7_fill_d0a16
  rw [yn_74]
  exact r1
theorem xsets_in {k17 : Nat → Int32 → Int32 → Int32 → mM → Option (Int64 × mM)} {b k i : Nat} (hi : i < 40) : ∀ (n j : Nat) (c : CS), j ≤ i + 1 → j < n → (∀ q, q ≤ 40 → c.wrow q = lN (if j < q then cb (i + 1) q else cb i q)) → ∃ r : Nat → Int64, m_X9_setsOf_L25 N k17 n 73 (nI b) (nI k) (nI (i + 1)) (nI j) (mk c d D) = k17 73 (nI b) (nI k) (nI (i + 1 + 1)) (mk (c.s_wrow r) d D) ∧ (∀ q, q ≤ 40 → r q = lN (cb (i + 1) q)) := by
  intro n
  induction n with
  | zero => intro j c _ h; omega
  | succ n ih =>
    intro j c hj hn hc
    unfold m_X9_setsOf_L25
    by_cases e : j = 0
    · subst e
      refine ⟨c.wrow, ?_, fun q hq => ?_⟩
      · simp (disch := omega) only [Option.bind_some, plit, plit64, nI_add, pk_mul, if_true, if_false, or_true, true_or, oifT, Nat.one_ne_zero, ↓reduceIte, Nat.reduceLT, Nat.reduceLeDiff, Nat.reduceEqDiff, Nat.reduceAdd, Nat.reduceMul, Nat.reduceSub, Nat.reduceDiv, nI_eq, nI_leI, nI_ltI, nI_neg, neg_eq, Nat.le_refl]
        rfl
      · rw [hc q hq]
        by_cases q0 : q = 0
        · subst q0
          rw [if_neg (by omega)]
          rfl
        · rw [if_pos (by omega)]
    · have c0 := hc j (by omega)
      have c1 := hc (j - 1) (by omega)
      rw [if_neg (by omega)] at c0 c1
      have es : cb (i + 1) j = cb i j + cb i (j - 1) := by
        show (if j = 0 then cb i 0 else cb i j + cb i (j - 1)) = _
        rw [if_neg e]
      obtain ⟨r, r1, r2⟩ := ih (j - 1) (c.s_wrow (va_up c.wrow j (lN (cb i j + cb i (j - 1))))) (by omega) (by omega) (fun q hq => by
        show va_up c.wrow j _ q = _
        by_cases e2 : q = j
        · subst e2
          rw [upe, if_pos (by omega), es]
        · rw [upn e2, hc q hq]
          by_cases e3 : j < q
          · rw [if_pos e3, if_pos (by omega)]
          · rw [if_neg e3, if_neg (by omega)])
      refine ⟨r, ?_, r2⟩
      have em : nI j + -nI 1 = nI (j - 1) := by
        rw [← nI_pred' (by omega), Int32.sub_eq_add_neg]
      simp (disch := omega) only [Option.bind_some, plit, plit64, nI_add, pk_mul, if_true, if_false, or_true, true_or, oifT, Nat.one_ne_zero, ↓reduceIte, Nat.reduceLT, Nat.reduceLeDiff, Nat.reduceEqDiff, Nat.reduceAdd, Nat.reduceMul, Nat.reduceSub, Nat.reduceDiv, nI_eq, nI_leI, nI_ltI, nI_neg, neg_eq, yo_73, yr_73_0, yr_73_1, yn_74, ya_74, yu_74, show ¬ j ≤ 0 by omega, pk_sub, c0, c1, lN_add, em]
      rw [r1]
      rfl
theorem xsets_go (hN : 100 ≤ N) {b k : Nat} (hb : b ≤ 40) (hk : k ≤ 40) : ∀ (n i : Nat) (c : CS), i ≤ b → b - i < n → (∀ q, q ≤ 40 → c.wrow q = lN (cb i q)) → ∃ r : Nat → Int64, m_X9_setsOf_L17 N n 73 (nI b) (nI k) (nI (i + 1)) (mk c d D) = some (lN (cb b k), mk (c.s_wrow r) d D) := by
  intro n
  induction n with
  | zero => intro i c _ h; omega
  | succ n ih =>
    intro i c hi hn hc
    unfold m_X9_setsOf_L17
    by_cases e : i = b
    · subst e
      refine ⟨c.wrow, ?_⟩
      simp (disch := omega) only [Option.bind_some, plit, plit64, nI_add, pk_mul, if_true, if_false, or_true, true_or, oifT, Nat.one_ne_zero, ↓reduceIte, Nat.reduceLT, Nat.reduceLeDiff, Nat.reduceEqDiff, Nat.reduceAdd, Nat.reduceMul, Nat.reduceSub, Nat.reduceDiv, nI_eq, nI_leI, nI_ltI, nI_neg, neg_eq, yo_73, yr_73_0, yr_73_1, yn_74, ya_74, yu_74, show i < i + 1 by omega, hc k hk]
      rfl
    · obtain ⟨r, r1, r2⟩ := xsets_in (d := d) (D := D) (N := N) (k17 := m_X9_setsOf_L17 N n) (b := b) (k := k) (i := i) (by omega) N (i + 1) c (Nat.le_refl _) (by omega) (fun q hq => by
        rw [hc q hq]
        by_cases e3 : i + 1 < q
        · rw [if_pos e3, cb_0 i q (by omega), cb_0 (i + 1) q (by omega)]
        · rw [if_neg e3])
      obtain ⟨r', r3⟩ := ih (i + 1) (c.s_wrow r) (by omega) (by omega) r2
      refine ⟨r', ?_⟩
      rw [if_neg (nI_nlt (by omega) (by omega))]
      refine r1.trans (r3.trans ?_)
      rfl
theorem xsets (hN : 100 ≤ N) {b k : Nat} (hb : b ≤ 40) (hk : k ≤ 40) : ∃ r : Nat → Int64, m_X9_setsOf N 73 (nI b) (nI k) (mk c d D) = some (lN (cb b k), mk (c.s_wrow r) d D) := by
  obtain ⟨r, r1, r2⟩ := wfill (c := c) (d := d) (D := D) hN
  obtain ⟨r', r3⟩ := xsets_go (d := d) (D := D) hN hb hk N 0 (c.s_wrow (va_up r 0 (lN 1))) (by omega) (by omega) (fun q hq => by
    show va_up r 0 (lN 1) q = _
    unfold cb
    by_cases e : q = 0
    · subst e; rw [upe, if_pos rfl]
    · rw [upn e, if_neg e, r2 q (by omega)])
  refine ⟨r', ?_⟩
  simp (disch := omega) only [m_X9_setsOf, Option.bind_some, plit, plit64, nI_add, pk_mul, if_true, if_false, or_true, true_or, oifT, Nat.one_ne_zero, ↓reduceIte, Nat.reduceLT, Nat.reduceLeDiff, Nat.reduceEqDiff, Nat.reduceAdd, Nat.reduceMul, Nat.reduceSub, Nat.reduceDiv, yo_73, yr_73_0, yr_73_1, yn_74, ya_74, yu_74, r1, pCS_wrow, qCS_wrow]
  simp only [Nat.zero_add] at r3
  rw [r3]
  rfl
/-- WAYS -/
def wyO (b k y : Nat) : Option Nat := ((pwO y k).bind fun p => mulO (cb b k) p).bind fun s => (pwO (100 - y) (b - k)).bind fun q => mulO s q
theorem xways (hN : 100 ≤ N) (hN2 : N < 2 ^ 31) {b k y : Nat} (hb : b ≤ 40) (hk : k ≤ b) (hy : y ≤ 100) : ∃ r : Nat → Int64, m_X9_waysOf N 73 (nI b) (nI k) (nI y) (mk c d D) = some (enc (wyO b k y), mk (c.s_wrow r) d D) := by
  obtain ⟨r, r1⟩ := xsets (c := c) (d := d) (D := D) hN hb (k := k) (by omega)
  have p1 := xpower (N := N) (b := y) (e := k) (by omega) (by omega) hN2
  have p2 := xpower (N := N) (b := 100 - y) (e := b - k) (by omega) (by omega) hN2
  have t1 := xtimes (x := some (cb b k)) (y := pwO y k) (vo_some (cb_63 hb)) (vo_pw k)
  have v1 : VO ((some (cb b k)).bind fun a => (pwO y k).bind fun b => mulO a b) := vo_bind fun _ => vo_bind fun _ => vo_mul
  have t2 := xtimes (x := (some (cb b k)).bind fun a => (pwO y k).bind fun b => mulO a b) (y := pwO (100 - y) (b - k)) v1 (vo_pw _)
  have t1 : m_X9_times (lN (cb b k)) (enc (pwO y k)) = _ := t1
  simp only [Option.bind_some] at t1 t2
  refine ⟨r, ?_⟩
  simp (disch := omega) only [m_X9_waysOf, Option.bind_some, plit, plit64, nI_add, pk_mul, if_true, if_false, or_true, true_or, oifT, Nat.one_ne_zero, ↓reduceIte, Nat.reduceLT, Nat.reduceLeDiff, Nat.reduceEqDiff, Nat.reduceAdd, Nat.reduceMul, Nat.reduceSub, Nat.reduceDiv, yo_73, yr_73_0, yr_73_1, yn_74, ya_74, yu_74, r1, nI_l, p1, pk_sub, p2, t1, t2]
  rfl
-- the reference
theorem ysets_in {k30 : Nat → Int32 → Int32 → Int32 → mM → Option (Int64 × mM)} {b k i : Nat} (hb : b ≤ 40) (hi : i < b) : ∀ (n j : Nat) (d : MS), j ≤ i + 1 → j < n → (∀ q, q ≤ b → d.sets q = lN (if j < q then cb (i + 1) q else cb i q)) → ∃ r : Nat → Int64, m_X12_setsOf_L38 N k30 n 100 (nI b) (nI k) (nI (i + 1)) (nI j) (mk c d D) = k30 100 (nI b) (nI k) (nI (i + 1 + 1)) (mk c (d.s_sets r) D) ∧ (∀ q, q ≤ b → r q = lN (cb (i + 1) q)) := by
  intro n
  induction n with
  | zero => intro j d _ h; omega
  | succ n ih =>
    intro j d hj hn hc
    unfold m_X12_setsOf_L38
    by_cases e : j = 0
    · subst e
      refine ⟨d.sets, ?_, fun q hq => ?_⟩
      · simp (disch := omega) only [Option.bind_some, plit, plit64, nI_add, pk_mul, if_true, if_false, or_true, true_or, oifT, Nat.one_ne_zero, ↓reduceIte, Nat.reduceLT, Nat.reduceLeDiff, Nat.reduceEqDiff, Nat.reduceAdd, Nat.reduceMul, Nat.reduceSub, Nat.reduceDiv, nI_eq, nI_leI, nI_ltI, nI_neg, neg_eq, Nat.le_refl]
        rfl
      · rw [hc q hq]
        by_cases q0 : q = 0
        · subst q0
          rw [if_neg (by omega)]
          rfl
        · rw [if_pos (by omega)]
    · have c0 := hc j (by omega)
      have c1 := hc (j - 1) (by omega)
      rw [if_neg (by omega)] at c0 c1
      have es : cb (i + 1) j = cb i j + cb i (j - 1) := by
        show (if j = 0 then cb i 0 else cb i j + cb i (j - 1)) = _
        rw [if_neg e]
      obtain ⟨r, r1, r2⟩ := ih (j - 1) (d.s_sets (va_up d.sets j (lN (cb i j + cb i (j - 1))))) (by omega) (by omega) (fun q hq => by
        show va_up d.sets j _ q = _
        by_cases e2 : q = j
        · subst e2
          rw [upe, if_pos (by omega), es]
        · rw [upn e2, hc q hq]
          by_cases e3 : j < q
          · rw [if_pos e3, if_pos (by omega)]
          · rw [if_neg e3, if_neg (by omega)])
      refine ⟨r, ?_, r2⟩
      have em : nI j + -nI 1 = nI (j - 1) := by
        rw [← nI_pred' (by omega), Int32.sub_eq_add_neg]
      simp (disch := omega) only [Option.bind_some, plit, plit64, nI_add, pk_mul, if_true, if_false, or_true, true_or, oifT, Nat.one_ne_zero, ↓reduceIte, Nat.reduceLT, Nat.reduceLeDiff, Nat.reduceEqDiff, Nat.reduceAdd, Nat.reduceMul, Nat.reduceSub, Nat.reduceDiv, nI_eq, nI_leI, nI_ltI, nI_neg, neg_eq, yo_100, yr_100_0, yr_100_1, yr_100_2, yr_100_3, yr_100_4, yr_100_5, yr_100_6, yr_100_7, yr_100_8, yr_100_9, yr_100_10, yr_100_11, yr_100_12, yr_100_13, yr_100_14, yr_100_15, yr_100_16, yr_100_17, yr_100_18, yr_100_19, yr_100_20, yr_100_21, yr_100_22, yr_100_23, yr_100_24, yr_100_25, yr_100_26, yr_100_27, yr_100_28, ya_101, ya_102, ya_103, ya_104, ya_105, ya_106, ya_107, ya_108, ya_109, ya_110, ya_111, ya_112, ya_113, ya_114, ya_115, ya_116, ya_117, ya_118, ya_119, yw_100_2, yw_100_3, yw_100_5, yw_100_15, yw_100_20, yw_100_21, yw_100_22, yw_100_24, yw_100_25, yw_100_28, yu_101, yu_102, yu_103, yu_104, yu_105, yu_106, yu_107, yu_108, yu_109, yu_110, yu_111, yu_112, yu_113, yu_114, yu_115, yu_116, yu_117, yu_118, yu_119, show ¬ j ≤ 0 by omega, pk_sub, c0, c1, lN_add, em]
      rw [r1]
      rfl
theorem ysets_go (hN : 100 ≤ N) {b k : Nat} (hb : b ≤ 40) (hk : k ≤ b) : ∀ (n i : Nat) (d : MS), i ≤ b → b - i < n → (∀ q, q ≤ b → d.sets q = lN (cb i q)) → ∃ r : Nat → Int64, m_X12_setsOf_L30 N n 100 (nI b) (nI k) (nI (i + 1)) (mk c d D) = some (lN (cb b k), mk c (d.s_sets r) D) := by
  intro n
  induction n with
  | zero => intro i d _ h; omega
  | succ n ih =>
    intro i d hi hn hc
    unfold m_X12_setsOf_L30
    by_cases e : i = b
    · subst e
      refine ⟨d.sets, ?_⟩
      simp (disch := omega) only [Option.bind_some, plit, plit64, nI_add, pk_mul, if_true, if_false, or_true, true_or, oifT, Nat.one_ne_zero, ↓reduceIte, Nat.reduceLT, Nat.reduceLeDiff, Nat.reduceEqDiff, Nat.reduceAdd, Nat.reduceMul, Nat.reduceSub, Nat.reduceDiv, nI_eq, nI_leI, nI_ltI, nI_neg, neg_eq, yo_100, yr_100_0, yr_100_1, yr_100_2, yr_100_3, yr_100_4, yr_100_5, yr_100_6, yr_100_7, yr_100_8, yr_100_9, yr_100_10, yr_100_11, yr_100_12, yr_100_13, yr_100_14, yr_100_15, yr_100_16, yr_100_17, yr_100_18, yr_100_19, yr_100_20, yr_100_21, yr_100_22, yr_100_23, yr_100_24, yr_100_25, yr_100_26, yr_100_27, yr_100_28, ya_101, ya_102, ya_103, ya_104, ya_105, ya_106, ya_107, ya_108, ya_109, ya_110, ya_111, ya_112, ya_113, ya_114, ya_115, ya_116, ya_117, ya_118, ya_119, show i < i + 1 by omega, hc k hk]
      rfl
    · obtain ⟨r, r1, r2⟩ := ysets_in (c := c) (D := D) (N := N) (k30 := m_X12_setsOf_L30 N n) (b := b) (k := k) hb (i := i) (by omega) N (i + 1) d (Nat.le_refl _) (by omega) (fun q hq => by
        rw [hc q hq]
        by_cases e3 : i + 1 < q
        · rw [if_pos e3, cb_0 i q (by omega), cb_0 (i + 1) q (by omega)]
        · rw [if_neg e3])
      obtain ⟨r', r3⟩ := ih (i + 1) (d.s_sets r) (by omega) (by omega) r2
      refine ⟨r', ?_⟩
      rw [if_neg (nI_nlt (by omega) (by omega))]
      refine r1.trans (r3.trans ?_)
      rfl
theorem ysets2 (hN : 100 ≤ N) {b k : Nat} (hb : b ≤ 40) (hk : k ≤ b) : ∀ (n i : Nat) (d : MS), i ≤ b + 1 → b + 1 - i < n → (∀ q, q < i → d.sets q = lN (cb 0 q)) → ∃ r : Nat → Int64, m_X12_setsOf_L2 N n 100 (nI b) (nI k) (nI i) (mk c d D) = some (lN (cb b k), mk c (d.s_sets r) D) := by
  intro n
  induction n with
  | zero => intro i d _ h; omega
  | succ n ih =>
    intro i d hi hn hc
    unfold m_X12_setsOf_L2
    by_cases e : i = b + 1
    · subst e
      obtain ⟨r, r1⟩ := ysets_go (c := c) (D := D) hN hb hk N 0 d (by omega) (by omega) (fun q hq => hc q (by omega))
      refine ⟨r, ?_⟩
      rw [if_pos (nI_lt (by omega) (by omega))]
      exact r1
    · by_cases i0 : i = 0
      · subst i0
        obtain ⟨r, r1⟩ := ih 1 (d.s_sets (va_up d.sets 0 (lN 1))) (by omega) (by omega) (fun q hq => by
          have : q = 0 := by omega
          subst this
          show va_up d.sets 0 (lN 1) 0 = _
          rw [upe]
          rfl)
        refine ⟨r, ?_⟩
        simp (disch := omega) only [m_X12_setsOf_J21, Option.bind_some, plit, plit64, nI_add, pk_mul, if_true, if_false, or_true, true_or, oifT, Nat.one_ne_zero, ↓reduceIte, Nat.reduceLT, Nat.reduceLeDiff, Nat.reduceEqDiff, Nat.reduceAdd, Nat.reduceMul, Nat.reduceSub, Nat.reduceDiv, nI_eq, nI_leI, nI_ltI, nI_neg, neg_eq, yo_100, yr_100_0, yr_100_1, yr_100_2, yr_100_3, yr_100_4, yr_100_5, yr_100_6, yr_100_7, yr_100_8, yr_100_9, yr_100_10, yr_100_11, yr_100_12, yr_100_13, yr_100_14, yr_100_15, yr_100_16, yr_100_17, yr_100_18, yr_100_19, yr_100_20, yr_100_21, yr_100_22, yr_100_23, yr_100_24, yr_100_25, yr_100_26, yr_100_27, yr_100_28, ya_101, ya_102, ya_103, ya_104, ya_105, ya_106, ya_107, ya_108, ya_109, ya_110, ya_111, ya_112, ya_113, ya_114, ya_115, ya_116, ya_117, ya_118, ya_119, yw_100_2, yw_100_3, yw_100_5, yw_100_15, yw_100_20, yw_100_21, yw_100_22, yw_100_24, yw_100_25, yw_100_28, yu_101, yu_102, yu_103, yu_104, yu_105, yu_106, yu_107, yu_108, yu_109, yu_110, yu_111, yu_112, yu_113, yu_114, yu_115, yu_116, yu_117, yu_118, yu_119, show ¬ b < 0 by omega]
        rw [r1]
        rfl
      · obtain ⟨r, r1⟩ := ih (i + 1) (d.s_sets (va_up d.sets i (lN 0))) (by omega) (by omega) (fun q hq => by
          show va_up d.sets i (lN 0) q = _
          by_cases e2 : q = i
          · subst e2
            rw [upe]
            unfold cb
            rw [if_neg i0]
          · rw [upn e2]
            exact hc q (by omega))
        refine ⟨r, ?_⟩
        simp (disch := omega) only [m_X12_setsOf_J21, Option.bind_some, plit, plit64, nI_add, pk_mul, if_true, if_false, or_true, true_or, oifT, Nat.one_ne_zero, ↓reduceIte, Nat.reduceLT, Nat.reduceLeDiff, Nat.reduceEqDiff, Nat.reduceAdd, Nat.reduceMul, Nat.reduceSub, Nat.reduceDiv, nI_eq, nI_leI, nI_ltI, nI_neg, neg_eq, yo_100, yr_100_0, yr_100_1, yr_100_2, yr_100_3, yr_100_4, yr_100_5, yr_100_6, yr_100_7, yr_100_8, yr_100_9, yr_100_10, yr_100_11, yr_100_12, yr_100_13, yr_100_14, yr_100_15, yr_100_16, yr_100_17, yr_100_18, yr_100_19, yr_100_20, yr_100_21, yr_100_22, yr_100_23, yr_100_24, yr_100_25, yr_100_26, yr_100_27, yr_100_28, ya_101, ya_102, ya_103, ya_104, ya_105, ya_106, ya_107, ya_108, ya_109, ya_110, ya_111, ya_112, ya_113, ya_114, ya_115, ya_116, ya_117, ya_118, ya_119, yw_100_2, yw_100_3, yw_100_5, yw_100_15, yw_100_20, yw_100_21, yw_100_22, yw_100_24, yw_100_25, yw_100_28, yu_101, yu_102, yu_103, yu_104, yu_105, yu_106, yu_107, yu_108, yu_109, yu_110, yu_111, yu_112, yu_113, yu_114, yu_115, yu_116, yu_117, yu_118, yu_119, show ¬ b < i by omega, i0]
        rw [r1]
        rfl
theorem ysets (hN : 100 ≤ N) {b k : Nat} (hb : b ≤ 40) (hk : k ≤ b) : ∃ r : Nat → Int64, m_X12_setsOf N 100 (nI b) (nI k) (mk c d D) = some (lN (cb b k), mk c (d.s_sets r) D) :=
  ysets2 hN hb hk N 0 d (by omega) (by omega) (fun q hq => absurd hq (Nat.not_lt_zero _))
theorem isOver_id (x : Int32) (h : d.isOver = x) : d.s_isOver x = d := by rw [← h]; rfl
set_option maxHeartbeats 4000000 in
theorem p_ways (h : RR c d D) (hN : 100 ≤ N) (hN2 : N < 2 ^ 31) (a b x : Int32) : ∃ r c' d', m_X11_ways N 10 a b x (mk c d D) = some (r, mk c' d D) ∧ m_X12_ways N 100 a b x (mk c' d D) = some (r, mk c' d' D) ∧ RR c' d' D := by
  rcases rg a 40 with ⟨b1, hb1, rfl⟩ | ho
  · have e1 := wi_in (k := b1) (m := 40) hb1
    have e2 := isBooked_in hb1
    rcases rg b b1 with ⟨k1, hk1, rfl⟩ | ho
    · have e3 := wi_in (k := k1) (m := b1) hk1
      have e4 := in_in (k := k1) (lo := 0) (hi := b1) (by omega) hk1
      rw [nI_l (by omega)] at e4
      rcases rg x 100 with ⟨y1, hy1, rfl⟩ | ho
      · have e5 := wi_in (k := y1) (m := 100) hy1
        have e6 := in_in (k := y1) (lo := 0) (hi := 100) (by omega) hy1
        rw [nI_l (by omega)] at e6
        obtain ⟨r, r1⟩ := xways (c := c) (d := d) (D := D) hN hN2 hb1 hk1 hy1
        obtain ⟨q, q1⟩ := ysets (c := c.s_wrow r) (d := d.s_isOver (nI 0)) (D := D) hN hb1 hk1
        have p1 := ypower (c := c.s_wrow r) (d := (d.s_isOver (nI 0)).s_sets q) (D := D) (N := N) (b := y1) (e := k1) (by omega) (by omega) hN2 rfl
        have key : ∃ d2 : MS, m_X12_ways N 100 (nI b1) (nI k1) (nI y1) (mk (c.s_wrow r) d D) = some (enc (wyO b1 k1 y1), mk (c.s_wrow r) d2 D) ∧ RR (c.s_wrow r) d2 D := by
          unfold wyO
          have hs63 := cb_63 (n := b1) (i := k1) hb1
          cases hp : pwO y1 k1 with
          | none =>
            rw [hp] at p1
            refine ⟨((d.s_isOver (nI 0)).s_sets q).s_isOver (nI 1), ?_, h⟩
            have p1 : m_X12_power N 100 (nI y1) (nI k1) (mk (c.s_wrow r) ((d.s_isOver (nI 0)).s_sets q) D) = some (lN 0, mk (c.s_wrow r) (((d.s_isOver (nI 0)).s_sets q).s_isOver (nI 1)) D) := p1
            simp (disch := omega) only [m_X12_ways, m_X12_ways_J72, m_X12_ways_J94, m_X12_ways_J113, Option.bind_some, plit, plit64, nI_add, pk_mul, if_true, if_false, or_true, true_or, oifT, Nat.one_ne_zero, ↓reduceIte, Nat.reduceLT, Nat.reduceLeDiff, Nat.reduceEqDiff, Nat.reduceAdd, Nat.reduceMul, Nat.reduceSub, Nat.reduceDiv, nI_eq, nI_leI, nI_ltI, nI_neg, neg_eq, yo_100, yr_100_0, yr_100_1, yr_100_2, yr_100_3, yr_100_4, yr_100_5, yr_100_6, yr_100_7, yr_100_8, yr_100_9, yr_100_10, yr_100_11, yr_100_12, yr_100_13, yr_100_14, yr_100_15, yr_100_16, yr_100_17, yr_100_18, yr_100_19, yr_100_20, yr_100_21, yr_100_22, yr_100_23, yr_100_24, yr_100_25, yr_100_26, yr_100_27, yr_100_28, ya_101, ya_102, ya_103, ya_104, ya_105, ya_106, ya_107, ya_108, ya_109, ya_110, ya_111, ya_112, ya_113, ya_114, ya_115, ya_116, ya_117, ya_118, ya_119, yw_100_2, yw_100_3, yw_100_5, yw_100_15, yw_100_20, yw_100_21, yw_100_22, yw_100_24, yw_100_25, yw_100_28, yu_101, yu_102, yu_103, yu_104, yu_105, yu_106, yu_107, yu_108, yu_109, yu_110, yu_111, yu_112, yu_113, yu_114, yu_115, yu_116, yu_117, yu_118, yu_119, nI_l, e2, e4, e6, sZ, true_or, q1, p1, pMS_isOver]
            rfl
          | some p =>
            rw [hp] at p1
            have p1 : m_X12_power N 100 (nI y1) (nI k1) (mk (c.s_wrow r) ((d.s_isOver (nI 0)).s_sets q) D) = some (lN p, mk (c.s_wrow r) (((d.s_isOver (nI 0)).s_sets q).s_isOver (nI 0)) D) := p1
            have t1 := ytimes (c := c.s_wrow r) (d := ((d.s_isOver (nI 0)).s_sets q).s_isOver (nI 0)) (D := D) (a := cb b1 k1) (b := p) hs63 (vo_pw _ p hp)
            show ∃ d2 : MS, _ = some (enc ((mulO (cb b1 k1) p).bind _), _) ∧ _
            by_cases m1 : cb b1 k1 * p < 2 ^ 63
            · rw [if_pos m1] at t1
              have p2 := ypower (c := c.s_wrow r) (d := ((d.s_isOver (nI 0)).s_sets q).s_isOver (nI 0)) (D := D) (N := N) (b := 100 - y1) (e := b1 - k1) (by omega) (by omega) hN2 rfl
              rw [show mulO (cb b1 k1) p = some (cb b1 k1 * p) from if_pos m1]
              cases hq : pwO (100 - y1) (b1 - k1) with
              | none =>
                rw [hq] at p2
                have p2 : m_X12_power N 100 (nI (100 - y1)) (nI (b1 - k1)) (mk (c.s_wrow r) (((d.s_isOver (nI 0)).s_sets q).s_isOver (nI 0)) D) = some (lN 0, mk (c.s_wrow r) ((((d.s_isOver (nI 0)).s_sets q).s_isOver (nI 0)).s_isOver (nI 1)) D) := p2
                refine ⟨(((d.s_isOver (nI 0)).s_sets q).s_isOver (nI 0)).s_isOver (nI 1), ?_, h⟩
                simp (disch := omega) only [m_X12_ways, m_X12_ways_J72, m_X12_ways_J94, m_X12_ways_J113, Option.bind_some, plit, plit64, nI_add, pk_mul, if_true, if_false, or_true, true_or, oifT, Nat.one_ne_zero, ↓reduceIte, Nat.reduceLT, Nat.reduceLeDiff, Nat.reduceEqDiff, Nat.reduceAdd, Nat.reduceMul, Nat.reduceSub, Nat.reduceDiv, nI_eq, nI_leI, nI_ltI, nI_neg, neg_eq, yo_100, yr_100_0, yr_100_1, yr_100_2, yr_100_3, yr_100_4, yr_100_5, yr_100_6, yr_100_7, yr_100_8, yr_100_9, yr_100_10, yr_100_11, yr_100_12, yr_100_13, yr_100_14, yr_100_15, yr_100_16, yr_100_17, yr_100_18, yr_100_19, yr_100_20, yr_100_21, yr_100_22, yr_100_23, yr_100_24, yr_100_25, yr_100_26, yr_100_27, yr_100_28, ya_101, ya_102, ya_103, ya_104, ya_105, ya_106, ya_107, ya_108, ya_109, ya_110, ya_111, ya_112, ya_113, ya_114, ya_115, ya_116, ya_117, ya_118, ya_119, yw_100_2, yw_100_3, yw_100_5, yw_100_15, yw_100_20, yw_100_21, yw_100_22, yw_100_24, yw_100_25, yw_100_28, yu_101, yu_102, yu_103, yu_104, yu_105, yu_106, yu_107, yu_108, yu_109, yu_110, yu_111, yu_112, yu_113, yu_114, yu_115, yu_116, yu_117, yu_118, yu_119, nI_l, e2, e4, e6, sZ, true_or, q1, p1, pMS_isOver, t1, pk_sub, p2]
                rfl
              | some w =>
                rw [hq] at p2
                have p2 : m_X12_power N 100 (nI (100 - y1)) (nI (b1 - k1)) (mk (c.s_wrow r) (((d.s_isOver (nI 0)).s_sets q).s_isOver (nI 0)) D) = some (lN w, mk (c.s_wrow r) ((((d.s_isOver (nI 0)).s_sets q).s_isOver (nI 0)).s_isOver (nI 0)) D) := p2
                have t2 := ytimes (c := c.s_wrow r) (d := (((d.s_isOver (nI 0)).s_sets q).s_isOver (nI 0)).s_isOver (nI 0)) (D := D) (a := cb b1 k1 * p) (b := w) m1 (vo_pw _ w hq)
                show ∃ d2 : MS, _ = some (enc (mulO (cb b1 k1 * p) w), _) ∧ _
                by_cases m2 : cb b1 k1 * p * w < 2 ^ 63
                · rw [if_pos m2] at t2
                  rw [show mulO (cb b1 k1 * p) w = some (cb b1 k1 * p * w) from if_pos m2]
                  refine ⟨(((d.s_isOver (nI 0)).s_sets q).s_isOver (nI 0)).s_isOver (nI 0), ?_, h⟩
                  simp (disch := omega) only [m_X12_ways, m_X12_ways_J72, m_X12_ways_J94, m_X12_ways_J113, Option.bind_some, plit, plit64, nI_add, pk_mul, if_true, if_false, or_true, true_or, oifT, Nat.one_ne_zero, ↓reduceIte, Nat.reduceLT, Nat.reduceLeDiff, Nat.reduceEqDiff, Nat.reduceAdd, Nat.reduceMul, Nat.reduceSub, Nat.reduceDiv, nI_eq, nI_leI, nI_ltI, nI_neg, neg_eq, yo_100, yr_100_0, yr_100_1, yr_100_2, yr_100_3, yr_100_4, yr_100_5, yr_100_6, yr_100_7, yr_100_8, yr_100_9, yr_100_10, yr_100_11, yr_100_12, yr_100_13, yr_100_14, yr_100_15, yr_100_16, yr_100_17, yr_100_18, yr_100_19, yr_100_20, yr_100_21, yr_100_22, yr_100_23, yr_100_24, yr_100_25, yr_100_26, yr_100_27, yr_100_28, ya_101, ya_102, ya_103, ya_104, ya_105, ya_106, ya_107, ya_108, ya_109, ya_110, ya_111, ya_112, ya_113, ya_114, ya_115, ya_116, ya_117, ya_118, ya_119, yw_100_2, yw_100_3, yw_100_5, yw_100_15, yw_100_20, yw_100_21, yw_100_22, yw_100_24, yw_100_25, yw_100_28, yu_101, yu_102, yu_103, yu_104, yu_105, yu_106, yu_107, yu_108, yu_109, yu_110, yu_111, yu_112, yu_113, yu_114, yu_115, yu_116, yu_117, yu_118, yu_119, nI_l, e2, e4, e6, sZ, true_or, q1, p1, pMS_isOver, t1, pk_sub, p2, t2]
                  rfl
                · rw [if_neg m2] at t2
                  rw [show mulO (cb b1 k1 * p) w = none from if_neg m2]
                  refine ⟨((((d.s_isOver (nI 0)).s_sets q).s_isOver (nI 0)).s_isOver (nI 0)).s_isOver (nI 1), ?_, h⟩
                  simp (disch := omega) only [m_X12_ways, m_X12_ways_J72, m_X12_ways_J94, m_X12_ways_J113, Option.bind_some, plit, plit64, nI_add, pk_mul, if_true, if_false, or_true, true_or, oifT, Nat.one_ne_zero, ↓reduceIte, Nat.reduceLT, Nat.reduceLeDiff, Nat.reduceEqDiff, Nat.reduceAdd, Nat.reduceMul, Nat.reduceSub, Nat.reduceDiv, nI_eq, nI_leI, nI_ltI, nI_neg, neg_eq, yo_100, yr_100_0, yr_100_1, yr_100_2, yr_100_3, yr_100_4, yr_100_5, yr_100_6, yr_100_7, yr_100_8, yr_100_9, yr_100_10, yr_100_11, yr_100_12, yr_100_13, yr_100_14, yr_100_15, yr_100_16, yr_100_17, yr_100_18, yr_100_19, yr_100_20, yr_100_21, yr_100_22, yr_100_23, yr_100_24, yr_100_25, yr_100_26, yr_100_27, yr_100_28, ya_101, ya_102, ya_103, ya_104, ya_105, ya_106, ya_107, ya_108, ya_109, ya_110, ya_111, ya_112, ya_113, ya_114, ya_115, ya_116, ya_117, ya_118, ya_119, yw_100_2, yw_100_3, yw_100_5, yw_100_15, yw_100_20, yw_100_21, yw_100_22, yw_100_24, yw_100_25, yw_100_28, yu_101, yu_102, yu_103, yu_104, yu_105, yu_106, yu_107, yu_108, yu_109, yu_110, yu_111, yu_112, yu_113, yu_114, yu_115, yu_116, yu_117, yu_118, yu_119, nI_l, e2, e4, e6, sZ, true_or, q1, p1, pMS_isOver, t1, pk_sub, p2, t2]
                  rfl
            · rw [if_neg m1] at t1
              rw [show mulO (cb b1 k1) p = none from if_neg m1]
              refine ⟨(((d.s_isOver (nI 0)).s_sets q).s_isOver (nI 0)).s_isOver (nI 1), ?_, h⟩
              simp (disch := omega) only [m_X12_ways, m_X12_ways_J72, m_X12_ways_J94, m_X12_ways_J113, Option.bind_some, plit, plit64, nI_add, pk_mul, if_true, if_false, or_true, true_or, oifT, Nat.one_ne_zero, ↓reduceIte, Nat.reduceLT, Nat.reduceLeDiff, Nat.reduceEqDiff, Nat.reduceAdd, Nat.reduceMul, Nat.reduceSub, Nat.reduceDiv, nI_eq, nI_leI, nI_ltI, nI_neg, neg_eq, yo_100, yr_100_0, yr_100_1, yr_100_2, yr_100_3, yr_100_4, yr_100_5, yr_100_6, yr_100_7, yr_100_8, yr_100_9, yr_100_10, yr_100_11, yr_100_12, yr_100_13, yr_100_14, yr_100_15, yr_100_16, yr_100_17, yr_100_18, yr_100_19, yr_100_20, yr_100_21, yr_100_22, yr_100_23, yr_100_24, yr_100_25, yr_100_26, yr_100_27, yr_100_28, ya_101, ya_102, ya_103, ya_104, ya_105, ya_106, ya_107, ya_108, ya_109, ya_110, ya_111, ya_112, ya_113, ya_114, ya_115, ya_116, ya_117, ya_118, ya_119, yw_100_2, yw_100_3, yw_100_5, yw_100_15, yw_100_20, yw_100_21, yw_100_22, yw_100_24, yw_100_25, yw_100_28, yu_101, yu_102, yu_103, yu_104, yu_105, yu_106, yu_107, yu_108, yu_109, yu_110, yu_111, yu_112, yu_113, yu_114, yu_115, yu_116, yu_117, yu_118, yu_119, nI_l, e2, e4, e6, sZ, true_or, q1, p1, pMS_isOver, t1]
              rfl
        obtain ⟨d2, k1', k2'⟩ := key
        refine ⟨enc (wyO b1 k1 y1), c.s_wrow r, d2, ?_, k1', k2'⟩
        simp (disch := omega) only [m_X11_ways, Option.bind_some, plit, plit64, nI_add, pk_mul, if_true, if_false, or_true, true_or, oifT, Nat.one_ne_zero, ↓reduceIte, Nat.reduceLT, Nat.reduceLeDiff, Nat.reduceEqDiff, Nat.reduceAdd, Nat.reduceMul, Nat.reduceSub, Nat.reduceDiv, nI_eq, nI_leI, nI_ltI, nI_neg, neg_eq, yo_10, yr_10_0, yr_10_1, yr_10_2, yr_10_3, yr_10_4, yr_10_5, yr_10_6, yr_10_7, yr_10_8, yr_10_9, yr_10_10, yr_10_11, yo_11, yr_11_0, yr_11_1, yr_11_2, yr_11_3, yr_11_4, yn_13, ya_13, yo_14, yr_14_0, yr_14_1, yr_14_2, yr_14_3, ya_15, ya_16, yo_73, e1, e3, e5, r1]
      · have e5 := wi_out (x := x) (m := 100) ho
        have e6 := in_out (x := x) (lo := 0) (hi := 100) (by omega)
        refine ⟨-9223372036854775808, c, d, ?_, ?_, h⟩
        · simp (disch := omega) only [m_X11_ways, Option.bind_some, plit, plit64, nI_add, pk_mul, if_true, if_false, or_true, true_or, oifT, Nat.one_ne_zero, ↓reduceIte, Nat.reduceLT, Nat.reduceLeDiff, Nat.reduceEqDiff, Nat.reduceAdd, Nat.reduceMul, Nat.reduceSub, Nat.reduceDiv, nI_eq, nI_leI, nI_ltI, nI_neg, neg_eq, yo_10, yr_10_0, yr_10_1, yr_10_2, yr_10_3, yr_10_4, yr_10_5, yr_10_6, yr_10_7, yr_10_8, yr_10_9, yr_10_10, yr_10_11, yo_11, yr_11_0, yr_11_1, yr_11_2, yr_11_3, yr_11_4, yn_13, ya_13, yo_14, yr_14_0, yr_14_1, yr_14_2, yr_14_3, ya_15, ya_16, e1, e3, e5]
        · simp (disch := omega) only [m_X12_ways, Option.bind_some, plit, plit64, nI_add, pk_mul, if_true, if_false, or_true, true_or, oifT, Nat.one_ne_zero, ↓reduceIte, Nat.reduceLT, Nat.reduceLeDiff, Nat.reduceEqDiff, Nat.reduceAdd, Nat.reduceMul, Nat.reduceSub, Nat.reduceDiv, nI_eq, nI_leI, nI_ltI, nI_neg, neg_eq, yo_100, yr_100_0, yr_100_1, yr_100_2, yr_100_3, yr_100_4, yr_100_5, yr_100_6, yr_100_7, yr_100_8, yr_100_9, yr_100_10, yr_100_11, yr_100_12, yr_100_13, yr_100_14, yr_100_15, yr_100_16, yr_100_17, yr_100_18, yr_100_19, yr_100_20, yr_100_21, yr_100_22, yr_100_23, yr_100_24, yr_100_25, yr_100_26, yr_100_27, yr_100_28, ya_101, ya_102, ya_103, ya_104, ya_105, ya_106, ya_107, ya_108, ya_109, ya_110, ya_111, ya_112, ya_113, ya_114, ya_115, ya_116, ya_117, ya_118, ya_119, nI_l, e2, e4, e6]
    · have e3 := wi_out (x := b) (m := b1) ho
      have e4 := in_out (x := b) (lo := 0) (hi := b1) (by omega)
      refine ⟨-9223372036854775808, c, d, ?_, ?_, h⟩
      · simp (disch := omega) only [m_X11_ways, Option.bind_some, plit, plit64, nI_add, pk_mul, if_true, if_false, or_true, true_or, oifT, Nat.one_ne_zero, ↓reduceIte, Nat.reduceLT, Nat.reduceLeDiff, Nat.reduceEqDiff, Nat.reduceAdd, Nat.reduceMul, Nat.reduceSub, Nat.reduceDiv, nI_eq, nI_leI, nI_ltI, nI_neg, neg_eq, yo_10, yr_10_0, yr_10_1, yr_10_2, yr_10_3, yr_10_4, yr_10_5, yr_10_6, yr_10_7, yr_10_8, yr_10_9, yr_10_10, yr_10_11, yo_11, yr_11_0, yr_11_1, yr_11_2, yr_11_3, yr_11_4, yn_13, ya_13, yo_14, yr_14_0, yr_14_1, yr_14_2, yr_14_3, ya_15, ya_16, e1, e3]
      · simp (disch := omega) only [m_X12_ways, Option.bind_some, plit, plit64, nI_add, pk_mul, if_true, if_false, or_true, true_or, oifT, Nat.one_ne_zero, ↓reduceIte, Nat.reduceLT, Nat.reduceLeDiff, Nat.reduceEqDiff, Nat.reduceAdd, Nat.reduceMul, Nat.reduceSub, Nat.reduceDiv, nI_eq, nI_leI, nI_ltI, nI_neg, neg_eq, yo_100, yr_100_0, yr_100_1, yr_100_2, yr_100_3, yr_100_4, yr_100_5, yr_100_6, yr_100_7, yr_100_8, yr_100_9, yr_100_10, yr_100_11, yr_100_12, yr_100_13, yr_100_14, yr_100_15, yr_100_16, yr_100_17, yr_100_18, yr_100_19, yr_100_20, yr_100_21, yr_100_22, yr_100_23, yr_100_24, yr_100_25, yr_100_26, yr_100_27, yr_100_28, ya_101, ya_102, ya_103, ya_104, ya_105, ya_106, ya_107, ya_108, ya_109, ya_110, ya_111, ya_112, ya_113, ya_114, ya_115, ya_116, ya_117, ya_118, ya_119, nI_l, e2, e4]
  · have e1 := wi_out (x := a) (m := 40) ho
    have e2 := isBooked_out ho
    refine ⟨-9223372036854775808, c, d, ?_, ?_, h⟩
    · simp (disch := omega) only [m_X11_ways, Option.bind_some, plit, plit64, nI_add, pk_mul, if_true, if_false, or_true, true_or, oifT, Nat.one_ne_zero, ↓reduceIte, Nat.reduceLT, Nat.reduceLeDiff, Nat.reduceEqDiff, Nat.reduceAdd, Nat.reduceMul, Nat.reduceSub, Nat.reduceDiv, nI_eq, nI_leI, nI_ltI, nI_neg, neg_eq, yo_10, yr_10_0, yr_10_1, yr_10_2, yr_10_3, yr_10_4, yr_10_5, yr_10_6, yr_10_7, yr_10_8, yr_10_9, yr_10_10, yr_10_11, yo_11, yr_11_0, yr_11_1, yr_11_2, yr_11_3, yr_11_4, yn_13, ya_13, yo_14, yr_14_0, yr_14_1, yr_14_2, yr_14_3, ya_15, ya_16, e1]
    · simp (disch := omega) only [m_X12_ways, Option.bind_some, plit, plit64, nI_add, pk_mul, if_true, if_false, or_true, true_or, oifT, Nat.one_ne_zero, ↓reduceIte, Nat.reduceLT, Nat.reduceLeDiff, Nat.reduceEqDiff, Nat.reduceAdd, Nat.reduceMul, Nat.reduceSub, Nat.reduceDiv, nI_eq, nI_leI, nI_ltI, nI_neg, neg_eq, yo_100, yr_100_0, yr_100_1, yr_100_2, yr_100_3, yr_100_4, yr_100_5, yr_100_6, yr_100_7, yr_100_8, yr_100_9, yr_100_10, yr_100_11, yr_100_12, yr_100_13, yr_100_14, yr_100_15, yr_100_16, yr_100_17, yr_100_18, yr_100_19, yr_100_20, yr_100_21, yr_100_22, yr_100_23, yr_100_24, yr_100_25, yr_100_26, yr_100_27, yr_100_28, ya_101, ya_102, ya_103, ya_104, ya_105, ya_106, ya_107, ya_108, ya_109, ya_110, ya_111, ya_112, ya_113, ya_114, ya_115, ya_116, ya_117, ya_118, ya_119, e2]
end
