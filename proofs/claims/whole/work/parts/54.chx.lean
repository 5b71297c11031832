-- the class's rows of chances
section
variable {c : CS} {d : MS} {D : mM} {N k : Nat} {a : Int32} {P : PL}
theorem xbegin_go : ∀ (n j : Nat) (c : CS), j ≤ 41 → 41 - j < n → ∃ r : Nat → UInt64, m_J7_fill_7f8df_L6 N n 76 FP.dconst0 (nI j) (nI 41) (mk c d D) = some (mk (c.s_crow r) d D) ∧ (∀ q, q < 41 → r q = if j ≤ q then FP.dconst0 else c.crow q) := by
  intro n
  induction n with
  | zero => intro j c _ h; omega
  | succ n ih =>
    intro j c hj hn
    unfold m_J7_fill_7f8df_L6
    by_cases h4 : j = 41
    · subst h4
      refine ⟨c.crow, ?_, fun q hq => by rw [if_neg (by omega)]⟩
      rw [if_pos (nI_le (by omega) (by omega))]
      rfl
    · rw [if_neg (by rw [nI_leI (by omega) (by omega)]; omega), yu_76 (by omega), Option.bind_some, nI_1]
      obtain ⟨f, h1, h2⟩ := ih (j + 1) (c.s_crow (va_up c.crow j FP.dconst0)) (by omega) (by omega)
      refine ⟨f, ?_, fun q hq => ?_⟩
      · rw [h1]; rfl
      · rw [h2 q hq]
        simp only [pCS_crow, va_up]
        repeat' split
        all_goals first | rfl | omega
theorem xbegin (hN : 100 ≤ N) (cs : Nat → UInt64) : ∃ r : Nat → UInt64, m_X0_begin N 75 (mk c d D) = some (mk (c.s_crow r) d D) ∧ (∀ q, q ≤ 40 → r q = chD cs 0 q) := by
  obtain ⟨r, r1, r2⟩ := xbegin_go (d := d) (D := D) (N := N) N 0 c (by omega) (by omega)
  refine ⟨va_up r 0 FP.dconst1, ?_, fun q hq => ?_⟩
  · simp (disch := omega) only [m_X0_begin, m_J7_fill_7f8df, Option.bind_some, plit, plit64, nI_add, pk_mul, if_true, if_false, or_true, true_or, oifT, Nat.one_ne_zero, ↓reduceIte, Nat.reduceLT, Nat.reduceLeDiff, Nat.reduceEqDiff, Nat.reduceAdd, Nat.reduceMul, Nat.reduceSub, Nat.reduceDiv, yo_75, yr_75_0, yr_75_1, yn_76, ya_76, yu_76, show (nI 41) = nI 41 from rfl, r1, pCS_crow]
    rfl
  · unfold chD
    by_cases e : q = 0
    · subst e; rw [upe, if_pos rfl]
    · rw [upn e, if_neg e, r2 q (by omega), if_pos (by omega)]
theorem xone_go {b : Nat} (hb : b < 40) {r : Nat → UInt64} {m x : UInt64} (F1 : ∀ k, FP.Core.DFin (FP.dmul (r k) m)) (F2 : ∀ k, FP.Core.DFin (FP.dmul (r k) x)) (F3 : ∀ k j, FP.Core.DFin (FP.dadd (FP.dmul (r k) m) (FP.dmul (r j) x))) : ∀ (n j : Nat) (c : CS), j ≤ b → j < n → (∀ k, k ≤ 40 → c.crow k = if j < k then stepR (b + 1) r m x k else r k) → ∃ r' : Nat → UInt64, m_X0_oneMore_L22 N n 75 m x (nI j) (mk c d D) = some (mk (c.s_crow r') d D) ∧ (∀ k, k ≤ 40 → r' k = stepR (b + 1) r m x k) := by
  intro n
  induction n with
  | zero => intro j c _ h; omega
  | succ n ih =>
    intro j c hj hn hc
    unfold m_X0_oneMore_L22
    by_cases e : j = 0
    · subst e
      have c0 := hc 0 (by omega)
      rw [if_neg (by omega)] at c0
      have o1 := oD_fin (F1 0)
      refine ⟨va_up c.crow 0 (FP.dmul (r 0) m), ?_, fun k hk => ?_⟩
      · simp (disch := omega) only [Option.bind_some, plit, plit64, nI_add, pk_mul, if_true, if_false, or_true, true_or, oifT, Nat.one_ne_zero, ↓reduceIte, Nat.reduceLT, Nat.reduceLeDiff, Nat.reduceEqDiff, Nat.reduceAdd, Nat.reduceMul, Nat.reduceSub, Nat.reduceDiv, nI_eq, nI_leI, nI_ltI, nI_neg, neg_eq, yo_75, yr_75_0, yr_75_1, yn_76, ya_76, yu_76, Nat.le_refl, c0, o1]
      · by_cases e2 : k = 0
        · subst e2
          rw [upe]
          unfold stepR
          rw [if_pos rfl]
        · rw [upn e2, hc k hk, if_pos (by omega)]
    · have c0 := hc j (by omega)
      rw [if_neg (by omega)] at c0
      have c1 := hc (j - 1) (by omega)
      rw [if_neg (by omega)] at c1
      have o1 := oD_fin (F1 j)
      have o2 := oD_fin (F2 (j - 1))
      have o3 := oD_fin (F3 j (j - 1))
      obtain ⟨r', r1, r2⟩ := ih (j - 1) (c.s_crow (va_up c.crow j (FP.dadd (FP.dmul (r j) m) (FP.dmul (r (j - 1)) x)))) (by omega) (by omega) (fun k hk => by
        show va_up c.crow j _ k = _
        by_cases e2 : k = j
        · subst e2
          rw [upe, if_pos (by omega)]
          unfold stepR
          rw [if_neg e, if_neg (by omega), if_pos (by omega)]
        · rw [upn e2, hc k hk]
          by_cases e3 : j < k
          · rw [if_pos e3, if_pos (by omega)]
          · rw [if_neg e3, if_neg (by omega)])
      refine ⟨r', ?_, r2⟩
      have em : nI j + -nI 1 = nI (j - 1) := by
        rw [← nI_pred' (by omega), Int32.sub_eq_add_neg]
      simp (disch := omega) only [Option.bind_some, plit, plit64, nI_add, pk_mul, if_true, if_false, or_true, true_or, oifT, Nat.one_ne_zero, ↓reduceIte, Nat.reduceLT, Nat.reduceLeDiff, Nat.reduceEqDiff, Nat.reduceAdd, Nat.reduceMul, Nat.reduceSub, Nat.reduceDiv, nI_eq, nI_leI, nI_ltI, nI_neg, neg_eq, yo_75, yr_75_0, yr_75_1, yn_76, ya_76, yu_76, show ¬ j ≤ 0 by omega, pk_sub, c0, c1, o1, o2, o3, em]
      rw [r1]
      rfl
theorem xone (hN : 100 ≤ N) {b : Nat} (hb : b < 40) {r : Nat → UInt64} {m x : UInt64} (F1 : ∀ k, FP.Core.DFin (FP.dmul (r k) m)) (F2 : ∀ k, FP.Core.DFin (FP.dmul (r k) x)) (F3 : ∀ k j, FP.Core.DFin (FP.dadd (FP.dmul (r k) m) (FP.dmul (r j) x))) (hc : ∀ k, k ≤ 40 → c.crow k = r k) : ∃ r' : Nat → UInt64, m_X0_oneMore N 75 (nI (b + 1)) m x (mk c d D) = some (mk (c.s_crow r') d D) ∧ (∀ k, k ≤ 40 → r' k = stepR (b + 1) r m x k) := by
  have c0 := hc b (by omega)
  have o2 := oD_fin (F2 b)
  have hz : ∀ k, b + 1 < k → stepR (b + 1) r m x k = r k := fun k hk => by
    unfold stepR
    rw [if_neg (by omega), if_neg (by omega), if_neg (by omega)]
  obtain ⟨r', r1, r2⟩ := xone_go (d := d) (D := D) (N := N) hb F1 F2 F3 N b (c.s_crow (va_up c.crow (b + 1) (FP.dmul (r b) x))) (Nat.le_refl _) (by omega) (fun k hk => by
    show va_up c.crow (b + 1) _ k = _
    by_cases e2 : k = b + 1
    · subst e2
      rw [upe, if_pos (by omega)]
      unfold stepR
      rw [if_neg (by omega), if_pos rfl, Nat.add_sub_cancel]
    · rw [upn e2, hc k hk]
      by_cases e3 : b < k
      · rw [if_pos e3, hz k (by omega)]
      · rw [if_neg e3])
  refine ⟨r', ?_, r2⟩
  simp (disch := omega) only [m_X0_oneMore, Option.bind_some, plit, plit64, nI_add, pk_mul, if_true, if_false, or_true, true_or, oifT, Nat.one_ne_zero, ↓reduceIte, Nat.reduceLT, Nat.reduceLeDiff, Nat.reduceEqDiff, Nat.reduceAdd, Nat.reduceMul, Nat.reduceSub, Nat.reduceDiv, yo_75, yr_75_0, yr_75_1, yn_76, ya_76, yu_76, pk_sub, Nat.add_sub_cancel, c0, o2]
  rw [r1]
  rfl
theorem xshows_go (hN : 100 ≤ N) {x : UInt64} (hx : Cf x) {b : Nat} (hb : b ≤ 40) : ∀ (n i : Nat) (c : CS), i ≤ b → b - i < n → (∀ k, k ≤ 40 → c.crow k = chD (fun _ => x) i k) → ∃ r : Nat → UInt64, m_X0_ofShowing_L16 N n 75 (nI b) x (nI (i + 1)) (mk c d D) = some (76, mk (c.s_crow r) d D) ∧ (∀ k, k ≤ 40 → r k = chD (fun _ => x) b k) := by
  intro n
  induction n with
  | zero => intro i c _ h; omega
  | succ n ih =>
    intro i c hi hn hc
    unfold m_X0_ofShowing_L16
    by_cases e : i = b
    · subst e
      refine ⟨c.crow, ?_, hc⟩
      simp (disch := omega) only [Option.bind_some, plit, plit64, nI_add, pk_mul, if_true, if_false, or_true, true_or, oifT, Nat.one_ne_zero, ↓reduceIte, Nat.reduceLT, Nat.reduceLeDiff, Nat.reduceEqDiff, Nat.reduceAdd, Nat.reduceMul, Nat.reduceSub, Nat.reduceDiv, nI_eq, nI_leI, nI_ltI, nI_neg, neg_eq, yo_75, yr_75_0, yr_75_1, yn_76, ya_76, yu_76, show i < i + 1 by omega]
      rfl
    · obtain ⟨f1, f2, f3, -⟩ := ch_step (b := i) (R := 2 ^ 20 + 2 * i) (by omega) (by omega) hx (ch_dn i (by omega) (fun n h1 h2 => hx))
      obtain ⟨r, r1, r2⟩ := xone (d := d) (D := D) hN (b := i) (by omega) f1 f2 f3 hc
      obtain ⟨r', r3, r4⟩ := ih (i + 1) (c.s_crow r) (by omega) (by omega) r2
      have o1 := oD_fin hx.2.1
      refine ⟨r', ?_, r4⟩
      simp (disch := omega) only [Option.bind_some, plit, plit64, nI_add, pk_mul, if_true, if_false, or_true, true_or, oifT, Nat.one_ne_zero, ↓reduceIte, Nat.reduceLT, Nat.reduceLeDiff, Nat.reduceEqDiff, Nat.reduceAdd, Nat.reduceMul, Nat.reduceSub, Nat.reduceDiv, nI_eq, nI_leI, nI_ltI, nI_neg, neg_eq, yo_75, yr_75_0, yr_75_1, yn_76, ya_76, yu_76, show ¬ b < i + 1 by omega, o1, r1]
      rw [r3]
      rfl
theorem xshowing (hN : 100 ≤ N) {d0 : MS} (hP : PR c.pl d0.now) {t b : Nat} (ht : t ≤ 20) (hb : b ≤ 40) : ∃ r : Nat → UInt64, m_X0_ofShowing N 75 (nI t) (nI b) (mk c d D) = some (76, mk (c.s_crow r) d D) ∧ (∀ k, k ≤ 40 → r k = chD (fun _ => showD c.pl t) b k) := by
  have s1 := xshow (d := d) (D := D) hP.r1 hP.r2 ht hN
  obtain ⟨r, r1, r2⟩ := xbegin (c := c) (d := d) (D := D) hN (fun _ => showD c.pl t)
  obtain ⟨r', r3, r4⟩ := xshows_go (d := d) (D := D) hN (show_cf hP.r1 hP.r2 ht) hb N 0 (c.s_crow r) (by omega) (by omega) r2
  refine ⟨r', ?_, r4⟩
  simp (disch := omega) only [m_X0_ofShowing, Option.bind_some, plit, plit64, nI_add, pk_mul, if_true, if_false, or_true, true_or, oifT, Nat.one_ne_zero, ↓reduceIte, Nat.reduceLT, Nat.reduceLeDiff, Nat.reduceEqDiff, Nat.reduceAdd, Nat.reduceMul, Nat.reduceSub, Nat.reduceDiv, yo_75, yr_75_0, yr_75_1, yn_76, ya_76, yu_76, yo_11, s1, r1]
  refine r3.trans ?_
  rfl
/-- the odds of a stage as a chance -/
def askD (P : PL) (f : Nat) (n : Nat) : UInt64 := hundredth (P.odds f ((n - 1) / 5))
theorem ask_cf {now : Nat → Int32} (hP : PR P now) {f n : Nat} (hf : f < 6) (h2 : n ≤ 20) : Cf (askD P f n) := hu_cf (hP.o hf (by omega))
theorem xasks_go (hN : 100 ≤ N) {d0 : MS} {f : Nat} (hf : f < 6) {b : Nat} (hb : b ≤ 20) : ∀ (n i : Nat) (c : CS), PR c.pl d0.now → i ≤ b → b - i < n → (∀ k, k ≤ 40 → c.crow k = chD (askD c.pl f) i k) → ∃ r : Nat → UInt64, m_X0_ofAsking_L6 N n 75 (nI f) (nI b) (nI (i + 1)) (mk c d D) = some (76, mk (c.s_crow r) d D) ∧ (∀ k, k ≤ 40 → r k = chD (askD c.pl f) b k) := by
  intro n
  induction n with
  | zero => intro i c _ _ h; omega
  | succ n ih =>
    intro i c hP hi hn hc
    unfold m_X0_ofAsking_L6
    by_cases e : i = b
    · subst e
      refine ⟨c.crow, ?_, hc⟩
      simp (disch := omega) only [Option.bind_some, plit, plit64, nI_add, pk_mul, if_true, if_false, or_true, true_or, oifT, Nat.one_ne_zero, ↓reduceIte, Nat.reduceLT, Nat.reduceLeDiff, Nat.reduceEqDiff, Nat.reduceAdd, Nat.reduceMul, Nat.reduceSub, Nat.reduceDiv, nI_eq, nI_leI, nI_ltI, nI_neg, neg_eq, yo_75, yr_75_0, yr_75_1, yn_76, ya_76, yu_76, show i < i + 1 by omega]
      rfl
    · have hx := ask_cf hP hf (n := i + 1) (by omega)
      obtain ⟨f1, f2, f3, -⟩ := ch_step (b := i) (R := 2 ^ 20 + 2 * i) (by omega) (by omega) hx (ch_dn (cs := askD c.pl f) i (by omega) (fun n h1 h2 => ask_cf hP hf (by omega)))
      obtain ⟨r, r1, r2⟩ := xone (d := d) (D := D) hN (b := i) (by omega) f1 f2 f3 hc
      obtain ⟨r', r3, r4⟩ := ih (i + 1) (c.s_crow r) hP (by omega) (by omega) r2
      have o1 := oD_fin hx.2.1
      have o2 := oD_fin hx.1.1
      unfold askD at o1 o2 r1
      rw [Nat.add_sub_cancel] at o1 o2 r1
      refine ⟨r', ?_, r4⟩
      simp (disch := omega) only [Option.bind_some, plit, plit64, nI_add, pk_mul, if_true, if_false, or_true, true_or, oifT, Nat.one_ne_zero, ↓reduceIte, Nat.reduceLT, Nat.reduceLeDiff, Nat.reduceEqDiff, Nat.reduceAdd, Nat.reduceMul, Nat.reduceSub, Nat.reduceDiv, nI_eq, nI_leI, nI_ltI, nI_neg, neg_eq, yo_75, yr_75_0, yr_75_1, yn_76, ya_76, yu_76, yo_10, yr_10_0, yr_10_1, yr_10_2, yr_10_3, yr_10_4, yr_10_5, yr_10_6, yr_10_7, yr_10_8, yr_10_9, yr_10_10, yr_10_11, yo_11, yr_11_0, yr_11_1, yr_11_2, yr_11_3, yr_11_4, yn_13, ya_13, yo_14, yr_14_0, yr_14_1, yr_14_2, yr_14_3, ya_15, ya_16, yfar_R, yfo, yf_0, yf_1, yf_2, yf_3, yfoa, show ¬ b < i + 1 by omega, phase_x, Nat.add_sub_cancel, hun_eq, o1, o2, r1]
      rw [r3]
      rfl
theorem xasking (hN : 100 ≤ N) {d0 : MS} (hP : PR c.pl d0.now) {f b : Nat} (hf : f < 6) (hb : b ≤ 20) : ∃ r : Nat → UInt64, m_X0_ofAsking N 75 (nI f) (nI b) (mk c d D) = some (76, mk (c.s_crow r) d D) ∧ (∀ k, k ≤ 40 → r k = chD (askD c.pl f) b k) := by
  obtain ⟨r, r1, r2⟩ := xbegin (c := c) (d := d) (D := D) hN (askD c.pl f)
  obtain ⟨r', r3, r4⟩ := xasks_go (d := d) (D := D) (d0 := d0) hN hf hb N 0 (c.s_crow r) hP (by omega) (by omega) r2
  refine ⟨r', ?_, r4⟩
  simp (disch := omega) only [m_X0_ofAsking, Option.bind_some, plit, plit64, nI_add, pk_mul, if_true, if_false, or_true, true_or, oifT, Nat.one_ne_zero, ↓reduceIte, Nat.reduceLT, Nat.reduceLeDiff, Nat.reduceEqDiff, Nat.reduceAdd, Nat.reduceMul, Nat.reduceSub, Nat.reduceDiv, yo_75, yr_75_0, yr_75_1, yn_76, ya_76, yu_76, r1]
  refine r3.trans ?_
  rfl
theorem xex_go {r : Nat → UInt64} (hr : Rw r) (hc : ∀ k, k ≤ 40 → c.crow k = r k) {s b : Nat} (hs : s ≤ 30) (hb : b ≤ 40) : ∀ n j : Nat, j ≤ b - s → b - s - j < n → m_X0_expectedAbove_L7 N (mk c d D) n 75 (nI s) (nI b) (exD r s j) (nI (s + j + 1)) = some (exD r s (b - s)) := by
  intro n
  induction n with
  | zero => intro j _ h; omega
  | succ n ih =>
    intro j hj hn
    unfold m_X0_expectedAbove_L7
    by_cases e : j = b - s
    · subst e
      rw [if_pos (nI_lt (by omega) (by omega))]
    · have ih := ih (j + 1) (by omega) (by omega)
      have o1 := oD_fin (part_dn hr (q := j + 1) (k := s + (j + 1)) (by omega)).1
      have o2 := oD_fin (ex_dn hr s (j + 1) (by omega)).1
      have e2 : exD r s (j + 1) = FP.dadd (exD r s j) (FP.dmul (FP.i2d (nI (j + 1))) (r (s + (j + 1)))) := rfl
      rw [e2] at o2 ih
      have c0 := hc (s + (j + 1)) (by omega)
      simp (disch := omega) only [Option.bind_some, plit, plit64, nI_add, pk_mul, if_true, if_false, or_true, true_or, oifT, Nat.one_ne_zero, ↓reduceIte, Nat.reduceLT, Nat.reduceLeDiff, Nat.reduceEqDiff, Nat.reduceAdd, Nat.reduceMul, Nat.reduceSub, Nat.reduceDiv, nI_eq, nI_leI, nI_ltI, nI_neg, neg_eq, yo_75, yr_75_0, yr_75_1, yn_76, ya_76, yu_76, show ¬ b < s + (j + 1) by omega, c0, pk_sub, show s + (j + 1) - s = j + 1 by omega, show s + j + 1 = s + (j + 1) by omega, o1, o2]
      exact ih
theorem xex {r : Nat → UInt64} (hN : 100 ≤ N) (hr : Rw r) (hc : ∀ k, k ≤ 40 → c.crow k = r k) {s b : Nat} (hs : s ≤ 30) (hb : b ≤ 40) : m_X0_expectedAbove N 75 (nI s) (nI b) (mk c d D) = some (exD r s (b - s)) := by
  have := xex_go (d := d) (D := D) (N := N) hr hc hs hb N 0 (by omega) (by omega)
  unfold m_X0_expectedAbove
  rw [nI_1]
  exact this
theorem xhad_go {r : Nat → UInt64} (hN : 100 ≤ N) (hr : Rw r) (hc : ∀ k, k ≤ 40 → c.crow k = r k) {d0 : MS} (hP : PR c.pl d0.now) {f b : Nat} (hf : f < 6) (hb : b ≤ 40) : ∀ n j : Nat, j ≤ b + 1 → b + 1 - j < n → m_X0_takings_L16 N (mk c d D) n 75 (nI f) (nI b) (nI (c.pl.rules 0)) (suD r (c.pl.rules 0) j) (nI j) = some (hadD c.pl f b r) := by
  have h0 := hP.r0
  have h3 := hP.r3
  intro n
  induction n with
  | zero => intro j _ h; omega
  | succ n ih =>
    intro j hj hn
    unfold m_X0_takings_L16
    by_cases e : j = b + 1
    · subst e
      obtain ⟨p1, p2⟩ := had_parts (P := c.pl) (f := f) hr h0 h3 (hP.p hf) hb
      have o1 := oD_fin p1.1
      have o2 := oD_fin p2.1
      have o3 := oD_fin (bits_sub (N := 100) (by omega) p1 p2 (by omega)).1
      have x1 := xex (d := d) (D := D) (N := N) hN hr hc (s := c.pl.rules 0) h0 hb
      simp (disch := omega) only [Option.bind_some, plit, plit64, nI_add, pk_mul, if_true, if_false, or_true, true_or, oifT, Nat.one_ne_zero, ↓reduceIte, Nat.reduceLT, Nat.reduceLeDiff, Nat.reduceEqDiff, Nat.reduceAdd, Nat.reduceMul, Nat.reduceSub, Nat.reduceDiv, nI_eq, nI_leI, nI_ltI, nI_neg, neg_eq, yo_75, yr_75_0, yr_75_1, yn_76, ya_76, yu_76, yo_10, yr_10_0, yr_10_1, yr_10_2, yr_10_3, yr_10_4, yr_10_5, yr_10_6, yr_10_7, yr_10_8, yr_10_9, yr_10_10, yr_10_11, yo_11, yr_11_0, yr_11_1, yr_11_2, yr_11_3, yr_11_4, yn_13, ya_13, yo_14, yr_14_0, yr_14_1, yr_14_2, yr_14_3, ya_15, ya_16, yfar_R, yfo, yf_0, yf_1, yf_2, yf_3, yfoa, show b < b + 1 by omega, o1, x1, o2, o3]
      rfl
    · have ih := ih (j + 1) (by omega) (by omega)
      have o1 := oD_fin (part_dn hr (q := min j (c.pl.rules 0)) (k := j) (by omega)).1
      have o2 := oD_fin (su_dn hr h0 (j + 1) (by omega)).1
      have e2 : suD r (c.pl.rules 0) (j + 1) = FP.dadd (suD r (c.pl.rules 0) j) (FP.dmul (FP.i2d (nI (min j (c.pl.rules 0)))) (r j)) := rfl
      rw [e2] at o2 ih
      have c0 := hc j (by omega)
      simp (disch := omega) only [Option.bind_some, plit, plit64, nI_add, pk_mul, if_true, if_false, or_true, true_or, oifT, Nat.one_ne_zero, ↓reduceIte, Nat.reduceLT, Nat.reduceLeDiff, Nat.reduceEqDiff, Nat.reduceAdd, Nat.reduceMul, Nat.reduceSub, Nat.reduceDiv, nI_eq, nI_leI, nI_ltI, nI_neg, neg_eq, yo_75, yr_75_0, yr_75_1, yn_76, ya_76, yu_76, show ¬ b < j by omega, iMin_nI, c0, o1, o2]
      exact ih
theorem xhad {r : Nat → UInt64} (hN : 100 ≤ N) (hr : Rw r) (hc : ∀ k, k ≤ 40 → c.crow k = r k) {d0 : MS} (hP : PR c.pl d0.now) {f b : Nat} (hf : f < 6) (hb : b ≤ 40) : m_X0_takings N 75 (nI f) (nI b) (mk c d D) = some (hadD c.pl f b r) := by
  have := xhad_go (d := d) (D := D) (N := N) hN hr hc hP hf hb N 0 (by omega) (by omega)
  simp (disch := omega) only [m_X0_takings, Option.bind_some, plit, plit64, nI_add, pk_mul, if_true, if_false, or_true, true_or, oifT, Nat.one_ne_zero, ↓reduceIte, Nat.reduceLT, Nat.reduceLeDiff, Nat.reduceEqDiff, Nat.reduceAdd, Nat.reduceMul, Nat.reduceSub, Nat.reduceDiv, yo_75, yr_75_0, yr_75_1, yn_76, ya_76, yu_76, yo_10, yr_10_0, yr_10_1, yr_10_2, yr_10_3, yr_10_4, yr_10_5, yr_10_6, yr_10_7, yr_10_8, yr_10_9, yr_10_10, yr_10_11, yo_11, yr_11_0, yr_11_1, yr_11_2, yr_11_3, yr_11_4, yn_13, ya_13, yo_14, yr_14_0, yr_14_1, yr_14_2, yr_14_3, ya_15, ya_16]
  exact this
/-- the best so far, and what it brings -/
def bkD (P : PL) (f t : Nat) : Nat → Nat × UInt64
  | 0 => (0, hadD P f 0 (chD (fun _ => showD P t) 0))
  | b + 1 => if Op.cmpValue (FP.dcmp (hadD P f (b + 1) (chD (fun _ => showD P t) (b + 1))) (bkD P f t b).2) CmpOp.l ≤ 0 then bkD P f t b else (b + 1, hadD P f (b + 1) (chD (fun _ => showD P t) (b + 1)))
theorem bk_le {P : PL} {f t : Nat} : ∀ b, (bkD P f t b).1 ≤ b
  | 0 => Nat.le_refl _
  | b + 1 => by have := bk_le (P := P) (f := f) (t := t) b; unfold bkD; split <;> omega
theorem had_fin {now : Nat → Int32} (hP : PR P now) {f t b : Nat} (hf : f < 6) (ht : t ≤ 20) (hb : b ≤ 40) : FP.Core.DFin (hadD P f b (chD (fun _ => showD P t) b)) := by
  obtain ⟨p1, p2⟩ := had_parts (P := P) (f := f) (ch_rw hb (fun n h1 h2 => show_cf hP.r1 hP.r2 ht)) hP.r0 hP.r3 (hP.p hf) hb
  exact (bits_sub (N := 100) (by omega) p1 p2 (by omega)).1
theorem bk_fin {now : Nat → Int32} (hP : PR P now) {f t : Nat} (hf : f < 6) (ht : t ≤ 20) : ∀ b, b ≤ 40 → FP.Core.DFin (bkD P f t b).2
  | 0, _ => had_fin hP hf ht (b := 0) (by omega)
  | b + 1, h => by
    unfold bkD
    split
    · exact bk_fin hP hf ht b (by omega)
    · exact had_fin hP hf ht h
theorem xbest_go (hN : 100 ≤ N) {d0 : MS} {f t : Nat} (hf : f < 6) (ht : t ≤ 20) : ∀ (n b : Nat) (c : CS), PR c.pl d0.now → b ≤ 40 → 40 - b < n → (∀ k, k ≤ 40 → c.crow k = chD (fun _ => showD c.pl t) b k) → ∃ r : Nat → UInt64, m_X0_bestBooked_L27 N n 75 (nI f) (showD c.pl t) (nI (bkD c.pl f t b).1) (bkD c.pl f t b).2 (nI (b + 1)) (mk c d D) = some (nI (bkD c.pl f t 40).1, mk (c.s_crow r) d D) := by
  intro n
  induction n with
  | zero => intro b c _ _ h; omega
  | succ n ih =>
    intro b c hP hb hn hc
    unfold m_X0_bestBooked_L27
    by_cases e : b = 40
    · subst e
      refine ⟨c.crow, ?_⟩
      rw [if_pos (by decide)]
      rfl
    · have hx := show_cf hP.r1 hP.r2 ht
      obtain ⟨f1, f2, f3, -⟩ := ch_step (b := b) (R := 2 ^ 20 + 2 * b) (by omega) (by omega) hx (ch_dn b (by omega) (fun n h1 h2 => hx))
      obtain ⟨r, r1, r2⟩ := xone (d := d) (D := D) hN (b := b) (by omega) f1 f2 f3 hc
      have o1 := oD_fin hx.2.1
      have x1 := xhad (c := c.s_crow r) (d := d) (D := D) (N := N) hN (ch_rw (cs := fun _ => showD c.pl t) (b := b + 1) (by omega) (fun n h1 h2 => hx)) r2 hP hf (b := b + 1) (by omega)
      have x1 : m_X0_takings N 75 (nI f) (nI (b + 1)) (mk (c.s_crow r) d D) = some (hadD c.pl f (b + 1) (chD (fun _ => showD c.pl t) (b + 1))) := x1
      obtain ⟨r', r3⟩ := ih (b + 1) (c.s_crow r) hP (by omega) (by omega) r2
      have ek : bkD c.pl f t (b + 1) = if Op.cmpValue (FP.dcmp (hadD c.pl f (b + 1) (chD (fun _ => showD c.pl t) (b + 1))) (bkD c.pl f t b).2) CmpOp.l ≤ 0 then bkD c.pl f t b else (b + 1, hadD c.pl f (b + 1) (chD (fun _ => showD c.pl t) (b + 1))) := rfl
      have r3 : m_X0_bestBooked_L27 N n 75 (nI f) (showD c.pl t) (nI (bkD c.pl f t (b + 1)).1) (bkD c.pl f t (b + 1)).2 (nI (b + 1 + 1)) (mk (c.s_crow r) d D) = some (nI (bkD c.pl f t 40).1, mk (c.s_crow r') d D) := r3
      refine ⟨r', ?_⟩
      rw [if_neg (by rw [show (40 : Int32) = nI 40 from rfl, nI_ltI (by omega) (by omega)]; omega), o1, Option.bind_some, yo_75, Option.bind_some, r1, Option.bind_some, yo_75, Option.bind_some, x1, Option.bind_some]
      by_cases q : Op.cmpValue (FP.dcmp (hadD c.pl f (b + 1) (chD (fun _ => showD c.pl t) (b + 1))) (bkD c.pl f t b).2) CmpOp.l ≤ 0
      · rw [ek, if_pos q] at r3
        rw [if_pos q]
        unfold m_X0_bestBooked_J69
        rw [nI_1]
        exact r3
      · rw [ek, if_neg q] at r3
        rw [if_neg q]
        unfold m_X0_bestBooked_J69
        rw [nI_1]
        exact r3
theorem xbest (hN : 100 ≤ N) {d0 : MS} (hP : PR c.pl d0.now) {f t : Nat} (hf : f < 6) (ht : t ≤ 20) : ∃ r : Nat → UInt64, m_X0_bestBooked N 75 (nI f) (nI t) (mk c d D) = some (nI (bkD c.pl f t 40).1, mk (c.s_crow r) d D) := by
  have hx := show_cf hP.r1 hP.r2 ht
  have s1 := xshow (d := d) (D := D) hP.r1 hP.r2 ht hN
  obtain ⟨r, r1, r2⟩ := xbegin (c := c) (d := d) (D := D) hN (fun _ => showD c.pl t)
  have x1 := xhad (c := c.s_crow r) (d := d) (D := D) (N := N) hN (ch_rw (cs := fun _ => showD c.pl t) (b := 0) (by omega) (fun n h1 h2 => hx)) r2 hP hf (b := 0) (by omega)
  have x1 : m_X0_takings N 75 (nI f) (nI 0) (mk (c.s_crow r) d D) = some (bkD c.pl f t 0).2 := x1
  obtain ⟨r', r3⟩ := xbest_go (d := d) (D := D) (d0 := d0) hN hf ht N 0 (c.s_crow r) hP (by omega) (by omega) r2
  refine ⟨r', ?_⟩
  simp (disch := omega) only [m_X0_bestBooked, Option.bind_some, plit, plit64, nI_add, pk_mul, if_true, if_false, or_true, true_or, oifT, Nat.one_ne_zero, ↓reduceIte, Nat.reduceLT, Nat.reduceLeDiff, Nat.reduceEqDiff, Nat.reduceAdd, Nat.reduceMul, Nat.reduceSub, Nat.reduceDiv, yo_75, yr_75_0, yr_75_1, yn_76, ya_76, yu_76, yo_11, s1, r1, x1]
  refine r3.trans ?_
  rfl
end
