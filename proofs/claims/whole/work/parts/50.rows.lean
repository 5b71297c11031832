-- the class's rows of worths
section
variable {c : CS} {d : MS} {D : mM} {N k : Nat} {a : Int32} {P : PL}
theorem phase_x {t : Nat} (h1 : 1 ≤ t) (h2 : t < 2 ^ 31) : m_X11_phaseOf (nI t) = some (nI ((t - 1) / 5)) := by
  unfold m_X11_phaseOf
  rw [show (1 : Int32) = nI 1 from rfl, pk_sub h1, show (5 : Int32) = nI 5 from rfl, pk_div (by omega) (by omega) (by omega)]
theorem acc_succ {u f : Nat} {b w : UInt64} : accD P (u + 1) b w (f + 1) = if Op.cmpValue (FP.dcmp (FP.dsub (netD P f u) b) FP.dconst0) CmpOp.l ≤ 0 then accD P (u + 1) b w f else FP.dadd (accD P (u + 1) b w f) (FP.dmul (hundredth (P.odds f (u / 5))) (FP.dsub (netD P f u) b)) := rfl
/-- the rows are right up to stage u -/
def WU (c : CS) (u : Nat) : Prop := (∀ t, t ≤ u → ∀ s, s ≤ c.pl.rules 0 → c.rows t s = WD c.pl t s) ∧ (∀ s, s < 31 → c.rows 0 s = FP.dconst0) ∧ (∀ t, t < 21 → c.rows t 0 = FP.dconst0)
theorem xworth_go {now : Nat → Int32} (hP : PR c.pl now) {u h : Nat} (hu : u < 20) (hh : h < 2 ^ 36) {w v : UInt64} (dw : Dn 1046 (((2 * h : Nat) : Int) * tp 1074) w) (dv2 : Dn 1046 (((2 * h : Nat) : Int) * tp 1074) v) (hn : ∀ f, f < c.pl.n → c.nets f = netD c.pl f u) : ∀ n f : Nat, f ≤ c.pl.n → c.pl.n - f < n → m_X10_worthOf_L19 N (mk c d D) n 49 (nI (u / 5)) (FP.dsub w v) (accD c.pl (u + 1) (FP.dsub w v) w f) (nI f) = some (accD c.pl (u + 1) (FP.dsub w v) w c.pl.n) := by
  have hn6 := hP.n
  obtain ⟨s1, s2, s3, s4⟩ := step_ok hP hu hh dw dv2
  intro n
  induction n with
  | zero => intro f _ h; omega
  | succ n ih =>
    intro f hf hn2
    unfold m_X10_worthOf_L19
    by_cases e : f = c.pl.n
    · subst e
      simp (disch := omega) only [Option.bind_some, plit, plit64, nI_add, pk_mul, if_true, if_false, or_true, true_or, oifT, Nat.one_ne_zero, ↓reduceIte, Nat.reduceLT, Nat.reduceLeDiff, Nat.reduceEqDiff, Nat.reduceAdd, Nat.reduceMul, Nat.reduceSub, Nat.reduceDiv, nI_eq, nI_leI, nI_ltI, nI_neg, neg_eq, yo_10, yr_10_0, yr_10_1, yr_10_2, yr_10_3, yr_10_4, yr_10_5, yr_10_6, yr_10_7, yr_10_8, yr_10_9, yr_10_10, yr_10_11, yo_11, yr_11_0, yr_11_1, yr_11_2, yr_11_3, yr_11_4, yn_13, ya_13, yo_14, yr_14_0, yr_14_1, yr_14_2, yr_14_3, ya_15, ya_16, yo_49, yr_49_0, yr_49_1, yr_49_2, yr_49_3, ya_72, yrow_R, yra, Nat.le_refl]
    · have ih := ih (f + 1) (by omega) (by omega)
      rw [acc_succ] at ih
      have o1 := oD_fin (s2 f (by omega))
      have en := hn f (by omega)
      by_cases q : Op.cmpValue (FP.dcmp (FP.dsub (netD c.pl f u) (FP.dsub w v)) FP.dconst0) CmpOp.l ≤ 0
      · rw [if_pos q] at ih
        rw [yr_49_0, Option.bind_some, yr_11_1, Option.bind_some, if_neg (by rw [nI_leI (by omega) (by omega)]; omega), yr_49_2, Option.bind_some, ya_72 (by omega), Option.bind_some, en, o1, Option.bind_some, if_pos q]
        unfold m_X10_worthOf_J78
        rw [nI_1]
        exact ih
      · rw [if_neg q] at ih
        have o2 := oD_fin (hu_dn (k := c.pl.odds f (u / 5)) (hP.o (by omega) (by omega))).1
        have o3 := oD_fin (s4 f (by omega) q)
        have o4 := oD_fin (s3 (f + 1) (by omega)).1
        rw [acc_succ, if_neg q] at o4
        rw [yr_49_0, Option.bind_some, yr_11_1, Option.bind_some, if_neg (by rw [nI_leI (by omega) (by omega)]; omega), yr_49_2, Option.bind_some, ya_72 (by omega), Option.bind_some, en, o1, Option.bind_some, if_neg q]
        rw [Option.bind_some, yr_11_0, Option.bind_some, yfar_R (by omega), Option.bind_some, yf_3 (by omega), Option.bind_some, yfoa (by omega) (by omega), Option.bind_some, hun_eq, o2, Option.bind_some, o3, Option.bind_some, o4, Option.bind_some]
        unfold m_X10_worthOf_J78
        rw [nI_1]
        exact ih
theorem xworth {now : Nat → Int32} (hP : PR c.pl now) (hN : 100 ≤ N) {u s : Nat} (hu : u < 20) (hs : s < c.pl.rules 0) (hw : WU c u) (hn : ∀ f, f < c.pl.n → c.nets f = netD c.pl f u) : m_X10_worthOf N 49 (51 + u) (nI (s + 1)) (nI (u / 5)) (mk c d D) = some (WD c.pl (u + 1) (s + 1)) := by
  have h0 := hP.r0
  have hbl := hb_le u (by omega)
  have d1 := wd_dn hP u (s + 1) (by omega)
  have d2 := wd_dn hP u s (by omega)
  have go := xworth_go (d := d) (D := D) (N := N) hP hu (h := hb u) (by omega) d1 d2 hn N 0 (by omega) (by have := hP.n; omega)
  have e1 := hw.1 u (Nat.le_refl _) (s + 1) (by omega)
  have e2 := hw.1 u (Nat.le_refl _) s (by omega)
  have o1 := oD_fin (step_ok hP hu (h := hb u) (by omega) d1 d2).1
  unfold m_X10_worthOf
  rw [yra (by omega) (by omega), Option.bind_some, show (1 : Int32) = nI 1 from rfl, pk_sub (by omega), Nat.add_sub_cancel, yra (by omega) (by omega), Option.bind_some, e1, e2, o1, Option.bind_some, Option.bind_some]
  exact go
theorem xmake52 {now : Nat → Int32} (hN : 100 ≤ N) {u : Nat} (hu : u < 20) : ∀ (n s : Nat) (c : CS), PR c.pl now → (∀ f, f < c.pl.n → c.nets f = netD c.pl f u) → WU c u → (∀ q, q ≤ s → q ≤ c.pl.rules 0 → c.rows (u + 1) q = WD c.pl (u + 1) q) → s ≤ c.pl.rules 0 → c.pl.rules 0 - s < n → ∃ r : Nat → Nat → UInt64, m_X10_make_L52 N n 49 (nI (u + 1)) (nI (s + 1)) (mk c d D) = some (mk (c.s_rows r) d D) ∧ WU (c.s_rows r) (u + 1) := by
  intro n
  induction n with
  | zero => intro s c _ _ _ _ _ h; omega
  | succ n ih =>
    intro s c hP hn hw hq hs h
    have h0 := hP.r0
    unfold m_X10_make_L52
    by_cases e : s = c.pl.rules 0
    · refine ⟨c.rows, ?_, ?_⟩
      · simp (disch := omega) only [Option.bind_some, plit, plit64, nI_add, pk_mul, if_true, if_false, or_true, true_or, oifT, Nat.one_ne_zero, ↓reduceIte, Nat.reduceLT, Nat.reduceLeDiff, Nat.reduceEqDiff, Nat.reduceAdd, Nat.reduceMul, Nat.reduceSub, Nat.reduceDiv, nI_eq, nI_leI, nI_ltI, nI_neg, neg_eq, yo_10, yr_10_0, yr_10_1, yr_10_2, yr_10_3, yr_10_4, yr_10_5, yr_10_6, yr_10_7, yr_10_8, yr_10_9, yr_10_10, yr_10_11, yo_11, yr_11_0, yr_11_1, yr_11_2, yr_11_3, yr_11_4, yn_13, ya_13, yo_14, yr_14_0, yr_14_1, yr_14_2, yr_14_3, ya_15, ya_16, yo_49, yr_49_0, yr_49_1, yr_49_2, yr_49_3, ya_72, yrow_R, yra, show c.pl.rules 0 < s + 1 by omega]
        rfl
      · refine ⟨fun t ht q hq2 => ?_, hw.2⟩
        by_cases e2 : t = u + 1
        · subst e2
          have hq2 : q ≤ c.pl.rules 0 := hq2
          exact hq q (by omega) hq2
        · exact hw.1 t (by omega) q hq2
    · have e1 := xworth (d := d) (D := D) hP hN hu (s := s) (by omega) hw hn
      have hw2 : WU (c.s_rows (va_up c.rows (u + 1) (va_up (c.rows (u + 1)) (s + 1) (WD c.pl (u + 1) (s + 1))))) u := by
        refine ⟨fun t ht q hq2 => ?_, fun q hq2 => ?_, fun t ht => ?_⟩
        · show va_up c.rows (u + 1) _ t q = _
          rw [upn (by omega)]
          exact hw.1 t ht q hq2
        · show va_up c.rows (u + 1) (va_up (c.rows (u + 1)) (s + 1) (WD c.pl (u + 1) (s + 1))) 0 q = _
          rw [upn (by omega)]
          exact hw.2.1 q hq2
        · show va_up c.rows (u + 1) _ t 0 = _
          by_cases e2 : t = u + 1
          · subst e2
            rw [upe, upn (by omega)]
            exact hw.2.2 _ ht
          · rw [upn e2]
            exact hw.2.2 t ht
      obtain ⟨r, r1, r2⟩ := ih (s + 1) (c.s_rows (va_up c.rows (u + 1) (va_up (c.rows (u + 1)) (s + 1) (WD c.pl (u + 1) (s + 1))))) hP hn hw2 (fun q hq1 hq2 => by
        show va_up c.rows (u + 1) _ (u + 1) q = _
        rw [upe]
        by_cases e2 : q = s + 1
        · subst e2; rw [upe]; rfl
        · rw [upn e2]; exact hq q (by omega) hq2) (by show s + 1 ≤ c.pl.rules 0; omega) (by show c.pl.rules 0 - (s + 1) < n; omega)
      refine ⟨r, ?_, r2⟩
      simp (disch := omega) only [Option.bind_some, plit, plit64, nI_add, pk_mul, if_true, if_false, or_true, true_or, oifT, Nat.one_ne_zero, ↓reduceIte, Nat.reduceLT, Nat.reduceLeDiff, Nat.reduceEqDiff, Nat.reduceAdd, Nat.reduceMul, Nat.reduceSub, Nat.reduceDiv, nI_eq, nI_leI, nI_ltI, nI_neg, neg_eq, yo_10, yr_10_0, yr_10_1, yr_10_2, yr_10_3, yr_10_4, yr_10_5, yr_10_6, yr_10_7, yr_10_8, yr_10_9, yr_10_10, yr_10_11, yo_11, yr_11_0, yr_11_1, yr_11_2, yr_11_3, yr_11_4, yn_13, ya_13, yo_14, yr_14_0, yr_14_1, yr_14_2, yr_14_3, ya_15, ya_16, yo_49, yr_49_0, yr_49_1, yr_49_2, yr_49_3, ya_72, yrow_R, yra, yw_49_3, yu_72, yru, show ¬ c.pl.rules 0 < s + 1 by omega, pk_sub, Nat.add_sub_cancel, phase_x, e1]
      rw [r1]
      rfl
theorem xmake14 {now : Nat → Int32} (hN : 100 ≤ N) {u : Nat} (hu : u < 20) : ∀ (n f : Nat) (c : CS), PR c.pl now → (∀ g, g < f → c.nets g = netD c.pl g u) → WU c u → f ≤ c.pl.n → c.pl.n - f < n → ∃ (r : Nat → Nat → UInt64) (m : Nat → UInt64), m_X10_make_L14 N n 49 (nI (u + 1)) (showD c.pl u) (nI f) (mk c d D) = some (mk ((c.s_rows r).s_nets m) d D) ∧ WU ((c.s_rows r).s_nets m) (u + 1) := by
  intro n
  induction n with
  | zero => intro f c _ _ _ _ h; omega
  | succ n ih =>
    intro f c hP hn hw hf h
    have h6 := hP.n
    unfold m_X10_make_L14
    by_cases e : f = c.pl.n
    · subst e
      obtain ⟨r, r1, r2⟩ := xmake52 (d := d) (D := D) (now := now) hN hu N 0 c hP hn hw (fun q hq1 hq2 => by
        have : q = 0 := by omega
        subst this
        rw [hw.2.2 _ (by omega)]
        exact WD_0.symm) (by omega) (by have := hP.r0; omega)
      refine ⟨r, c.nets, ?_, r2⟩
      simp (disch := omega) only [Option.bind_some, plit, plit64, nI_add, pk_mul, if_true, if_false, or_true, true_or, oifT, Nat.one_ne_zero, ↓reduceIte, Nat.reduceLT, Nat.reduceLeDiff, Nat.reduceEqDiff, Nat.reduceAdd, Nat.reduceMul, Nat.reduceSub, Nat.reduceDiv, nI_eq, nI_leI, nI_ltI, nI_neg, neg_eq, yo_10, yr_10_0, yr_10_1, yr_10_2, yr_10_3, yr_10_4, yr_10_5, yr_10_6, yr_10_7, yr_10_8, yr_10_9, yr_10_10, yr_10_11, yo_11, yr_11_0, yr_11_1, yr_11_2, yr_11_3, yr_11_4, yn_13, ya_13, yo_14, yr_14_0, yr_14_1, yr_14_2, yr_14_3, ya_15, ya_16, yo_49, yr_49_0, yr_49_1, yr_49_2, yr_49_3, ya_72, yrow_R, yra, Nat.le_refl]
      exact r1
    · have e1 := xnet (d := d) (D := D) hP.r1 hP.r2 (f := f) (t := u) (by omega) (by omega) (hP.pp (by omega)) (hP.p (by omega)) (hP.k (by omega))
      obtain ⟨r, m, r1, r2⟩ := ih (f + 1) (c.s_nets (va_up c.nets f (netD c.pl f u))) hP (fun g hg => by
        show va_up c.nets f _ g = _
        by_cases e2 : g = f
        · subst e2; rw [upe]; rfl
        · rw [upn e2]; exact hn g (by omega)) hw (by show f + 1 ≤ c.pl.n; omega) (by show c.pl.n - (f + 1) < n; omega)
      refine ⟨r, m, ?_, r2⟩
      simp (disch := omega) only [Option.bind_some, plit, plit64, nI_add, pk_mul, if_true, if_false, or_true, true_or, oifT, Nat.one_ne_zero, ↓reduceIte, Nat.reduceLT, Nat.reduceLeDiff, Nat.reduceEqDiff, Nat.reduceAdd, Nat.reduceMul, Nat.reduceSub, Nat.reduceDiv, nI_eq, nI_leI, nI_ltI, nI_neg, neg_eq, yo_10, yr_10_0, yr_10_1, yr_10_2, yr_10_3, yr_10_4, yr_10_5, yr_10_6, yr_10_7, yr_10_8, yr_10_9, yr_10_10, yr_10_11, yo_11, yr_11_0, yr_11_1, yr_11_2, yr_11_3, yr_11_4, yn_13, ya_13, yo_14, yr_14_0, yr_14_1, yr_14_2, yr_14_3, ya_15, ya_16, yo_49, yr_49_0, yr_49_1, yr_49_2, yr_49_3, ya_72, yrow_R, yra, yw_49_3, yu_72, yru, show ¬ c.pl.n ≤ f by omega, e1]
      have r1 : m_X10_make_L14 N n 49 (nI (u + 1)) (showD c.pl u) (nI (f + 1)) (mk (c.s_nets (va_up c.nets f (netD c.pl f u))) d D) = _ := r1
      rw [r1]
      rfl
theorem xmake {now : Nat → Int32} (hN : 100 ≤ N) {u : Nat} (hu : u < 20) (hP : PR c.pl now) (hw : WU c u) : ∃ (r : Nat → Nat → UInt64) (m : Nat → UInt64), m_X10_make N 49 (nI (u + 1)) (mk c d D) = some (mk ((c.s_rows r).s_nets m) d D) ∧ WU ((c.s_rows r).s_nets m) (u + 1) := by
  obtain ⟨r, m, r1, r2⟩ := xmake14 (d := d) (D := D) (now := now) hN hu N 0 c hP (fun g hg => absurd hg (Nat.not_lt_zero _)) hw (by omega) (by have := hP.n; omega)
  refine ⟨r, m, ?_, r2⟩
  have s1 := xshow (d := d) (D := D) hP.r1 hP.r2 (t := u) (by omega) hN
  simp (disch := omega) only [m_X10_make, Option.bind_some, plit, plit64, nI_add, pk_mul, if_true, if_false, or_true, true_or, oifT, Nat.one_ne_zero, ↓reduceIte, Nat.reduceLT, Nat.reduceLeDiff, Nat.reduceEqDiff, Nat.reduceAdd, Nat.reduceMul, Nat.reduceSub, Nat.reduceDiv, nI_eq, nI_leI, nI_ltI, nI_neg, neg_eq, yo_10, yr_10_0, yr_10_1, yr_10_2, yr_10_3, yr_10_4, yr_10_5, yr_10_6, yr_10_7, yr_10_8, yr_10_9, yr_10_10, yr_10_11, yo_11, yr_11_0, yr_11_1, yr_11_2, yr_11_3, yr_11_4, yn_13, ya_13, yo_14, yr_14_0, yr_14_1, yr_14_2, yr_14_3, ya_15, ya_16, yo_49, yr_49_0, yr_49_1, yr_49_2, yr_49_3, ya_72, yrow_R, yra, pk_sub, Nat.add_sub_cancel, s1]
  exact r1
theorem xrow_go {now : Nat → Int32} (hN : 100 ≤ N) {t : Nat} (ht : t ≤ 20) : ∀ (n u : Nat) (c : CS), PR c.pl now → WU c u → u ≤ 20 → c.made ≤ 20 → (c.made = u ∨ c.made ≤ u ∧ u ≤ t) → 21 - u < n → ∃ (r : Nat → Nat → UInt64) (m : Nat → UInt64), m_X10_row_L7 N n 49 (nI t) (nI (u + 1)) (mk c d D) = some (51 + t, mk (((c.s_rows r).s_nets m).s_made (max c.made t)) d D) ∧ WU ((c.s_rows r).s_nets m) (max u t) := by
  intro n
  induction n with
  | zero => intro u c _ _ _ _ _ h; omega
  | succ n ih =>
    intro u c hP hw hu hm hmu h
    unfold m_X10_row_L7
    by_cases e : t < u + 1
    · refine ⟨c.rows, c.nets, ?_, ?_⟩
      · simp (disch := omega) only [Option.bind_some, plit, plit64, nI_add, pk_mul, if_true, if_false, or_true, true_or, oifT, Nat.one_ne_zero, ↓reduceIte, Nat.reduceLT, Nat.reduceLeDiff, Nat.reduceEqDiff, Nat.reduceAdd, Nat.reduceMul, Nat.reduceSub, Nat.reduceDiv, nI_eq, nI_leI, nI_ltI, nI_neg, neg_eq, yo_10, yr_10_0, yr_10_1, yr_10_2, yr_10_3, yr_10_4, yr_10_5, yr_10_6, yr_10_7, yr_10_8, yr_10_9, yr_10_10, yr_10_11, yo_11, yr_11_0, yr_11_1, yr_11_2, yr_11_3, yr_11_4, yn_13, ya_13, yo_14, yr_14_0, yr_14_1, yr_14_2, yr_14_3, ya_15, ya_16, yo_49, yr_49_0, yr_49_1, yr_49_2, yr_49_3, ya_72, yrow_R, yra, yw_49_3, yu_72, yru, e, iMax_nI]
        rfl
      · rw [Nat.max_eq_left (by omega)]
        exact hw
    · obtain ⟨r, m, r1, r2⟩ := xmake (d := d) (D := D) hN (u := u) (by omega) hP hw
      obtain ⟨r', m', r3, r4⟩ := ih (u + 1) ((c.s_rows r).s_nets m) hP r2 (by omega) hm (Or.inr ⟨by show c.made ≤ u + 1; omega, by omega⟩) (by omega)
      refine ⟨r', m', ?_, ?_⟩
      · simp (disch := omega) only [Option.bind_some, plit, plit64, nI_add, pk_mul, if_true, if_false, or_true, true_or, oifT, Nat.one_ne_zero, ↓reduceIte, Nat.reduceLT, Nat.reduceLeDiff, Nat.reduceEqDiff, Nat.reduceAdd, Nat.reduceMul, Nat.reduceSub, Nat.reduceDiv, nI_eq, nI_leI, nI_ltI, nI_neg, neg_eq, yo_10, yr_10_0, yr_10_1, yr_10_2, yr_10_3, yr_10_4, yr_10_5, yr_10_6, yr_10_7, yr_10_8, yr_10_9, yr_10_10, yr_10_11, yo_11, yr_11_0, yr_11_1, yr_11_2, yr_11_3, yr_11_4, yn_13, ya_13, yo_14, yr_14_0, yr_14_1, yr_14_2, yr_14_3, ya_15, ya_16, yo_49, yr_49_0, yr_49_1, yr_49_2, yr_49_3, ya_72, yrow_R, yra, yw_49_3, yu_72, yru, e, r1]
        rw [r3]
        rfl
      · rw [show max u t = max (u + 1) t by omega]
        exact r4
/-- the class's row of a stage -/
theorem xrow {now : Nat → Int32} (hN : 100 ≤ N) (hP : PR c.pl now) (hw : WR c) {t : Nat} (ht : t ≤ 20) : ∃ (r : Nat → Nat → UInt64) (m : Nat → UInt64) (k : Nat), m_X10_row N 49 (nI t) (mk c d D) = some (51 + t, mk (((c.s_rows r).s_nets m).s_made k) d D) ∧ WR (((c.s_rows r).s_nets m).s_made k) ∧ (∀ s, s ≤ c.pl.rules 0 → r t s = WD c.pl t s) := by
  obtain ⟨w1, w2, w3, w4⟩ := hw
  obtain ⟨r, m, r1, r2⟩ := xrow_go (d := d) (D := D) (now := now) hN ht N c.made c hP ⟨w2, w3, w4⟩ w1 w1 (Or.inl rfl) (by omega)
  refine ⟨r, m, max c.made t, ?_, ⟨?_, r2.1, r2.2.1, r2.2.2⟩, fun s hs => r2.1 t (by omega) s hs⟩
  · simp (disch := omega) only [m_X10_row, Option.bind_some, plit, plit64, nI_add, pk_mul, if_true, if_false, or_true, true_or, oifT, Nat.one_ne_zero, ↓reduceIte, Nat.reduceLT, Nat.reduceLeDiff, Nat.reduceEqDiff, Nat.reduceAdd, Nat.reduceMul, Nat.reduceSub, Nat.reduceDiv, yo_49, yr_49_0, yr_49_1, yr_49_2, yr_49_3, ya_72, yrow_R, yra]
    exact r1
  · show max c.made t ≤ 20
    omega
end
