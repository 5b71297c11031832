-- the reference's worths; what is taken, kept, on both sides
def takeB (P : PL) (f t s : Nat) : Nat := if Op.cmpValue (FP.dcmp (FP.dsub (netD P f (t - 1)) (FP.dsub (WD P (t - 1) s) (WD P (t - 1) (s - 1)))) FP.dconst0) CmpOp.l ≤ 0 then 0 else 1
def keptB (P : PL) (f t : Nat) : Nat → Nat
  | 0 => 0
  | s + 1 => if takeB P f t (s + 1) = 0 then s + 1 else keptB P f t s
theorem takeB_le {P : PL} {f t s : Nat} : takeB P f t s ≤ 1 := by unfold takeB; split <;> omega
theorem keptB_le {P : PL} {f t : Nat} : ∀ s, keptB P f t s ≤ s
  | 0 => Nat.le_refl _
  | s + 1 => by have := keptB_le (P := P) (f := f) (t := t) s; unfold keptB; split <;> omega
/-- the rows are right up to stage u -/
def WOK (P : PL) (u : Nat) (w : Nat → UInt64) : Prop := ∀ t, t ≤ u → ∀ s, s ≤ P.rules 0 → w (31 * t + s) = WD P t s
section
variable {c : CS} {d : MS} {D : mM} {N k : Nat} {a : Int32} {P : PL}
theorem wd_pair (hP : PR P d.now) {f t s : Nat} (hf : f < P.n) (ht : t ≤ 20) : FP.Core.DFin (FP.dsub (WD P t (s + 1)) (WD P t s)) ∧ FP.Core.DFin (FP.dsub (netD P f t) (FP.dsub (WD P t (s + 1)) (WD P t s))) := by
  have hl := hb_le t ht
  obtain ⟨b0, b1, b2⟩ := bid_ok (wd_dn hP t (s + 1) ht) (wd_dn hP t s ht) (by omega)
  exact ⟨b0, (gain_fin hP ht hf b0 b1 b2 (by omega)).1⟩
theorem RR.wr (h : RR c d D) {r : Nat → Nat → UInt64} {m : Nat → UInt64} {k : Nat} (hw : WR (((c.s_rows r).s_nets m).s_made k)) : RR (((c.s_rows r).s_nets m).s_made k) d D := ⟨h.1, h.2.1, h.2.2.1, hw, h.2.2.2.2.1, h.2.2.2.2.2.1, h.2.2.2.2.2.2.1, h.2.2.2.2.2.2.2⟩
theorem xtakes (hN : 100 ≤ N) {d0 : MS} (hP : PR c.pl d0.now) (hw : WR c) {f t s : Nat} (hf : f < c.pl.n) (h1 : 1 ≤ t) (h2 : t ≤ 20) (hs1 : 1 ≤ s) (hs : s ≤ c.pl.rules 0) : ∃ (r : Nat → Nat → UInt64) (m : Nat → UInt64) (k : Nat), m_X10_takes N 49 (nI f) (nI t) (nI s) (mk c d D) = some (nI (takeB c.pl f t s), mk (((c.s_rows r).s_nets m).s_made k) d D) ∧ WR (((c.s_rows r).s_nets m).s_made k) := by
  have h0 := hP.r0
  have hn := hP.n
  obtain ⟨u, rfl⟩ : ∃ u, t = u + 1 := ⟨t - 1, by omega⟩
  obtain ⟨q, rfl⟩ : ∃ q, s = q + 1 := ⟨s - 1, by omega⟩
  obtain ⟨r, m, k, r1, r2, r3⟩ := xrow (d := d) (D := D) hN hP hw (t := u) (by omega)
  refine ⟨r, m, k, ?_, r2⟩
  have e1 := r3 (q + 1) hs
  have e2 := r3 q (by omega)
  obtain ⟨f1, f2⟩ := wd_pair (s := q) hP hf (t := u) (by omega)
  have o1 := oD_fin f1
  have o2 := oD_fin f2
  have s1 := xshow (c := ((c.s_rows r).s_nets m).s_made k) (d := d) (D := D) (N := N) hP.r1 hP.r2 (t := u) (by omega) hN
  have n1 := xnet (c := ((c.s_rows r).s_nets m).s_made k) (d := d) (D := D) hP.r1 hP.r2 (f := f) (t := u) (by omega) (by omega) (hP.pp hf) (hP.p (by omega)) (hP.k (by omega))
  have es : showD (((c.s_rows r).s_nets m).s_made k).pl u = showD c.pl u := rfl
  have en : netD (((c.s_rows r).s_nets m).s_made k).pl f u = netD c.pl f u := rfl
  rw [es] at s1 n1
  rw [en] at n1
  have et : takeB c.pl f (u + 1) (q + 1) = if Op.cmpValue (FP.dcmp (FP.dsub (netD c.pl f u) (FP.dsub (WD c.pl u (q + 1)) (WD c.pl u q))) FP.dconst0) CmpOp.l ≤ 0 then 0 else 1 := rfl
  rw [et]
  unfold m_X10_takes
  rw [yo_49, Option.bind_some, show (1 : Int32) = nI 1 from rfl, pk_sub (by omega), Nat.add_sub_cancel, r1, Option.bind_some, yra (by omega) (by omega), Option.bind_some, pk_sub (by omega), Nat.add_sub_cancel, yra (by omega) (by omega), Option.bind_some]
  simp only [pCS_rows, pCS_nets, pCS_made]
  rw [e1, e2, o1, Option.bind_some, yr_49_0, Option.bind_some, Option.bind_some, yo_11, Option.bind_some, s1, Option.bind_some, Option.bind_some, n1, Option.bind_some, o2, Option.bind_some]
  by_cases z : Op.cmpValue (FP.dcmp (FP.dsub (netD c.pl f u) (FP.dsub (WD c.pl u (q + 1)) (WD c.pl u q))) FP.dconst0) CmpOp.l ≤ 0
  · rw [if_pos z, if_pos z]; rfl
  · rw [if_neg z, if_neg z]
theorem xkept_go (hN : 100 ≤ N) {d0 : MS} {f t : Nat} (h1 : 1 ≤ t) (h2 : t ≤ 20) : ∀ (n s : Nat) (c : CS), PR c.pl d0.now → WR c → f < c.pl.n → s ≤ c.pl.rules 0 → s < n → ∃ (r : Nat → Nat → UInt64) (m : Nat → UInt64) (k : Nat), m_X10_keptFrom_L10 N n 49 (nI f) (nI t) (nI s) (mk c d D) = some (nI (keptB c.pl f t s), mk (((c.s_rows r).s_nets m).s_made k) d D) ∧ WR (((c.s_rows r).s_nets m).s_made k) := by
  intro n
  induction n with
  | zero => intro s c _ _ _ _ h; omega
  | succ n ih =>
    intro s c hP hw hf hs h
    have h0 := hP.r0
    unfold m_X10_keptFrom_L10
    by_cases e : s = 0
    · subst e
      refine ⟨c.rows, c.nets, c.made, ?_, hw⟩
      rw [if_pos (by decide)]
      rfl
    · obtain ⟨r, m, k, r1, r2⟩ := xtakes (d := d) (D := D) hN hP hw hf h1 h2 (s := s) (by omega) hs
      have hl := takeB_le (P := c.pl) (f := f) (t := t) (s := s)
      obtain ⟨q, rfl⟩ : ∃ q, s = q + 1 := ⟨s - 1, by omega⟩
      have ek : keptB c.pl f t (q + 1) = if takeB c.pl f t (q + 1) = 0 then q + 1 else keptB c.pl f t q := rfl
      rw [if_neg (nI_nle (by omega) (by omega)), yo_49, Option.bind_some, r1, Option.bind_some]
      by_cases z : takeB c.pl f t (q + 1) = 0
      · refine ⟨r, m, k, ?_, r2⟩
        rw [ek, if_pos z, z]
        rfl
      · have z1 : takeB c.pl f t (q + 1) = 1 := by omega
        obtain ⟨r', m', k', r3, r4⟩ := ih q (((c.s_rows r).s_nets m).s_made k) hP r2 hf (by show q ≤ c.pl.rules 0; omega) (by omega)
        refine ⟨r', m', k', ?_, r4⟩
        rw [ek, if_neg z, z1, if_neg (show ¬ nI 1 = 0 by decide), pk_m1]
        rw [r3]
        rfl
theorem xkept (hN : 100 ≤ N) {d0 : MS} (hP : PR c.pl d0.now) (hw : WR c) {f t : Nat} (hf : f < c.pl.n) (h1 : 1 ≤ t) (h2 : t ≤ 20) : ∃ (r : Nat → Nat → UInt64) (m : Nat → UInt64) (k : Nat), m_X10_keptFrom N 49 (nI f) (nI t) (mk c d D) = some (nI (keptB c.pl f t (c.pl.rules 0)), mk (((c.s_rows r).s_nets m).s_made k) d D) ∧ WR (((c.s_rows r).s_nets m).s_made k) := by
  obtain ⟨r, m, k, r1, r2⟩ := xkept_go (d := d) (D := D) (d0 := d0) hN h1 h2 N (c.pl.rules 0) c hP hw hf (Nat.le_refl _) (by have := hP.r0; omega)
  refine ⟨r, m, k, ?_, r2⟩
  simp (disch := omega) only [m_X10_keptFrom, Option.bind_some, plit, plit64, nI_add, pk_mul, if_true, if_false, or_true, true_or, oifT, Nat.one_ne_zero, ↓reduceIte, Nat.reduceLT, Nat.reduceLeDiff, Nat.reduceEqDiff, Nat.reduceAdd, Nat.reduceMul, Nat.reduceSub, Nat.reduceDiv, yo_10, yr_10_0, yr_10_1, yr_10_2, yr_10_3, yr_10_4, yr_10_5, yr_10_6, yr_10_7, yr_10_8, yr_10_9, yr_10_10, yr_10_11, yo_11, yr_11_0, yr_11_1, yr_11_2, yr_11_3, yr_11_4, yn_13, ya_13, yo_14, yr_14_0, yr_14_1, yr_14_2, yr_14_3, ya_15, ya_16, yo_49, yr_49_0, yr_49_1, yr_49_2, yr_49_3, ya_72, yrow_R, yra]
  exact r1
-- the reference
theorem yodds (hP : PR P d.now) {f t : Nat} (hf : f < 6) (h1 : 1 ≤ t) (h2 : t ≤ 20) : m_X12_odds 100 (nI f) (nI t) (mk c d D) = some (nI (P.odds f ((t - 1) / 5))) := by
  have := hP.o_ (i := f) (j := (t - 1) / 5) hf (by omega)
  simp (disch := omega) only [m_X12_odds, Option.bind_some, plit, plit64, nI_add, pk_mul, if_true, if_false, or_true, true_or, oifT, Nat.one_ne_zero, ↓reduceIte, Nat.reduceLT, Nat.reduceLeDiff, Nat.reduceEqDiff, Nat.reduceAdd, Nat.reduceMul, Nat.reduceSub, Nat.reduceDiv, yo_100, yr_100_0, yr_100_1, yr_100_2, yr_100_3, yr_100_4, yr_100_5, yr_100_6, yr_100_7, yr_100_8, yr_100_9, yr_100_10, yr_100_11, yr_100_12, yr_100_13, yr_100_14, yr_100_15, yr_100_16, yr_100_17, yr_100_18, yr_100_19, yr_100_20, yr_100_21, yr_100_22, yr_100_23, yr_100_24, yr_100_25, yr_100_26, yr_100_27, yr_100_28, ya_101, ya_102, ya_103, ya_104, ya_105, ya_106, ya_107, ya_108, ya_109, ya_110, ya_111, ya_112, ya_113, ya_114, ya_115, ya_116, ya_117, ya_118, ya_119, pk_sub, pk_div, this]
theorem yworthOf {t s : Nat} (ht : t ≤ 20) (hs : s ≤ 30) : m_X12_worthOf 100 (nI t) (nI s) (mk c d D) = some (d.worths (31 * t + s)) := by
  simp (disch := omega) only [m_X12_worthOf, Option.bind_some, plit, plit64, nI_add, pk_mul, if_true, if_false, or_true, true_or, oifT, Nat.one_ne_zero, ↓reduceIte, Nat.reduceLT, Nat.reduceLeDiff, Nat.reduceEqDiff, Nat.reduceAdd, Nat.reduceMul, Nat.reduceSub, Nat.reduceDiv, yo_100, yr_100_0, yr_100_1, yr_100_2, yr_100_3, yr_100_4, yr_100_5, yr_100_6, yr_100_7, yr_100_8, yr_100_9, yr_100_10, yr_100_11, yr_100_12, yr_100_13, yr_100_14, yr_100_15, yr_100_16, yr_100_17, yr_100_18, yr_100_19, yr_100_20, yr_100_21, yr_100_22, yr_100_23, yr_100_24, yr_100_25, yr_100_26, yr_100_27, yr_100_28, ya_101, ya_102, ya_103, ya_104, ya_105, ya_106, ya_107, ya_108, ya_109, ya_110, ya_111, ya_112, ya_113, ya_114, ya_115, ya_116, ya_117, ya_118, ya_119]
theorem ygain (hP : PR P d.now) (hN : 100 ≤ N) {f u s : Nat} (hf : f < P.n) (hu : u < 20) (hs : s < P.rules 0) (hw : WOK P u d.worths) : m_X12_gain N 100 (nI f) (nI (u + 1)) (nI (s + 1)) (mk c d D) = some (FP.dsub (netD P f u) (FP.dsub (WD P u (s + 1)) (WD P u s))) := by
  have h0 := hP.r0
  have n1 := ynet (c := c) (D := D) (N := N) hP hf (t := u) (by omega) hN
  have w1 := yworthOf (c := c) (d := d) (D := D) (t := u) (s := s + 1) (by omega) (by omega)
  have w2 := yworthOf (c := c) (d := d) (D := D) (t := u) (s := s) (by omega) (by omega)
  rw [hw u (Nat.le_refl _) (s + 1) (by omega)] at w1
  rw [hw u (Nat.le_refl _) s (by omega)] at w2
  obtain ⟨f1, f2⟩ := wd_pair (s := s) hP hf (t := u) (by omega)
  have o1 := oD_fin f1
  have o2 := oD_fin f2
  simp (disch := omega) only [m_X12_gain, Option.bind_some, plit, plit64, nI_add, pk_mul, if_true, if_false, or_true, true_or, oifT, Nat.one_ne_zero, ↓reduceIte, Nat.reduceLT, Nat.reduceLeDiff, Nat.reduceEqDiff, Nat.reduceAdd, Nat.reduceMul, Nat.reduceSub, Nat.reduceDiv, yo_100, yr_100_0, yr_100_1, yr_100_2, yr_100_3, yr_100_4, yr_100_5, yr_100_6, yr_100_7, yr_100_8, yr_100_9, yr_100_10, yr_100_11, yr_100_12, yr_100_13, yr_100_14, yr_100_15, yr_100_16, yr_100_17, yr_100_18, yr_100_19, yr_100_20, yr_100_21, yr_100_22, yr_100_23, yr_100_24, yr_100_25, yr_100_26, yr_100_27, yr_100_28, ya_101, ya_102, ya_103, ya_104, ya_105, ya_106, ya_107, ya_108, ya_109, ya_110, ya_111, ya_112, ya_113, ya_114, ya_115, ya_116, ya_117, ya_118, ya_119, pk_sub, Nat.add_sub_cancel, w1, w2, n1, o1, o2]
theorem y67 (hP : PR P d.now) (hN : 100 ≤ N) {k44 : Nat → Int32 → Int32 → Int32 → mM → Option mM} {to u s : Nat} (hu : u < 20) (hs : s < P.rules 0) (hw : WOK P u d.worths) : ∀ n f : Nat, f ≤ P.n → P.n - f < n → m_X12_reckons_L67 N k44 n 100 (nI to) (nI (u + 1)) (nI (s + 1)) (accD P (u + 1) (FP.dsub (WD P u (s + 1)) (WD P u s)) (WD P u (s + 1)) f) (nI f) (mk c d D) = k44 100 (nI to) (nI (u + 1)) (nI (s + 1 + 1)) (mk c (d.s_worths (va_up d.worths (31 * (u + 1) + (s + 1)) (WD P (u + 1) (s + 1)))) D) := by
  have hn := hP.n
  have h0 := hP.r0
  have hl := hb_le u (by omega)
  obtain ⟨s1, s2, s3, s4⟩ := step_ok hP hu (h := hb u) (by omega) (wd_dn hP u (s + 1) (by omega)) (wd_dn hP u s (by omega))
  intro n
  induction n with
  | zero => intro f _ h; omega
  | succ n ih =>
    intro f hf h
    unfold m_X12_reckons_L67
    by_cases e : f = P.n
    · subst e
      simp (disch := omega) only [Option.bind_some, plit, plit64, nI_add, pk_mul, if_true, if_false, or_true, true_or, oifT, Nat.one_ne_zero, ↓reduceIte, Nat.reduceLT, Nat.reduceLeDiff, Nat.reduceEqDiff, Nat.reduceAdd, Nat.reduceMul, Nat.reduceSub, Nat.reduceDiv, nI_eq, nI_leI, nI_ltI, nI_neg, neg_eq, yo_100, yr_100_0, yr_100_1, yr_100_2, yr_100_3, yr_100_4, yr_100_5, yr_100_6, yr_100_7, yr_100_8, yr_100_9, yr_100_10, yr_100_11, yr_100_12, yr_100_13, yr_100_14, yr_100_15, yr_100_16, yr_100_17, yr_100_18, yr_100_19, yr_100_20, yr_100_21, yr_100_22, yr_100_23, yr_100_24, yr_100_25, yr_100_26, yr_100_27, yr_100_28, ya_101, ya_102, ya_103, ya_104, ya_105, ya_106, ya_107, ya_108, ya_109, ya_110, ya_111, ya_112, ya_113, ya_114, ya_115, ya_116, ya_117, ya_118, ya_119, yw_100_2, yw_100_3, yw_100_5, yw_100_15, yw_100_20, yw_100_21, yw_100_22, yw_100_24, yw_100_25, yw_100_28, yu_101, yu_102, yu_103, yu_104, yu_105, yu_106, yu_107, yu_108, yu_109, yu_110, yu_111, yu_112, yu_113, yu_114, yu_115, yu_116, yu_117, yu_118, yu_119, hP.n_, Nat.le_refl]
      rfl
    · have ih := ih (f + 1) (by omega) (by omega)
      rw [acc_succ] at ih
      have g1 := ygain (c := c) (D := D) (N := N) hP hN (f := f) (by omega) hu hs hw
      rw [yr_100_0, Option.bind_some, show (0 : Int32) = nI 0 from rfl, ya_101 (by omega), Option.bind_some, hP.n_, if_neg (by rw [nI_leI (by omega) (by omega)]; omega), yo_100, Option.bind_some, g1, Option.bind_some]
      by_cases q : Op.cmpValue (FP.dcmp (FP.dsub (netD P f u) (FP.dsub (WD P u (s + 1)) (WD P u s))) FP.dconst0) CmpOp.l ≤ 0
      · rw [if_pos q] at ih
        rw [show nI 0 = (0 : Int32) from rfl, if_pos q]
        unfold m_X12_reckons_J115
        rw [nI_1]
        exact ih
      · rw [if_neg q] at ih
        have o1 := yodds (c := c) (D := D) hP (f := f) (t := u + 1) (by omega) (by omega) (by omega)
        rw [Nat.add_sub_cancel] at o1
        have o2 := oD_fin (hu_dn (k := P.odds f (u / 5)) (hP.o (by omega) (by omega))).1
        have o3 := oD_fin (s4 f (by omega) q)
        have o4 := oD_fin (s3 (f + 1) (by omega)).1
        rw [acc_succ, if_neg q] at o4
        rw [show nI 0 = (0 : Int32) from rfl, if_neg q, Option.bind_some, o1, Option.bind_some, hun_eq, o2, Option.bind_some, o3, Option.bind_some, o4, Option.bind_some]
        unfold m_X12_reckons_J115
        rw [nI_1]
        exact ih
theorem y44 (hN : 100 ≤ N) {k27 : Nat → Int32 → Int32 → mM → Option mM} {to u : Nat} (hu : u < 20) : ∀ (n s : Nat) (d : MS), PR P d.now → WOK P u d.worths → (∀ q, q ≤ s → d.worths (31 * (u + 1) + q) = WD P (u + 1) q) → s ≤ P.rules 0 → P.rules 0 - s < n → ∃ w : Nat → UInt64, m_X12_reckons_L44 N k27 n 100 (nI to) (nI (u + 1)) (nI (s + 1)) (mk c d D) = k27 100 (nI to) (nI (u + 1 + 1)) (mk c (d.s_worths w) D) ∧ WOK P (u + 1) w := by
  intro n
  induction n with
  | zero => intro s d _ _ _ _ h; omega
  | succ n ih =>
    intro s d hP hw hq hs h
    have h0 := hP.r0
    unfold m_X12_reckons_L44
    by_cases e : s = P.rules 0
    · refine ⟨d.worths, ?_, ?_⟩
      · simp (disch := omega) only [Option.bind_some, plit, plit64, nI_add, pk_mul, if_true, if_false, or_true, true_or, oifT, Nat.one_ne_zero, ↓reduceIte, Nat.reduceLT, Nat.reduceLeDiff, Nat.reduceEqDiff, Nat.reduceAdd, Nat.reduceMul, Nat.reduceSub, Nat.reduceDiv, nI_eq, nI_leI, nI_ltI, nI_neg, neg_eq, yo_100, yr_100_0, yr_100_1, yr_100_2, yr_100_3, yr_100_4, yr_100_5, yr_100_6, yr_100_7, yr_100_8, yr_100_9, yr_100_10, yr_100_11, yr_100_12, yr_100_13, yr_100_14, yr_100_15, yr_100_16, yr_100_17, yr_100_18, yr_100_19, yr_100_20, yr_100_21, yr_100_22, yr_100_23, yr_100_24, yr_100_25, yr_100_26, yr_100_27, yr_100_28, ya_101, ya_102, ya_103, ya_104, ya_105, ya_106, ya_107, ya_108, ya_109, ya_110, ya_111, ya_112, ya_113, ya_114, ya_115, ya_116, ya_117, ya_118, ya_119, hP.r0_, show P.rules 0 < s + 1 by omega]
        rfl
      · intro t ht q hq2
        by_cases e2 : t = u + 1
        · subst e2
          exact hq q (by omega)
        · exact hw t (by omega) q hq2
    · have w1 := yworthOf (c := c) (d := d) (D := D) (t := u) (s := s + 1) (by omega) (by omega)
      rw [hw u (Nat.le_refl _) (s + 1) (by omega)] at w1
      have g := y67 (c := c) (D := D) (N := N) hP hN (k44 := m_X12_reckons_L44 N k27 n) (to := to) hu (s := s) (by omega) hw N 0 (by omega) (by have := hP.n; omega)
      obtain ⟨w, e1, e2⟩ := ih (s + 1) (d.s_worths (va_up d.worths (31 * (u + 1) + (s + 1)) (WD P (u + 1) (s + 1)))) hP (fun t ht q hq2 => by
        show va_up d.worths (31 * (u + 1) + (s + 1)) (WD P (u + 1) (s + 1)) (31 * t + q) = _
        rw [upn (by omega)]
        exact hw t ht q hq2) (fun q hq2 => by
        show va_up d.worths (31 * (u + 1) + (s + 1)) (WD P (u + 1) (s + 1)) (31 * (u + 1) + q) = _
        by_cases e2 : q = s + 1
        · subst e2; rw [upe]
        · rw [upn (by omega)]; exact hq q (by omega)) (by omega) (by omega)
      refine ⟨w, ?_, e2⟩
      simp (disch := omega) only [Option.bind_some, plit, plit64, nI_add, pk_mul, if_true, if_false, or_true, true_or, oifT, Nat.one_ne_zero, ↓reduceIte, Nat.reduceLT, Nat.reduceLeDiff, Nat.reduceEqDiff, Nat.reduceAdd, Nat.reduceMul, Nat.reduceSub, Nat.reduceDiv, nI_eq, nI_leI, nI_ltI, nI_neg, neg_eq, yo_100, yr_100_0, yr_100_1, yr_100_2, yr_100_3, yr_100_4, yr_100_5, yr_100_6, yr_100_7, yr_100_8, yr_100_9, yr_100_10, yr_100_11, yr_100_12, yr_100_13, yr_100_14, yr_100_15, yr_100_16, yr_100_17, yr_100_18, yr_100_19, yr_100_20, yr_100_21, yr_100_22, yr_100_23, yr_100_24, yr_100_25, yr_100_26, yr_100_27, yr_100_28, ya_101, ya_102, ya_103, ya_104, ya_105, ya_106, ya_107, ya_108, ya_109, ya_110, ya_111, ya_112, ya_113, ya_114, ya_115, ya_116, ya_117, ya_118, ya_119, hP.r0_, show ¬ P.rules 0 < s + 1 by omega, pk_sub, Nat.add_sub_cancel, w1]
      rw [show nI 0 = nI 0 from rfl]
      refine g.trans ?_
      rw [e1]
      rfl
theorem y27 (hN : 100 ≤ N) {to : Nat} (hto : to ≤ 20) : ∀ (n u : Nat) (d : MS), PR P d.now → WOK P u d.worths → u ≤ to → to - u < n → ∃ w : Nat → UInt64, m_X12_reckons_L27 N n 100 (nI to) (nI (u + 1)) (mk c d D) = some (mk c (d.s_worths w) D) ∧ WOK P to w := by
  intro n
  induction n with
  | zero => intro u d _ _ _ h; omega
  | succ n ih =>
    intro u d hP hw hu h
    have h0 := hP.r0
    unfold m_X12_reckons_L27
    by_cases e : u = to
    · subst e
      refine ⟨d.worths, ?_, hw⟩
      simp (disch := omega) only [Option.bind_some, plit, plit64, nI_add, pk_mul, if_true, if_false, or_true, true_or, oifT, Nat.one_ne_zero, ↓reduceIte, Nat.reduceLT, Nat.reduceLeDiff, Nat.reduceEqDiff, Nat.reduceAdd, Nat.reduceMul, Nat.reduceSub, Nat.reduceDiv, nI_eq, nI_leI, nI_ltI, nI_neg, neg_eq, show u < u + 1 by omega]
      rfl
    · obtain ⟨w, e1, e2⟩ := y44 (c := c) (D := D) (P := P) hN (k27 := m_X12_reckons_L27 N n) (to := to) (u := u) (by omega) N 0 (d.s_worths (va_up d.worths (31 * (u + 1)) FP.dconst0)) hP (fun t ht q hq2 => by
        show va_up d.worths (31 * (u + 1)) FP.dconst0 (31 * t + q) = _
        rw [upn (by omega)]
        exact hw t ht q hq2) (fun q hq2 => by
        have : q = 0 := by omega
        subst this
        show va_up d.worths (31 * (u + 1)) FP.dconst0 (31 * (u + 1)) = _
        rw [upe, WD_0]) (by omega) (by omega)
      obtain ⟨w2, e3, e4⟩ := ih (u + 1) (d.s_worths w) hP e2 (by omega) (by omega)
      refine ⟨w2, ?_, e4⟩
      simp (disch := omega) only [Option.bind_some, plit, plit64, nI_add, pk_mul, if_true, if_false, or_true, true_or, oifT, Nat.one_ne_zero, ↓reduceIte, Nat.reduceLT, Nat.reduceLeDiff, Nat.reduceEqDiff, Nat.reduceAdd, Nat.reduceMul, Nat.reduceSub, Nat.reduceDiv, nI_eq, nI_leI, nI_ltI, nI_neg, neg_eq, yo_100, yr_100_0, yr_100_1, yr_100_2, yr_100_3, yr_100_4, yr_100_5, yr_100_6, yr_100_7, yr_100_8, yr_100_9, yr_100_10, yr_100_11, yr_100_12, yr_100_13, yr_100_14, yr_100_15, yr_100_16, yr_100_17, yr_100_18, yr_100_19, yr_100_20, yr_100_21, yr_100_22, yr_100_23, yr_100_24, yr_100_25, yr_100_26, yr_100_27, yr_100_28, ya_101, ya_102, ya_103, ya_104, ya_105, ya_106, ya_107, ya_108, ya_109, ya_110, ya_111, ya_112, ya_113, ya_114, ya_115, ya_116, ya_117, ya_118, ya_119, yw_100_2, yw_100_3, yw_100_5, yw_100_15, yw_100_20, yw_100_21, yw_100_22, yw_100_24, yw_100_25, yw_100_28, yu_101, yu_102, yu_103, yu_104, yu_105, yu_106, yu_107, yu_108, yu_109, yu_110, yu_111, yu_112, yu_113, yu_114, yu_115, yu_116, yu_117, yu_118, yu_119, show ¬ to < u + 1 by omega]
      simp only [Nat.zero_add] at e1
      rw [e1]
      exact e3
theorem y2 (hN : 100 ≤ N) {to : Nat} (hto : to ≤ 20) : ∀ (n s : Nat) (d : MS), PR P d.now → (∀ q, q < s → d.worths q = FP.dconst0) → s ≤ P.rules 0 + 1 → P.rules 0 + 1 - s < n → ∃ w : Nat → UInt64, m_X12_reckons_L2 N n 100 (nI to) (nI s) (mk c d D) = some (mk c (d.s_worths w) D) ∧ WOK P to w := by
  intro n
  induction n with
  | zero => intro s d _ _ _ h; omega
  | succ n ih =>
    intro s d hP hq hs h
    have h0 := hP.r0
    unfold m_X12_reckons_L2
    by_cases e : s = P.rules 0 + 1
    · obtain ⟨w, e1, e2⟩ := y27 (c := c) (D := D) (P := P) hN hto N 0 d hP (fun t ht q hq2 => by
        have : t = 0 := by omega
        subst this
        rw [show 31 * 0 + q = q by omega]
        exact hq q (by omega)) (by omega) (by omega)
      refine ⟨w, ?_, e2⟩
      simp (disch := omega) only [Option.bind_some, plit, plit64, nI_add, pk_mul, if_true, if_false, or_true, true_or, oifT, Nat.one_ne_zero, ↓reduceIte, Nat.reduceLT, Nat.reduceLeDiff, Nat.reduceEqDiff, Nat.reduceAdd, Nat.reduceMul, Nat.reduceSub, Nat.reduceDiv, nI_eq, nI_leI, nI_ltI, nI_neg, neg_eq, yo_100, yr_100_0, yr_100_1, yr_100_2, yr_100_3, yr_100_4, yr_100_5, yr_100_6, yr_100_7, yr_100_8, yr_100_9, yr_100_10, yr_100_11, yr_100_12, yr_100_13, yr_100_14, yr_100_15, yr_100_16, yr_100_17, yr_100_18, yr_100_19, yr_100_20, yr_100_21, yr_100_22, yr_100_23, yr_100_24, yr_100_25, yr_100_26, yr_100_27, yr_100_28, ya_101, ya_102, ya_103, ya_104, ya_105, ya_106, ya_107, ya_108, ya_109, ya_110, ya_111, ya_112, ya_113, ya_114, ya_115, ya_116, ya_117, ya_118, ya_119, hP.r0_, show P.rules 0 < s by omega]
      exact e1
    · obtain ⟨w, e1, e2⟩ := ih (s + 1) (d.s_worths (va_up d.worths s FP.dconst0)) hP (fun q hq2 => by
        show va_up d.worths s FP.dconst0 q = _
        by_cases e3 : q = s
        · subst e3; exact upe
        · rw [upn e3]; exact hq q (by omega)) (by omega) (by omega)
      refine ⟨w, ?_, e2⟩
      simp (disch := omega) only [Option.bind_some, plit, plit64, nI_add, pk_mul, if_true, if_false, or_true, true_or, oifT, Nat.one_ne_zero, ↓reduceIte, Nat.reduceLT, Nat.reduceLeDiff, Nat.reduceEqDiff, Nat.reduceAdd, Nat.reduceMul, Nat.reduceSub, Nat.reduceDiv, nI_eq, nI_leI, nI_ltI, nI_neg, neg_eq, yo_100, yr_100_0, yr_100_1, yr_100_2, yr_100_3, yr_100_4, yr_100_5, yr_100_6, yr_100_7, yr_100_8, yr_100_9, yr_100_10, yr_100_11, yr_100_12, yr_100_13, yr_100_14, yr_100_15, yr_100_16, yr_100_17, yr_100_18, yr_100_19, yr_100_20, yr_100_21, yr_100_22, yr_100_23, yr_100_24, yr_100_25, yr_100_26, yr_100_27, yr_100_28, ya_101, ya_102, ya_103, ya_104, ya_105, ya_106, ya_107, ya_108, ya_109, ya_110, ya_111, ya_112, ya_113, ya_114, ya_115, ya_116, ya_117, ya_118, ya_119, yw_100_2, yw_100_3, yw_100_5, yw_100_15, yw_100_20, yw_100_21, yw_100_22, yw_100_24, yw_100_25, yw_100_28, yu_101, yu_102, yu_103, yu_104, yu_105, yu_106, yu_107, yu_108, yu_109, yu_110, yu_111, yu_112, yu_113, yu_114, yu_115, yu_116, yu_117, yu_118, yu_119, hP.r0_, show ¬ P.rules 0 < s by omega]
      rw [e1]
      rfl
theorem yreck (hN : 100 ≤ N) (hP : PR P d.now) {to : Nat} (hto : to ≤ 20) : ∃ w : Nat → UInt64, m_X12_reckons N 100 (nI to) (mk c d D) = some (mk c (d.s_worths w) D) ∧ WOK P to w :=
  y2 hN hto N 0 d hP (fun q hq => absurd hq (Nat.not_lt_zero _)) (by omega) (by have := hP.r0; omega)
theorem ytaken (hN : 100 ≤ N) (hP : PR P d.now) {f t s : Nat} (hf : f < P.n) (h1 : 1 ≤ t) (h2 : t ≤ 20) (hs1 : 1 ≤ s) (hs : s ≤ P.rules 0) (hw : WOK P (t - 1) d.worths) : m_X12_isTaken N 100 (nI f) (nI t) (nI s) (mk c d D) = some (nI (takeB P f t s)) := by
  obtain ⟨u, rfl⟩ : ∃ u, t = u + 1 := ⟨t - 1, by omega⟩
  obtain ⟨q, rfl⟩ : ∃ q, s = q + 1 := ⟨s - 1, by omega⟩
  have g1 := ygain (c := c) (D := D) (N := N) hP hN hf (u := u) (by omega) (s := q) (by omega) hw
  have et : takeB P f (u + 1) (q + 1) = if Op.cmpValue (FP.dcmp (FP.dsub (netD P f u) (FP.dsub (WD P u (q + 1)) (WD P u q))) FP.dconst0) CmpOp.l ≤ 0 then 0 else 1 := rfl
  rw [et]
  unfold m_X12_isTaken
  rw [yo_100, Option.bind_some, g1, Option.bind_some]
  by_cases z : Op.cmpValue (FP.dcmp (FP.dsub (netD P f u) (FP.dsub (WD P u (q + 1)) (WD P u q))) FP.dconst0) CmpOp.l ≤ 0
  · rw [if_pos z, if_pos z]; rfl
  · rw [if_neg z, if_neg z]; rfl
theorem WOK.mono {u v : Nat} {w : Nat → UInt64} (h : WOK P u w) (hv : v ≤ u) : WOK P v w := fun t ht s hs => h t (by omega) s hs
theorem ykept_go (hN : 100 ≤ N) (hP : PR P d.now) {f t : Nat} (hf : f < P.n) (h1 : 1 ≤ t) (h2 : t ≤ 20) (hw : WOK P t d.worths) : ∀ n s : Nat, s ≤ P.rules 0 → P.rules 0 - s < n → m_X12_kept_L27 N n 100 (nI f) (nI t) (nI (keptB P f t s)) (nI (s + 1)) (mk c d D) = some (nI (keptB P f t (P.rules 0)), mk c d D) := by
  have h0 := hP.r0
  intro n
  induction n with
  | zero => intro s _ h; omega
  | succ n ih =>
    intro s hs h
    unfold m_X12_kept_L27
    by_cases e : s = P.rules 0
    · subst e
      simp (disch := omega) only [Option.bind_some, plit, plit64, nI_add, pk_mul, if_true, if_false, or_true, true_or, oifT, Nat.one_ne_zero, ↓reduceIte, Nat.reduceLT, Nat.reduceLeDiff, Nat.reduceEqDiff, Nat.reduceAdd, Nat.reduceMul, Nat.reduceSub, Nat.reduceDiv, nI_eq, nI_leI, nI_ltI, nI_neg, neg_eq, yo_100, yr_100_0, yr_100_1, yr_100_2, yr_100_3, yr_100_4, yr_100_5, yr_100_6, yr_100_7, yr_100_8, yr_100_9, yr_100_10, yr_100_11, yr_100_12, yr_100_13, yr_100_14, yr_100_15, yr_100_16, yr_100_17, yr_100_18, yr_100_19, yr_100_20, yr_100_21, yr_100_22, yr_100_23, yr_100_24, yr_100_25, yr_100_26, yr_100_27, yr_100_28, ya_101, ya_102, ya_103, ya_104, ya_105, ya_106, ya_107, ya_108, ya_109, ya_110, ya_111, ya_112, ya_113, ya_114, ya_115, ya_116, ya_117, ya_118, ya_119, hP.r0_, show P.rules 0 < P.rules 0 + 1 by omega]
    · have ih := ih (s + 1) (by omega) (by omega)
      have t1 := ytaken (c := c) (D := D) hN hP hf h1 h2 (s := s + 1) (by omega) (by omega) (hw.mono (by omega))
      have hl := takeB_le (P := P) (f := f) (t := t) (s := s + 1)
      have ek : keptB P f t (s + 1) = if takeB P f t (s + 1) = 0 then s + 1 else keptB P f t s := rfl
      by_cases z : takeB P f t (s + 1) = 0
      · rw [ek, if_pos z] at ih
        simp (disch := omega) only [m_X12_kept_J55, Option.bind_some, plit, plit64, nI_add, pk_mul, if_true, if_false, or_true, true_or, oifT, Nat.one_ne_zero, ↓reduceIte, Nat.reduceLT, Nat.reduceLeDiff, Nat.reduceEqDiff, Nat.reduceAdd, Nat.reduceMul, Nat.reduceSub, Nat.reduceDiv, nI_eq, nI_leI, nI_ltI, nI_neg, neg_eq, yo_100, yr_100_0, yr_100_1, yr_100_2, yr_100_3, yr_100_4, yr_100_5, yr_100_6, yr_100_7, yr_100_8, yr_100_9, yr_100_10, yr_100_11, yr_100_12, yr_100_13, yr_100_14, yr_100_15, yr_100_16, yr_100_17, yr_100_18, yr_100_19, yr_100_20, yr_100_21, yr_100_22, yr_100_23, yr_100_24, yr_100_25, yr_100_26, yr_100_27, yr_100_28, ya_101, ya_102, ya_103, ya_104, ya_105, ya_106, ya_107, ya_108, ya_109, ya_110, ya_111, ya_112, ya_113, ya_114, ya_115, ya_116, ya_117, ya_118, ya_119, hP.r0_, show ¬ P.rules 0 < s + 1 by omega, t1, z]
        exact ih
      · rw [ek, if_neg z] at ih
        have z1 : takeB P f t (s + 1) = 1 := by omega
        simp (disch := omega) only [m_X12_kept_J55, Option.bind_some, plit, plit64, nI_add, pk_mul, if_true, if_false, or_true, true_or, oifT, Nat.one_ne_zero, ↓reduceIte, Nat.reduceLT, Nat.reduceLeDiff, Nat.reduceEqDiff, Nat.reduceAdd, Nat.reduceMul, Nat.reduceSub, Nat.reduceDiv, nI_eq, nI_leI, nI_ltI, nI_neg, neg_eq, yo_100, yr_100_0, yr_100_1, yr_100_2, yr_100_3, yr_100_4, yr_100_5, yr_100_6, yr_100_7, yr_100_8, yr_100_9, yr_100_10, yr_100_11, yr_100_12, yr_100_13, yr_100_14, yr_100_15, yr_100_16, yr_100_17, yr_100_18, yr_100_19, yr_100_20, yr_100_21, yr_100_22, yr_100_23, yr_100_24, yr_100_25, yr_100_26, yr_100_27, yr_100_28, ya_101, ya_102, ya_103, ya_104, ya_105, ya_106, ya_107, ya_108, ya_109, ya_110, ya_111, ya_112, ya_113, ya_114, ya_115, ya_116, ya_117, ya_118, ya_119, hP.r0_, show ¬ P.rules 0 < s + 1 by omega, t1, z1]
        exact ih
end
