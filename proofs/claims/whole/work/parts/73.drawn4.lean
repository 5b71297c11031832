-- drawn days: all of them
def drwR (nx : Int32 → Int32) (P : PL) (hd T : Nat) : Nat → Int32 → Int32 × Int32 × Int32 × Int32 → Int32 × Int32 × Int32 × Int32
  | 0, _, a => a
  | m + 1, x, a => drwR nx P hd T m (dayX nx T x) (a.1 + dSum P (dayL nx P hd T x []), a.2.1 + nI (dayQ nx P T x), a.2.2.1 + nI (dayL nx P hd T x []).length, a.2.2.2 + (if nI (P.rules 0 - (dayL nx P hd T x []).length) = 0 then 1 else 0))
def drwP (i : Int32) (a : Int32 × Int32 × Int32 × Int32) : Int32 := if i = 0 then a.1 else if i = 1 then a.2.1 else if i = 2 then a.2.2.1 else a.2.2.2
section
variable {c : CS} {d d0 : MS} {D : mM} {N k : Nat} {a : Int32} {P : PL} {nx : Int32 → Int32}
theorem xdays_go (hnx : ∀ x : Int32, x * 1103515245 + 12345 = nx x) (hN : 100 ≤ N) (hP : PR P d0.now) {hd T K : Nat} (hh : hd ≤ 1) (hT : T ≤ 20) (hK : K ≤ 20) (i4 : Int32) : ∀ (n m : Nat) (c : CS) (a1 a2 a3 a4 : Int32), c.pl = P.s_seed c.pl.seed → WR c → m ≤ K → m < n → ∃ c2 : CS, m_X11_drawn_L55 N n 10 (nI K) (nI T) (nI hd) i4 a1 a2 a3 a4 (nI (K - m)) (mk c d D) = some (drwP i4 (drwR nx P hd T m c.pl.seed (a1, a2, a3, a4)), mk c2 d D) ∧ WR c2 ∧ SX P c c2 ∧ c2.pl.seed = itX (dayX nx T) m c.pl.seed := by
  intro n
  induction n with
  | zero => intro m c _ _ _ _ _ _ _ h; omega
  | succ n ih =>
    intro m c a1 a2 a3 a4 hc hw hm hn
    unfold m_X11_drawn_L55
    cases m with
    | zero =>
      refine ⟨c, ?_, hw, SC.sx hc SC.rfl, rfl⟩
      rw [Nat.sub_zero, if_pos (nI_le (by omega) (by omega))]
      unfold drwP drwR
      repeat' split
      all_goals rfl
    | succ m =>
      have sb := begin_sc (c := c)
      obtain ⟨b1, b2, b3⟩ := begin_xd (c := c)
      have wb : WR (beginC c) := hw
      have xb := xdbegin (c := c) (d := d) (D := D)
      have hcb : (beginC c).pl = P.s_seed (beginC c).pl.seed := hc
      have sdb : (beginC c).pl.seed = c.pl.seed := rfl
      obtain ⟨c2, r1, r2, r3, r4, r5, r6⟩ := xdraw_go (d := d) (D := D) hnx hN hP hh hT N T (beginC c) [] hcb wb b1 (Nat.le_refl _) (by rw [b2]; omega) (by omega)
      rw [sdb] at r4 r5 r6
      rw [b2, Nat.zero_add] at r6
      have dr : m_X1_draw N 80 (nI T) (nI hd) (mk c d D) = some (mk c2 d D) := by
        unfold m_X1_draw
        rw [yo_80, Option.bind_some, xb, Option.bind_some]
        exact r1
      obtain ⟨x1, x2, x3, x4, x5, x6, x7⟩ := r4
      have p2 : c2.pl.rules 0 = P.rules 0 := by rw [r3.1]; rfl
      have x6 : c2.dprices = dSum P (dayL nx P hd T c.pl.seed []) := by rw [x6, r3.1, dSum_seed]
      have sx : SX P c c2 := (SC.sx hc sb).trans wb r3
      obtain ⟨c3, q1, q2, q3, q4⟩ := ih m c2 (a1 + dSum P (dayL nx P hd T c.pl.seed [])) (a2 + nI (dayQ nx P T c.pl.seed)) (a3 + nI (dayL nx P hd T c.pl.seed []).length) (a4 + (if nI (P.rules 0 - (dayL nx P hd T c.pl.seed []).length) = 0 then 1 else 0)) r3.1 r2 (by omega) (by omega)
      refine ⟨c3, ?_, q2, sx.trans r2 q3, ?_⟩
      · rw [if_neg (by rw [nI_leI (by omega) (by omega)]; omega), yr_10_7, Option.bind_some, yo_80, Option.bind_some, dr, Option.bind_some, yr_10_7, Option.bind_some, yr_80_7, Option.bind_some, Option.bind_some, yr_80_5, Option.bind_some, Option.bind_some, yr_80_6, Option.bind_some, Option.bind_some, yr_80_4, Option.bind_some, x3, x4, x6, r6, p2]
        unfold m_X11_drawn_J123
        rw [r5] at q1
        have ek : nI (K - (m + 1)) + 1 = nI (K - m) := by rw [nI_1, show K - (m + 1) + 1 = K - m by omega]
        rw [ek]
        by_cases z : nI (P.rules 0 - (dayL nx P hd T c.pl.seed []).length) = 0
        · rw [if_pos z]
          rw [if_pos z] at q1
          unfold drwR
          rw [if_pos z]
          exact q1
        · rw [if_neg z]
          rw [if_neg z] at q1
          unfold drwR
          rw [if_neg z]
          exact q1
      · rw [q4, r5]
        rfl
theorem ydays_go (hnx : ∀ x : Int32, x * 1103515245 + 12345 = nx x) (hN : 100 ≤ N) {hd T K : Nat} (hh : hd ≤ 1) (hT : T ≤ 20) (hK : K ≤ 20) (i4 : Int32) : ∀ (n m : Nat) (d : MS) (x a3 a4 : Int32), PR (P.s_seed x) d.now → WOK P T d.worths → m ≤ K → m < n → ∃ d2 : MS, m_X12_drawn_L71 N n 100 (nI K) (nI T) (nI hd) i4 a3 a4 (nI (K - m)) (mk c d D) = some (drwP i4 (drwR nx P hd T m x (d.prices, d.askers, a3, a4)), mk c d2 D) ∧ SE (itX (dayX nx T) m x) d d2 := by
  intro n
  induction n with
  | zero => intro m d x _ _ _ _ _ h; omega
  | succ n ih =>
    intro m d x a3 a4 hP hw hm hn
    unfold m_X12_drawn_L71
    cases m with
    | zero =>
      have e1 : va_up d.now 128 x = d.now := by
        funext q
        by_cases e : q = 128
        · subst e; rw [upe]; exact hP.s_.symm
        · rw [upn e]
      refine ⟨d, ?_, ⟨e1.symm, by rfl, by rfl, by rfl, fun w c D h => h⟩⟩
      rw [Nat.sub_zero, if_pos (nI_le (by omega) (by omega))]
      unfold drwP drwR
      repeat' split
      all_goals rfl
    | succ m =>
      obtain ⟨d1, o1, o2, o3, o4, o5⟩ := yopens (c := c) (D := D) (N := N) hN hP
      have k1 := yd_unseed o3
      obtain ⟨d2, r1, r2, r3, r4⟩ := yd84 (c := c) (D := D) hnx hN (k71 := m_X12_drawn_L71 N n) hh hT (nI K) (nI T) i4 a3 a4 (nI (K - (m + 1))) N T d1 x [] (by rw [o2.1]; exact hP) k1 (by rw [o2.2.2.1]; exact hw) (Nat.le_refl _) (by omega)
      have s12 : SE (dayX nx T x) d d2 := ⟨by rw [r2.1, o2.1], r2.2.1.trans o2.2.1, r2.2.2.1.trans o2.2.2.1, r2.2.2.2.1.trans o2.2.2.2.1, fun w c D h => r2.2.2.2.2 w c D (o2.2.2.2.2 w c D h)⟩
      have hP2 : PR (P.s_seed (dayX nx T x)) d2.now := by rw [s12.1]; exact hP.u_seed _
      have l1 := r3.1
      have h0 : P.rules 0 ≤ 30 := hP.r0
      have pr : d2.prices = d.prices + dSum P (dayL nx P hd T x []) := r3.2.2.2.1
      have as : d2.askers = d.askers + nI (dayQ nx P T x) := by rw [r4, o4]
      obtain ⟨d3, q1, q2⟩ := ih m d2 (dayX nx T x) (a3 + nI (dayL nx P hd T x []).length) (a4 + (if nI (P.rules 0 - (dayL nx P hd T x []).length) = 0 then 1 else 0)) hP2 (by rw [s12.2.2.1]; exact hw) (by omega) (by omega)
      rw [pr, as] at q1
      refine ⟨d3, ?_, s12.trans q2⟩
      rw [if_neg (by rw [nI_leI (by omega) (by omega)]; omega), yo_100, Option.bind_some, o1, Option.bind_some, r1]
      unfold m_X12_drawn_J148
      have ek : nI (K - (m + 1)) + 1 = nI (K - m) := by rw [nI_1, show K - (m + 1) + 1 = K - m by omega]
      have el : nI (P.rules 0) - nI (P.rules 0 - (dayL nx P hd T x []).length) = nI (dayL nx P hd T x []).length := by
        rw [pk_sub (by omega), show P.rules 0 - (P.rules 0 - (dayL nx P hd T x []).length) = (dayL nx P hd T x []).length by omega]
      rw [ek, el]
      by_cases z : nI (P.rules 0 - (dayL nx P hd T x []).length) = 0
      · rw [if_pos z]
        rw [if_pos z] at q1
        unfold drwR
        rw [if_pos z]
        exact q1
      · rw [if_neg z]
        rw [if_neg z] at q1
        unfold drwR
        rw [if_neg z]
        exact q1
theorem p_drawn (h : RR c d D) (hN : 100 ≤ N) (i1 i2 i3 i4 : Int32) : ∃ r c' d', m_X11_drawn N 10 i1 i2 i3 i4 (mk c d D) = some (r, mk c' d D) ∧ m_X12_drawn N 100 i1 i2 i3 i4 (mk c' d D) = some (r, mk c' d' D) ∧ RR c' d' D := by
  have hP := h.1
  rcases rg i3 1 with ⟨hd, hh, rfl⟩ | ho3
  · have e1 := wi_in (k := hd) (m := 1) hh
    have f1 := in_in (k := hd) (lo := 0) (hi := 1) (by omega) hh
    rcases rg i4 3 with ⟨o, ho, rfl⟩ | ho4
    · have e2 := wi_in (k := o) (m := 3) ho
      have f2 := in_in (k := o) (lo := 0) (hi := 3) (by omega) ho
      by_cases hk : 1 ≤ i1.toInt ∧ i1.toInt ≤ 20
      · obtain ⟨K, rfl, hK⟩ : ∃ K, i1 = nI K ∧ K ≤ 20 ∧ 1 ≤ K := by
          refine ⟨i1.toInt.toNat, Int32.toInt.inj ?_, by omega, by omega⟩
          rw [nI_toInt (by omega)]
          omega
        have c1 : ¬ nI K < 1 := by rw [show (1 : Int32) = nI 1 from rfl, nI_ltI (by omega) (by omega)]; omega
        have k20 : ¬ 20 < nI K := by rw [show (20 : Int32) = nI 20 from rfl, nI_ltI (by omega) (by omega)]; omega
        have f3 := in_in (k := K) (lo := 1) (hi := 20) (by omega) (by omega)
        by_cases ht : 1 ≤ i2.toInt ∧ i2.toInt ≤ 20
        · obtain ⟨T, rfl, hT, hT1⟩ : ∃ T, i2 = nI T ∧ T ≤ 20 ∧ 1 ≤ T := by
            refine ⟨i2.toInt.toNat, Int32.toInt.inj ?_, by omega, by omega⟩
            rw [nI_toInt (by omega)]
            omega
          have g1 := xst_in (t := T) hT1 hT
          have g2 := yst_in (t := T) hT1 hT
          have hnx : ∀ x : Int32, x * 1103515245 + 12345 = (fun x : Int32 => x * 1103515245 + 12345) x := fun x => rfl
          generalize (fun x : Int32 => x * 1103515245 + 12345) = nx at hnx
          obtain ⟨c2, q1, q2, q3, q4⟩ := xdays_go (d := d) (D := D) (N := N) (d0 := d) (P := c.pl) hnx hN hP hh hT hK.1 (nI o) N K c 0 0 0 0 (by rfl) h.2.2.2.1 (Nat.le_refl _) (by omega)
          obtain ⟨w, w1, w2⟩ := yreck (c := c2) (D := D) hN hP hT
          have hP0 : PR (c.pl.s_seed c.pl.seed) d.now := hP
          obtain ⟨d2, r1, r2⟩ := ydays_go (c := c2) (D := D) (N := N) (P := c.pl) hnx hN hh hT hK.1 (nI o) N K (((d.s_worths w).s_prices (nI 0)).s_askers (nI 0)) c.pl.seed 0 0 hP0 w2 (Nat.le_refl _) (by omega)
          refine ⟨drwP (nI o) (drwR nx c.pl hd T K c.pl.seed (0, 0, 0, 0)), c2, d2, ?_, ?_, ?_⟩
          · unfold m_X11_drawn
            rw [(show m_X11_within (nI hd) 1 = some (nI 1) from e1), Option.bind_some, if_neg (by decide), (show m_X11_within (nI o) 3 = some (nI 1) from e2), Option.bind_some, if_neg (by decide), if_neg c1, if_neg k20, g1, Option.bind_some, if_neg (by decide)]
            rw [Nat.sub_self] at q1
            exact q1
          · unfold m_X12_drawn
            rw [show (1 : Int64) = lN 1 from rfl, show (0 : Int64) = lN 0 from rfl, f1, Option.bind_some, if_neg (by decide), show (3 : Int64) = lN 3 from rfl, f2, Option.bind_some, if_neg (by decide), show (20 : Int64) = lN 20 from rfl, f3, Option.bind_some, if_neg (by decide), g2, Option.bind_some, if_neg (by decide), yo_100, Option.bind_some, w1, Option.bind_some, show (0 : Int32) = nI 0 from rfl, yw_100_21, Option.bind_some, yw_100_22, Option.bind_some]
            rw [Nat.sub_self] at r1
            exact r1
          · have r3 := q3.2.2.2 d D h q2
            have r4 := r2.2.2.2.2 (va_up d.now 128 c2.pl.seed) c2 D r3
            have e : d2.s_now (va_up d.now 128 c2.pl.seed) = d2 := by
              have : d2.now = va_up d.now 128 c2.pl.seed := by rw [r2.1, q4]; rfl
              rw [← this]
              rfl
            rw [e] at r4
            exact r4
        · obtain ⟨g1, g2, _⟩ := st_out (x := i2) (by
            rintro ⟨t, t1, t2, rfl⟩
            rw [nI_toInt (by omega)] at ht
            omega)
          refine ⟨-2, c, d, ?_, ?_, h⟩
          · unfold m_X11_drawn
            rw [(show m_X11_within (nI hd) 1 = some (nI 1) from e1), Option.bind_some, if_neg (by decide), (show m_X11_within (nI o) 3 = some (nI 1) from e2), Option.bind_some, if_neg (by decide), if_neg c1, if_neg k20, g1, Option.bind_some, if_pos (by decide)]
          · unfold m_X12_drawn
            rw [show (1 : Int64) = lN 1 from rfl, show (0 : Int64) = lN 0 from rfl, f1, Option.bind_some, if_neg (by decide), show (3 : Int64) = lN 3 from rfl, f2, Option.bind_some, if_neg (by decide), show (20 : Int64) = lN 20 from rfl, f3, Option.bind_some, if_neg (by decide), g2, Option.bind_some, if_pos (by decide)]
      · have f3 := in_out (x := i1) (lo := 1) (hi := 20) (by omega)
        refine ⟨-2, c, d, ?_, ?_, h⟩
        · unfold m_X11_drawn
          rw [(show m_X11_within (nI hd) 1 = some (nI 1) from e1), Option.bind_some, if_neg (by decide), (show m_X11_within (nI o) 3 = some (nI 1) from e2), Option.bind_some, if_neg (by decide)]
          by_cases q : i1 < 1
          · rw [if_pos q]
          · rw [if_neg q, if_pos]
            rw [Int32.lt_iff_toInt_lt] at q ⊢
            have a1 : (1 : Int32).toInt = 1 := rfl
            have a2 : (20 : Int32).toInt = 20 := rfl
            omega
        · unfold m_X12_drawn
          rw [show (1 : Int64) = lN 1 from rfl, show (0 : Int64) = lN 0 from rfl, f1, Option.bind_some, if_neg (by decide), show (3 : Int64) = lN 3 from rfl, f2, Option.bind_some, if_neg (by decide), show (20 : Int64) = lN 20 from rfl, f3, Option.bind_some, if_pos (by decide)]
    · have e2 := wi_out (x := i4) (m := 3) ho4
      have f2 := in_out (x := i4) (lo := 0) (hi := 3) (by omega)
      refine ⟨-nI 1, c, d, ?_, ?_, h⟩
      · simp (disch := omega) only [m_X11_drawn, Option.bind_some, plit, plit64, nI_add, pk_mul, if_true, if_false, or_true, true_or, oifT, Nat.one_ne_zero, ↓reduceIte, Nat.reduceLT, Nat.reduceLeDiff, Nat.reduceEqDiff, Nat.reduceAdd, Nat.reduceMul, Nat.reduceSub, Nat.reduceDiv, nI_eq, nI_leI, nI_ltI, nI_neg, neg_eq, yo_10, yr_10_0, yr_10_1, yr_10_2, yr_10_3, yr_10_4, yr_10_5, yr_10_6, yr_10_7, yr_10_8, yr_10_9, yr_10_10, yr_10_11, yo_11, yr_11_0, yr_11_1, yr_11_2, yr_11_3, yr_11_4, yn_13, ya_13, yo_14, yr_14_0, yr_14_1, yr_14_2, yr_14_3, ya_15, ya_16, e1, e2]
      · simp (disch := omega) only [m_X12_drawn, Option.bind_some, plit, plit64, nI_add, pk_mul, if_true, if_false, or_true, true_or, oifT, Nat.one_ne_zero, ↓reduceIte, Nat.reduceLT, Nat.reduceLeDiff, Nat.reduceEqDiff, Nat.reduceAdd, Nat.reduceMul, Nat.reduceSub, Nat.reduceDiv, nI_eq, nI_leI, nI_ltI, nI_neg, neg_eq, yo_100, yr_100_0, yr_100_1, yr_100_2, yr_100_3, yr_100_4, yr_100_5, yr_100_6, yr_100_7, yr_100_8, yr_100_9, yr_100_10, yr_100_11, yr_100_12, yr_100_13, yr_100_14, yr_100_15, yr_100_16, yr_100_17, yr_100_18, yr_100_19, yr_100_20, yr_100_21, yr_100_22, yr_100_23, yr_100_24, yr_100_25, yr_100_26, yr_100_27, yr_100_28, ya_101, ya_102, ya_103, ya_104, ya_105, ya_106, ya_107, ya_108, ya_109, ya_110, ya_111, ya_112, ya_113, ya_114, ya_115, ya_116, ya_117, ya_118, ya_119, f1, f2]
  · have e1 := wi_out (x := i3) (m := 1) ho3
    have f1 := in_out (x := i3) (lo := 0) (hi := 1) (by omega)
    refine ⟨-nI 1, c, d, ?_, ?_, h⟩
    · simp (disch := omega) only [m_X11_drawn, Option.bind_some, plit, plit64, nI_add, pk_mul, if_true, if_false, or_true, true_or, oifT, Nat.one_ne_zero, ↓reduceIte, Nat.reduceLT, Nat.reduceLeDiff, Nat.reduceEqDiff, Nat.reduceAdd, Nat.reduceMul, Nat.reduceSub, Nat.reduceDiv, nI_eq, nI_leI, nI_ltI, nI_neg, neg_eq, yo_10, yr_10_0, yr_10_1, yr_10_2, yr_10_3, yr_10_4, yr_10_5, yr_10_6, yr_10_7, yr_10_8, yr_10_9, yr_10_10, yr_10_11, yo_11, yr_11_0, yr_11_1, yr_11_2, yr_11_3, yr_11_4, yn_13, ya_13, yo_14, yr_14_0, yr_14_1, yr_14_2, yr_14_3, ya_15, ya_16, e1]
    · simp (disch := omega) only [m_X12_drawn, Option.bind_some, plit, plit64, nI_add, pk_mul, if_true, if_false, or_true, true_or, oifT, Nat.one_ne_zero, ↓reduceIte, Nat.reduceLT, Nat.reduceLeDiff, Nat.reduceEqDiff, Nat.reduceAdd, Nat.reduceMul, Nat.reduceSub, Nat.reduceDiv, nI_eq, nI_leI, nI_ltI, nI_neg, neg_eq, yo_100, yr_100_0, yr_100_1, yr_100_2, yr_100_3, yr_100_4, yr_100_5, yr_100_6, yr_100_7, yr_100_8, yr_100_9, yr_100_10, yr_100_11, yr_100_12, yr_100_13, yr_100_14, yr_100_15, yr_100_16, yr_100_17, yr_100_18, yr_100_19, yr_100_20, yr_100_21, yr_100_22, yr_100_23, yr_100_24, yr_100_25, yr_100_26, yr_100_27, yr_100_28, ya_101, ya_102, ya_103, ya_104, ya_105, ya_106, ya_107, ya_108, ya_109, ya_110, ya_111, ya_112, ya_113, ya_114, ya_115, ya_116, ya_117, ya_118, ya_119, f1]
end
