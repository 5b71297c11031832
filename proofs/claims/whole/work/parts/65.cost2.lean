-- the routes: what a passenger over one leg costs, the reference
section
variable {c : CS} {d : MS} {D : mM} {N k : Nat} {a : Int32} {P : PL}
def goneR (now : Nat → Int32) (k m i : Nat) : Int32 := if candR now k m i then nI 0 else nI 1
theorem ydear_go (hN : 100 ≤ N) (hP : PR P d.now) (hR : RO P d.now D) {k42 : Nat → Int32 → Int32 → Int32 → mM → Option (UInt32 × mM)} {k m s z : Nat} (hk : k < 4) (hs : s ≤ 99 * 13) (hg : ∀ q, q < P.rc → d.isGone q = goneR d.now k m q) : ∀ n i : Nat, i ≤ P.rc → P.rc - i < n → m_X12_costOf_L58 N k42 n 100 (nI k) (nI s) (nI z) (encB (dear P d.now k m i)) (nI i) (mk c d D) = match dear P d.now k m P.rc with
    | none => some (FP.fconst0, mk c d D)
    | some b => if s + wtR d.now b ≤ P.free k then k42 100 (nI k) (nI (s + wtR d.now b)) (nI (z + 1)) (mk c (d.s_isGone (va_up d.isGone b (nI 1))) D) else some (pcN P d.now k b, mk c (d.s_isGone (va_up d.isGone b (nI 1))) D) := by
  intro n
  induction n with
  | zero => intro i _ h; omega
  | succ n ih =>
    intro i hi hn
    have hr := hP.rc
    have a5 : ∀ d : MS, aI 0 (mk c d D) 101 5 = some (d.now 5) := fun d => ya_101 (i := 5) (by omega)
    unfold m_X12_costOf_L58
    by_cases e : i = P.rc
    · subst e
      rw [yr_100_0, Option.bind_some, a5, Option.bind_some, hP.rc_, if_pos (nI_le (by omega) (by omega))]
      cases hb : dear P d.now k m P.rc with
      | none => rw [if_neg (by decide)]
      | some b =>
        obtain ⟨b1, b2⟩ := dear_lt _ hb
        obtain ⟨j, l0, l1, l2, h1, h2, h3⟩ := hR.got (i := b) b1
        have hw := h3.2.2.2.2
        have hf := hP.f hk
        have w1 := ywanted (c := c) (d := d.s_isGone (va_up d.isGone b (nI 1))) (D := D) h3 (by omega)
        have p1 := ypart (c := c) (d := d.s_isGone (va_up d.isGone b (nI 1))) (D := D) (N := N) hN hP h3 (by omega) hk b2.2
        have af : aI 0 (mk c (d.s_isGone (va_up d.isGone b (nI 1))) D) 101 (46 + nI k) = some (nI (P.free k)) := by
          rw [show (46 : Int32) = nI 46 from rfl, nI_add, ya_101 (by omega)]
          show some (d.now (46 + k)) = _
          rw [hP.f_ hk]
        have u1 : uI 3 .boolean (mk c d D) 117 (nI b) 1 = some (mk c (d.s_isGone (va_up d.isGone b (nI 1))) D) := yu_117 (by omega)
        rw [show encB (some b) = nI b from rfl, if_pos (by rw [show (0 : Int32) = nI 0 from rfl, nI_leI (by omega) (by omega)]; omega), yr_100_23, Option.bind_some, u1, Option.bind_some, yo_100, Option.bind_some, w1, Option.bind_some, yr_100_0, Option.bind_some, af, Option.bind_some, nI_add]
        simp only
        by_cases q : s + wtR d.now b ≤ P.free k
        · rw [if_pos ((nI_leI (by omega) (by omega)).mpr q), if_pos q, nI_1]
        · rw [if_neg (fun z => q ((nI_leI (by omega) (by omega)).mp z)), if_neg q, Option.bind_some, p1, Option.bind_some]
          rfl
    · obtain ⟨j, l0, l1, l2, h1, h2, h3⟩ := hR.got (i := i) (by omega)
      have ih := ih (i + 1) (by omega) (by omega)
      have eb : dear P d.now k m (i + 1) = if candR d.now k m i then (match dear P d.now k m i with
        | none => some i
        | some b => if Op.cmpValue (FP.fcmp (pcN P d.now k i) (pcN P d.now k b)) CmpOp.l ≤ 0 then some b else some i) else dear P d.now k m i := rfl
      rw [yr_100_0, Option.bind_some, a5, Option.bind_some, hP.rc_, if_neg (by rw [nI_leI (by omega) (by omega)]; omega), yr_100_23, Option.bind_some, ya_117 (by omega), Option.bind_some, hg i (by omega)]
      unfold goneR
      by_cases g : candR d.now k m i
      · rw [if_pos g, if_pos (show nI 0 = 0 from rfl)]
        rw [if_pos g] at eb
        have p1 := ypart (c := c) (D := D) (N := N) hN hP h3 (by omega) hk g.2
        cases hb : dear P d.now k m i with
        | none =>
          rw [hb] at eb
          have eb : dear P d.now k m (i + 1) = some i := eb
          rw [eb] at ih
          rw [if_pos (by decide)]
          unfold m_X12_costOf_J102 m_X12_costOf_J106
          rw [nI_1]
          exact ih
        | some b =>
          rw [hb] at eb
          have eb : dear P d.now k m (i + 1) = if Op.cmpValue (FP.fcmp (pcN P d.now k i) (pcN P d.now k b)) CmpOp.l ≤ 0 then some b else some i := eb
          obtain ⟨bl, b2⟩ := dear_lt i hb
          obtain ⟨j', l0', l1', l2', h1', h2', h3'⟩ := hR.got (i := b) (by omega)
          have p2 := ypart (c := c) (D := D) (N := N) hN hP h3' (by omega) hk b2.2
          rw [show encB (some b) = nI b from rfl, if_neg (by rw [show (0 : Int32) = nI 0 from rfl, nI_ltI (by omega) (by omega)]; omega), yo_100, Option.bind_some, p1, Option.bind_some, Option.bind_some, p2, Option.bind_some]
          by_cases q : Op.cmpValue (FP.fcmp (pcN P d.now k i) (pcN P d.now k b)) CmpOp.l ≤ 0
          · rw [if_pos q] at eb
            rw [eb] at ih
            unfold pcN at q
            rw [if_pos q]
            unfold m_X12_costOf_J106
            rw [nI_1]
            exact ih
          · rw [if_neg q] at eb
            rw [eb] at ih
            unfold pcN at q
            rw [if_neg q]
            unfold m_X12_costOf_J102 m_X12_costOf_J106
            rw [nI_1]
            exact ih
      · rw [if_neg g, if_neg (show ¬ nI 1 = 0 by decide)]
        rw [if_neg g] at eb
        rw [eb] at ih
        unfold m_X12_costOf_J106
        rw [nI_1]
        exact ih
theorem gone_up {now : Nat → Int32} {k m b : Nat} {g : Nat → Int32} {r : Nat} (hg : ∀ q, q < r → g q = goneR now k m q) : ∀ q, q < r → va_up g b (nI 1) q = goneR now k (m ||| 2 ^ b) q := by
  intro q hq
  unfold goneR
  by_cases e : q = b
  · subst e
    rw [upe, if_neg]
    intro z
    have := z.1
    rw [gb_or, if_pos rfl] at this
    omega
  · rw [upn e, hg q hq]
    have h : candR now k (m ||| 2 ^ b) q ↔ candR now k m q := by
      unfold candR
      rw [gb_or, if_neg e]
    unfold goneR
    by_cases z : candR now k m q
    · rw [if_pos z, if_pos (h.mpr z)]
    · rw [if_neg z, if_neg (fun y => z (h.mp y))]
theorem y42 (hN : 100 ≤ N) {k : Nat} (hk : k < 4) : ∀ (n i m s : Nat) (d : MS), PR P d.now → RO P d.now D → i ≤ P.rc → P.rc - i < n → s ≤ 99 * i → (∀ q, q < P.rc → d.isGone q = goneR d.now k m q) → ∃ g : Nat → Int32, m_X12_costOf_L42 N n 100 (nI k) (nI s) (nI i) (mk c d D) = some (cstR P d.now k (P.rc - i) m s, mk c (d.s_isGone g) D) := by
  intro n
  induction n with
  | zero => intro i m s d _ _ _ h; omega
  | succ n ih =>
    intro i m s d hP hR hi hn hs hg
    have hr := hP.rc
    have a5 : ∀ d : MS, aI 0 (mk c d D) 101 5 = some (d.now 5) := fun d => ya_101 (i := 5) (by omega)
    unfold m_X12_costOf_L42
    by_cases e : i = P.rc
    · subst e
      refine ⟨d.isGone, ?_⟩
      rw [yr_100_0, Option.bind_some, a5, Option.bind_some, hP.rc_, if_pos (nI_le (by omega) (by omega)), Nat.sub_self]
      rfl
    · rw [yr_100_0, Option.bind_some, a5, Option.bind_some, hP.rc_, if_neg (by rw [nI_leI (by omega) (by omega)]; omega)]
      have x := ydear_go (c := c) (N := N) hN hP hR (k42 := m_X12_costOf_L42 N n) (k := k) (m := m) (s := s) (z := i) hk (by omega) hg N 0 (by omega) (by omega)
      have x : m_X12_costOf_L58 N (m_X12_costOf_L42 N n) N 100 (nI k) (nI s) (nI i) (-1) 0 (mk c d D) = _ := x
      rw [x]
      rw [show P.rc - i = (P.rc - (i + 1)) + 1 by omega]
      unfold cstR
      cases hb : dear P d.now k m P.rc with
      | none => exact ⟨d.isGone, rfl⟩
      | some b =>
        simp only
        obtain ⟨b1, b2⟩ := dear_lt _ hb
        obtain ⟨j, l0, l1, l2, h1, h2, h3⟩ := hR.got (i := b) b1
        have hw := h3.2.2.2.2
        by_cases q : s + wtR d.now b ≤ P.free k
        · obtain ⟨g, r⟩ := ih (i + 1) (m ||| 2 ^ b) (s + wtR d.now b) (d.s_isGone (va_up d.isGone b (nI 1))) hP hR (by omega) (by omega) (by omega) (gone_up hg)
          refine ⟨g, ?_⟩
          rw [if_pos q, if_pos q]
          exact r
        · refine ⟨va_up d.isGone b (nI 1), ?_⟩
          rw [if_neg q, if_neg q]
theorem y4 (hN : 100 ≤ N) {k : Nat} (hk : k < 4) : ∀ (n i : Nat) (d : MS), PR P d.now → RO P d.now D → i ≤ P.rc → P.rc - i < n → (∀ q, q < i → d.isGone q = goneR d.now k 0 q) → ∃ g : Nat → Int32, m_X12_costOf_L4 N n 100 (nI k) 0 (nI i) (mk c d D) = some (cstR P d.now k P.rc 0 0, mk c (d.s_isGone g) D) := by
  intro n
  induction n with
  | zero => intro i d _ _ _ h; omega
  | succ n ih =>
    intro i d hP hR hi hn hg
    have hr := hP.rc
    have a5 : ∀ d : MS, aI 0 (mk c d D) 101 5 = some (d.now 5) := fun d => ya_101 (i := 5) (by omega)
    unfold m_X12_costOf_L4
    by_cases e : i = P.rc
    · subst e
      obtain ⟨g, r⟩ := y42 (P := P) (c := c) (D := D) (N := N) hN hk N 0 0 0 d hP hR (by omega) (by omega) (by omega) hg
      refine ⟨g, ?_⟩
      rw [yr_100_0, Option.bind_some, a5, Option.bind_some, hP.rc_, if_pos (nI_le (by omega) (by omega))]
      exact r
    · obtain ⟨j, l0, l1, l2, h1, h2, h3⟩ := hR.got (i := i) (by omega)
      have y1 := yover (c := c) (D := D) h3 (by omega) hk
      have gz : ∀ q, gb 0 q = 0 := fun q => by unfold gb; rw [Nat.zero_div]
      rw [yr_100_0, Option.bind_some, a5, Option.bind_some, hP.rc_, if_neg (by rw [nI_leI (by omega) (by omega)]; omega), yr_100_23, Option.bind_some, yo_100, Option.bind_some, y1, Option.bind_some]
      have key : ∀ v : Int32, vp_nar .boolean v = goneR d.now k 0 i → ∃ g : Nat → Int32, m_X12_costOf_J33 N (m_X12_costOf_L4 N n) 100 (nI k) 0 (nI i) 117 (nI i) v (mk c d D) = some (cstR P d.now k P.rc 0 0, mk c (d.s_isGone g) D) := by
        intro v hv
        obtain ⟨g, r⟩ := ih (i + 1) (d.s_isGone (va_up d.isGone i (vp_nar .boolean v))) hP hR (by omega) (by omega) (fun q hq => by
          show va_up d.isGone i _ q = _
          by_cases e2 : q = i
          · subst e2
            rw [upe, hv]
            rfl
          · rw [upn e2]
            exact hg q (by omega))
        refine ⟨g, ?_⟩
        unfold m_X12_costOf_J33
        rw [yu_117 (by omega), Option.bind_some, nI_1]
        exact r
      by_cases g2 : gb (lgR d.now i) k = 0
      · rw [if_pos (nI_gb.mpr g2)]
        refine key 1 ?_
        unfold goneR
        rw [if_neg (fun z => by have := z.2; omega)]
        rfl
      · have g3 : gb (lgR d.now i) k = 1 := by have := gb_lt (lg := lgR d.now i) (k := k); omega
        rw [if_neg (fun z => g2 (nI_gb.mp z))]
        refine key 0 ?_
        unfold goneR
        rw [if_pos ⟨gz i, g3⟩]
        rfl
theorem ycost (hN : 100 ≤ N) {k : Nat} (hk : k < 4) (hP : PR P d.now) (hR : RO P d.now D) : ∃ g : Nat → Int32, m_X12_costOf N 100 (nI k) (mk c d D) = some (cstR P d.now k P.rc 0 0, mk c (d.s_isGone g) D) := by
  have hr := hP.rc
  exact y4 (P := P) (c := c) (D := D) (N := N) hN hk N 0 d hP hR (by omega) (by omega) (fun q hq => by omega)
theorem pz_bits (hN : 100 ≤ N) {x : UInt32} (h : PZ x) : m_X9_bitsOfFloat N x = some x.toInt32 ∧ m_Jxf58ca_floatToIntBits_5c35a x = some x.toInt32 := by
  rcases h with rfl | ⟨e, f, h1, h2, h3⟩
  · exact ⟨bits_f0 (by omega), fib fzero_fin⟩
  · exact ⟨bits_f (by omega) h1 (by omega), fib h1.fin⟩
theorem p_cost (h : RR c d D) (hN : 100 ≤ N) (a : Int32) : ∃ r d', m_X11_cost N 10 a (mk c d D) = some r ∧ m_X12_cost N 100 a (mk c d D) = some (r, mk c d' D) ∧ RR c d' D := by
  have hP := h.1
  rcases rg a 3 with ⟨k, hk, rfl⟩ | ho
  · have e1 := wi_in (k := k) (m := 3) hk
    have e2 := isLeg_in hk
    have x1 := xcost (c := c) (N := N) hN hP h.2.1 (k := k) (by omega)
    obtain ⟨g, y1⟩ := ycost (c := c) (N := N) hN (k := k) (by omega) hP h.2.1
    obtain ⟨b1, b2⟩ := pz_bits (N := N) hN (cstR_b hP h.2.1 (k := k) (by omega) c.pl.rc 0 0)
    refine ⟨(cstR c.pl d.now k c.pl.rc 0 0).toInt32, d.s_isGone g, ?_, ?_, h⟩
    · simp (disch := omega) only [m_X11_cost, Option.bind_some, plit, plit64, nI_add, pk_mul, if_true, if_false, or_true, true_or, oifT, Nat.one_ne_zero, ↓reduceIte, Nat.reduceLT, Nat.reduceLeDiff, Nat.reduceEqDiff, Nat.reduceAdd, Nat.reduceMul, Nat.reduceSub, Nat.reduceDiv, nI_eq, nI_leI, nI_ltI, nI_neg, neg_eq, yo_10, yr_10_0, yr_10_1, yr_10_2, yr_10_3, yr_10_4, yr_10_5, yr_10_6, yr_10_7, yr_10_8, yr_10_9, yr_10_10, yr_10_11, yo_11, yr_11_0, yr_11_1, yr_11_2, yr_11_3, yr_11_4, yn_13, ya_13, yo_14, yr_14_0, yr_14_1, yr_14_2, yr_14_3, ya_15, ya_16, e1, yo_14, x1, b1]
    · simp (disch := omega) only [m_X12_cost, Option.bind_some, plit, plit64, nI_add, pk_mul, if_true, if_false, or_true, true_or, oifT, Nat.one_ne_zero, ↓reduceIte, Nat.reduceLT, Nat.reduceLeDiff, Nat.reduceEqDiff, Nat.reduceAdd, Nat.reduceMul, Nat.reduceSub, Nat.reduceDiv, nI_eq, nI_leI, nI_ltI, nI_neg, neg_eq, yo_100, yr_100_0, yr_100_1, yr_100_2, yr_100_3, yr_100_4, yr_100_5, yr_100_6, yr_100_7, yr_100_8, yr_100_9, yr_100_10, yr_100_11, yr_100_12, yr_100_13, yr_100_14, yr_100_15, yr_100_16, yr_100_17, yr_100_18, yr_100_19, yr_100_20, yr_100_21, yr_100_22, yr_100_23, yr_100_24, yr_100_25, yr_100_26, yr_100_27, yr_100_28, ya_101, ya_102, ya_103, ya_104, ya_105, ya_106, ya_107, ya_108, ya_109, ya_110, ya_111, ya_112, ya_113, ya_114, ya_115, ya_116, ya_117, ya_118, ya_119, e2, y1, b2]
  · have e1 := wi_out (x := a) (m := 3) ho
    have e2 := isLeg_out (x := a) ho
    refine ⟨-nI 1, d, ?_, ?_, h⟩
    · simp (disch := omega) only [m_X11_cost, Option.bind_some, plit, plit64, nI_add, pk_mul, if_true, if_false, or_true, true_or, oifT, Nat.one_ne_zero, ↓reduceIte, Nat.reduceLT, Nat.reduceLeDiff, Nat.reduceEqDiff, Nat.reduceAdd, Nat.reduceMul, Nat.reduceSub, Nat.reduceDiv, nI_eq, nI_leI, nI_ltI, nI_neg, neg_eq, yo_10, yr_10_0, yr_10_1, yr_10_2, yr_10_3, yr_10_4, yr_10_5, yr_10_6, yr_10_7, yr_10_8, yr_10_9, yr_10_10, yr_10_11, yo_11, yr_11_0, yr_11_1, yr_11_2, yr_11_3, yr_11_4, yn_13, ya_13, yo_14, yr_14_0, yr_14_1, yr_14_2, yr_14_3, ya_15, ya_16, e1]
    · simp (disch := omega) only [m_X12_cost, Option.bind_some, plit, plit64, nI_add, pk_mul, if_true, if_false, or_true, true_or, oifT, Nat.one_ne_zero, ↓reduceIte, Nat.reduceLT, Nat.reduceLeDiff, Nat.reduceEqDiff, Nat.reduceAdd, Nat.reduceMul, Nat.reduceSub, Nat.reduceDiv, nI_eq, nI_leI, nI_ltI, nI_neg, neg_eq, yo_100, yr_100_0, yr_100_1, yr_100_2, yr_100_3, yr_100_4, yr_100_5, yr_100_6, yr_100_7, yr_100_8, yr_100_9, yr_100_10, yr_100_11, yr_100_12, yr_100_13, yr_100_14, yr_100_15, yr_100_16, yr_100_17, yr_100_18, yr_100_19, yr_100_20, yr_100_21, yr_100_22, yr_100_23, yr_100_24, yr_100_25, yr_100_26, yr_100_27, yr_100_28, ya_101, ya_102, ya_103, ya_104, ya_105, ya_106, ya_107, ya_108, ya_109, ya_110, ya_111, ya_112, ya_113, ya_114, ya_115, ya_116, ya_117, ya_118, ya_119, e2]
end
