-- the routes: who is let in, letters, p_route
theorem pz_dn {x : UInt32} (h : PZ x) : Dn 1047 ((2 ^ 28 : Nat) * tp 1074) (FP.f2d x) := by
  rcases h with rfl | ⟨e, f, h1, h2, h3⟩
  · rw [show FP.f2d FP.fconst0 = FP.dconst0 by decide +kernel]
    exact zero_dn
  · have b := f2d_b h1
    have hf := h1.2.2.2
    refine ⟨b.fin, b.ps, Or.inr ?_, ?_⟩
    · rw [b.dv]
      have : ((2 ^ 52 : Nat) : Int) * tp (e + 896 - 1) ≤ ((2 ^ 52 + f * 2 ^ 29 : Nat) : Int) * tp (e + 896 - 1) := Int.mul_le_mul_of_nonneg_right (by omega) (Int.le_of_lt (tp_pos _))
      refine Int.le_trans ?_ this
      rw [tp_nat, ← tp_add]
      exact tp_mono (by omega)
    · rw [b.dv]
      have : ((2 ^ 52 + f * 2 ^ 29 : Nat) : Int) * tp (e + 896 - 1) ≤ ((2 ^ 53 : Nat) : Int) * tp (e + 896 - 1) := Int.mul_le_mul_of_nonneg_right (by omega) (Int.le_of_lt (tp_pos _))
      refine Int.le_trans this ?_
      rw [tp_nat, tp_nat, ← tp_add, ← tp_add]
      exact tp_mono (by omega)
def lsD (P : PL) (now : Nat → Int32) (lg : Nat) : Nat → UInt64
  | 0 => FP.dconst0
  | m + 1 => if gb lg m = 0 then lsD P now lg m else FP.dadd (lsD P now lg m) (FP.f2d (cstR P now m P.rc 0 0))
def inB (P : PL) (now : Nat → Int32) (lg pr : Nat) : Int32 := if Op.cmpValue (FP.dcmp (FP.i2d (nI pr)) (lsD P now lg 4)) CmpOp.l < 0 then 0 else 1
def nlt (l1 l2 : Nat) : Nat := if l1 = 0 then 1 else if l2 = 0 then 2 else 3
section
variable {c : CS} {d : MS} {D : mM} {N k : Nat} {a : Int32} {P : PL}
theorem ls_dn (hP : PR P d.now) (hR : RO P d.now D) {lg : Nat} : ∀ m, m ≤ 4 → Dn 1047 (((m * 2 ^ 28 : Nat) : Int) * tp 1074) (lsD P d.now lg m)
  | 0, _ => zero_dn
  | m + 1, h => by
    have i := ls_dn hP hR (lg := lg) m (by omega)
    unfold lsD
    split
    · exact i.mono (Nat.le_refl _) (Int.mul_le_mul_of_nonneg_right (by omega) (Int.le_of_lt (tp_pos _)))
    · refine i.add (pz_dn (cstR_b hP hR (k := m) (by omega) _ _ _)) (by omega) (rep (by omega) (by omega)) ?_
      rw [← Int.add_mul]
      exact Int.mul_le_mul_of_nonneg_right (by omega) (Int.le_of_lt (tp_pos _))
theorem xlets_go (hN : 100 ≤ N) (hP : PR c.pl d.now) (hR : RO c.pl d.now D) {j nm lg pr wt : Nat} (h : D[j]? = some (cRt nm lg pr wt)) (hl : lg ≤ 15) : ∀ n m : Nat, m ≤ 4 → 4 - m < n → m_X4_letsIn_L5 N (mk c d D) n 14 (j + 120) (lsD c.pl d.now lg m) (nI m) = some (inB c.pl d.now lg pr) := by
  intro n
  induction n with
  | zero => intro m _ h; omega
  | succ n ih =>
    intro m hm hn
    unfold m_X4_letsIn_L5
    by_cases e : m = 4
    · subst e
      rw [if_pos (by decide), yd_2 h, Option.bind_some]
      unfold inB
      split <;> rfl
    · have ih := ih (m + 1) (by omega) (by omega)
      have es : lsD c.pl d.now lg (m + 1) = if gb lg m = 0 then lsD c.pl d.now lg m else FP.dadd (lsD c.pl d.now lg m) (FP.f2d (cstR c.pl d.now m c.pl.rc 0 0)) := rfl
      rw [if_neg (by rw [show (4 : Int32) = nI 4 from rfl, nI_leI (by omega) (by omega)]; omega), yd_o h, Option.bind_some, xgoes h hl (by omega), Option.bind_some]
      by_cases g : gb lg m = 0
      · rw [if_pos (nI_gb.mpr g)]
        rw [es, if_pos g] at ih
        unfold m_X4_letsIn_J30
        rw [nI_1]
        exact ih
      · have o1 := (pz_dn (cstR_b hP hR (k := m) (by omega) c.pl.rc 0 0)).1
        have o2 := (ls_dn hP hR (lg := lg) (m + 1) (by omega)).1
        rw [es, if_neg g] at ih o2
        rw [if_neg (fun z => g (nI_gb.mp z)), yo_14, Option.bind_some, xcost hN hP hR (by omega), Option.bind_some, oD_fin o1, Option.bind_some, oD_fin o2, Option.bind_some]
        unfold m_X4_letsIn_J30
        rw [nI_1]
        exact ih
theorem yisIn_go (hN : 100 ≤ N) {i l0 l1 l2 lg pr wt : Nat} (hi : i < 12) : ∀ (n m : Nat) (d : MS), PR P d.now → RO P d.now D → RN d.now i l0 l1 l2 lg pr wt → m ≤ 4 → 4 - m < n → ∃ g : Nat → Int32, m_X12_isIn_L5 N n 100 (nI i) (lsD P d.now lg m) (nI m) (mk c d D) = some (inB P d.now lg pr, mk c (d.s_isGone g) D) := by
  intro n
  induction n with
  | zero => intro m d _ _ _ _ h; omega
  | succ n ih =>
    intro m d hP hR h hm hn
    unfold m_X12_isIn_L5
    by_cases e : m = 4
    · subst e
      refine ⟨d.isGone, ?_⟩
      rw [if_pos (by decide), yo_100, Option.bind_some, yfee h hi, Option.bind_some]
      unfold inB
      split <;> rfl
    · have es : lsD P d.now lg (m + 1) = if gb lg m = 0 then lsD P d.now lg m else FP.dadd (lsD P d.now lg m) (FP.f2d (cstR P d.now m P.rc 0 0)) := rfl
      rw [if_neg (by rw [show (4 : Int32) = nI 4 from rfl, nI_leI (by omega) (by omega)]; omega), yo_100, Option.bind_some, yover h hi (by omega), Option.bind_some]
      by_cases g : gb lg m = 0
      · obtain ⟨r, ih⟩ := ih (m + 1) d hP hR h (by omega) (by omega)
        refine ⟨r, ?_⟩
        rw [if_pos (nI_gb.mpr g)]
        rw [es, if_pos g] at ih
        unfold m_X12_isIn_J34
        rw [nI_1]
        exact ih
      · obtain ⟨g1, y1⟩ := ycost (c := c) (N := N) hN (k := m) (by omega) hP hR
        obtain ⟨r, ih⟩ := ih (m + 1) (d.s_isGone g1) hP hR h (by omega) (by omega)
        have ih : m_X12_isIn_L5 N n 100 (nI i) (lsD P d.now lg (m + 1)) (nI (m + 1)) (mk c (d.s_isGone g1) D) = some (inB P d.now lg pr, mk c (d.s_isGone r) D) := ih
        have o1 := (pz_dn (cstR_b hP hR (k := m) (by omega) P.rc 0 0)).1
        have o2 := (ls_dn hP hR (lg := lg) (m + 1) (by omega)).1
        rw [es, if_neg g] at ih o2
        refine ⟨r, ?_⟩
        rw [if_neg (fun z => g (nI_gb.mp z)), Option.bind_some, y1, Option.bind_some, oD_fin o1, Option.bind_some, oD_fin o2, Option.bind_some]
        unfold m_X12_isIn_J34
        rw [nI_1]
        exact ih
-- the letters
theorem xletter {j l0 l1 l2 lg pr wt q : Nat} (h : D[j]? = some (cRt (nmN l0 l1 l2) lg pr wt)) (h0 : l0 ≤ 122) (h1 : l1 ≤ 122) (h2 : l2 ≤ 122) (hq : q < 3) : m_X6_letter (j + 120) (nI q) (mk c d D) = some (nI (if q = 0 then l0 else if q = 1 then l1 else l2)) := by
  unfold m_X6_letter
  rw [yd_0 h, Option.bind_some, show (255 : Int32) = nI (2 ^ 8 - 1) from rfl]
  have e : q = 0 ∨ q = 1 ∨ q = 2 := by omega
  rcases e with rfl | rfl | rfl
  · rw [show ((8 : Int32) * (2 - nI 0)) &&& 31 = nI 16 &&& 31 from by decide, nI_shr (by unfold nmN; omega) (by omega), nI_mask, if_pos rfl]
    congr 2
    unfold nmN
    omega
  · rw [show ((8 : Int32) * (2 - nI 1)) &&& 31 = nI 8 &&& 31 from by decide, nI_shr (by unfold nmN; omega) (by omega), nI_mask, if_neg (by omega), if_pos rfl]
    congr 2
    unfold nmN
    omega
  · rw [show ((8 : Int32) * (2 - nI 2)) &&& 31 = nI 0 &&& 31 from by decide, nI_shr (by unfold nmN; omega) (by omega), nI_mask, if_neg (by omega), if_neg (by omega)]
    congr 2
    unfold nmN
    omega
theorem xletters (hN : 100 ≤ N) {j i l0 l1 l2 lg pr wt : Nat} (h : D[j]? = some (cRt (nmN l0 l1 l2) lg pr wt)) (hR : RN d.now i l0 l1 l2 lg pr wt) : m_X6_letters N (j + 120) (mk c d D) = some (nI (nlt l1 l2)) := by
  obtain ⟨M, rfl⟩ : ∃ M, N = M + 4 := ⟨N - 4, by omega⟩
  obtain ⟨a1, a2, a3, a4, a5, a6, a7⟩ := hR.2.1
  have g0 := xletter (c := c) (d := d) h a2 a3 a4 (q := 0) (by omega)
  have g1 := xletter (c := c) (d := d) h a2 a3 a4 (q := 1) (by omega)
  have g2 := xletter (c := c) (d := d) h a2 a3 a4 (q := 2) (by omega)
  have k0 : m_X6_letter (j + 120) 0 (mk c d D) = some (nI l0) := g0
  have k1 : m_X6_letter (j + 120) 1 (mk c d D) = some (nI l1) := g1
  have k2 : m_X6_letter (j + 120) 2 (mk c d D) = some (nI l2) := g2
  have st : ∀ n (u v : Int32), m_X6_letters_L4 (M + 4) (mk c d D) (n + 1) (j + 120) u v = if 3 ≤ v then some u else (oO (mk c d D) (j + 120) 6).bind fun _ => (m_X6_letter (j + 120) v (mk c d D)).bind fun x3 => if x3 = 0 then m_X6_letters_L4 (M + 4) (mk c d D) n (j + 120) (u + 0) (v + 1) else m_X6_letters_L4 (M + 4) (mk c d D) n (j + 120) (u + 1) (v + 1) := fun n u v => rfl
  unfold m_X6_letters nlt
  rw [st, if_neg (by decide), yd_o h, Option.bind_some, k0, Option.bind_some, if_neg (by rw [show (0 : Int32) = nI 0 from rfl, nI_eq (by omega) (by omega)]; omega), st, if_neg (by decide), yd_o h, Option.bind_some, show (0 : Int32) + 1 = 1 from rfl, k1, Option.bind_some]
  by_cases z1 : l1 = 0
  · have z2 := a5 z1
    subst z1 z2
    rw [if_pos rfl, if_pos (show nI 0 = 0 from rfl), st, if_neg (by decide), yd_o h, Option.bind_some, show (1 : Int32) + 1 = 2 from rfl, k2, Option.bind_some, if_pos (show nI 0 = 0 from rfl), st, if_pos (by decide)]
    rfl
  · rw [if_neg (by rw [show (0 : Int32) = nI 0 from rfl, nI_eq (by omega) (by omega)]; omega), if_neg z1, st, if_neg (by decide), yd_o h, Option.bind_some, show (1 : Int32) + 1 = 2 from rfl, k2, Option.bind_some]
    by_cases z2 : l2 = 0
    · subst z2
      rw [if_pos rfl, if_pos (show nI 0 = 0 from rfl), st, if_pos (by decide)]
      rfl
    · rw [if_neg (by rw [show (0 : Int32) = nI 0 from rfl, nI_eq (by omega) (by omega)]; omega), if_neg z2, st, if_pos (by decide)]
      rfl
theorem yletters (hN : 100 ≤ N) {i l0 l1 l2 lg pr wt : Nat} (hi : i < 12) (hR : RN d.now i l0 l1 l2 lg pr wt) : m_X12_letters N 100 (nI i) (mk c d D) = some (nI (nlt l1 l2)) := by
  obtain ⟨M, rfl⟩ : ∃ M, N = M + 4 := ⟨N - 4, by omega⟩
  obtain ⟨a1, a2, a3, a4, a5, a6, a7⟩ := hR.2.1
  obtain ⟨n0, n1, n2, _⟩ := hR.1
  have al : ∀ q, q < 3 → aI 0 (mk c d D) 101 (50 + 6 * nI i + nI q) = some (d.now (50 + 6 * i + q)) := fun q hq => by
    rw [show (50 : Int32) = nI 50 from rfl, show (6 : Int32) = nI 6 from rfl, pk_mul, nI_add, nI_add, ya_101 (by omega)]
  have g0 : aI 0 (mk c d D) 101 (50 + 6 * nI i + 0) = some (nI l0) := (al 0 (by omega)).trans (by rw [Nat.add_zero, n0])
  have g1 : aI 0 (mk c d D) 101 (50 + 6 * nI i + (0 + 1)) = some (nI l1) := (al 1 (by omega)).trans (by rw [n1])
  have g2 : aI 0 (mk c d D) 101 (50 + 6 * nI i + (0 + 1 + 1)) = some (nI l2) := (al 2 (by omega)).trans (by rw [n2])
  have st : ∀ n (v : Int32), m_X12_letters_L2 (M + 4) (mk c d D) (n + 1) 100 (nI i) v = if 3 ≤ v then some v else (fR (mk c d D) 100 12 0).bind fun x1 => (aI 0 (mk c d D) x1 (50 + 6 * nI i + v)).bind fun x3 => if x3 ≤ 0 then some v else m_X12_letters_L2 (M + 4) (mk c d D) n 100 (nI i) (v + 1) := fun n v => rfl
  unfold m_X12_letters nlt
  rw [st, if_neg (by decide), yr_100_0, Option.bind_some, g0, Option.bind_some, if_neg (by rw [show (0 : Int32) = nI 0 from rfl, nI_leI (by omega) (by omega)]; omega), st, if_neg (by decide), yr_100_0, Option.bind_some, g1, Option.bind_some]
  by_cases z1 : l1 = 0
  · subst z1
    rw [if_pos (by decide), if_pos rfl]
    rfl
  · rw [if_neg (by rw [show (0 : Int32) = nI 0 from rfl, nI_leI (by omega) (by omega)]; omega), if_neg z1, st, if_neg (by decide), yr_100_0, Option.bind_some, g2, Option.bind_some]
    by_cases z2 : l2 = 0
    · subst z2
      rw [if_pos (by decide), if_pos rfl]
      rfl
    · rw [if_neg (by rw [show (0 : Int32) = nI 0 from rfl, nI_leI (by omega) (by omega)]; omega), if_neg z2, st, if_pos (by decide)]
      rfl
theorem p_route (h : RR c d D) (hN : 100 ≤ N) (a b : Int32) : ∃ r d', m_X11_route N 10 a b (mk c d D) = some r ∧ m_X12_route N 100 a b (mk c d D) = some (r, mk c d' D) ∧ RR c d' D := by
  have hP := h.1
  have hr := hP.rc
  rcases route_w (D := D) hP a with ⟨i, hi, rfl, e1, e2⟩ | ⟨e1, e2⟩
  · have e2 := e2 c
    obtain ⟨j, l0, l1, l2, g1, g2, g3⟩ := h.2.1.got hi
    have g1 := ya_17r (d := d) (D := D) (by omega) g1
    have xl := xletters (c := c) (N := N) hN g2 g3
    have yl := yletters (c := c) (D := D) (N := N) hN (by omega) g3
    have i4 := yo_100 (c := c) (d := d) (D := D)
    obtain ⟨a1, a2, a3, a4, a5, a6, a7⟩ := g3.2.1
    obtain ⟨n0, n1, n2, _⟩ := g3.1
    have f1 := yd_1 (c := c) (d := d) g2
    have f2 := yd_2 (c := c) (d := d) g2
    have f3 := yd_3 (c := c) (d := d) g2
    have fo := yd_o (c := c) (d := d) g2
    have y0 := ylegs (c := c) (D := D) g3 (by omega)
    have y1 := yfee (c := c) (D := D) g3 (by omega)
    have y2 := ywanted (c := c) (D := D) g3 (by omega)
    have X : m_X11_route N 10 (nI i) b (mk c d D) = if b = 0 then some (nI (lgR d.now i)) else if b = 1 then some (nI (prR d.now i)) else if b = 2 then some (nI (wtR d.now i)) else if b = 3 then (m_X4_letsIn N 14 (j + 120) (mk c d D)).bind (fun x35 => if x35 = 0 then some 0 else some 1) else if b = 4 then some (nI (nlt l1 l2)) else if b < 10 then some (-1) else if 10 + nI (nlt l1 l2) ≤ b then some (-1) else m_X6_letter (j + 120) (b - 10) (mk c d D) := by
      unfold m_X11_route
      rw [yr_10_0, Option.bind_some, yr_11_3, Option.bind_some, yr_14_3, Option.bind_some, (show m_X11_within (nI i) (nI c.pl.rc - 1) = some (nI 1) from e1), Option.bind_some, if_neg (by decide), Option.bind_some, yr_11_3, Option.bind_some, yr_14_2, Option.bind_some, g1, Option.bind_some, f1, f2, f3, fo, xl]
      simp only [Option.bind_some]
      repeat' split
      all_goals first | rfl | (cases m_X6_letter (j + 120) (b - 10) (mk c d D) <;> rfl)
    have Y : m_X12_route N 100 (nI i) b (mk c d D) = if b < 10 then (if b = 0 then some (nI (lgR d.now i), mk c d D) else if b = 1 then some (nI (prR d.now i), mk c d D) else if b = 2 then some (nI (wtR d.now i), mk c d D) else if b = 3 then (m_X12_isIn N 100 (nI i) (mk c d D)).bind (fun x11 => if x11.1 = 0 then some (0, x11.2) else some (1, x11.2)) else if b = 4 then some (nI (nlt l1 l2), mk c d D) else some (-1, mk c d D)) else if nI (nlt l1 l2) ≤ b - 10 then some (-1, mk c d D) else (aI 0 (mk c d D) 101 (50 + 6 * nI i + b - 10)).bind fun x31 => some (x31, mk c d D) := by
      unfold m_X12_route
      rw [yo_100, Option.bind_some, e2, Option.bind_some, if_neg (by decide), y0, y1, y2, yl]
      simp only [Option.bind_some]
      repeat' split
      all_goals rfl
    by_cases b0 : b = 0
    · subst b0
      exact ⟨_, d, X.trans (if_pos rfl), Y.trans ((if_pos (by decide)).trans (if_pos rfl)), h⟩
    by_cases b1 : b = 1
    · subst b1
      exact ⟨_, d, X.trans ((if_neg (by decide)).trans (if_pos rfl)), Y.trans ((if_pos (by decide)).trans ((if_neg (by decide)).trans (if_pos rfl))), h⟩
    by_cases b2 : b = 2
    · subst b2
      exact ⟨_, d, X.trans ((if_neg (by decide)).trans ((if_neg (by decide)).trans (if_pos rfl))), Y.trans ((if_pos (by decide)).trans ((if_neg (by decide)).trans ((if_neg (by decide)).trans (if_pos rfl)))), h⟩
    by_cases b3 : b = 3
    · subst b3
      have x1 : m_X4_letsIn N 14 (j + 120) (mk c d D) = _ := xlets_go (c := c) (N := N) hN hP h.2.1 g2 g3.2.2.1.2 N 0 (by omega) (by omega)
      obtain ⟨g, z1⟩ := yisIn_go (c := c) (D := D) (N := N) hN (i := i) (by omega) N 0 d hP h.2.1 g3 (by omega) (by omega)
      have z1 : m_X12_isIn N 100 (nI i) (mk c d D) = _ := z1
      rw [if_neg (by decide), if_neg (by decide), if_neg (by decide), if_pos rfl, x1, Option.bind_some] at X
      rw [if_pos (by decide), if_neg (by decide), if_neg (by decide), if_neg (by decide), if_pos rfl, z1, Option.bind_some] at Y
      by_cases q : inB c.pl d.now (lgR d.now i) (prR d.now i) = 0
      · rw [if_pos q] at X Y
        exact ⟨_, d.s_isGone g, X, Y, h⟩
      · rw [if_neg q] at X Y
        exact ⟨_, d.s_isGone g, X, Y, h⟩
    by_cases b4 : b = 4
    · subst b4
      exact ⟨_, d, X.trans ((if_neg (by decide)).trans ((if_neg (by decide)).trans ((if_neg (by decide)).trans ((if_neg (by decide)).trans (if_pos rfl))))), Y.trans ((if_pos (by decide)).trans ((if_neg (by decide)).trans ((if_neg (by decide)).trans ((if_neg (by decide)).trans ((if_neg (by decide)).trans (if_pos rfl)))))), h⟩
    rw [if_neg b0, if_neg b1, if_neg b2, if_neg b3, if_neg b4] at X Y
    by_cases b5 : b < 10
    · rw [if_pos b5] at X Y
      exact ⟨_, d, X, Y, h⟩
    rw [if_neg b5] at X Y
    have nl : nlt l1 l2 ≤ 3 := by unfold nlt; split <;> (try split) <;> omega
    have bt : 10 ≤ b.toInt := by
      rw [Int32.lt_iff_toInt_lt] at b5
      have : (10 : Int32).toInt = 10 := rfl
      omega
    obtain ⟨q, rfl, hq⟩ : ∃ q, b = nI (10 + q) ∧ 10 + q < 2 ^ 31 := by
      refine ⟨b.toInt.toNat - 10, Int32.toInt.inj ?_, ?_⟩
      · have := Int32.toInt_lt b
        rw [nI_toInt (by omega)]
        omega
      · have := Int32.toInt_lt b
        omega
    have eb : nI (10 + q) - 10 = nI q := by rw [show (10 : Int32) = nI 10 from rfl, pk_sub (by omega), Nat.add_sub_cancel_left]
    rw [eb] at X Y
    rw [show (10 : Int32) = nI 10 from rfl, nI_add] at X
    by_cases z : nlt l1 l2 ≤ q
    · rw [if_pos ((nI_leI (by omega) (by omega)).mpr (by omega))] at X
      rw [if_pos ((nI_leI (by omega) (by omega)).mpr z)] at Y
      exact ⟨_, d, X, Y, h⟩
    · rw [if_neg (fun y => by have := (nI_leI (by omega) (by omega)).mp y; omega)] at X
      rw [if_neg (fun y => z ((nI_leI (by omega) (by omega)).mp y))] at Y
      have x1 := xletter (c := c) (d := d) g2 a2 a3 a4 (q := q) (by omega)
      have ad : aI 0 (mk c d D) 101 (50 + 6 * nI i + nI (10 + q) - nI 10) = some (nI (if q = 0 then l0 else if q = 1 then l1 else l2)) := by
        rw [show (50 : Int32) = nI 50 from rfl, show (6 : Int32) = nI 6 from rfl, pk_mul, nI_add, nI_add, pk_sub (by omega), ya_101 (by omega)]
        have e3 : q = 0 ∨ q = 1 ∨ q = 2 := by omega
        rcases e3 with rfl | rfl | rfl
        · exact congrArg some n0
        · exact congrArg some n1
        · exact congrArg some n2
      have ad : aI 0 (mk c d D) 101 (50 + 6 * nI i + nI (10 + q) - 10) = some (nI (if q = 0 then l0 else if q = 1 then l1 else l2)) := ad
      rw [x1] at X
      rw [ad, Option.bind_some] at Y
      exact ⟨_, d, X, Y, h⟩
  · have e2 := e2 c
    refine ⟨-nI 1, d, ?_, ?_, h⟩
    · simp (disch := omega) only [m_X11_route, Option.bind_some, plit, plit64, nI_add, pk_mul, if_true, if_false, or_true, true_or, oifT, Nat.one_ne_zero, ↓reduceIte, Nat.reduceLT, Nat.reduceLeDiff, Nat.reduceEqDiff, Nat.reduceAdd, Nat.reduceMul, Nat.reduceSub, Nat.reduceDiv, nI_eq, nI_leI, nI_ltI, nI_neg, neg_eq, yo_10, yr_10_0, yr_10_1, yr_10_2, yr_10_3, yr_10_4, yr_10_5, yr_10_6, yr_10_7, yr_10_8, yr_10_9, yr_10_10, yr_10_11, yo_11, yr_11_0, yr_11_1, yr_11_2, yr_11_3, yr_11_4, yn_13, ya_13, yo_14, yr_14_0, yr_14_1, yr_14_2, yr_14_3, ya_15, ya_16, e1]
    · simp (disch := omega) only [m_X12_route, Option.bind_some, plit, plit64, nI_add, pk_mul, if_true, if_false, or_true, true_or, oifT, Nat.one_ne_zero, ↓reduceIte, Nat.reduceLT, Nat.reduceLeDiff, Nat.reduceEqDiff, Nat.reduceAdd, Nat.reduceMul, Nat.reduceSub, Nat.reduceDiv, nI_eq, nI_leI, nI_ltI, nI_neg, neg_eq, yo_100, yr_100_0, yr_100_1, yr_100_2, yr_100_3, yr_100_4, yr_100_5, yr_100_6, yr_100_7, yr_100_8, yr_100_9, yr_100_10, yr_100_11, yr_100_12, yr_100_13, yr_100_14, yr_100_15, yr_100_16, yr_100_17, yr_100_18, yr_100_19, yr_100_20, yr_100_21, yr_100_22, yr_100_23, yr_100_24, yr_100_25, yr_100_26, yr_100_27, yr_100_28, ya_101, ya_102, ya_103, ya_104, ya_105, ya_106, ya_107, ya_108, ya_109, ya_110, ya_111, ya_112, ya_113, ya_114, ya_115, ya_116, ya_117, ya_118, ya_119, e2]
end
