-- gross: the class's stages, and the reference
section
variable {c : CS} {d : MS} {D : mM} {N k : Nat} {a : Int32} {P : PL}
theorem xnextGross (hN : 100 ≤ N) (hP : PR c.pl d.now) {ph s : Nat} (hph : ph < 4) (hs : s < 40) {A B pw : Option Nat} (vA : VO A) (vB : VO B) (vp : VO pw) (hA : c.wrow (s + 1) = enc A) (hB : c.wrow s = enc B) : m_X9_nextGross N 73 (nI (s + 1)) (nI ph) (enc pw) (mk c d D) = some (enc (A.bind fun a => if c.pl.n = 0 then mulO 100 a else B.bind fun b => gS c.pl ph pw a b c.pl.n)) := by
  have hn := hP.n
  obtain ⟨R, r1, r2, _⟩ := xgross_go (d := d) (D := D) (N := N) hP.n (fun i hi => hP.p hi) (fun i p hi hp => hP.o hi hp) hph hs vA vB vp hA hB N 0 (A.bind fun a => mulO 100 a) (by omega) (by omega) (vo_bind fun _ => vo_mul) (fun a b ha hb => by rw [ha]; rfl) (fun _ => rfl)
  rw [← r2 rfl, ← r1]
  have t : m_X9_times (lN 100) (enc A) = some (enc (A.bind fun a => mulO 100 a)) := xtimes (x := some 100) (vo_some (by omega)) vA
  unfold m_X9_nextGross
  rw [yr_73_1, Option.bind_some, ya_74 (by omega), Option.bind_some, hA, show (100 : Int64) = lN 100 from rfl, t, Option.bind_some]
  rfl
theorem xgross_in (hN : 100 ≤ N) {k13 : Nat → Int32 → Int32 → Int64 → Int32 → mM → Option (Int64 × mM)} {T s t : Nat} (ht : t < 20) (hs : s ≤ 30) : ∀ (n j : Nat) (c : CS), PR c.pl d.now → j ≤ s → j < n → (∀ q, q ≤ s → c.wrow q = enc (if j < q then GD c.pl (t + 1) q else GD c.pl t q)) → ∃ r : Nat → Int64, m_X9_grossOf_L22 N k13 n 73 (nI T) (nI s) (enc (pwO 100 t)) (nI (t + 1)) (nI j) (mk c d D) = k13 73 (nI T) (nI s) (enc (pwO 100 (t + 1))) (nI (t + 1 + 1)) (mk (c.s_wrow r) d D) ∧ (∀ q, q ≤ s → r q = enc (GD c.pl (t + 1) q)) := by
  intro n
  induction n with
  | zero => intro j c _ _ h; omega
  | succ n ih =>
    intro j c hP hj hn hc
    unfold m_X9_grossOf_L22
    by_cases e : j = 0
    · subst e
      refine ⟨c.wrow, ?_, fun q hq => ?_⟩
      · have t1 : m_X9_times (enc (pwO 100 t)) (lN 100) = some (enc (pwO 100 (t + 1))) := xtimes (y := some 100) (vo_pw t) (vo_some (by omega))
        rw [if_pos (by decide), show (100 : Int64) = lN 100 from rfl, t1, Option.bind_some, nI_1]
        rfl
      · rw [hc q hq]
        by_cases q0 : q = 0
        · subst q0
          rw [if_neg (by omega), GD_0, GD_0]
        · rw [if_pos (by omega)]
    · obtain ⟨p, rfl⟩ : ∃ p, j = p + 1 := ⟨j - 1, by omega⟩
      have c0 := hc (p + 1) (by omega)
      have c1 := hc p (by omega)
      rw [if_neg (by omega)] at c0 c1
      have g := xnextGross (D := D) hN hP (ph := (t + 1 - 1) / 5) (s := p) (by omega) (by omega) (pw := pwO 100 t) (vo_GD t (p + 1)) (vo_GD t p) (vo_pw t) c0 c1
      rw [show t + 1 - 1 = t by omega] at g
      have g : m_X9_nextGross N 73 (nI (p + 1)) (nI (t / 5)) (enc (pwO 100 t)) (mk c d D) = some (enc (GD c.pl (t + 1) (p + 1))) := g
      obtain ⟨r, r1, r2⟩ := ih p (c.s_wrow (va_up c.wrow (p + 1) (enc (GD c.pl (t + 1) (p + 1))))) hP (by omega) (by omega) (fun q hq => by
        show va_up c.wrow (p + 1) _ q = enc (if p < q then GD c.pl (t + 1) q else GD c.pl t q)
        by_cases e2 : q = p + 1
        · subst e2
          rw [upe, if_pos (by omega)]
        · rw [upn e2, hc q hq]
          by_cases e3 : p + 1 < q
          · rw [if_pos e3, if_pos (by omega)]
          · rw [if_neg e3, if_neg (by omega)])
      refine ⟨r, ?_, r2⟩
      have em : nI (p + 1) + -1 = nI p := pk_m1 p
      rw [if_neg (nI_nle (by omega) (by omega)), yr_73_1, Option.bind_some, phase_x (by omega) (by omega), Option.bind_some, yo_73, Option.bind_some, show t + 1 - 1 = t by omega, g, Option.bind_some, yu_74 (by omega), Option.bind_some, em]
      exact r1
theorem xgross_st (hN : 100 ≤ N) {T s : Nat} (hT : T ≤ 20) (hs : s ≤ 30) : ∀ (n t : Nat) (c : CS), PR c.pl d.now → t ≤ T → T - t < n → (∀ q, q ≤ s → c.wrow q = enc (GD c.pl t q)) → ∃ r : Nat → Int64, m_X9_grossOf_L13 N n 73 (nI T) (nI s) (enc (pwO 100 t)) (nI (t + 1)) (mk c d D) = some (enc (GD c.pl T s), mk (c.s_wrow r) d D) := by
  intro n
  induction n with
  | zero => intro t c _ _ h; omega
  | succ n ih =>
    intro t c hP ht hn hc
    unfold m_X9_grossOf_L13
    by_cases e : t = T
    · subst e
      refine ⟨c.wrow, ?_⟩
      rw [if_pos (nI_lt (by omega) (by omega)), yr_73_1, Option.bind_some, ya_74 (by omega), Option.bind_some, hc s (by omega)]
      rfl
    · obtain ⟨r, r1, r2⟩ := xgross_in (d := d) (D := D) (N := N) hN (k13 := m_X9_grossOf_L13 N n) (T := T) (t := t) (by omega) hs N s c hP (by omega) (by omega) (fun q hq => by rw [if_neg (by omega)]; exact hc q hq)
      obtain ⟨r', r3⟩ := ih (t + 1) (c.s_wrow r) hP (by omega) (by omega) r2
      refine ⟨r', ?_⟩
      rw [if_neg (nI_nlt (by omega) (by omega)), r1]
      exact r3
theorem xgross (hN : 100 ≤ N) (hP : PR c.pl d.now) {T s : Nat} (hT : T ≤ 20) (hs : s ≤ 30) : ∃ r : Nat → Int64, m_X9_grossOf N 73 (nI T) (nI s) (mk c d D) = some (enc (GD c.pl T s), mk (c.s_wrow r) d D) := by
  obtain ⟨r, r1, r2⟩ := wfill (c := c) (d := d) (D := D) hN
  obtain ⟨r', r3⟩ := xgross_st (d := d) (D := D) (N := N) hN hT hs N 0 (c.s_wrow r) hP (by omega) (by omega) (fun q hq => r2 q (by omega))
  refine ⟨r', ?_⟩
  unfold m_X9_grossOf
  rw [yr_73_1, Option.bind_some, show (0 : Int64) = lN 0 from rfl, r1, Option.bind_some]
  exact r3
-- the reference
theorem yplus_1 (x y : Int64) (h : d.isOver = nI 1) : ∃ r, m_X12_plus 100 x y (mk c d D) = some (r, mk c d D) := by
  unfold m_X12_plus
  have e : mk c (d.s_isOver (nI 1)) D = mk c d D := by rw [← h]; rfl
  split
  · exact ⟨_, rfl⟩
  · split
    · exact ⟨_, rfl⟩
    · refine ⟨x + y, ?_⟩
      rw [show sZ (mk c d D) 100 12 15 1 = some (mk c (d.s_isOver (nI 1)) D) from by simp only [sZ, Option.bind_some, plit, plit64, nI_add, pk_mul, if_true, if_false, or_true, true_or, oifT, Nat.one_ne_zero, ↓reduceIte, Nat.reduceLT, Nat.reduceLeDiff, Nat.reduceEqDiff, Nat.reduceAdd, Nat.reduceMul, Nat.reduceSub, Nat.reduceDiv, yw_100_15], e]
      rfl
theorem flg_eq {x : Option Nat} (h : d.isOver = flg x) : mk c (d.s_isOver (flg x)) D = mk c d D := by rw [← h]; rfl
theorem ynext_go (hN : 100 ≤ N) (hN2 : N < 2 ^ 31) {u s a b : Nat} (hu : u < 20) (hs : s < 30) : ∀ (n f : Nat) (d : MS) (v : Int64), PR P d.now → d.grosses (s + 1) = lN a → d.grosses s = lN b → f ≤ P.n → P.n - f < n → d.isOver = flg (gS P (u / 5) (pwO 100 u) a b f) → (∀ x, gS P (u / 5) (pwO 100 u) a b f = some x → v = lN x) → ∃ w, m_X12_next_L17 N n 100 (nI (u + 1)) (nI (s + 1)) v (nI f) (mk c d D) = some (w, mk c (d.s_isOver (flg (gS P (u / 5) (pwO 100 u) a b P.n))) D) ∧ (∀ x, gS P (u / 5) (pwO 100 u) a b P.n = some x → w = lN x) := by
  intro n
  induction n with
  | zero => intro f d v _ _ _ _ h; omega
  | succ n ih =>
    intro f d v hP ha hb hf hn hov hv
    have hPn := hP.n
    unfold m_X12_next_L17
    by_cases e : f = P.n
    · subst e
      refine ⟨v, ?_, hv⟩
      rw [flg_eq hov]
      simp (disch := omega) only [Option.bind_some, plit, plit64, nI_add, pk_mul, if_true, if_false, or_true, true_or, oifT, Nat.one_ne_zero, ↓reduceIte, Nat.reduceLT, Nat.reduceLeDiff, Nat.reduceEqDiff, Nat.reduceAdd, Nat.reduceMul, Nat.reduceSub, Nat.reduceDiv, nI_eq, nI_leI, nI_ltI, nI_neg, neg_eq, yo_100, yr_100_0, yr_100_1, yr_100_2, yr_100_3, yr_100_4, yr_100_5, yr_100_6, yr_100_7, yr_100_8, yr_100_9, yr_100_10, yr_100_11, yr_100_12, yr_100_13, yr_100_14, yr_100_15, yr_100_16, yr_100_17, yr_100_18, yr_100_19, yr_100_20, yr_100_21, yr_100_22, yr_100_23, yr_100_24, yr_100_25, yr_100_26, yr_100_27, yr_100_28, ya_101, ya_102, ya_103, ya_104, ya_105, ya_106, ya_107, ya_108, ya_109, ya_110, ya_111, ya_112, ya_113, ya_114, ya_115, ya_116, ya_117, ya_118, ya_119, hP.n_, Nat.le_refl]
    · have yp := yprice (c := c) (D := D) hP (i := f) (by omega)
      have yo := yodds (c := c) (D := D) hP (f := f) (t := u + 1) (by omega) (by omega) (by omega)
      rw [show u + 1 - 1 = u by omega] at yo
      have hpf := hP.p (i := f) (by omega)
      have hod := hP.o (i := f) (j := u / 5) (by omega) (by omega)
      have eg : gS P (u / 5) (pwO 100 u) a b (f + 1) = (((pwO 100 u).bind fun p => mulO (P.price f) p).bind fun paid => if lg_cmp (lN paid - (lN a - lN b)) 0 ≤ 0 then gS P (u / 5) (pwO 100 u) a b f else (gS P (u / 5) (pwO 100 u) a b f).bind fun acc => (mulO (P.odds f (u / 5)) (lN paid - (lN a - lN b)).toInt.toNat).bind fun x => addO acc x) := rfl
      -- what comes to too much
      have over : ∀ (d2 : MS) (w : Int64), (∃ o, d2 = d.s_isOver o) → d2.isOver = nI 1 → gS P (u / 5) (pwO 100 u) a b (f + 1) = none → ∃ w2, (if lg_cmp (w - (lN a - lN b)) 0 ≤ 0 then m_X12_next_J100 N (m_X12_next_L17 N n) 100 (nI (u + 1)) (nI (s + 1)) v (nI f) (mk c d2 D) else (fI (mk c d2 D) 100 12 15).bind fun x25 => if x25 = 0 then (oO (mk c d2 D) 100 12).bind fun _ => (m_X12_odds 100 (nI f) (nI (u + 1)) (mk c d2 D)).bind fun x29 => (oO (mk c d2 D) 100 12).bind fun _ => (m_X12_times 100 x29.toInt64 (w - (lN a - lN b)) (mk c d2 D)).bind fun x33 => (oO x33.2 100 12).bind fun _ => (m_X12_plus 100 v x33.1 x33.2).bind fun x37 => m_X12_next_J100 N (m_X12_next_L17 N n) 100 (nI (u + 1)) (nI (s + 1)) x37.1 (nI f) x37.2 else m_X12_next_J100 N (m_X12_next_L17 N n) 100 (nI (u + 1)) (nI (s + 1)) v (nI f) (mk c d2 D)) = some (w2, mk c (d.s_isOver (flg (gS P (u / 5) (pwO 100 u) a b P.n))) D) ∧ (∀ x, gS P (u / 5) (pwO 100 u) a b P.n = some x → w2 = lN x) := by
        rintro d2 w ⟨o, rfl⟩ h1 h2
        obtain ⟨w2, i1, i2⟩ := ih (f + 1) (d.s_isOver o) v hP ha hb (by omega) (by omega) (by rw [h2]; exact h1) (fun x hx => by rw [h2] at hx; cases hx)
        refine ⟨w2, ?_, i2⟩
        have i1 : m_X12_next_J100 N (m_X12_next_L17 N n) 100 (nI (u + 1)) (nI (s + 1)) v (nI f) (mk c (d.s_isOver o) D) = some (w2, mk c (d.s_isOver (flg (gS P (u / 5) (pwO 100 u) a b P.n))) D) := by
          unfold m_X12_next_J100
          rw [nI_1]
          exact i1
        split
        · exact i1
        · rw [yr_100_15, Option.bind_some, h1, if_neg (show ¬ nI 1 = 0 by decide)]
          exact i1
      have z0 : aI 0 (mk c d D) 101 0 = some (d.now 0) := ya_101 (i := 0) (by omega)
      rw [yr_100_0, Option.bind_some, z0, Option.bind_some, hP.n_, if_neg (by rw [nI_leI (by omega) (by omega)]; omega), yo_100, Option.bind_some, yp, Option.bind_some, Option.bind_some, show (1 : Int32) = nI 1 from rfl, pk_sub (by omega), Nat.add_sub_cancel, pk_sub (by omega), Nat.add_sub_cancel, show (100 : Int32) = nI 100 from rfl]
      cases hg : gS P (u / 5) (pwO 100 u) a b f with
      | none =>
        have hov : d.isOver = nI 1 := by rw [hov, hg]; rfl
        have p1 := ypower1 (c := c) (d := d) (D := D) (N := N) (b := 100) (e := u) (by omega) hN2 hov
        have t1 := ytimes (c := c) (d := d) (D := D) (a := P.price f) (b := 0) (by omega) (by omega)
        rw [if_pos (by omega)] at t1
        obtain ⟨w, w1, w2⟩ := over d (lN (P.price f * 0)) ⟨d.isOver, rfl⟩ hov (gS_none 1 f hg)
        refine ⟨w, ?_, w2⟩
        rw [p1, Option.bind_some, yo_100, Option.bind_some, nI_l (by omega), t1, Option.bind_some, yr_100_16, Option.bind_some, ya_113 (by omega), Option.bind_some, Option.bind_some, ya_113 (by omega), Option.bind_some, ha, hb]
        exact w1
      | some x =>
        have hov : d.isOver = nI 0 := by rw [hov, hg]; rfl
        have hvx := hv x hg
        have p1 := ypower (c := c) (d := d) (D := D) (N := N) (b := 100) (e := u) (by omega) (by omega) hN2 hov
        cases hp : pwO 100 u with
        | none =>
          have e2 : gS P (u / 5) (pwO 100 u) a b (f + 1) = none := by rw [eg, hp]; rfl
          have p1 : m_X12_power N 100 (nI 100) (nI u) (mk c d D) = some (lN 0, mk c (d.s_isOver (nI 1)) D) := by rw [p1, hp]; rfl
          have t1 := ytimes (c := c) (d := d.s_isOver (nI 1)) (D := D) (a := P.price f) (b := 0) (by omega) (by omega)
          rw [if_pos (by omega)] at t1
          obtain ⟨w, w1, w2⟩ := over (d.s_isOver (nI 1)) (lN (P.price f * 0)) ⟨nI 1, rfl⟩ rfl e2
          rw [← hp]
          refine ⟨w, ?_, w2⟩
          rw [p1, Option.bind_some, yo_100, Option.bind_some, nI_l (by omega), t1, Option.bind_some, yr_100_16, Option.bind_some, ya_113 (by omega), Option.bind_some, Option.bind_some, ya_113 (by omega), Option.bind_some, show (d.s_isOver (nI 1)).grosses = d.grosses from rfl, ha, hb]
          exact w1
        | some p =>
          have hp63 := vo_pw u p hp
          have p1 : m_X12_power N 100 (nI 100) (nI u) (mk c d D) = some (lN p, mk c d D) := by rw [p1, hp]; show some (lN p, mk c (d.s_isOver (nI 0)) D) = _; rw [← hov]; rfl
          have t1 := ytimes (c := c) (d := d) (D := D) (a := P.price f) (b := p) (by omega) hp63
          rw [← hp]
          by_cases m : P.price f * p < 2 ^ 63
          · rw [if_pos m] at t1
            have e3 : gS P (u / 5) (pwO 100 u) a b (f + 1) = if lg_cmp (lN (P.price f * p) - (lN a - lN b)) 0 ≤ 0 then gS P (u / 5) (pwO 100 u) a b f else (gS P (u / 5) (pwO 100 u) a b f).bind fun acc => (mulO (P.odds f (u / 5)) (lN (P.price f * p) - (lN a - lN b)).toInt.toNat).bind fun x => addO acc x := by
              have : ((pwO 100 u).bind fun p => mulO (P.price f) p) = some (P.price f * p) := by rw [hp]; exact if_pos m
              rw [eg, this]
              rfl
            by_cases q4 : lg_cmp (lN (P.price f * p) - (lN a - lN b)) 0 ≤ 0
            · rw [if_pos q4, hg] at e3
              obtain ⟨w, i1, i2⟩ := ih (f + 1) d v hP ha hb (by omega) (by omega) (by rw [e3]; exact hov) (fun y hy => by rw [e3] at hy; cases hy; exact hvx)
              refine ⟨w, ?_, i2⟩
              rw [p1, Option.bind_some, yo_100, Option.bind_some, nI_l (by omega), t1, Option.bind_some, yr_100_16, Option.bind_some, ya_113 (by omega), Option.bind_some, Option.bind_some, ya_113 (by omega), Option.bind_some, ha, hb, if_pos q4]
              unfold m_X12_next_J100
              rw [show (1 : Int32) = nI 1 from rfl, nI_add]
              exact i1
            · rw [if_neg q4, hg] at e3
              have e3 : gS P (u / 5) (pwO 100 u) a b (f + 1) = (mulO (P.odds f (u / 5)) (lN (P.price f * p) - (lN a - lN b)).toInt.toNat).bind fun y => addO x y := e3
              have hpos : 0 < (lN (P.price f * p) - (lN a - lN b)).toInt := by
                rw [lg_le, l0T] at q4
                omega
              obtain ⟨ex1, ex2⟩ := pos_lN hpos
              generalize hE : (lN (P.price f * p) - (lN a - lN b)).toInt.toNat = E at e3 ex1 ex2
              have hx63 := vo_gS f x hg
              have t2 := ytimes (c := c) (d := d) (D := D) (a := P.odds f (u / 5)) (b := E) (by omega) ex2
              by_cases m2 : P.odds f (u / 5) * E < 2 ^ 63
              · rw [if_pos m2] at t2
                have e4 : mulO (P.odds f (u / 5)) E = some (P.odds f (u / 5) * E) := if_pos m2
                rw [e4] at e3
                have e3 : gS P (u / 5) (pwO 100 u) a b (f + 1) = addO x (P.odds f (u / 5) * E) := e3
                have s1 := yplus (c := c) (d := d) (D := D) (a := x) (b := P.odds f (u / 5) * E) hx63 m2
                by_cases m3 : x + P.odds f (u / 5) * E < 2 ^ 63
                · rw [if_pos m3] at s1
                  have e5 : addO x (P.odds f (u / 5) * E) = some (x + P.odds f (u / 5) * E) := if_pos m3
                  rw [e5] at e3
                  obtain ⟨w, i1, i2⟩ := ih (f + 1) d (lN (x + P.odds f (u / 5) * E)) hP ha hb (by omega) (by omega) (by rw [e3]; exact hov) (fun y hy => by rw [e3] at hy; cases hy; rfl)
                  refine ⟨w, ?_, i2⟩
                  rw [p1, Option.bind_some, yo_100, Option.bind_some, nI_l (by omega), t1, Option.bind_some, yr_100_16, Option.bind_some, ya_113 (by omega), Option.bind_some, Option.bind_some, ya_113 (by omega), Option.bind_some, ha, hb, if_neg q4, yr_100_15, Option.bind_some, hov, if_pos (show nI 0 = 0 from rfl), yo_100, Option.bind_some, yo, Option.bind_some, Option.bind_some, nI_l (by omega), ex1, t2, Option.bind_some, yo_100, Option.bind_some, hvx, s1, Option.bind_some]
                  unfold m_X12_next_J100
                  rw [show (1 : Int32) = nI 1 from rfl, nI_add]
                  exact i1
                · rw [if_neg m3] at s1
                  have e5 : addO x (P.odds f (u / 5) * E) = none := if_neg m3
                  rw [e5] at e3
                  obtain ⟨w, i1, i2⟩ := ih (f + 1) (d.s_isOver (nI 1)) (lN (x + P.odds f (u / 5) * E)) hP ha hb (by omega) (by omega) (by rw [e3]; rfl) (fun y hy => by rw [e3] at hy; cases hy)
                  refine ⟨w, ?_, i2⟩
                  rw [p1, Option.bind_some, yo_100, Option.bind_some, nI_l (by omega), t1, Option.bind_some, yr_100_16, Option.bind_some, ya_113 (by omega), Option.bind_some, Option.bind_some, ya_113 (by omega), Option.bind_some, ha, hb, if_neg q4, yr_100_15, Option.bind_some, hov, if_pos (show nI 0 = 0 from rfl), yo_100, Option.bind_some, yo, Option.bind_some, Option.bind_some, nI_l (by omega), ex1, t2, Option.bind_some, yo_100, Option.bind_some, hvx, s1, Option.bind_some]
                  unfold m_X12_next_J100
                  rw [show (1 : Int32) = nI 1 from rfl, nI_add]
                  exact i1
              · rw [if_neg m2] at t2
                have e4 : mulO (P.odds f (u / 5)) E = none := if_neg m2
                rw [e4] at e3
                have e3 : gS P (u / 5) (pwO 100 u) a b (f + 1) = none := e3
                obtain ⟨r, s1⟩ := yplus_1 (c := c) (d := d.s_isOver (nI 1)) (D := D) (lN x) (lN (P.odds f (u / 5) * E)) rfl
                obtain ⟨w, i1, i2⟩ := ih (f + 1) (d.s_isOver (nI 1)) r hP ha hb (by omega) (by omega) (by rw [e3]; rfl) (fun y hy => by rw [e3] at hy; cases hy)
                refine ⟨w, ?_, i2⟩
                rw [p1, Option.bind_some, yo_100, Option.bind_some, nI_l (by omega), t1, Option.bind_some, yr_100_16, Option.bind_some, ya_113 (by omega), Option.bind_some, Option.bind_some, ya_113 (by omega), Option.bind_some, ha, hb, if_neg q4, yr_100_15, Option.bind_some, hov, if_pos (show nI 0 = 0 from rfl), yo_100, Option.bind_some, yo, Option.bind_some, Option.bind_some, nI_l (by omega), ex1, t2, Option.bind_some, yo_100, Option.bind_some, hvx, s1, Option.bind_some]
                unfold m_X12_next_J100
                rw [show (1 : Int32) = nI 1 from rfl, nI_add]
                exact i1
          · rw [if_neg m] at t1
            have e2 : gS P (u / 5) (pwO 100 u) a b (f + 1) = none := by
              have : ((pwO 100 u).bind fun p => mulO (P.price f) p) = none := by rw [hp]; exact if_neg m
              rw [eg, this]
              rfl
            obtain ⟨w, w1, w2⟩ := over (d.s_isOver (nI 1)) (lN (P.price f * p)) ⟨nI 1, rfl⟩ rfl e2
            refine ⟨w, ?_, w2⟩
            rw [p1, Option.bind_some, yo_100, Option.bind_some, nI_l (by omega), t1, Option.bind_some, yr_100_16, Option.bind_some, ya_113 (by omega), Option.bind_some, Option.bind_some, ya_113 (by omega), Option.bind_some, show (d.s_isOver (nI 1)).grosses = d.grosses from rfl, ha, hb]
            exact w1
theorem ynext (hN : 100 ≤ N) (hN2 : N < 2 ^ 31) (hP : PR P d.now) {u s a b : Nat} (hu : u < 20) (hs : s < 30) (ha : d.grosses (s + 1) = lN a) (hb : d.grosses s = lN b) (ha63 : a < 2 ^ 63) (h0 : d.isOver = nI 0) : ∃ w, m_X12_next N 100 (nI (u + 1)) (nI (s + 1)) (mk c d D) = some (w, mk c (d.s_isOver (flg (gS P (u / 5) (pwO 100 u) a b P.n))) D) ∧ (∀ x, gS P (u / 5) (pwO 100 u) a b P.n = some x → w = lN x) := by
  have hn := hP.n
  have t1 := ytimes (c := c) (d := d) (D := D) (a := 100) (b := a) (by omega) ha63
  have eg : gS P (u / 5) (pwO 100 u) a b 0 = mulO 100 a := rfl
  have t1 : m_X12_times 100 (lN 100) (lN a) (mk c d D) = some (lN (100 * a), mk c (d.s_isOver (flg (mulO 100 a))) D) := by
    rw [t1]
    unfold mulO
    by_cases q : 100 * a < 2 ^ 63
    · rw [if_pos q, if_pos q]
      show some (lN (100 * a), mk c d D) = some (lN (100 * a), mk c (d.s_isOver (nI 0)) D)
      rw [← h0]
      rfl
    · rw [if_neg q, if_neg q]
      rfl
  obtain ⟨w, w1, w2⟩ := ynext_go (c := c) (D := D) (N := N) (P := P) hN hN2 hu hs N 0 (d.s_isOver (flg (mulO 100 a))) (lN (100 * a)) hP ha hb (by omega) (by omega) rfl (fun x hx => by
    unfold gS mulO at hx
    split at hx
    · cases hx; rfl
    · cases hx)
  refine ⟨w, ?_, w2⟩
  unfold m_X12_next
  rw [yr_100_16, Option.bind_some, ya_113 (by omega), Option.bind_some, ha, yo_100, Option.bind_some, show (100 : Int64) = lN 100 from rfl, t1, Option.bind_some]
  exact w1
end
