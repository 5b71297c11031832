-- gross: the reference's stages, and both
def SG (d d2 : MS) : Prop := ∃ (o : Int32) (g : Nat → Int64) (gr : Nat → Int32), d2 = ((d.s_isOver o).s_grosses g).s_isGreat gr
theorem SG.rfl {d : MS} : SG d d := ⟨d.isOver, d.grosses, d.isGreat, by rfl⟩
theorem SG.trans {a b c : MS} (h : SG a b) (h2 : SG b c) : SG a c := by
  obtain ⟨o, g, gr, e⟩ := h
  obtain ⟨o2, g2, gr2, e2⟩ := h2
  subst e e2
  exact ⟨o2, g2, gr2, by rfl⟩
def GC (x : Option Nat) (g : Int64) (f : Int32) : Prop := f = flg x ∧ g = lN (x.getD 0)
section
variable {c : CS} {d : MS} {D : mM} {N k : Nat} {a : Int32} {P : PL}
theorem SG.pr {d2 : MS} (h : SG d d2) (hP : PR P d.now) : PR P d2.now := by
  obtain ⟨o, g, gr, e⟩ := h
  subst e
  exact hP
theorem y56 (hN : 100 ≤ N) (hN2 : N < 2 ^ 31) {k48 : Nat → Int32 → Int32 → Int32 → mM → Option (Int64 × mM)} {T s t : Nat} (ht : t < 20) (hs : s ≤ 30) : ∀ (n j : Nat) (d : MS), PR P d.now → j ≤ s → j < n → (∀ q, q ≤ s → GC (if j < q then GD P (t + 1) q else GD P t q) (d.grosses q) (d.isGreat q)) → ∃ d2, SG d d2 ∧ m_X12_gross_L56 N k48 n 100 (nI T) (nI s) (nI (t + 1)) (nI j) (mk c d D) = k48 100 (nI T) (nI s) (nI (t + 1 + 1)) (mk c d2 D) ∧ (∀ q, q ≤ s → GC (GD P (t + 1) q) (d2.grosses q) (d2.isGreat q)) := by
  intro n
  induction n with
  | zero => intro j d _ _ h; omega
  | succ n ih =>
    intro j d hP hj hn hc
    unfold m_X12_gross_L56
    by_cases e : j = 0
    · subst e
      refine ⟨d, SG.rfl, ?_, fun q hq => ?_⟩
      · rw [if_pos (by decide), nI_1]
      · have h := hc q hq
        by_cases q0 : q = 0
        · subst q0
          rw [if_neg (by omega), GD_0] at h
          rw [GD_0]
          exact h
        · rw [if_pos (by omega)] at h
          exact h
    · obtain ⟨p, rfl⟩ : ∃ p, j = p + 1 := ⟨j - 1, by omega⟩
      have c0 := hc (p + 1) (by omega)
      have c1 := hc p (by omega)
      rw [if_neg (by omega)] at c0 c1
      have va : (GD P t (p + 1)).getD 0 < 2 ^ 63 := by
        cases hA : GD P t (p + 1) with
        | none => exact (by omega : 0 < 2 ^ 63)
        | some v => exact vo_GD _ _ v hA
      obtain ⟨w, w1, w2⟩ := ynext (c := c) (d := d.s_isOver (nI 0)) (D := D) (N := N) hN hN2 hP (u := t) (s := p) ht (by omega) c0.2 c1.2 va rfl
      have w1 : m_X12_next N 100 (nI (t + 1)) (nI (p + 1)) (mk c (d.s_isOver (nI 0)) D) = some (w, mk c (d.s_isOver (flg (gS P (t / 5) (pwO 100 t) ((GD P t (p + 1)).getD 0) ((GD P t p).getD 0) P.n))) D) := w1
      have z1 : sZ (mk c d D) 100 12 15 0 = some (mk c (d.s_isOver (nI 0)) D) := by simp only [sZ, Option.bind_some, plit, plit64, nI_add, pk_mul, if_true, if_false, or_true, true_or, oifT, Nat.one_ne_zero, ↓reduceIte, Nat.reduceLT, Nat.reduceLeDiff, Nat.reduceEqDiff, Nat.reduceAdd, Nat.reduceMul, Nat.reduceSub, Nat.reduceDiv, yw_100_15]
      have em : nI (p + 1) + -1 = nI p := pk_m1 p
      have z0 : ∀ d : MS, aI 0 (mk c d D) 101 0 = some (d.now 0) := fun d => ya_101 (i := 0) (by omega)
      generalize hS : gS P (t / 5) (pwO 100 t) ((GD P t (p + 1)).getD 0) ((GD P t p).getD 0) P.n = S at w1 w2
      -- the two ends
      have fin : ∀ (d3 : MS), SG d d3 → (∀ q, q ≤ s → q ≠ p + 1 → d3.grosses q = d.grosses q ∧ d3.isGreat q = d.isGreat q) → GC (GD P (t + 1) (p + 1)) (d3.grosses (p + 1)) (d3.isGreat (p + 1)) → ∃ d2, SG d d2 ∧ m_X12_gross_J148 N (m_X12_gross_L56 N k48 n) 100 (nI T) (nI s) (nI (t + 1)) (nI (p + 1)) (mk c d3 D) = k48 100 (nI T) (nI s) (nI (t + 1 + 1)) (mk c d2 D) ∧ (∀ q, q ≤ s → GC (GD P (t + 1) q) (d2.grosses q) (d2.isGreat q)) := by
        intro d3 h1 h2 h3
        obtain ⟨d2, i1, i2, i3⟩ := ih p d3 (h1.pr hP) (by omega) (by omega) (fun q hq => by
          by_cases e2 : q = p + 1
          · subst e2
            rw [if_pos (by omega)]
            exact h3
          · obtain ⟨g1, g2⟩ := h2 q hq e2
            have h := hc q hq
            rw [g1, g2]
            by_cases e3 : p + 1 < q
            · rw [if_pos e3] at h
              rw [if_pos (by omega)]
              exact h
            · rw [if_neg e3] at h
              rw [if_neg (by omega)]
              exact h)
        refine ⟨d2, h1.trans i1, ?_, i3⟩
        unfold m_X12_gross_J148
        rw [em]
        exact i2
      have fin1 : GD P (t + 1) (p + 1) = none → ∃ d2, SG d d2 ∧ m_X12_gross_J124 N (m_X12_gross_L56 N k48 n) 100 (nI T) (nI s) (nI (t + 1)) (nI (p + 1)) 114 (nI (p + 1)) (mk c ((d.s_isOver (flg S)).s_grosses (va_up d.grosses (p + 1) w)) D) = k48 100 (nI T) (nI s) (nI (t + 1 + 1)) (mk c d2 D) ∧ (∀ q, q ≤ s → GC (GD P (t + 1) q) (d2.grosses q) (d2.isGreat q)) := by
        intro hG
        obtain ⟨d2, i1, i2, i3⟩ := fin (((d.s_isOver (flg S)).s_grosses (va_up (va_up d.grosses (p + 1) w) (p + 1) (lN 0))).s_isGreat (va_up d.isGreat (p + 1) (nI 1))) ⟨_, _, _, by rfl⟩ (fun q hq hn => by
          refine ⟨?_, ?_⟩
          · show va_up (va_up d.grosses (p + 1) w) (p + 1) (lN 0) q = _
            rw [upn hn, upn hn]
          · show va_up d.isGreat (p + 1) (nI 1) q = _
            rw [upn hn]) (by
          rw [hG]
          refine ⟨?_, ?_⟩
          · show va_up d.isGreat (p + 1) (nI 1) (p + 1) = _
            rw [upe]
            rfl
          · show va_up (va_up d.grosses (p + 1) w) (p + 1) (lN 0) (p + 1) = _
            rw [upe]
            rfl)
        refine ⟨d2, i1, ?_, i3⟩
        unfold m_X12_gross_J124 m_X12_gross_J129
        rw [yu_114 (by omega), Option.bind_some, yr_100_17, Option.bind_some, ya_114 (by omega), Option.bind_some]
        rw [show (((d.s_isOver (flg S)).s_grosses (va_up d.grosses (p + 1) w)).s_isGreat (va_up ((d.s_isOver (flg S)).s_grosses (va_up d.grosses (p + 1) w)).isGreat (p + 1) (vp_nar .boolean 1))).isGreat (p + 1) = nI 1 from by show va_up d.isGreat (p + 1) (vp_nar .boolean 1) (p + 1) = nI 1; rw [upe]; rfl]
        rw [if_neg (show ¬ nI 1 = 0 by decide), yr_100_16, Option.bind_some, yu_113 (by omega), Option.bind_some]
        exact i2
      have fin0 : ∀ x, GD P (t + 1) (p + 1) = some x → w = lN x → ∃ d2, SG d d2 ∧ m_X12_gross_J128 N (m_X12_gross_L56 N k48 n) 100 (nI T) (nI s) (nI (t + 1)) (nI (p + 1)) 114 (nI (p + 1)) (mk c ((d.s_isOver (flg S)).s_grosses (va_up d.grosses (p + 1) w)) D) = k48 100 (nI T) (nI s) (nI (t + 1 + 1)) (mk c d2 D) ∧ (∀ q, q ≤ s → GC (GD P (t + 1) q) (d2.grosses q) (d2.isGreat q)) := by
        intro x hG hw
        obtain ⟨d2, i1, i2, i3⟩ := fin (((d.s_isOver (flg S)).s_grosses (va_up d.grosses (p + 1) w)).s_isGreat (va_up d.isGreat (p + 1) (nI 0))) ⟨_, _, _, by rfl⟩ (fun q hq hn => by
          refine ⟨?_, ?_⟩
          · show va_up d.grosses (p + 1) w q = _
            rw [upn hn]
          · show va_up d.isGreat (p + 1) (nI 0) q = _
            rw [upn hn]) (by
          rw [hG]
          refine ⟨?_, ?_⟩
          · show va_up d.isGreat (p + 1) (nI 0) (p + 1) = _
            rw [upe]
            rfl
          · show va_up d.grosses (p + 1) w (p + 1) = _
            rw [upe, hw]
            rfl)
        refine ⟨d2, i1, ?_, i3⟩
        unfold m_X12_gross_J128 m_X12_gross_J129
        rw [yu_114 (by omega), Option.bind_some, yr_100_17, Option.bind_some, ya_114 (by omega), Option.bind_some]
        rw [show (((d.s_isOver (flg S)).s_grosses (va_up d.grosses (p + 1) w)).s_isGreat (va_up ((d.s_isOver (flg S)).s_grosses (va_up d.grosses (p + 1) w)).isGreat (p + 1) (vp_nar .boolean 0))).isGreat (p + 1) = nI 0 from by show va_up d.isGreat (p + 1) (vp_nar .boolean 0) (p + 1) = nI 0; rw [upe]; rfl]
        rw [if_pos (show nI 0 = 0 from rfl)]
        exact i2
      have eG : GD P (t + 1) (p + 1) = (GD P t (p + 1)).bind fun a => if P.n = 0 then mulO 100 a else (GD P t p).bind fun b => gS P (t / 5) (pwO 100 t) a b P.n := rfl
      rw [if_neg (nI_nle (by omega) (by omega)), z1, Option.bind_some, yr_100_16, Option.bind_some, yo_100, Option.bind_some, w1, Option.bind_some, yu_113 (by omega), Option.bind_some, yr_100_17, Option.bind_some, Option.bind_some, ya_114 (by omega), Option.bind_some]
      rw [show ((d.s_isOver (flg S)).s_grosses (va_up (d.s_isOver (flg S)).grosses (p + 1) w)).isGreat (p + 1) = flg (GD P t (p + 1)) from c0.1]
      cases hA : GD P t (p + 1) with
      | none =>
        rw [if_neg (show ¬ flg none = 0 by decide)]
        exact fin1 (by rw [eG, hA]; rfl)
      | some av =>
        rw [if_pos (show flg (some av) = 0 from rfl), yr_100_15, Option.bind_some]
        rw [show ((d.s_isOver (flg S)).s_grosses (va_up (d.s_isOver (flg S)).grosses (p + 1) w)).isOver = flg S from rfl]
        rw [hA] at hS
        have hS : gS P (t / 5) (pwO 100 t) av ((GD P t p).getD 0) P.n = S := hS
        rw [hA] at eG
        have eG : GD P (t + 1) (p + 1) = if P.n = 0 then mulO 100 av else (GD P t p).bind fun b => gS P (t / 5) (pwO 100 t) av b P.n := eG
        have eG0 : P.n = 0 → GD P (t + 1) (p + 1) = S := fun h0 => by
          rw [eG, if_pos h0, ← hS, h0]
          rfl
        have eG1 : P.n ≠ 0 → GD P t p = none → GD P (t + 1) (p + 1) = none := fun h0 h1 => by
          rw [eG, if_neg h0, h1]
          rfl
        have eG2 : P.n ≠ 0 → ∀ b, GD P t p = some b → GD P (t + 1) (p + 1) = S := fun h0 b h1 => by
          rw [eG, if_neg h0, ← hS, h1]
          rfl
        cases S with
        | none =>
          rw [if_neg (show ¬ flg none = 0 by decide)]
          refine fin1 ?_
          by_cases h0 : P.n = 0
          · exact eG0 h0
          · cases hB : GD P t p with
            | none => exact eG1 h0 hB
            | some b => exact eG2 h0 b hB
        | some x =>
          rw [if_pos (show flg (some x) = 0 from rfl), yr_100_0, Option.bind_some, z0, Option.bind_some]
          rw [show ((d.s_isOver (flg (some x))).s_grosses (va_up (d.s_isOver (flg (some x))).grosses (p + 1) w)).now 0 = nI P.n from hP.n_]
          have hPn := hP.n
          by_cases h0 : P.n = 0
          · rw [if_pos (by rw [h0]; decide)]
            exact fin0 x (eG0 h0) (w2 x rfl)
          · rw [if_neg (by rw [show (0 : Int32) = nI 0 from rfl, nI_leI (by omega) (by omega)]; omega), Option.bind_some, show (1 : Int32) = nI 1 from rfl, pk_sub (by omega), Nat.add_sub_cancel, ya_114 (by omega), Option.bind_some]
            rw [show ((d.s_isOver (flg (some x))).s_grosses (va_up (d.s_isOver (flg (some x))).grosses (p + 1) w)).isGreat p = flg (GD P t p) from c1.1]
            cases hB : GD P t p with
            | none =>
              rw [if_neg (show ¬ flg none = 0 by decide)]
              exact fin1 (eG1 h0 hB)
            | some b =>
              rw [if_pos (show flg (some b) = 0 from rfl)]
              exact fin0 x (eG2 h0 b hB) (w2 x rfl)
theorem y48 (hN : 100 ≤ N) (hN2 : N < 2 ^ 31) {T s : Nat} (hT : T ≤ 20) (hs : s ≤ 30) : ∀ (n t : Nat) (d : MS), PR P d.now → t ≤ T → T - t < n → (∀ q, q ≤ s → GC (GD P t q) (d.grosses q) (d.isGreat q)) → ∃ d2, SG d d2 ∧ m_X12_gross_L48 N n 100 (nI T) (nI s) (nI (t + 1)) (mk c d D) = some (enc (GD P T s), mk c d2 D) := by
  intro n
  induction n with
  | zero => intro t d _ _ h; omega
  | succ n ih =>
    intro t d hP ht hn hc
    unfold m_X12_gross_L48
    by_cases e : t = T
    · subst e
      refine ⟨d, SG.rfl, ?_⟩
      obtain ⟨c1, c2⟩ := hc s (Nat.le_refl _)
      rw [if_pos (nI_lt (by omega) (by omega)), yr_100_17, Option.bind_some, ya_114 (by omega), Option.bind_some, c1]
      cases hG : GD P t s with
      | none =>
        rw [if_neg (show ¬ flg none = 0 by decide)]
        rfl
      | some x =>
        rw [hG] at c2
        rw [if_pos (show flg (some x) = 0 from rfl), yr_100_16, Option.bind_some, ya_113 (by omega), Option.bind_some, c2]
        rfl
    · obtain ⟨d2, r0, r1, r2⟩ := y56 (P := P) (c := c) (D := D) (N := N) hN hN2 (k48 := m_X12_gross_L48 N n) (T := T) (t := t) (by omega) hs N s d hP (by omega) (by omega) (fun q hq => by rw [if_neg (by omega)]; exact hc q hq)
      obtain ⟨d3, r3, r4⟩ := ih (t + 1) d2 (r0.pr hP) (by omega) (by omega) r2
      refine ⟨d3, r0.trans r3, ?_⟩
      rw [if_neg (nI_nlt (by omega) (by omega)), r1]
      exact r4
theorem y21 (hN : 100 ≤ N) (hN2 : N < 2 ^ 31) {T s : Nat} (hT : T ≤ 20) (hs : s ≤ 30) : ∀ (n j : Nat) (d : MS), PR P d.now → j ≤ s + 1 → s + 1 - j < n → (∀ q, q < j → GC (some 0) (d.grosses q) (d.isGreat q)) → ∃ d2, SG d d2 ∧ m_X12_gross_L21 N n 100 (nI T) (nI s) (nI j) (mk c d D) = some (enc (GD P T s), mk c d2 D) := by
  intro n
  induction n with
  | zero => intro j d _ _ h; omega
  | succ n ih =>
    intro j d hP hj hn hc
    unfold m_X12_gross_L21
    by_cases e : j = s + 1
    · subst e
      obtain ⟨d2, r1, r2⟩ := y48 (P := P) (c := c) (D := D) (N := N) hN hN2 hT hs N 0 d hP (by omega) (by omega) (fun q hq => hc q (by omega))
      refine ⟨d2, r1, ?_⟩
      rw [if_pos (nI_lt (by omega) (by omega))]
      exact r2
    · obtain ⟨d2, r1, r2⟩ := ih (j + 1) ((d.s_grosses (va_up d.grosses j (lN 0))).s_isGreat (va_up d.isGreat j (nI 0))) hP (by omega) (by omega) (fun q hq => by
        show GC (some 0) (va_up d.grosses j (lN 0) q) (va_up d.isGreat j (nI 0) q)
        by_cases e2 : q = j
        · subst e2
          rw [upe, upe]
          exact ⟨rfl, rfl⟩
        · rw [upn e2, upn e2]
          exact hc q (by omega))
      have s1 : SG d ((d.s_grosses (va_up d.grosses j (lN 0))).s_isGreat (va_up d.isGreat j (nI 0))) := ⟨d.isOver, _, _, by rfl⟩
      refine ⟨d2, s1.trans r1, ?_⟩
      rw [if_neg (by rw [nI_ltI (by omega) (by omega)]; omega), yr_100_16, Option.bind_some, yu_113 (by omega), Option.bind_some, yr_100_17, Option.bind_some, yu_114 (by omega), Option.bind_some, nI_1]
      exact r2
theorem p_gross (h : RR c d D) (hN : 100 ≤ N) (hN2 : N < 2 ^ 31) (a b : Int32) : ∃ r c' d', m_X11_gross N 10 a b (mk c d D) = some (r, mk c' d D) ∧ m_X12_gross N 100 a b (mk c' d D) = some (r, mk c' d' D) ∧ RR c' d' D := by
  have hP := h.1
  have h0 := hP.r0
  rcases rg a 20 with ⟨t, ht, rfl⟩ | ha
  · have e1 := wi_in (k := t) (m := 20) ht
    have e2 := isStage_in ht
    rcases rg b (c.pl.rules 0) with ⟨s, hs, rfl⟩ | hb
    · have e3 := wi_in (k := s) (m := c.pl.rules 0) hs
      obtain ⟨r, r1⟩ := xgross (c := c) (d := d) (D := D) (N := N) hN hP ht (s := s) (by omega)
      have e4 := isSeat_in (c := c.s_wrow r) (d := d) (D := D) hP hs
      obtain ⟨d2, q1, q2⟩ := y21 (P := c.pl) (c := c.s_wrow r) (D := D) (N := N) hN hN2 ht (s := s) (by omega) N 0 d hP (by omega) (by omega) (fun q hq => by omega)
      refine ⟨enc (GD c.pl t s), c.s_wrow r, d2, ?_, ?_, ?_⟩
      · simp (disch := omega) only [m_X11_gross, Option.bind_some, plit, plit64, nI_add, pk_mul, if_true, if_false, or_true, true_or, oifT, Nat.one_ne_zero, ↓reduceIte, Nat.reduceLT, Nat.reduceLeDiff, Nat.reduceEqDiff, Nat.reduceAdd, Nat.reduceMul, Nat.reduceSub, Nat.reduceDiv, nI_eq, nI_leI, nI_ltI, nI_neg, neg_eq, yo_10, yr_10_0, yr_10_1, yr_10_2, yr_10_3, yr_10_4, yr_10_5, yr_10_6, yr_10_7, yr_10_8, yr_10_9, yr_10_10, yr_10_11, yo_11, yr_11_0, yr_11_1, yr_11_2, yr_11_3, yr_11_4, yn_13, ya_13, yo_14, yr_14_0, yr_14_1, yr_14_2, yr_14_3, ya_15, ya_16, yo_73, e1, e3, r1]
      · simp (disch := omega) only [m_X12_gross, Option.bind_some, plit, plit64, nI_add, pk_mul, if_true, if_false, or_true, true_or, oifT, Nat.one_ne_zero, ↓reduceIte, Nat.reduceLT, Nat.reduceLeDiff, Nat.reduceEqDiff, Nat.reduceAdd, Nat.reduceMul, Nat.reduceSub, Nat.reduceDiv, nI_eq, nI_leI, nI_ltI, nI_neg, neg_eq, yo_100, yr_100_0, yr_100_1, yr_100_2, yr_100_3, yr_100_4, yr_100_5, yr_100_6, yr_100_7, yr_100_8, yr_100_9, yr_100_10, yr_100_11, yr_100_12, yr_100_13, yr_100_14, yr_100_15, yr_100_16, yr_100_17, yr_100_18, yr_100_19, yr_100_20, yr_100_21, yr_100_22, yr_100_23, yr_100_24, yr_100_25, yr_100_26, yr_100_27, yr_100_28, ya_101, ya_102, ya_103, ya_104, ya_105, ya_106, ya_107, ya_108, ya_109, ya_110, ya_111, ya_112, ya_113, ya_114, ya_115, ya_116, ya_117, ya_118, ya_119, e2, e4]
        exact q2
      · obtain ⟨o, g, gr, e⟩ := q1
        subst e
        exact h
    · have e3 := wi_out (x := b) (m := c.pl.rules 0) hb
      have e4 := isSeat_out (c := c) (D := D) hP hb
      refine ⟨-9223372036854775808, c, d, ?_, ?_, h⟩
      · simp (disch := omega) only [m_X11_gross, Option.bind_some, plit, plit64, nI_add, pk_mul, if_true, if_false, or_true, true_or, oifT, Nat.one_ne_zero, ↓reduceIte, Nat.reduceLT, Nat.reduceLeDiff, Nat.reduceEqDiff, Nat.reduceAdd, Nat.reduceMul, Nat.reduceSub, Nat.reduceDiv, nI_eq, nI_leI, nI_ltI, nI_neg, neg_eq, yo_10, yr_10_0, yr_10_1, yr_10_2, yr_10_3, yr_10_4, yr_10_5, yr_10_6, yr_10_7, yr_10_8, yr_10_9, yr_10_10, yr_10_11, yo_11, yr_11_0, yr_11_1, yr_11_2, yr_11_3, yr_11_4, yn_13, ya_13, yo_14, yr_14_0, yr_14_1, yr_14_2, yr_14_3, ya_15, ya_16, e1, e3]
      · simp (disch := omega) only [m_X12_gross, Option.bind_some, plit, plit64, nI_add, pk_mul, if_true, if_false, or_true, true_or, oifT, Nat.one_ne_zero, ↓reduceIte, Nat.reduceLT, Nat.reduceLeDiff, Nat.reduceEqDiff, Nat.reduceAdd, Nat.reduceMul, Nat.reduceSub, Nat.reduceDiv, nI_eq, nI_leI, nI_ltI, nI_neg, neg_eq, yo_100, yr_100_0, yr_100_1, yr_100_2, yr_100_3, yr_100_4, yr_100_5, yr_100_6, yr_100_7, yr_100_8, yr_100_9, yr_100_10, yr_100_11, yr_100_12, yr_100_13, yr_100_14, yr_100_15, yr_100_16, yr_100_17, yr_100_18, yr_100_19, yr_100_20, yr_100_21, yr_100_22, yr_100_23, yr_100_24, yr_100_25, yr_100_26, yr_100_27, yr_100_28, ya_101, ya_102, ya_103, ya_104, ya_105, ya_106, ya_107, ya_108, ya_109, ya_110, ya_111, ya_112, ya_113, ya_114, ya_115, ya_116, ya_117, ya_118, ya_119, e2, e4]
  · have e1 := wi_out (x := a) (m := 20) ha
    have e2 := isStage_out ha
    refine ⟨-9223372036854775808, c, d, ?_, ?_, h⟩
    · simp (disch := omega) only [m_X11_gross, Option.bind_some, plit, plit64, nI_add, pk_mul, if_true, if_false, or_true, true_or, oifT, Nat.one_ne_zero, ↓reduceIte, Nat.reduceLT, Nat.reduceLeDiff, Nat.reduceEqDiff, Nat.reduceAdd, Nat.reduceMul, Nat.reduceSub, Nat.reduceDiv, nI_eq, nI_leI, nI_ltI, nI_neg, neg_eq, yo_10, yr_10_0, yr_10_1, yr_10_2, yr_10_3, yr_10_4, yr_10_5, yr_10_6, yr_10_7, yr_10_8, yr_10_9, yr_10_10, yr_10_11, yo_11, yr_11_0, yr_11_1, yr_11_2, yr_11_3, yr_11_4, yn_13, ya_13, yo_14, yr_14_0, yr_14_1, yr_14_2, yr_14_3, ya_15, ya_16, e1]
    · simp (disch := omega) only [m_X12_gross, Option.bind_some, plit, plit64, nI_add, pk_mul, if_true, if_false, or_true, true_or, oifT, Nat.one_ne_zero, ↓reduceIte, Nat.reduceLT, Nat.reduceLeDiff, Nat.reduceEqDiff, Nat.reduceAdd, Nat.reduceMul, Nat.reduceSub, Nat.reduceDiv, nI_eq, nI_leI, nI_ltI, nI_neg, neg_eq, yo_100, yr_100_0, yr_100_1, yr_100_2, yr_100_3, yr_100_4, yr_100_5, yr_100_6, yr_100_7, yr_100_8, yr_100_9, yr_100_10, yr_100_11, yr_100_12, yr_100_13, yr_100_14, yr_100_15, yr_100_16, yr_100_17, yr_100_18, yr_100_19, yr_100_20, yr_100_21, yr_100_22, yr_100_23, yr_100_24, yr_100_25, yr_100_26, yr_100_27, yr_100_28, ya_101, ya_102, ya_103, ya_104, ya_105, ya_106, ya_107, ya_108, ya_109, ya_110, ya_111, ya_112, ya_113, ya_114, ya_115, ya_116, ya_117, ya_118, ya_119, e2]
end
