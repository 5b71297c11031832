-- the book: the loop of both sides
section
variable {c c0 : CS} {d d0 : MS} {D DD : mM} {N k : Nat} {a : Int32} {P : PL}
theorem dgs_last {b : Nat → Nat} : ∀ m i v, (dgs b m i v).1 = i ∧ (dgs b m i v).2 = v ∨ 48 ≤ b ((dgs b m i v).1 - 1)
  | 0, i, v => Or.inl ⟨rfl, rfl⟩
  | m + 1, i, v => by
    unfold dgs
    split
    · next h =>
      rcases dgs_last (b := b) m (i + 1) (v * 10 + b i - 48) with e | e
      · refine Or.inr ?_
        rw [e.1, Nat.add_sub_cancel]
        exact h.1
      · exact Or.inr e
    · exact Or.inl ⟨rfl, rfl⟩
theorem f1_none {b : Nat → Nat} {p : Nat} (h : f1 b p = none) : (1 ≤ (w2 b (p + 1)).1 ∧ (w2 b (p + 1)).1 ≤ 15) ∧ (1 ≤ (w2 b (p + 1)).2.1 ∧ (w2 b (p + 1)).2.1 ≤ 9999) ∧ (w2 b (p + 1)).2.2.2 ≤ 99 ∧ 1 ≤ (w2 b (p + 1)).2.2.1 ∧ (w2 b (p + 1)).2.2.1 ≤ p + 13 ∧ b ((w2 b (p + 1)).2.2.1 - 1) ≠ 0 := by
  unfold f1 at h
  split at h
  · unfold f2 at h
    split at h
    · cases h
    · next z1 =>
      unfold f3 at h
      split at h
      · next z2 =>
        unfold f4 at h
        split at h
        · cases h
        · next z3 =>
          have l1 := lgs_v (b := b) 4 (p + 1) 48 0 (by omega) (by omega)
          have l2 := lgs_le (b := b) 4 (p + 1) 48 0
          have l3 := dg4 (b := b) (i := (lgs b 4 (p + 1) 48 0).1 + 1)
          have l4 := dgs_last (b := b) 4 ((lgs b 4 (p + 1) 48 0).1 + 1) 0
          have l5 := w5_le (b := b) (p := (dgs b 4 ((lgs b 4 (p + 1) 48 0).1 + 1) 0).1)
          have l6 := dgs_last (b := b) 2 ((dgs b 4 ((lgs b 4 (p + 1) 48 0).1 + 1) 0).1 + 1) 0
          unfold w2 w4
          refine ⟨⟨by show 1 ≤ (lgs b 4 (p + 1) 48 0).2; omega, by show (lgs b 4 (p + 1) 48 0).2 ≤ 15; omega⟩, ⟨by show 1 ≤ (dgs b 4 ((lgs b 4 (p + 1) 48 0).1 + 1) 0).2; omega, l3.2.2⟩, l5.2.2, ?_, ?_, ?_⟩
          · show 1 ≤ (w5 b (dgs b 4 ((lgs b 4 (p + 1) 48 0).1 + 1) 0).1).1
            omega
          · show (w5 b (dgs b 4 ((lgs b 4 (p + 1) 48 0).1 + 1) 0).1).1 ≤ p + 13
            omega
          · show b ((w5 b (dgs b 4 ((lgs b 4 (p + 1) 48 0).1 + 1) 0).1).1 - 1) ≠ 0
            have l4 : 48 ≤ b ((dgs b 4 ((lgs b 4 (p + 1) 48 0).1 + 1) 0).1 - 1) := by
              rcases l4 with e | e
              · exact absurd e.2 z3
              · exact e
            unfold w5
            split
            · next z4 =>
              rcases l6 with e | e
              · rw [e.1, Nat.add_sub_cancel]
                omega
              · omega
            · show b ((dgs b 4 ((lgs b 4 (p + 1) 48 0).1 + 1) 0).1 - 1) ≠ 0
              omega
      · cases h
  · cases h
theorem xnew {x y z w : Int32} : m_X6_init (mk c d D).length x y z w (mk c d (D ++ [.inr (6, [.int 0, .int 0, .int 0, .int 0])])) = some (mk c d (D ++ [.inr (6, [.int x, .int y, .int z, .int w])])) := xnewR (M := mk c d D)
theorem y23f {d2 : MS} {n f : Nat} {i1 : Int32} (h : m_X12_readRoute N 100 (mk c d D) = some (mk c d2 D)) (hf : d2.fault = nI f) (hl : f ≤ 1000) : m_X12_book_L23 N (n + 1) 100 i1 (mk c d D) = m_X12_book_J58 N 100 (i1 + 1) (mk c d2 D) := by
  unfold m_X12_book_L23
  rw [yo_100, Option.bind_some, h, Option.bind_some, yo_100, Option.bind_some, dtakes hf hl, Option.bind_some, if_pos rfl, yr_100_24, Option.bind_some, yr_100_3, Option.bind_some]
  split
  · rfl
  · rw [Option.bind_some, yo_100, Option.bind_some, dwrong hf hl, Option.bind_some]
theorem y23o {d2 : MS} {n t : Nat} {i1 : Int32} (h : m_X12_readRoute N 100 (mk c d D) = some (mk c d2 D)) (hf : d2.fault = -1) (ha : d2.at_ = nI t) (ht : t ≤ 900) (hT : TP c0 d2) : (tbn c0 t = 59 → m_X12_book_L23 N (n + 1) 100 i1 (mk c d D) = m_X12_book_L23 N n 100 (i1 + 1) (mk c (d2.s_at_ (nI (t + 1))) D)) ∧ (tbn c0 t ≠ 59 → c0.tsize ≤ t → m_X12_book_L23 N (n + 1) 100 i1 (mk c d D) = m_X12_book_J58 N 100 (i1 + 1) (mk c d2 D)) ∧ (tbn c0 t ≠ 59 → ¬ c0.tsize ≤ t → m_X12_book_L23 N (n + 1) 100 i1 (mk c d D) = m_X12_book_J58 N 100 (i1 + 1) (mk c (d2.s_fault (nI t)) D)) := by
  have hs := hT.1
  have yt : m_X12_takes 100 59 (mk c d2 D) = _ := ytakes (c := c) (D := D) hT (s := 59) (by omega) (by omega) ht hf ha
  refine ⟨fun z => ?_, fun z w => ?_, fun z w => ?_⟩
  · conv => lhs; unfold m_X12_book_L23
    rw [yo_100, Option.bind_some, h, Option.bind_some, yo_100, Option.bind_some, yt, if_pos z, Option.bind_some, if_neg (by show ¬ (1 : Int32) = 0; decide)]
  · unfold m_X12_book_L23
    rw [yo_100, Option.bind_some, h, Option.bind_some, yo_100, Option.bind_some, yt, if_neg z, Option.bind_some, if_pos rfl, yr_100_24, Option.bind_some, yr_100_3, Option.bind_some, hT.2.1, ha, if_pos (nI_le (by omega) (by omega))]
  · unfold m_X12_book_L23
    rw [yo_100, Option.bind_some, h, Option.bind_some, yo_100, Option.bind_some, yt, if_neg z, Option.bind_some, if_pos rfl, yr_100_24, Option.bind_some, yr_100_3, Option.bind_some, hT.2.1, ha, if_neg (by rw [nI_leI (by omega) (by omega)]; exact w), Option.bind_some, yo_100, Option.bind_some, ywrong hf, Option.bind_some]
/-- what both loops come to -/
def BKO (N : Nat) (c : CS) (d d0 : MS) (D : mM) (m i : Nat) (cm : CS) (nw : Nat → Int32) (E : mM) (nx ny : Nat) : Prop :=
  ∃ (fo : Option Nat) (cE : CS) (nE : Nat → Int32) (E2 : mM) (M : Nat), m_X7_faultAsBook_L12 N 13 52 nx 77 14 (nI m) (mk cm d0 (D ++ E)) m (4 * m) = some (encB fo, mk cE d0 (D ++ E2)) ∧ (∀ cF DF y1, ∃ y1' y2, m_X12_book_L23 N ny 100 (nI m) (mk cF (dP d y1 (nI i) (-1) nw) DF) = m_X12_book_J58 N 100 (nI M) (mk cF (dP d y1' y2 (encB fo) nE) DF)) ∧ (∃ x1 x2 x3 x4 x5 x6 x7, cE = cP c x1 x2 x3 x4 x5 x6 x7) ∧ (∀ f, fo = some f → f ≤ 1000) ∧ (fo = none → ∃ ns : Nat → Nat → Int32, cE.tn = M ∧ M ≤ 12 ∧ ns 0 = d.now ∧ nE = ns M ∧ ∀ q, q < M → Step (D ++ E2) cE.tread c.pl.rc q (ns q) (ns (q + 1)))
theorem bk_go (hN : 100 ≤ N) (hP0 : PR c.pl d0.now) (hR0 : RO c.pl d0.now D) (hT : TP c d) (hT0 : TP c d0) (hnow : d.now = d0.now) : ∀ (k m i : Nat) (cm : CS) (E : mM) (ns : Nat → Nat → Int32) (nx ny : Nat), m + k = 13 → BKI c d D m i cm E ns → k < nx → k < ny → BKO N c d d0 D m i cm (ns m) E nx ny := by
  intro k
  induction k with
  | zero =>
    intro m i cm E ns nx ny hm h
    have := h.2.1
    omega
  | succ k ih =>
    intro m i cm E ns nx ny hm h hx hy
    obtain ⟨nx, rfl⟩ : ∃ n, nx = n + 1 := ⟨nx - 1, by omega⟩
    obtain ⟨ny, rfl⟩ : ∃ n, ny = n + 1 := ⟨ny - 1, by omega⟩
    obtain ⟨⟨x1, x4, x5, x6, x7, rfl⟩, hm12, hi, ⟨nq, hq, hnm⟩, ⟨P, hP, hR, hPr⟩, hns0, hst⟩ := h
    have hr := hP.rc
    have hTm : TP (cP c x1 m i x4 x5 x6 x7) d0 := hT0
    have eb : tbn (cP c x1 m i x4 x5 x6 x7) = tbn c := rfl
    obtain ⟨xp1, xp2⟩ := xbkp (N := N) (c := cP c x1 m i x4 x5 x6 x7) (d := d0) (D := D ++ E) hN hP0 (hR0.ext DX.app) hq hm12 hTm (by show i ≤ 300; omega)
    rw [eb, show (cP c x1 m i x4 x5 x6 x7).pl = c.pl from rfl, show (cP c x1 m i x4 x5 x6 x7).tn = m from rfl, show (cP c x1 m i x4 x5 x6 x7).tat = i from rfl] at xp1 xp2
    have yr := fun cF DF y1 => yroute (N := N) (c := cF) (c0 := c) (D := DF) (DD := D ++ E) (P := P) (d := dP d y1 (nI i) (-1) (ns m)) hN hT hP hR (i := i) (by omega) rfl rfl
    have hbad : (12 ≤ c.pl.rc + m ∨ lts (tbn c) 3 i = 0 ∨ (∃ q, q < c.pl.rc ∧ nmR d0.now q = nmA (tbn c) i) ∨ (∃ q, q < m ∧ nq q = nmA (tbn c) i)) ↔ (12 ≤ P.rc ∨ lts (tbn c) 3 i = 0 ∨ ∃ q, q < P.rc ∧ nmR (ns m) q = nmA (tbn c) i) := by
      rw [hPr, hnm, hnow]
    have ln := lts_le (b := tbn c) 3 i
    by_cases bad : 12 ≤ P.rc ∨ lts (tbn c) 3 i = 0 ∨ ∃ q, q < P.rc ∧ nmR (ns m) q = nmA (tbn c) i
    · obtain ⟨v, t, e1⟩ := xp1 (hbad.mpr bad)
      refine ⟨some i, _, ns m, E, m + 1, ?_, fun cF DF y1 => ?_, ⟨x1, m, t, v, x5, x6, x7, rfl⟩, fun f hf => ?_, fun h => by cases h⟩
      · unfold m_X7_faultAsBook_L12
        rw [if_neg (by rw [show (13 : Int32) = nI 13 from rfl, nI_leI (by omega) (by omega)]; omega), yo_77, Option.bind_some, e1, Option.bind_some, if_neg (nI_m1 (by omega))]
        rfl
      · obtain ⟨rd, t, e2⟩ := (yr cF DF y1).1 bad
        refine ⟨rd, t, ?_⟩
        rw [y23f e2 (f := i) rfl (by omega), nI_1]
        rfl
      · cases hf
        omega
    · obtain ⟨l, r, w, t, e1, e2⟩ := xp2 (fun y => bad (hbad.mp y))
      have yr2 := fun cF DF y1 => (yr cF DF y1).2 bad
      cases hff : f1 (tbn c) (i + lts (tbn c) 3 i) with
      | some f =>
        have fl := f1_le hff
        rw [hff] at e1
        refine ⟨some f, _, ns m, E, m + 1, ?_, fun cF DF y1 => ?_, ⟨x1, m, t, nI (nmA (tbn c) i), l, r, w, rfl⟩, fun f2 hf => ?_, fun h => by cases h⟩
        · unfold m_X7_faultAsBook_L12
          rw [if_neg (by rw [show (13 : Int32) = nI 13 from rfl, nI_leI (by omega) (by omega)]; omega), yo_77, Option.bind_some, e1, Option.bind_some, if_neg (show ¬ encB (some f) = -1 from nI_m1 (by omega))]
          rfl
        · obtain ⟨rd, t, e2⟩ := (yr2 cF DF y1).1 f hff
          refine ⟨rd, t, ?_⟩
          rw [y23f e2 (f := f) rfl (by omega), nI_1]
          rfl
        · cases hf
          omega
      | none =>
        have fn := f1_none hff
        have yr3 := fun cF DF y1 => (yr2 cF DF y1).2 hff
        obtain ⟨rfl, rfl, rfl, rfl⟩ := e2 hff
        rw [hff] at e1
        generalize w2 (tbn c) (i + lts (tbn c) 3 i + 1) = W at *
        obtain ⟨lg, pr, t, wt⟩ := W
        obtain ⟨⟨g1, g2⟩, ⟨g3, g4⟩, g5, g6, g7, g8⟩ := fn
        have g1 : 1 ≤ lg := g1
        have g2 : lg ≤ 15 := g2
        have g3 : 1 ≤ pr := g3
        have g4 : pr ≤ 9999 := g4
        have g5 : wt ≤ 99 := g5
        have g6 : 1 ≤ t := g6
        have g7 : t ≤ i + lts (tbn c) 3 i + 13 := g7
        have g8 : tbn c (t - 1) ≠ 0 := g8
        have ts : t ≤ c.tsize := by
          rcases Nat.lt_or_ge (t - 1) c.tsize with q | q
          · omega
          · exact absurd (show tbn c (t - 1) = 0 by unfold tbn; rw [if_neg (by omega)]) g8
        have hts := hT.1
        have m11 : P.rc ≤ 11 := by omega
        have l0 : 0 < lts (tbn c) 3 i := by omega
        -- the object, the step
        have new : (D ++ (E ++ [cRt (nmA (tbn c) i) lg pr wt]))[(D ++ E).length]? = some (cRt (nmA (tbn c) i) lg pr wt) := by
          rw [← List.append_assoc, List.getElem?_append_right (Nat.le_refl _), Nat.sub_self]
          rfl
        have dx : DX (D ++ E) (D ++ (E ++ [cRt (nmA (tbn c) i) lg pr wt])) := by
          rw [← List.append_assoc]
          exact DX.app
        have stp : Step (D ++ (E ++ [cRt (nmA (tbn c) i) lg pr wt])) (va_up x1 m (some ((D ++ E).length + 120))) c.pl.rc m (ns m) (insG (ns m) (rdC (ltf (tbn c) i 0) (ltf (tbn c) i 1) (ltf (tbn c) i 2) lg pr wt) (nmA (tbn c) i) P.rc) := by
          refine ⟨by omega, (D ++ E).length, ltf (tbn c) i 0, ltf (tbn c) i 1, ltf (tbn c) i 2, lg, pr, wt, rdC (ltf (tbn c) i 0) (ltf (tbn c) i 1) (ltf (tbn c) i 2) lg pr wt, upe, new, ⟨ltf_ok l0, ⟨g1, g2⟩, ⟨g3, g4⟩, g5⟩, fun z hz e => ?_, ⟨rfl, rfl, rfl, rfl, rfl, rfl⟩, ?_⟩
          · exact bad (Or.inr (Or.inr ⟨z, by omega, e⟩))
          · rw [hPr]
            exact insG_N
        have nx5 : ∀ cF DF y1, ∃ rd, m_X12_readRoute N 100 (mk cF (dP d y1 (nI i) (-1) (ns m)) DF) = some (mk cF (dP d rd (nI t) (-1) (insG (ns m) (rdC (ltf (tbn c) i 0) (ltf (tbn c) i 1) (ltf (tbn c) i 2) lg pr wt) (nmA (tbn c) i) P.rc)) DF) := fun cF DF y1 => by
          obtain ⟨rd, g, k1, k2, k3⟩ := yr3 cF DF y1
          refine ⟨rd, ?_⟩
          have eg : g = insG (ns m) (rdC (ltf (tbn c) i 0) (ltf (tbn c) i 1) (ltf (tbn c) i 2) lg pr wt) (nmA (tbn c) i) P.rc := insN_G k3 k2
          rw [← eg]
          exact k1
        -- the class's round up to the sign behind the route
        have x0 : m_X7_faultAsBook_L12 N 13 52 (nx + 1) 77 14 (nI m) (mk (cP c x1 m i x4 x5 x6 x7) d0 (D ++ E)) m (4 * m) = if nI t = nI c.tsize then some (-1, mk (cP c (va_up x1 m (some ((D ++ E).length + 120))) (m + 1) t (nI (nmA (tbn c) i)) (nI lg) (nI pr) (nI wt)) d0 (D ++ (E ++ [cRt (nmA (tbn c) i) lg pr wt]))) else if nI (tbn c t) = 59 then m_X7_faultAsBook_L12 N 13 52 nx 77 14 (nI (m + 1)) (mk (cP c (va_up x1 m (some ((D ++ E).length + 120))) (m + 1) (t + 1) (nI (nmA (tbn c) i)) (nI lg) (nI pr) (nI wt)) d0 (D ++ (E ++ [cRt (nmA (tbn c) i) lg pr wt]))) (m + 1) (4 * (m + 1)) else some (nI t, mk (cP c (va_up x1 m (some ((D ++ E).length + 120))) (m + 1) t (nI (nmA (tbn c) i)) (nI lg) (nI pr) (nI wt)) d0 (D ++ (E ++ [cRt (nmA (tbn c) i) lg pr wt]))) := by
          have ok : okR (D ++ (E ++ [cRt (nmA (tbn c) i) lg pr wt])) (some ((D ++ E).length + 120)) := Or.inr ⟨_, _, _, _, _, rfl, new⟩
          have o : oif (m + 1 ≤ 13 ∧ 4 * m + 4 ≤ 52) = some () := if_pos ⟨by omega, by omega⟩
          have e1 : m_X7_faultOfPart N 77 14 (mk (cP c x1 m i x4 x5 x6 x7) d0 (D ++ E)) = some (-1, mk (cP c x1 m t (nI (nmA (tbn c) i)) (nI lg) (nI pr) (nI wt)) d0 (D ++ E)) := e1
          have r3 : ∀ X, fI (mk (cP c x1 m t (nI (nmA (tbn c) i)) (nI lg) (nI pr) (nI wt)) d0 X) 77 7 3 = some (nI m) := fun X => yr_77_3
          have r5 : ∀ X, fI (mk (cP c x1 m t (nI (nmA (tbn c) i)) (nI lg) (nI pr) (nI wt)) d0 X) 77 7 5 = some (nI (nmA (tbn c) i)) := fun X => yr_77_5
          have r6 : ∀ X, fI (mk (cP c x1 m t (nI (nmA (tbn c) i)) (nI lg) (nI pr) (nI wt)) d0 X) 77 7 6 = some (nI lg) := fun X => yr_77_6
          have r7 : ∀ X, fI (mk (cP c x1 m t (nI (nmA (tbn c) i)) (nI lg) (nI pr) (nI wt)) d0 X) 77 7 7 = some (nI pr) := fun X => yr_77_7
          have r8 : ∀ X, fI (mk (cP c x1 m t (nI (nmA (tbn c) i)) (nI lg) (nI pr) (nI wt)) d0 X) 77 7 8 = some (nI wt) := fun X => yr_77_8
          have eR : ([.inr (6, [.int (nI (nmA (tbn c) i)), .int (nI lg), .int (nI pr), .int (nI wt)])] : mM) = [cRt (nmA (tbn c) i) lg pr wt] := rfl
          have q79 : uQ 6 6 (mk (cP c x1 m t (nI (nmA (tbn c) i)) (nI lg) (nI pr) (nI wt)) d0 (D ++ (E ++ [cRt (nmA (tbn c) i) lg pr wt]))) 79 (nI m) (some ((D ++ E).length + 120)) = some (mk (cP c (va_up x1 m (some ((D ++ E).length + 120))) m t (nI (nmA (tbn c) i)) (nI lg) (nI pr) (nI wt)) d0 (D ++ (E ++ [cRt (nmA (tbn c) i) lg pr wt]))) := yuQ_79 (by omega) ok
          have s3 : ∀ X, fI (mk (cP c (va_up x1 m (some ((D ++ E).length + 120))) m t (nI (nmA (tbn c) i)) (nI lg) (nI pr) (nI wt)) d0 X) 77 7 3 = some (nI m) := fun X => yr_77_3
          have w3 : ∀ X, sV (mk (cP c (va_up x1 m (some ((D ++ E).length + 120))) m t (nI (nmA (tbn c) i)) (nI lg) (nI pr) (nI wt)) d0 X) 77 7 3 (.int (nI (m + 1))) = some (mk (cP c (va_up x1 m (some ((D ++ E).length + 120))) (m + 1) t (nI (nmA (tbn c) i)) (nI lg) (nI pr) (nI wt)) d0 X) := fun X => yw_77_3
          have s4 : ∀ X, fI (mk (cP c (va_up x1 m (some ((D ++ E).length + 120))) (m + 1) t (nI (nmA (tbn c) i)) (nI lg) (nI pr) (nI wt)) d0 X) 77 7 4 = some (nI t) := fun X => yr_77_4
          have s1 : ∀ X, fI (mk (cP c (va_up x1 m (some ((D ++ E).length + 120))) (m + 1) t (nI (nmA (tbn c) i)) (nI lg) (nI pr) (nI wt)) d0 X) 77 7 1 = some (nI c.tsize) := fun X => yr_77_1
          have w4 : ∀ X, sV (mk (cP c (va_up x1 m (some ((D ++ E).length + 120))) (m + 1) t (nI (nmA (tbn c) i)) (nI lg) (nI pr) (nI wt)) d0 X) 77 7 4 (.int (nI (t + 1))) = some (mk (cP c (va_up x1 m (some ((D ++ E).length + 120))) (m + 1) (t + 1) (nI (nmA (tbn c) i)) (nI lg) (nI pr) (nI wt)) d0 X) := fun X => yw_77_4
          have xb : m_X7_byteAt 77 (nI t) (mk (cP c (va_up x1 m (some ((D ++ E).length + 120))) (m + 1) t (nI (nmA (tbn c) i)) (nI lg) (nI pr) (nI wt)) d0 (D ++ (E ++ [cRt (nmA (tbn c) i) lg pr wt]))) = some (nI (tbn c t)) := xbyte (c := cP c (va_up x1 m (some ((D ++ E).length + 120))) (m + 1) t (nI (nmA (tbn c) i)) (nI lg) (nI pr) (nI wt)) hT0 (by omega)
          have ek : 4 * m + 4 = 4 * (m + 1) := by omega
          conv => lhs; unfold m_X7_faultAsBook_L12
          rw [if_neg (by rw [show (13 : Int32) = nI 13 from rfl, nI_leI (by omega) (by omega)]; omega), yo_77, Option.bind_some, e1, Option.bind_some, if_pos rfl, yr_77_2, Option.bind_some, r3, Option.bind_some, o, Option.bind_some, mk_app, r5, Option.bind_some, r6, Option.bind_some, r7, Option.bind_some, r8, Option.bind_some, xnew, Option.bind_some, List.append_assoc, eR, mk_len, q79, Option.bind_some, s3, Option.bind_some, nI_1, w3, Option.bind_some, s4, Option.bind_some, s1, Option.bind_some]
          by_cases z : nI t = nI c.tsize
          · rw [if_pos z, if_pos z]
          · rw [if_neg z, if_neg z, Option.bind_some, yo_77, Option.bind_some, xb, Option.bind_some]
            by_cases z2 : nI (tbn c t) = 59
            · rw [if_pos z2, if_pos z2, Option.bind_some, nI_1, w4, Option.bind_some, ek]
            · rw [if_neg z2, if_neg z2, Option.bind_some]
        have bl : tbn c t ≤ 127 := tbn_le hT t
        have e59 : nI (tbn c t) = 59 ↔ tbn c t = 59 := nI_eq (b := 59) (by omega) (by omega)
        have ets : nI t = nI c.tsize ↔ t = c.tsize := nI_eq (by omega) (by omega)
        generalize hG : insG (ns m) (rdC (ltf (tbn c) i 0) (ltf (tbn c) i 1) (ltf (tbn c) i 2) lg pr wt) (nmA (tbn c) i) P.rc = G at stp nx5
        -- all steps so far
        have hst2 : ∀ q, q < m + 1 → Step (D ++ (E ++ [cRt (nmA (tbn c) i) lg pr wt])) (va_up x1 m (some ((D ++ E).length + 120))) c.pl.rc q ((fun q => if q = m + 1 then G else ns q) q) ((fun q => if q = m + 1 then G else ns q) (q + 1)) := by
          intro q hq
          show Step _ _ _ _ (if q = m + 1 then G else ns q) (if q + 1 = m + 1 then G else ns (q + 1))
          rw [if_neg (by omega)]
          by_cases w : q = m
          · rw [w, if_pos rfl]
            exact stp
          · rw [if_neg (by omega)]
            exact (hst q (by omega)).ext dx (upn w)
        have ns0 : (fun q => if q = m + 1 then G else ns q) 0 = d.now := by
          show (if 0 = m + 1 then G else ns 0) = d.now
          rw [if_neg (by omega)]
          exact hns0
        by_cases h59 : tbn c t = 59
        · have tl : t < c.tsize := by
            rcases Nat.lt_or_ge t c.tsize with q | q
            · exact q
            · have : tbn c t = 0 := by unfold tbn; rw [if_neg (by omega)]
              omega
          rw [if_neg (fun y => by have := ets.mp y; omega), if_pos (e59.mpr h59)] at x0
          have hnames : ∀ v, (∃ q, q < c.pl.rc + (m + 1) ∧ nmR G q = v) ↔ (∃ q, q < c.pl.rc ∧ nmR d.now q = v) ∨ (∃ q, q < m + 1 ∧ (if q = m then nmA (tbn c) i else nq q) = v) := fun v => by
            have r1 := insN_names (n1 := ns m) (n2 := G) (rd := rdC (ltf (tbn c) i 0) (ltf (tbn c) i 1) (ltf (tbn c) i 2) lg pr wt) (b0 := ltf (tbn c) i 0) (b1 := ltf (tbn c) i 1) (b2 := ltf (tbn c) i 2) (r := P.rc) (by rw [← hG]; exact insG_N) m11 ltf_le ltf_le ltf_le rfl rfl rfl v
            rw [hPr] at r1
            rw [show c.pl.rc + (m + 1) = c.pl.rc + m + 1 by omega, r1, hnm v]
            refine ⟨fun h => ?_, fun h => ?_⟩
            · rcases h with (h | ⟨q, h1, h2⟩) | h
              · exact Or.inl h
              · exact Or.inr ⟨q, by omega, by rw [if_neg (by omega)]; exact h2⟩
              · exact Or.inr ⟨m, by omega, by rw [if_pos rfl]; exact h⟩
            · rcases h with h | ⟨q, h1, h2⟩
              · exact Or.inl (Or.inl h)
              · by_cases w : q = m
                · rw [if_pos w] at h2
                  exact Or.inr h2
                · rw [if_neg w] at h2
                  exact Or.inl (Or.inr ⟨q, by omega, h2⟩)
          obtain ⟨fo, cE, nE, E2, M, k1, k2, k3, k4, k5⟩ := ih (m + 1) (t + 1) (cP c (va_up x1 m (some ((D ++ E).length + 120))) (m + 1) (t + 1) (nI (nmA (tbn c) i)) (nI lg) (nI pr) (nI wt)) (E ++ [cRt (nmA (tbn c) i) lg pr wt]) (fun q => if q = m + 1 then G else ns q) nx ny (by omega) (by
            have eG : (fun q => if q = m + 1 then G else ns q) (m + 1) = G := if_pos rfl
            refine ⟨⟨_, _, _, _, _, rfl⟩, by omega, by omega, ⟨fun q => if q = m then nmA (tbn c) i else nq q, fun q hq2 => ?_, ?_⟩, ?_, ns0, hst2⟩
            · have hq2 : q < m + 1 := hq2
              show (if q = m then nmA (tbn c) i else nq q) < 2 ^ 24 ∧ ∃ j lg2 pr2 wt2, va_up x1 m (some ((D ++ E).length + 120)) q = some (j + 120) ∧ _ = some (cRt (if q = m then nmA (tbn c) i else nq q) lg2 pr2 wt2)
              by_cases w : q = m
              · rw [if_pos w, w, upe]
                exact ⟨nmA_lt, _, lg, pr, wt, rfl, new⟩
              · rw [if_neg w, upn w]
                obtain ⟨z1, j, lg2, pr2, wt2, z2, z3⟩ := hq q (by show q < m; omega)
                exact ⟨z1, j, lg2, pr2, wt2, z2, dx _ _ z3⟩
            · rw [eG]
              exact hnames
            · rw [eG]
              obtain ⟨jn, nm, lg2, pr2, wt2, z1, z2, z3, z4⟩ := stp.go hP (hR.ext dx) hPr
              obtain ⟨z5, z6⟩ := z4 (fun z => if z < posR (ns m) nm P.rc then P.rts z else if z = posR (ns m) nm P.rc then some (jn + 120) else if z ≤ P.rc then P.rts (z - 1) else P.rts z) (fun z _ => rfl)
              exact ⟨_, z5, z6, by show P.rc + 1 = _; omega⟩) (by omega) (by omega)
          rw [show (if m + 1 = m + 1 then G else ns (m + 1)) = G from if_pos rfl] at k2
          refine ⟨fo, cE, nE, E2, M, x0.trans k1, fun cF DF y1 => ?_, k3, k4, k5⟩
          obtain ⟨rd, n5⟩ := nx5 cF DF y1
          obtain ⟨y1', y2, n6⟩ := k2 cF DF rd
          refine ⟨y1', y2, ?_⟩
          rw [(y23o (N := N) (n := ny) (c0 := c) (i1 := nI m) n5 rfl rfl (by omega) hT).1 h59, nI_1]
          exact n6
        · by_cases te : t = c.tsize
          · rw [if_pos (ets.mpr te)] at x0
            refine ⟨none, _, G, _, m + 1, x0, fun cF DF y1 => ?_, ⟨_, _, _, _, _, _, _, rfl⟩, fun f h => (by cases h), fun _ => ⟨fun q => if q = m + 1 then G else ns q, rfl, by omega, ns0, (if_pos rfl).symm, hst2⟩⟩
            obtain ⟨rd, n5⟩ := nx5 cF DF y1
            refine ⟨rd, nI t, ?_⟩
            rw [(y23o (N := N) (n := ny) (c0 := c) (i1 := nI m) n5 rfl rfl (by omega) hT).2.1 h59 (by omega), nI_1]
            rfl
          · rw [if_neg (fun y => te (ets.mp y)), if_neg (fun y => h59 (e59.mp y))] at x0
            refine ⟨some t, _, G, _, m + 1, x0, fun cF DF y1 => ?_, ⟨_, _, _, _, _, _, _, rfl⟩, fun f h => ?_, fun h => by cases h⟩
            · obtain ⟨rd, n5⟩ := nx5 cF DF y1
              refine ⟨rd, nI t, ?_⟩
              rw [(y23o (N := N) (n := ny) (c0 := c) (i1 := nI m) n5 rfl rfl (by omega) hT).2.2 h59 (by omega), nI_1]
              rfl
            · cases h
              omega
end
