-- a fare comes
theorem zk_in {k : Nat} (h : k < 4) : zKinds (nI k) = some k := by
  unfold zKinds
  rw [if_neg (vp_in_nI h (by decide)), nI_clamp (by omega)]
theorem fill_go {c : CS} {d : MS} {D : mM} {N i : Nat} (hi : i < 6) : ∀ n j : Nat, j ≤ 4 → 4 - j < n → ∃ f : Nat → Nat, m_J7_fill_53178_L5 N n (19 + 2 * i) (nI 0) (nI j) (nI 4) (mk c d D) = some (mk (c.s_pl (c.pl.s_odds (va_up c.pl.odds i f))) d D) ∧ (∀ q, q < 4 → f q = if j ≤ q then 0 else c.pl.odds i q) := by
  intro n
  induction n generalizing c with
  | zero => intro j _ h; omega
  | succ n ih =>
    intro j hj hn
    unfold m_J7_fill_53178_L5
    by_cases h4 : j = 4
    · subst h4
      refine ⟨c.pl.odds i, ?_, fun q hq => by rw [if_neg (by omega)]⟩
      rw [if_pos (nI_le (by omega) (by omega))]
      have e : va_up c.pl.odds i (c.pl.odds i) = c.pl.odds := by
        funext z
        unfold va_up
        split
        · next h => rw [h]
        · rfl
      rw [e]
      rfl
    · rw [if_neg (by rw [nI_leI (by omega) (by omega)]; omega)]
      rw [yfou hi (by omega), Option.bind_some, nI_1]
      obtain ⟨f, h1, h2⟩ := ih (c := c.s_pl (c.pl.s_odds (va_up c.pl.odds i (va_up (c.pl.odds i) j 0)))) (j + 1) (by omega) (by omega)
      refine ⟨f, ?_, fun q hq => ?_⟩
      · rw [h1]
        have e : va_up (va_up c.pl.odds i (va_up (c.pl.odds i) j 0)) i f = va_up c.pl.odds i f := by
          funext z
          unfold va_up
          split <;> rfl
        simp only [pCS_pl, pPL_odds, qCS_pl, qPL_odds, e]
      · rw [h2 q hq]
        simp only [pCS_pl, pPL_odds, va_up, if_true]
        by_cases h : j + 1 ≤ q
        · rw [if_pos h, if_pos (by omega)]
        · rw [if_neg h]
          by_cases h5 : q = j
          · rw [if_pos h5, if_pos (by omega)]
          · rw [if_neg h5, if_neg (by omega)]
theorem fill_odds {c : CS} {d : MS} {D : mM} {N i : Nat} (hN : 100 ≤ N) (hi : i < 6) : ∃ f : Nat → Nat, m_J7_fill_53178 N (19 + 2 * i) (nI 0) (mk c d D) = some (mk (c.s_pl (c.pl.s_odds (va_up c.pl.odds i f))) d D) ∧ (∀ q, q < 4 → f q = 0) := by
  obtain ⟨f, h1, h2⟩ := fill_go (c := c) (d := d) (D := D) (N := N) hi N 0 (by omega) (by omega)
  refine ⟨f, ?_, fun q hq => by rw [h2 q hq, if_pos (by omega)]⟩
  unfold m_J7_fill_53178
  rw [yfon hi]
  exact h1
theorem p_fareX {c : CS} {d : MS} {D : mM} {N k pr : Nat} (hN : 100 ≤ N) (hk : k ≤ 3) (hpr : pr ≤ 9999) (h1 : 1 ≤ pr) (hn : c.pl.n < 6) : ∃ (f : Nat → Nat), m_X11_fare N 10 (nI k) (nI pr) (mk c d D) = some (nI c.pl.n, mk ((c.s_pl ((((((c.pl.s_kind (va_up c.pl.kind c.pl.n k))).s_price (va_up c.pl.price c.pl.n pr)).s_hand (va_up c.pl.hand c.pl.n 30)).s_odds (va_up c.pl.odds c.pl.n f)).s_n (c.pl.n + 1))).s_made 0) d D) ∧ (∀ q, q < 4 → f q = 0) := by
  have g1 : ¬ nI pr < nI 1 := by rw [nI_ltI (by omega) (by omega)]; omega
  have g2 : nI pr ≤ nI 9999 := by rw [nI_leI (by omega) (by omega)]; omega
  have g3 : nI c.pl.n < nI 6 := by rw [nI_ltI (by omega) (by omega)]; omega
  have g4 : ¬ nI 1 = nI 0 := by decide
  have hk4 : k < 4 := by omega
  have hf := fun c2 : CS => fill_odds (c := c2) (d := d) (D := D) hN hn
  obtain ⟨f, hf, hf0⟩ := hf (c.s_pl (((c.pl.s_kind (va_up c.pl.kind c.pl.n k)).s_price (va_up c.pl.price c.pl.n pr)).s_hand (va_up c.pl.hand c.pl.n 30)))
  refine ⟨f, ?_, hf0⟩
  simp only [pCS_pl, pPL_hand, pPL_price, pPL_kind, qCS_pl] at hf
  simp only [m_X11_fare, plit, show (nI 4 - nI 1) = nI 3 from rfl, wi_in hk, Option.bind_some, if_neg g1, if_pos g2, if_neg g4, yr_10_0, yr_11_1, if_pos g3, yr_11_0, yfar_R hn, zk_in hk4, yfo hn, m_X2_begin, yfw_0 hn, yfw_1 hn, yfw_2 hn, yf_3 hn, pCS_pl, pPL_price, pPL_kind, hf, nI_add, yw_11_1, yr_10_3, yo_49, m_X10_forget, yw_49_3, pPL_hand, pPL_odds, pPL_n, qCS_pl]
theorem fare_go {c : CS} {D : mM} {N i : Nat} (hi : i < 6) : ∀ (n : Nat) (d : MS) (j : Nat), j ≤ 4 → 4 - j < n → ∃ g : Nat → Int32, m_X12_fare_L78 N n 100 (nI i) (nI j) (mk c d D) = some (nI i, mk c (d.s_now g) D) ∧ (∀ z, g z = if z = 122 + i then nI 30 else if 18 + 4 * i + j ≤ z ∧ z < 22 + 4 * i then nI 0 else d.now z) := by
  intro n
  induction n with
  | zero => intro d j _ h; omega
  | succ n ih =>
    intro d j hj hn
    unfold m_X12_fare_L78
    simp only [plit, yr_100_0, Option.bind_some, nI_add, pk_mul]
    by_cases h4 : j = 4
    · subst h4
      refine ⟨va_up d.now (122 + i) (nI 30), ?_, fun z => ?_⟩
      · rw [if_pos (nI_le (by omega) (by omega)), yu_101 (by omega)]
        rfl
      · unfold va_up
        split
        · rfl
        · rw [if_neg (by omega)]
    · rw [if_neg (by rw [nI_leI (by omega) (by omega)]; omega), yu_101 (by omega), Option.bind_some]
      obtain ⟨g, h1, h2⟩ := ih (d.s_now (va_up d.now (18 + 4 * i + j) (nI 0))) (j + 1) (by omega) (by omega)
      refine ⟨g, ?_, fun z => ?_⟩
      · rw [h1]; simp only [qMS_now]
      · rw [h2 z]
        simp only [pMS_now, va_up]
        repeat' split
        all_goals first | rfl | omega
theorem p_fareY {c : CS} {d : MS} {D : mM} {N k pr n : Nat} (hN : 100 ≤ N) (hk : k ≤ 3) (hpr : pr ≤ 9999) (h1 : 1 ≤ pr) (hn : n < 6) (h0 : d.now 0 = nI n) : ∃ (g : Nat → Int32), m_X12_fare N 100 (nI k) (nI pr) (mk c d D) = some (nI n, mk c (d.s_now g) D) ∧ (∀ z, g z = if z = 122 + n then nI 30 else if 18 + 4 * n ≤ z ∧ z < 22 + 4 * n then nI 0 else if z = 12 + n then nI pr else if z = 6 + n then nI k else if z = 0 then nI (n + 1) else d.now z) := by
  have g4 : ¬ nI 1 = nI 0 := by decide
  have g5 : ¬ nI n = nI 6 := nI_ne (by omega)
  have i1 := in_in (k := k) (lo := 0) (hi := 3) (by omega) hk
  have i2 := in_in (k := pr) (lo := 1) (hi := 9999) h1 hpr
  obtain ⟨g, e1, e2⟩ := fare_go (c := c) (D := D) (N := N) hn N (((d.s_now (va_up d.now 0 (nI (n + 1)))).s_now (va_up (va_up d.now 0 (nI (n + 1))) (6 + n) (nI k))).s_now (va_up (va_up (va_up d.now 0 (nI (n + 1))) (6 + n) (nI k)) (12 + n) (nI pr))) 0 (by omega) (by omega)
  simp only [qMS_now] at e1
  refine ⟨g, ?_, fun z => ?_⟩
  · simp only [m_X12_fare, plit, plit64, i1, i2, Option.bind_some, if_neg g4, yr_100_0, ya_101 (show 0 < 129 by omega), h0, if_neg g5, nI_add, yu_101 (show 0 < 129 by omega), yu_101 (show 6 + n < 129 by omega), yu_101 (show 12 + n < 129 by omega), qMS_now, pMS_now, e1]
  · rw [e2 z]
    simp only [pMS_now, va_up, Nat.add_zero]
    repeat' split
    all_goals first | rfl | omega
theorem PR.u_fare {P : PL} {now now2 : Nat → Int32} (h : PR P now) {k pr : Nat} (hk : k ≤ 3) (h1 : 1 ≤ pr) (hpr : pr ≤ 9999) (hn : P.n < 6) {f : Nat → Nat} (f0 : ∀ q, q < 4 → f q = 0) (g0 : ∀ z, now2 z = if z = 122 + P.n then nI 30 else if 18 + 4 * P.n ≤ z ∧ z < 22 + 4 * P.n then nI 0 else if z = 12 + P.n then nI pr else if z = 6 + P.n then nI k else if z = 0 then nI (P.n + 1) else now z) : PR (((((P.s_kind (va_up P.kind P.n k)).s_price (va_up P.price P.n pr)).s_hand (va_up P.hand P.n 30)).s_odds (va_up P.odds P.n f)).s_n (P.n + 1)) now2 := by
  unfold PR
  simp only [pPL_n, pPL_odds, pPL_hand, pPL_price, pPL_kind]
  refine ⟨⟨by omega, ?_⟩, fun j hj => ⟨h.r hj, ?_⟩, ⟨h.rc, ?_⟩, fun j hj => ⟨?_, ?_⟩, fun j hj => ⟨?_, ?_⟩, fun j hj => ⟨?_, ?_⟩, fun j hj q hq => ⟨?_, ?_⟩, fun j hj => ⟨h.l hj, ?_⟩, fun j hj => ⟨h.f hj, ?_⟩, ?_, fun j hj => ?_, fun j hj => ?_⟩
  case refine_15 =>
    simp only [va_up]
    split
    · exact h1
    · exact h.pp (by omega)
  case refine_16 =>
    have e : osum (va_up P.odds P.n f) j (P.n + 1) = osum P.odds j P.n := by
      have e0 : osum (va_up P.odds P.n f) j (P.n + 1) = osum (va_up P.odds P.n f) j P.n + va_up P.odds P.n f P.n j := rfl
      rw [e0, osum_congr (o2 := P.odds) P.n (fun i hi => by rw [upn (by omega)]), upe, f0 j hj]
      rfl
    rw [e]
    exact h.os hj
  all_goals (simp only [va_up, g0]; repeat' split)
  all_goals first | rfl | omega | (rw [f0 q hq]; omega) | (rw [f0 q hq]) | exact h.n_ | exact h.rc_ | exact h.s_ | exact h.k hj | exact h.p hj | exact h.h hj | exact h.o hj hq | exact h.r_ hj | exact h.k_ hj | exact h.p_ hj | exact h.h_ hj | exact h.o_ hj hq | exact h.l_ hj | exact h.f_ hj | (next e => exact absurd trivial e)
theorem p_fare {c : CS} {d : MS} {D : mM} {N : Nat} (hN : 100 ≤ N) (a b : Int32) (h : RR c d D) : ∃ r c' d', m_X11_fare N 10 a b (mk c d D) = some (r, mk c' d D) ∧ m_X12_fare N 100 a b (mk c' d D) = some (r, mk c' d' D) ∧ RR c' d' D := by
  have hP := h.1
  have g4 : ¬ nI 1 = nI 0 := by decide
  rcases rg a 3 with ⟨k, hk, rfl⟩ | ha
  · have i1 := in_in (k := k) (lo := 0) (hi := 3) (by omega) hk
    by_cases hb : ∃ pr, 1 ≤ pr ∧ pr ≤ 9999 ∧ b = nI pr
    · obtain ⟨pr, h1, hpr, rfl⟩ := hb
      by_cases hn : c.pl.n < 6
      · obtain ⟨f, e1, f0⟩ := p_fareX (c := c) (d := d) (D := D) hN hk hpr h1 hn
        obtain ⟨g, e2, g0⟩ := p_fareY (c := (c.s_pl ((((((c.pl.s_kind (va_up c.pl.kind c.pl.n k))).s_price (va_up c.pl.price c.pl.n pr)).s_hand (va_up c.pl.hand c.pl.n 30)).s_odds (va_up c.pl.odds c.pl.n f)).s_n (c.pl.n + 1))).s_made 0) (d := d) (D := D) hN hk hpr h1 hn hP.n_
        refine ⟨_, _, _, e1, e2, h.forget _ _ (hP.u_fare hk h1 hpr hn f0 g0) ⟨rfl, rfl⟩ (fun z z1 z2 => ?_)⟩
        rw [g0]
        repeat' split
        all_goals first | rfl | omega
      · have h6 : c.pl.n = 6 := by have := hP.n; omega
        have g1 : ¬ nI pr < nI 1 := by rw [nI_ltI (by omega) (by omega)]; omega
        have g2 : nI pr ≤ nI 9999 := by rw [nI_leI (by omega) (by omega)]; omega
        have g3 : ¬ nI 6 < nI 6 := by decide
        have i2 := in_in (k := pr) (lo := 1) (hi := 9999) h1 hpr
        refine ⟨-nI 4, c, d, ?_, ?_, h⟩
        · simp only [m_X11_fare, plit, show (nI 4 - nI 1) = nI 3 from rfl, wi_in hk, Option.bind_some, if_neg g1, if_pos g2, if_neg g4, yr_10_0, yr_11_1, h6, if_neg g3]
        · simp only [m_X12_fare, plit, plit64, i1, i2, Option.bind_some, if_neg g4, yr_100_0, ya_101 (show 0 < 129 by omega), hP.n_, h6, if_true]
    · have i2 : m_X12_in b.toInt64 (lN 1) (lN 9999) = some (nI 0) := by
        rcases rg b 9999 with ⟨pr, hpr, rfl⟩ | hb2
        · refine in_out ?_
          rw [nI_toInt (by omega)]
          by_cases h0 : 1 ≤ pr
          · exact absurd ⟨pr, h0, hpr, rfl⟩ hb
          · left; omega
        · exact in_out (by omega)
      refine ⟨-nI 2, c, d, ?_, ?_, h⟩
      · by_cases g1 : b < nI 1
        · simp only [m_X11_fare, plit, show (nI 4 - nI 1) = nI 3 from rfl, wi_in hk, Option.bind_some]
          exact (if_neg g4).trans (if_pos g1)
        · have g2 : ¬ b ≤ nI 9999 := by
            intro g2
            rw [Int32.lt_iff_toInt_lt, nI_toInt (by omega)] at g1
            rw [Int32.le_iff_toInt_le, nI_toInt (by omega)] at g2
            rcases rg b 9999 with ⟨pr, hpr, rfl⟩ | hb2
            · rw [nI_toInt (by omega)] at g1
              exact hb ⟨pr, by omega, hpr, rfl⟩
            · omega
          simp only [m_X11_fare, plit, show (nI 4 - nI 1) = nI 3 from rfl, wi_in hk, Option.bind_some]
          exact (if_neg g4).trans ((if_neg g1).trans (if_neg g2))
      · simp only [m_X12_fare, plit, plit64, i1, i2, Option.bind_some, if_neg g4, if_true]
  · have i1 : m_X12_in a.toInt64 (lN 0) (lN 3) = some (nI 0) := in_out (by omega)
    refine ⟨-nI 1, c, d, ?_, ?_, h⟩
    · simp only [m_X11_fare, plit, show (nI 4 - nI 1) = nI 3 from rfl, wi_out ha, Option.bind_some, if_true]
    · simp only [m_X12_fare, plit, plit64, i1, Option.bind_some, if_true]
