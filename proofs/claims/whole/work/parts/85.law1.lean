-- the law's rounds, one by one
section
variable {c : CS} {d : MS} {D : mM} {sc : Nat → Int32} {L mc ms i kc ks : Nat} {k18 : Nat → Nat → Int32 → mM → Nat → Nat → Option Unit}
theorem sl_k (k : Nat) (h : i + k < L) (hL : L ≤ 2560) : sld sc L (nI i + nI k) = some (sc (i + k)) := by
  rw [nI_add]
  unfold sld
  rw [if_neg (vp_in_nI h (by omega)), nI_clamp (by omega)]
theorem lg_self {r : Int64} : lg_cmp r r = 0 := lgc.mpr rfl
theorem lJ236 (hi : i + 5 ≤ L) (hL : L ≤ 2560) (h : RR c d D) (hk : ∀ c2 d2, RR c2 d2 D → k18 10 100 (nI i + 5) (mk c2 d2 D) kc ks = some ()) : m_L_law_J236 sc L 20000 mc ms k18 10 100 (nI i) (mk c d D) kc ks = some () := by
  have s1 : sld sc L (nI i + 1) = some (sc (i + 1)) := sl_k 1 (by omega) hL
  have s2 : sld sc L (nI i + 2) = some (sc (i + 2)) := sl_k 2 (by omega) hL
  have s3 : sld sc L (nI i + 3) = some (sc (i + 3)) := sl_k 3 (by omega) hL
  have s4 : sld sc L (nI i + 4) = some (sc (i + 4)) := sl_k 4 (by omega) hL
  obtain ⟨r, c2, d2, e1, e2, e3⟩ := p_fare (N := 20000) (by omega) (sc (i + 1)) (sc (i + 2)) h
  simp only [m_L_law_J236, m_L_law_J1748, s1, s2, s3, s4, Option.bind_some, yo_10, yo_100, e1, e2, lg_self, if_true, eq_self]
  exact hk _ _ e3
theorem lJ269 (hi : i + 5 ≤ L) (hL : L ≤ 2560) (h : RR c d D) (hk : ∀ c2 d2, RR c2 d2 D → k18 10 100 (nI i + 5) (mk c2 d2 D) kc ks = some ()) : m_L_law_J269 sc L 20000 mc ms k18 10 100 (nI i) (mk c d D) kc ks = some () := by
  have s1 : sld sc L (nI i + 1) = some (sc (i + 1)) := sl_k 1 (by omega) hL
  have s2 : sld sc L (nI i + 2) = some (sc (i + 2)) := sl_k 2 (by omega) hL
  have s3 : sld sc L (nI i + 3) = some (sc (i + 3)) := sl_k 3 (by omega) hL
  have s4 : sld sc L (nI i + 4) = some (sc (i + 4)) := sl_k 4 (by omega) hL
  obtain ⟨r, e1, e2⟩ := p_of h (sc (i + 1)) (sc (i + 2))
  simp only [m_L_law_J269, m_L_law_J1748, s1, s2, s3, s4, Option.bind_some, yo_10, yo_100, e1, e2, lg_self, if_true, eq_self]
  exact hk _ _ h
theorem lJ302 (hi : i + 5 ≤ L) (hL : L ≤ 2560) (h : RR c d D) (hk : ∀ c2 d2, RR c2 d2 D → k18 10 100 (nI i + 5) (mk c2 d2 D) kc ks = some ()) : m_L_law_J302 sc L 20000 mc ms k18 10 100 (nI i) (mk c d D) kc ks = some () := by
  have s1 : sld sc L (nI i + 1) = some (sc (i + 1)) := sl_k 1 (by omega) hL
  have s2 : sld sc L (nI i + 2) = some (sc (i + 2)) := sl_k 2 (by omega) hL
  have s3 : sld sc L (nI i + 3) = some (sc (i + 3)) := sl_k 3 (by omega) hL
  have s4 : sld sc L (nI i + 4) = some (sc (i + 4)) := sl_k 4 (by omega) hL
  obtain ⟨r, c2, d2, e1, e2, e3⟩ := p_odds (N := 20000) h (by omega) (sc (i + 1)) (sc (i + 2)) (sc (i + 3))
  simp only [m_L_law_J302, m_L_law_J1748, s1, s2, s3, s4, Option.bind_some, yo_10, yo_100, e1, e2, lg_self, if_true, eq_self]
  exact hk _ _ e3
theorem lJ345 (hi : i + 5 ≤ L) (hL : L ≤ 2560) (h : RR c d D) (hk : ∀ c2 d2, RR c2 d2 D → k18 10 100 (nI i + 5) (mk c2 d2 D) kc ks = some ()) : m_L_law_J345 sc L 20000 mc ms k18 10 100 (nI i) (mk c d D) kc ks = some () := by
  have s1 : sld sc L (nI i + 1) = some (sc (i + 1)) := sl_k 1 (by omega) hL
  have s2 : sld sc L (nI i + 2) = some (sc (i + 2)) := sl_k 2 (by omega) hL
  have s3 : sld sc L (nI i + 3) = some (sc (i + 3)) := sl_k 3 (by omega) hL
  have s4 : sld sc L (nI i + 4) = some (sc (i + 4)) := sl_k 4 (by omega) hL
  obtain ⟨r, c2, d2, e1, e2, e3⟩ := p_drop h
  simp only [m_L_law_J345, m_L_law_J1748, s1, s2, s3, s4, Option.bind_some, yo_10, yo_100, e1, e2, lg_self, if_true, eq_self]
  exact hk _ _ e3
theorem lJ358 (hi : i + 5 ≤ L) (hL : L ≤ 2560) (h : RR c d D) (hk : ∀ c2 d2, RR c2 d2 D → k18 10 100 (nI i + 5) (mk c2 d2 D) kc ks = some ()) : m_L_law_J358 sc L 20000 mc ms k18 10 100 (nI i) (mk c d D) kc ks = some () := by
  have s1 : sld sc L (nI i + 1) = some (sc (i + 1)) := sl_k 1 (by omega) hL
  have s2 : sld sc L (nI i + 2) = some (sc (i + 2)) := sl_k 2 (by omega) hL
  have s3 : sld sc L (nI i + 3) = some (sc (i + 3)) := sl_k 3 (by omega) hL
  have s4 : sld sc L (nI i + 4) = some (sc (i + 4)) := sl_k 4 (by omega) hL
  obtain ⟨r, c2, d2, e1, e2, e3⟩ := p_rule h (sc (i + 1)) (sc (i + 2))
  simp only [m_L_law_J358, m_L_law_J1748, s1, s2, s3, s4, Option.bind_some, yo_10, yo_100, e1, e2, lg_self, if_true, eq_self]
  exact hk _ _ e3
theorem lJ391 (hi : i + 5 ≤ L) (hL : L ≤ 2560) (h : RR c d D) (hk : ∀ c2 d2, RR c2 d2 D → k18 10 100 (nI i + 5) (mk c2 d2 D) kc ks = some ()) : m_L_law_J391 sc L 20000 mc ms k18 10 100 (nI i) (mk c d D) kc ks = some () := by
  have s1 : sld sc L (nI i + 1) = some (sc (i + 1)) := sl_k 1 (by omega) hL
  have s2 : sld sc L (nI i + 2) = some (sc (i + 2)) := sl_k 2 (by omega) hL
  have s3 : sld sc L (nI i + 3) = some (sc (i + 3)) := sl_k 3 (by omega) hL
  have s4 : sld sc L (nI i + 4) = some (sc (i + 4)) := sl_k 4 (by omega) hL
  obtain ⟨r, e1, e2⟩ := p_shows (N := 20000) h (by omega) (sc (i + 1))
  simp only [m_L_law_J391, m_L_law_J1748, s1, s2, s3, s4, Option.bind_some, yo_10, yo_100, e1, e2, lg_self, if_true, eq_self]
  exact hk _ _ h
theorem lJ415 (hi : i + 5 ≤ L) (hL : L ≤ 2560) (h : RR c d D) (hk : ∀ c2 d2, RR c2 d2 D → k18 10 100 (nI i + 5) (mk c2 d2 D) kc ks = some ()) : m_L_law_J415 sc L 20000 mc ms k18 10 100 (nI i) (mk c d D) kc ks = some () := by
  have s1 : sld sc L (nI i + 1) = some (sc (i + 1)) := sl_k 1 (by omega) hL
  have s2 : sld sc L (nI i + 2) = some (sc (i + 2)) := sl_k 2 (by omega) hL
  have s3 : sld sc L (nI i + 3) = some (sc (i + 3)) := sl_k 3 (by omega) hL
  have s4 : sld sc L (nI i + 4) = some (sc (i + 4)) := sl_k 4 (by omega) hL
  obtain ⟨r, e1, e2⟩ := p_net (N := 20000) h (by omega) (sc (i + 1)) (sc (i + 2))
  simp only [m_L_law_J415, m_L_law_J1748, s1, s2, s3, s4, Option.bind_some, yo_10, yo_100, e1, e2, lg_self, if_true, eq_self]
  exact hk _ _ h
theorem lJ449 (hi : i + 5 ≤ L) (hL : L ≤ 2560) (h : RR c d D) (hk : ∀ c2 d2, RR c2 d2 D → k18 10 100 (nI i + 5) (mk c2 d2 D) kc ks = some ()) : m_L_law_J449 sc L 20000 mc ms k18 10 100 (nI i) (mk c d D) kc ks = some () := by
  have s1 : sld sc L (nI i + 1) = some (sc (i + 1)) := sl_k 1 (by omega) hL
  have s2 : sld sc L (nI i + 2) = some (sc (i + 2)) := sl_k 2 (by omega) hL
  have s3 : sld sc L (nI i + 3) = some (sc (i + 3)) := sl_k 3 (by omega) hL
  have s4 : sld sc L (nI i + 4) = some (sc (i + 4)) := sl_k 4 (by omega) hL
  obtain ⟨r, e1, e2⟩ := p_netCut (N := 20000) h (by omega) (sc (i + 1)) (sc (i + 2))
  simp only [m_L_law_J449, m_L_law_J1748, s1, s2, s3, s4, Option.bind_some, yo_10, yo_100, e1, e2, lg_self, if_true, eq_self]
  exact hk _ _ h
theorem lJ482 (hi : i + 5 ≤ L) (hL : L ≤ 2560) (h : RR c d D) (hk : ∀ c2 d2, RR c2 d2 D → k18 10 100 (nI i + 5) (mk c2 d2 D) kc ks = some ()) : m_L_law_J482 sc L 20000 mc ms k18 10 100 (nI i) (mk c d D) kc ks = some () := by
  have s1 : sld sc L (nI i + 1) = some (sc (i + 1)) := sl_k 1 (by omega) hL
  have s2 : sld sc L (nI i + 2) = some (sc (i + 2)) := sl_k 2 (by omega) hL
  have s3 : sld sc L (nI i + 3) = some (sc (i + 3)) := sl_k 3 (by omega) hL
  have s4 : sld sc L (nI i + 4) = some (sc (i + 4)) := sl_k 4 (by omega) hL
  obtain ⟨r, c2, d2, e1, e2, e3⟩ := p_worth (N := 20000) h (by omega) (sc (i + 1)) (sc (i + 2))
  simp only [m_L_law_J482, m_L_law_J1748, s1, s2, s3, s4, Option.bind_some, yo_10, yo_100, e1, e2, lg_self, if_true, eq_self]
  exact hk _ _ e3
theorem lJ516 (hi : i + 5 ≤ L) (hL : L ≤ 2560) (h : RR c d D) (hk : ∀ c2 d2, RR c2 d2 D → k18 10 100 (nI i + 5) (mk c2 d2 D) kc ks = some ()) : m_L_law_J516 sc L 20000 mc ms k18 10 100 (nI i) (mk c d D) kc ks = some () := by
  have s1 : sld sc L (nI i + 1) = some (sc (i + 1)) := sl_k 1 (by omega) hL
  have s2 : sld sc L (nI i + 2) = some (sc (i + 2)) := sl_k 2 (by omega) hL
  have s3 : sld sc L (nI i + 3) = some (sc (i + 3)) := sl_k 3 (by omega) hL
  have s4 : sld sc L (nI i + 4) = some (sc (i + 4)) := sl_k 4 (by omega) hL
  obtain ⟨r, c2, d2, e1, e2, e3⟩ := p_worthShort (N := 20000) h (by omega) (sc (i + 1)) (sc (i + 2))
  simp only [m_L_law_J516, m_L_law_J1748, s1, s2, s3, s4, Option.bind_some, yo_10, yo_100, e1, e2, lg_self, if_true, eq_self]
  exact hk _ _ e3
theorem lJ549 (hi : i + 5 ≤ L) (hL : L ≤ 2560) (h : RR c d D) (hk : ∀ c2 d2, RR c2 d2 D → k18 10 100 (nI i + 5) (mk c2 d2 D) kc ks = some ()) : m_L_law_J549 sc L 20000 mc ms k18 10 100 (nI i) (mk c d D) kc ks = some () := by
  have s1 : sld sc L (nI i + 1) = some (sc (i + 1)) := sl_k 1 (by omega) hL
  have s2 : sld sc L (nI i + 2) = some (sc (i + 2)) := sl_k 2 (by omega) hL
  have s3 : sld sc L (nI i + 3) = some (sc (i + 3)) := sl_k 3 (by omega) hL
  have s4 : sld sc L (nI i + 4) = some (sc (i + 4)) := sl_k 4 (by omega) hL
  obtain ⟨r, c2, d2, e1, e2, e3⟩ := p_gross (N := 20000) h (by omega) (by omega) (sc (i + 1)) (sc (i + 2))
  simp only [m_L_law_J549, m_L_law_J1748, s1, s2, s3, s4, Option.bind_some, yo_10, yo_100, e1, e2, lg_self, if_true, eq_self]
  exact hk _ _ e3
theorem lJ583 (hi : i + 5 ≤ L) (hL : L ≤ 2560) (h : RR c d D) (hk : ∀ c2 d2, RR c2 d2 D → k18 10 100 (nI i + 5) (mk c2 d2 D) kc ks = some ()) : m_L_law_J583 sc L 20000 mc ms k18 10 100 (nI i) (mk c d D) kc ks = some () := by
  have s1 : sld sc L (nI i + 1) = some (sc (i + 1)) := sl_k 1 (by omega) hL
  have s2 : sld sc L (nI i + 2) = some (sc (i + 2)) := sl_k 2 (by omega) hL
  have s3 : sld sc L (nI i + 3) = some (sc (i + 3)) := sl_k 3 (by omega) hL
  have s4 : sld sc L (nI i + 4) = some (sc (i + 4)) := sl_k 4 (by omega) hL
  obtain ⟨r, c2, d2, e1, e2, e3⟩ := p_taken (N := 20000) h (by omega) (sc (i + 1)) (sc (i + 2)) (sc (i + 3))
  simp only [m_L_law_J583, m_L_law_J1748, s1, s2, s3, s4, Option.bind_some, yo_10, yo_100, e1, e2, lg_self, if_true, eq_self]
  exact hk _ _ e3
theorem lJ626 (hi : i + 5 ≤ L) (hL : L ≤ 2560) (h : RR c d D) (hk : ∀ c2 d2, RR c2 d2 D → k18 10 100 (nI i + 5) (mk c2 d2 D) kc ks = some ()) : m_L_law_J626 sc L 20000 mc ms k18 10 100 (nI i) (mk c d D) kc ks = some () := by
  have s1 : sld sc L (nI i + 1) = some (sc (i + 1)) := sl_k 1 (by omega) hL
  have s2 : sld sc L (nI i + 2) = some (sc (i + 2)) := sl_k 2 (by omega) hL
  have s3 : sld sc L (nI i + 3) = some (sc (i + 3)) := sl_k 3 (by omega) hL
  have s4 : sld sc L (nI i + 4) = some (sc (i + 4)) := sl_k 4 (by omega) hL
  obtain ⟨r, c2, d2, e1, e2, e3⟩ := p_kept (N := 20000) h (by omega) (sc (i + 1)) (sc (i + 2))
  simp only [m_L_law_J626, m_L_law_J1748, s1, s2, s3, s4, Option.bind_some, yo_10, yo_100, e1, e2, lg_self, if_true, eq_self]
  exact hk _ _ e3
theorem lJ659 (hi : i + 5 ≤ L) (hL : L ≤ 2560) (h : RR c d D) (hk : ∀ c2 d2, RR c2 d2 D → k18 10 100 (nI i + 5) (mk c2 d2 D) kc ks = some ()) : m_L_law_J659 sc L 20000 mc ms k18 10 100 (nI i) (mk c d D) kc ks = some () := by
  have s1 : sld sc L (nI i + 1) = some (sc (i + 1)) := sl_k 1 (by omega) hL
  have s2 : sld sc L (nI i + 2) = some (sc (i + 2)) := sl_k 2 (by omega) hL
  have s3 : sld sc L (nI i + 3) = some (sc (i + 3)) := sl_k 3 (by omega) hL
  have s4 : sld sc L (nI i + 4) = some (sc (i + 4)) := sl_k 4 (by omega) hL
  obtain ⟨r, c2, d2, e1, e2, e3⟩ := p_limit (N := 20000) h (by omega) (sc (i + 1)) (sc (i + 2))
  simp only [m_L_law_J659, m_L_law_J1748, s1, s2, s3, s4, Option.bind_some, yo_10, yo_100, e1, e2, lg_self, if_true, eq_self]
  exact hk _ _ e3
theorem lJ692 (hi : i + 5 ≤ L) (hL : L ≤ 2560) (h : RR c d D) (hk : ∀ c2 d2, RR c2 d2 D → k18 10 100 (nI i + 5) (mk c2 d2 D) kc ks = some ()) : m_L_law_J692 sc L 20000 mc ms k18 10 100 (nI i) (mk c d D) kc ks = some () := by
  have s1 : sld sc L (nI i + 1) = some (sc (i + 1)) := sl_k 1 (by omega) hL
  have s2 : sld sc L (nI i + 2) = some (sc (i + 2)) := sl_k 2 (by omega) hL
  have s3 : sld sc L (nI i + 3) = some (sc (i + 3)) := sl_k 3 (by omega) hL
  have s4 : sld sc L (nI i + 4) = some (sc (i + 4)) := sl_k 4 (by omega) hL
  obtain ⟨r, c2, d2, e1, e2, e3⟩ := p_chance (N := 20000) h (by omega) (sc (i + 1)) (sc (i + 2)) (sc (i + 3))
  simp only [m_L_law_J692, m_L_law_J1748, s1, s2, s3, s4, Option.bind_some, yo_10, yo_100, e1, e2, lg_self, if_true, eq_self]
  exact hk _ _ e3
theorem lJ736 (hi : i + 5 ≤ L) (hL : L ≤ 2560) (h : RR c d D) (hk : ∀ c2 d2, RR c2 d2 D → k18 10 100 (nI i + 5) (mk c2 d2 D) kc ks = some ()) : m_L_law_J736 sc L 20000 mc ms k18 10 100 (nI i) (mk c d D) kc ks = some () := by
  have s1 : sld sc L (nI i + 1) = some (sc (i + 1)) := sl_k 1 (by omega) hL
  have s2 : sld sc L (nI i + 2) = some (sc (i + 2)) := sl_k 2 (by omega) hL
  have s3 : sld sc L (nI i + 3) = some (sc (i + 3)) := sl_k 3 (by omega) hL
  have s4 : sld sc L (nI i + 4) = some (sc (i + 4)) := sl_k 4 (by omega) hL
  obtain ⟨r, c2, d2, e1, e2, e3⟩ := p_turned (N := 20000) h (by omega) (sc (i + 1)) (sc (i + 2))
  simp only [m_L_law_J736, m_L_law_J1748, s1, s2, s3, s4, Option.bind_some, yo_10, yo_100, e1, e2, lg_self, if_true, eq_self]
  exact hk _ _ e3
theorem lJ770 (hi : i + 5 ≤ L) (hL : L ≤ 2560) (h : RR c d D) (hk : ∀ c2 d2, RR c2 d2 D → k18 10 100 (nI i + 5) (mk c2 d2 D) kc ks = some ()) : m_L_law_J770 sc L 20000 mc ms k18 10 100 (nI i) (mk c d D) kc ks = some () := by
  have s1 : sld sc L (nI i + 1) = some (sc (i + 1)) := sl_k 1 (by omega) hL
  have s2 : sld sc L (nI i + 2) = some (sc (i + 2)) := sl_k 2 (by omega) hL
  have s3 : sld sc L (nI i + 3) = some (sc (i + 3)) := sl_k 3 (by omega) hL
  have s4 : sld sc L (nI i + 4) = some (sc (i + 4)) := sl_k 4 (by omega) hL
  obtain ⟨r, c2, d2, e1, e2, e3⟩ := p_had (N := 20000) h (by omega) (sc (i + 1)) (sc (i + 2)) (sc (i + 3))
  simp only [m_L_law_J770, m_L_law_J1748, s1, s2, s3, s4, Option.bind_some, yo_10, yo_100, e1, e2, lg_self, if_true, eq_self]
  exact hk _ _ e3
theorem lJ814 (hi : i + 5 ≤ L) (hL : L ≤ 2560) (h : RR c d D) (hk : ∀ c2 d2, RR c2 d2 D → k18 10 100 (nI i + 5) (mk c2 d2 D) kc ks = some ()) : m_L_law_J814 sc L 20000 mc ms k18 10 100 (nI i) (mk c d D) kc ks = some () := by
  have s1 : sld sc L (nI i + 1) = some (sc (i + 1)) := sl_k 1 (by omega) hL
  have s2 : sld sc L (nI i + 2) = some (sc (i + 2)) := sl_k 2 (by omega) hL
  have s3 : sld sc L (nI i + 3) = some (sc (i + 3)) := sl_k 3 (by omega) hL
  have s4 : sld sc L (nI i + 4) = some (sc (i + 4)) := sl_k 4 (by omega) hL
  obtain ⟨r, c2, d2, e1, e2, e3⟩ := p_booked (N := 20000) h (by omega) (sc (i + 1)) (sc (i + 2))
  simp only [m_L_law_J814, m_L_law_J1748, s1, s2, s3, s4, Option.bind_some, yo_10, yo_100, e1, e2, lg_self, if_true, eq_self]
  exact hk _ _ e3
theorem lJ847 (hi : i + 5 ≤ L) (hL : L ≤ 2560) (h : RR c d D) (hk : ∀ c2 d2, RR c2 d2 D → k18 10 100 (nI i + 5) (mk c2 d2 D) kc ks = some ()) : m_L_law_J847 sc L 20000 mc ms k18 10 100 (nI i) (mk c d D) kc ks = some () := by
  have s1 : sld sc L (nI i + 1) = some (sc (i + 1)) := sl_k 1 (by omega) hL
  have s2 : sld sc L (nI i + 2) = some (sc (i + 2)) := sl_k 2 (by omega) hL
  have s3 : sld sc L (nI i + 3) = some (sc (i + 3)) := sl_k 3 (by omega) hL
  have s4 : sld sc L (nI i + 4) = some (sc (i + 4)) := sl_k 4 (by omega) hL
  obtain ⟨r, c2, d2, e1, e2, e3⟩ := p_ways (N := 20000) h (by omega) (by omega) (sc (i + 1)) (sc (i + 2)) (sc (i + 3))
  simp only [m_L_law_J847, m_L_law_J1748, s1, s2, s3, s4, Option.bind_some, yo_10, yo_100, e1, e2, lg_self, if_true, eq_self]
  exact hk _ _ e3
theorem lJ891 (hi : i + 5 ≤ L) (hL : L ≤ 2560) (h : RR c d D) (hk : ∀ c2 d2, RR c2 d2 D → k18 10 100 (nI i + 5) (mk c2 d2 D) kc ks = some ()) : m_L_law_J891 sc L 20000 mc ms k18 10 100 (nI i) (mk c d D) kc ks = some () := by
  have s1 : sld sc L (nI i + 1) = some (sc (i + 1)) := sl_k 1 (by omega) hL
  have s2 : sld sc L (nI i + 2) = some (sc (i + 2)) := sl_k 2 (by omega) hL
  have s3 : sld sc L (nI i + 3) = some (sc (i + 3)) := sl_k 3 (by omega) hL
  have s4 : sld sc L (nI i + 4) = some (sc (i + 4)) := sl_k 4 (by omega) hL
  obtain ⟨r, c2, d2, e1, e2, e3⟩ := p_leg h (sc (i + 1)) (sc (i + 2)) (sc (i + 3))
  simp only [m_L_law_J891, m_L_law_J1748, s1, s2, s3, s4, Option.bind_some, yo_10, yo_100, e1, e2, lg_self, if_true, eq_self]
  exact hk _ _ e3
theorem lJ934 (hi : i + 5 ≤ L) (hL : L ≤ 2560) (h : RR c d D) (hk : ∀ c2 d2, RR c2 d2 D → k18 10 100 (nI i + 5) (mk c2 d2 D) kc ks = some ()) : m_L_law_J934 sc L 20000 mc ms k18 10 100 (nI i) (mk c d D) kc ks = some () := by
  have s1 : sld sc L (nI i + 1) = some (sc (i + 1)) := sl_k 1 (by omega) hL
  have s2 : sld sc L (nI i + 2) = some (sc (i + 2)) := sl_k 2 (by omega) hL
  have s3 : sld sc L (nI i + 3) = some (sc (i + 3)) := sl_k 3 (by omega) hL
  have s4 : sld sc L (nI i + 4) = some (sc (i + 4)) := sl_k 4 (by omega) hL
  obtain ⟨r, c2, d2, e1, e2, e3⟩ := p_feed h (sc (i + 1))
  simp only [m_L_law_J934, m_L_law_J1748, s1, s2, s3, s4, Option.bind_some, yo_10, yo_100, e1, e2, lg_self, if_true, eq_self]
  exact hk _ _ e3
theorem lJ957 (hi : i + 5 ≤ L) (hL : L ≤ 2560) (h : RR c d D) (hk : ∀ c2 d2, RR c2 d2 D → k18 10 100 (nI i + 5) (mk c2 d2 D) kc ks = some ()) : m_L_law_J957 sc L 20000 mc ms k18 10 100 (nI i) (mk c d D) kc ks = some () := by
  have s1 : sld sc L (nI i + 1) = some (sc (i + 1)) := sl_k 1 (by omega) hL
  have s2 : sld sc L (nI i + 2) = some (sc (i + 2)) := sl_k 2 (by omega) hL
  have s3 : sld sc L (nI i + 3) = some (sc (i + 3)) := sl_k 3 (by omega) hL
  have s4 : sld sc L (nI i + 4) = some (sc (i + 4)) := sl_k 4 (by omega) hL
  obtain ⟨r, c2, d2, e1, e2, e3⟩ := p_clear h
  simp only [m_L_law_J957, m_L_law_J1748, s1, s2, s3, s4, Option.bind_some, yo_10, yo_100, e1, e2, lg_self, if_true, eq_self]
  exact hk _ _ e3
theorem lJ983 (hi : i + 5 ≤ L) (hL : L ≤ 2560) (h : RR c d D) (hk : ∀ c2 d2, RR c2 d2 D → k18 10 100 (nI i + 5) (mk c2 d2 D) kc ks = some ()) : m_L_law_J983 sc L 20000 mc ms k18 10 100 (nI i) (mk c d D) kc ks = some () := by
  have s1 : sld sc L (nI i + 1) = some (sc (i + 1)) := sl_k 1 (by omega) hL
  have s2 : sld sc L (nI i + 2) = some (sc (i + 2)) := sl_k 2 (by omega) hL
  have s3 : sld sc L (nI i + 3) = some (sc (i + 3)) := sl_k 3 (by omega) hL
  have s4 : sld sc L (nI i + 4) = some (sc (i + 4)) := sl_k 4 (by omega) hL
  obtain ⟨r, c2, d2, e1, e2, e3⟩ := p_ends (N := 20000) h (by omega)
  simp only [m_L_law_J983, m_L_law_J1748, s1, s2, s3, s4, Option.bind_some, yo_10, yo_100, e1, e2, lg_self, if_true, eq_self]
  exact hk _ _ e3
theorem lJ996 (hi : i + 5 ≤ L) (hL : L ≤ 2560) (h : RR c d D) (hk : ∀ c2 d2, RR c2 d2 D → k18 10 100 (nI i + 5) (mk c2 d2 D) kc ks = some ()) : m_L_law_J996 sc L 20000 mc ms k18 10 100 (nI i) (mk c d D) kc ks = some () := by
  have s1 : sld sc L (nI i + 1) = some (sc (i + 1)) := sl_k 1 (by omega) hL
  have s2 : sld sc L (nI i + 2) = some (sc (i + 2)) := sl_k 2 (by omega) hL
  have s3 : sld sc L (nI i + 3) = some (sc (i + 3)) := sl_k 3 (by omega) hL
  have s4 : sld sc L (nI i + 4) = some (sc (i + 4)) := sl_k 4 (by omega) hL
  obtain ⟨r, d2, e1, e2, e3⟩ := p_route (N := 20000) h (by omega) (sc (i + 1)) (sc (i + 2))
  simp only [m_L_law_J996, m_L_law_J1748, s1, s2, s3, s4, Option.bind_some, yo_10, yo_100, e1, e2, lg_self, if_true, eq_self]
  exact hk _ _ e3
theorem lJ1029 (hi : i + 5 ≤ L) (hL : L ≤ 2560) (h : RR c d D) (hk : ∀ c2 d2, RR c2 d2 D → k18 10 100 (nI i + 5) (mk c2 d2 D) kc ks = some ()) : m_L_law_J1029 sc L 20000 mc ms k18 10 100 (nI i) (mk c d D) kc ks = some () := by
  have s1 : sld sc L (nI i + 1) = some (sc (i + 1)) := sl_k 1 (by omega) hL
  have s2 : sld sc L (nI i + 2) = some (sc (i + 2)) := sl_k 2 (by omega) hL
  have s3 : sld sc L (nI i + 3) = some (sc (i + 3)) := sl_k 3 (by omega) hL
  have s4 : sld sc L (nI i + 4) = some (sc (i + 4)) := sl_k 4 (by omega) hL
  obtain ⟨r, e1, e2⟩ := p_part (N := 20000) h (by omega) (sc (i + 1)) (sc (i + 2))
  simp only [m_L_law_J1029, m_L_law_J1748, s1, s2, s3, s4, Option.bind_some, yo_10, yo_100, e1, e2, lg_self, if_true, eq_self]
  exact hk _ _ h
theorem lJ1062 (hi : i + 5 ≤ L) (hL : L ≤ 2560) (h : RR c d D) (hk : ∀ c2 d2, RR c2 d2 D → k18 10 100 (nI i + 5) (mk c2 d2 D) kc ks = some ()) : m_L_law_J1062 sc L 20000 mc ms k18 10 100 (nI i) (mk c d D) kc ks = some () := by
  have s1 : sld sc L (nI i + 1) = some (sc (i + 1)) := sl_k 1 (by omega) hL
  have s2 : sld sc L (nI i + 2) = some (sc (i + 2)) := sl_k 2 (by omega) hL
  have s3 : sld sc L (nI i + 3) = some (sc (i + 3)) := sl_k 3 (by omega) hL
  have s4 : sld sc L (nI i + 4) = some (sc (i + 4)) := sl_k 4 (by omega) hL
  obtain ⟨r, d2, e1, e2, e3⟩ := p_cost (N := 20000) h (by omega) (sc (i + 1))
  simp only [m_L_law_J1062, m_L_law_J1748, s1, s2, s3, s4, Option.bind_some, yo_10, yo_100, e1, e2, lg_self, if_true, eq_self]
  exact hk _ _ e3
theorem lJ1085 (hi : i + 5 ≤ L) (hL : L ≤ 2560) (h : RR c d D) (hk : ∀ c2 d2, RR c2 d2 D → k18 10 100 (nI i + 5) (mk c2 d2 D) kc ks = some ()) : m_L_law_J1085 sc L 20000 mc ms k18 10 100 (nI i) (mk c d D) kc ks = some () := by
  have s1 : sld sc L (nI i + 1) = some (sc (i + 1)) := sl_k 1 (by omega) hL
  have s2 : sld sc L (nI i + 2) = some (sc (i + 2)) := sl_k 2 (by omega) hL
  have s3 : sld sc L (nI i + 3) = some (sc (i + 3)) := sl_k 3 (by omega) hL
  have s4 : sld sc L (nI i + 4) = some (sc (i + 4)) := sl_k 4 (by omega) hL
  obtain ⟨r, c2, d2, e1, e2, e3⟩ := p_replay (N := 20000) h (by omega) (sc (i + 1))
  simp only [m_L_law_J1085, m_L_law_J1748, s1, s2, s3, s4, Option.bind_some, yo_10, yo_100, e1, e2, lg_self, if_true, eq_self]
  exact hk _ _ e3
theorem lJ1121 (hi : i + 5 ≤ L) (hL : L ≤ 2560) (h : RR c d D) (hk : ∀ c2 d2, RR c2 d2 D → k18 10 100 (nI i + 5) (mk c2 d2 D) kc ks = some ()) : m_L_law_J1121 sc L 20000 mc ms k18 10 100 (nI i) (mk c d D) kc ks = some () := by
  have s1 : sld sc L (nI i + 1) = some (sc (i + 1)) := sl_k 1 (by omega) hL
  have s2 : sld sc L (nI i + 2) = some (sc (i + 2)) := sl_k 2 (by omega) hL
  have s3 : sld sc L (nI i + 3) = some (sc (i + 3)) := sl_k 3 (by omega) hL
  have s4 : sld sc L (nI i + 4) = some (sc (i + 4)) := sl_k 4 (by omega) hL
  obtain ⟨r, e1, e2⟩ := p_paper h (sc (i + 1))
  simp only [m_L_law_J1121, m_L_law_J1748, s1, s2, s3, s4, Option.bind_some, yo_10, yo_100, e1, e2, lg_self, if_true, eq_self]
  exact hk _ _ h
theorem lJ1144 (hi : i + 5 ≤ L) (hL : L ≤ 2560) (h : RR c d D) (hk : ∀ c2 d2, RR c2 d2 D → k18 10 100 (nI i + 5) (mk c2 d2 D) kc ks = some ()) : m_L_law_J1144 sc L 20000 mc ms k18 10 100 (nI i) (mk c d D) kc ks = some () := by
  have s1 : sld sc L (nI i + 1) = some (sc (i + 1)) := sl_k 1 (by omega) hL
  have s2 : sld sc L (nI i + 2) = some (sc (i + 2)) := sl_k 2 (by omega) hL
  have s3 : sld sc L (nI i + 3) = some (sc (i + 3)) := sl_k 3 (by omega) hL
  have s4 : sld sc L (nI i + 4) = some (sc (i + 4)) := sl_k 4 (by omega) hL
  obtain ⟨r, e1, e2⟩ := p_told (N := 20000) h (by omega) (sc (i + 1))
  simp only [m_L_law_J1144, m_L_law_J1748, s1, s2, s3, s4, Option.bind_some, yo_10, yo_100, e1, e2, lg_self, if_true, eq_self]
  exact hk _ _ h
theorem lJ1167 (hi : i + 5 ≤ L) (hL : L ≤ 2560) (h : RR c d D) (hk : ∀ c2 d2, RR c2 d2 D → k18 10 100 (nI i + 5) (mk c2 d2 D) kc ks = some ()) : m_L_law_J1167 sc L 20000 mc ms k18 10 100 (nI i) (mk c d D) kc ks = some () := by
  have s1 : sld sc L (nI i + 1) = some (sc (i + 1)) := sl_k 1 (by omega) hL
  have s2 : sld sc L (nI i + 2) = some (sc (i + 2)) := sl_k 2 (by omega) hL
  have s3 : sld sc L (nI i + 3) = some (sc (i + 3)) := sl_k 3 (by omega) hL
  have s4 : sld sc L (nI i + 4) = some (sc (i + 4)) := sl_k 4 (by omega) hL
  obtain ⟨r, c2, d2, e1, e2, e3⟩ := p_demand (N := 20000) h (by omega) (sc (i + 1)) (sc (i + 2)) (sc (i + 3))
  simp only [m_L_law_J1167, m_L_law_J1748, s1, s2, s3, s4, Option.bind_some, yo_10, yo_100, e1, e2, lg_self, if_true, eq_self]
  exact hk _ _ e3
theorem lJ1211 (hi : i + 5 ≤ L) (hL : L ≤ 2560) (h : RR c d D) (hk : ∀ c2 d2, RR c2 d2 D → k18 10 100 (nI i + 5) (mk c2 d2 D) kc ks = some ()) : m_L_law_J1211 sc L 20000 mc ms k18 10 100 (nI i) (mk c d D) kc ks = some () := by
  have s1 : sld sc L (nI i + 1) = some (sc (i + 1)) := sl_k 1 (by omega) hL
  have s2 : sld sc L (nI i + 2) = some (sc (i + 2)) := sl_k 2 (by omega) hL
  have s3 : sld sc L (nI i + 3) = some (sc (i + 3)) := sl_k 3 (by omega) hL
  have s4 : sld sc L (nI i + 4) = some (sc (i + 4)) := sl_k 4 (by omega) hL
  obtain ⟨r, c2, d2, e1, e2, e3⟩ := p_spill (N := 20000) h (by omega) (sc (i + 1)) (sc (i + 2)) (sc (i + 3))
  simp only [m_L_law_J1211, m_L_law_J1748, s1, s2, s3, s4, Option.bind_some, yo_10, yo_100, e1, e2, lg_self, if_true, eq_self]
  exact hk _ _ e3
theorem lJ1255 (hi : i + 5 ≤ L) (hL : L ≤ 2560) (h : RR c d D) (hk : ∀ c2 d2, RR c2 d2 D → k18 10 100 (nI i + 5) (mk c2 d2 D) kc ks = some ()) : m_L_law_J1255 sc L 20000 mc ms k18 10 100 (nI i) (mk c d D) kc ks = some () := by
  have s1 : sld sc L (nI i + 1) = some (sc (i + 1)) := sl_k 1 (by omega) hL
  have s2 : sld sc L (nI i + 2) = some (sc (i + 2)) := sl_k 2 (by omega) hL
  have s3 : sld sc L (nI i + 3) = some (sc (i + 3)) := sl_k 3 (by omega) hL
  have s4 : sld sc L (nI i + 4) = some (sc (i + 4)) := sl_k 4 (by omega) hL
  obtain ⟨r, c2, d2, e1, e2, e3⟩ := p_hand h (sc (i + 1)) (sc (i + 2))
  simp only [m_L_law_J1255, m_L_law_J1748, s1, s2, s3, s4, Option.bind_some, yo_10, yo_100, e1, e2, lg_self, if_true, eq_self]
  exact hk _ _ e3
theorem lJ1288 (hi : i + 5 ≤ L) (hL : L ≤ 2560) (h : RR c d D) (hk : ∀ c2 d2, RR c2 d2 D → k18 10 100 (nI i + 5) (mk c2 d2 D) kc ks = some ()) : m_L_law_J1288 sc L 20000 mc ms k18 10 100 (nI i) (mk c d D) kc ks = some () := by
  have s1 : sld sc L (nI i + 1) = some (sc (i + 1)) := sl_k 1 (by omega) hL
  have s2 : sld sc L (nI i + 2) = some (sc (i + 2)) := sl_k 2 (by omega) hL
  have s3 : sld sc L (nI i + 3) = some (sc (i + 3)) := sl_k 3 (by omega) hL
  have s4 : sld sc L (nI i + 4) = some (sc (i + 4)) := sl_k 4 (by omega) hL
  obtain ⟨r, c2, d2, e1, e2, e3⟩ := p_byHand (N := 20000) h (by omega) (sc (i + 1))
  simp only [m_L_law_J1288, m_L_law_J1748, s1, s2, s3, s4, Option.bind_some, yo_10, yo_100, e1, e2, lg_self, if_true, eq_self]
  exact hk _ _ e3
theorem lJ1311 (hi : i + 5 ≤ L) (hL : L ≤ 2560) (h : RR c d D) (hk : ∀ c2 d2, RR c2 d2 D → k18 10 100 (nI i + 5) (mk c2 d2 D) kc ks = some ()) : m_L_law_J1311 sc L 20000 mc ms k18 10 100 (nI i) (mk c d D) kc ks = some () := by
  have s1 : sld sc L (nI i + 1) = some (sc (i + 1)) := sl_k 1 (by omega) hL
  have s2 : sld sc L (nI i + 2) = some (sc (i + 2)) := sl_k 2 (by omega) hL
  have s3 : sld sc L (nI i + 3) = some (sc (i + 3)) := sl_k 3 (by omega) hL
  have s4 : sld sc L (nI i + 4) = some (sc (i + 4)) := sl_k 4 (by omega) hL
  obtain ⟨r, c2, d2, e1, e2, e3⟩ := p_drawn (N := 20000) h (by omega) (sc (i + 1)) (sc (i + 2)) (sc (i + 3)) (sc (i + 4))
  simp only [m_L_law_J1311, m_L_law_J1748, s1, s2, s3, s4, Option.bind_some, yo_10, yo_100, e1, e2, lg_self, if_true, eq_self]
  exact hk _ _ e3
theorem lJ1364 (hi : i + 5 ≤ L) (hL : L ≤ 2560) (h : RR c d D) (hk : ∀ c2 d2, RR c2 d2 D → k18 10 100 (nI i + 5) (mk c2 d2 D) kc ks = some ()) : m_L_law_J1364 sc L 20000 mc ms k18 10 100 (nI i) (mk c d D) kc ks = some () := by
  have s1 : sld sc L (nI i + 1) = some (sc (i + 1)) := sl_k 1 (by omega) hL
  have s2 : sld sc L (nI i + 2) = some (sc (i + 2)) := sl_k 2 (by omega) hL
  have s3 : sld sc L (nI i + 3) = some (sc (i + 3)) := sl_k 3 (by omega) hL
  have s4 : sld sc L (nI i + 4) = some (sc (i + 4)) := sl_k 4 (by omega) hL
  obtain ⟨r, c2, d2, e1, e2, e3⟩ := p_seed h (sc (i + 1))
  simp only [m_L_law_J1364, m_L_law_J1748, s1, s2, s3, s4, Option.bind_some, yo_10, yo_100, e1, e2, lg_self, if_true, eq_self]
  exact hk _ _ e3
theorem lJ1387 (hi : i + 5 ≤ L) (hL : L ≤ 2560) (h : RR c d D) (hk : ∀ c2 d2, RR c2 d2 D → k18 10 100 (nI i + 5) (mk c2 d2 D) kc ks = some ()) : m_L_law_J1387 sc L 20000 mc ms k18 10 100 (nI i) (mk c d D) kc ks = some () := by
  have s1 : sld sc L (nI i + 1) = some (sc (i + 1)) := sl_k 1 (by omega) hL
  have s2 : sld sc L (nI i + 2) = some (sc (i + 2)) := sl_k 2 (by omega) hL
  have s3 : sld sc L (nI i + 3) = some (sc (i + 3)) := sl_k 3 (by omega) hL
  have s4 : sld sc L (nI i + 4) = some (sc (i + 4)) := sl_k 4 (by omega) hL
  obtain ⟨r, c2, d2, e1, e2, e3⟩ := p_tray (N := 20000) h (by omega) (sc (i + 1)) (sc (i + 2)) (sc (i + 3))
  simp only [m_L_law_J1387, m_L_law_J1748, s1, s2, s3, s4, Option.bind_some, yo_10, yo_100, e1, e2, lg_self, if_true, eq_self]
  exact hk _ _ e3
theorem lJ1430 (hi : i + 5 ≤ L) (hL : L ≤ 2560) (h : RR c d D) (hk : ∀ c2 d2, RR c2 d2 D → k18 10 100 (nI i + 5) (mk c2 d2 D) kc ks = some ()) : m_L_law_J1430 sc L 20000 mc ms k18 10 100 (nI i) (mk c d D) kc ks = some () := by
  have s1 : sld sc L (nI i + 1) = some (sc (i + 1)) := sl_k 1 (by omega) hL
  have s2 : sld sc L (nI i + 2) = some (sc (i + 2)) := sl_k 2 (by omega) hL
  have s3 : sld sc L (nI i + 3) = some (sc (i + 3)) := sl_k 3 (by omega) hL
  have s4 : sld sc L (nI i + 4) = some (sc (i + 4)) := sl_k 4 (by omega) hL
  obtain ⟨r, c2, d2, e1, e2, e3⟩ := p_lays (N := 20000) h (by omega) (sc (i + 1)) (sc (i + 2)) (sc (i + 3))
  simp only [m_L_law_J1430, m_L_law_J1748, s1, s2, s3, s4, Option.bind_some, yo_10, yo_100, e1, e2, lg_self, if_true, eq_self]
  exact hk _ _ e3
theorem lJ1473 (hi : i + 5 ≤ L) (hL : L ≤ 2560) (h : RR c d D) (hk : ∀ c2 d2, RR c2 d2 D → k18 10 100 (nI i + 5) (mk c2 d2 D) kc ks = some ()) : m_L_law_J1473 sc L 20000 mc ms k18 10 100 (nI i) (mk c d D) kc ks = some () := by
  have s1 : sld sc L (nI i + 1) = some (sc (i + 1)) := sl_k 1 (by omega) hL
  have s2 : sld sc L (nI i + 2) = some (sc (i + 2)) := sl_k 2 (by omega) hL
  have s3 : sld sc L (nI i + 3) = some (sc (i + 3)) := sl_k 3 (by omega) hL
  have s4 : sld sc L (nI i + 4) = some (sc (i + 4)) := sl_k 4 (by omega) hL
  obtain ⟨r, e1, e2⟩ := p_laid h (sc (i + 1)) (sc (i + 2))
  simp only [m_L_law_J1473, m_L_law_J1748, s1, s2, s3, s4, Option.bind_some, yo_10, yo_100, e1, e2, lg_self, if_true, eq_self]
  exact hk _ _ h
theorem lJ1506 (hi : i + 5 ≤ L) (hL : L ≤ 2560) (h : RR c d D) (hk : ∀ c2 d2, RR c2 d2 D → k18 10 100 (nI i + 5) (mk c2 d2 D) kc ks = some ()) : m_L_law_J1506 sc L 20000 mc ms k18 10 100 (nI i) (mk c d D) kc ks = some () := by
  have s1 : sld sc L (nI i + 1) = some (sc (i + 1)) := sl_k 1 (by omega) hL
  have s2 : sld sc L (nI i + 2) = some (sc (i + 2)) := sl_k 2 (by omega) hL
  have s3 : sld sc L (nI i + 3) = some (sc (i + 3)) := sl_k 3 (by omega) hL
  have s4 : sld sc L (nI i + 4) = some (sc (i + 4)) := sl_k 4 (by omega) hL
  obtain ⟨r, c2, d2, e1, e2, e3⟩ := p_like (N := 20000) h (by omega) (sc (i + 1)) (sc (i + 2))
  simp only [m_L_law_J1506, m_L_law_J1748, s1, s2, s3, s4, Option.bind_some, yo_10, yo_100, e1, e2, lg_self, if_true, eq_self]
  exact hk _ _ e3
theorem lJ1539 (hi : i + 5 ≤ L) (hL : L ≤ 2560) (h : RR c d D) (hk : ∀ c2 d2, RR c2 d2 D → k18 10 100 (nI i + 5) (mk c2 d2 D) kc ks = some ()) : m_L_law_J1539 sc L 20000 mc ms k18 10 100 (nI i) (mk c d D) kc ks = some () := by
  have s1 : sld sc L (nI i + 1) = some (sc (i + 1)) := sl_k 1 (by omega) hL
  have s2 : sld sc L (nI i + 2) = some (sc (i + 2)) := sl_k 2 (by omega) hL
  have s3 : sld sc L (nI i + 3) = some (sc (i + 3)) := sl_k 3 (by omega) hL
  have s4 : sld sc L (nI i + 4) = some (sc (i + 4)) := sl_k 4 (by omega) hL
  obtain ⟨r, c2, d2, e1, e2, e3⟩ := p_list (N := 20000) h (by omega) (sc (i + 1)) (sc (i + 2))
  simp only [m_L_law_J1539, m_L_law_J1748, s1, s2, s3, s4, Option.bind_some, yo_10, yo_100, e1, e2, lg_self, if_true, eq_self]
  exact hk _ _ e3
theorem lJ1572 (hi : i + 5 ≤ L) (hL : L ≤ 2560) (h : RR c d D) (hk : ∀ c2 d2, RR c2 d2 D → k18 10 100 (nI i + 5) (mk c2 d2 D) kc ks = some ()) : m_L_law_J1572 sc L 20000 mc ms k18 10 100 (nI i) (mk c d D) kc ks = some () := by
  have s1 : sld sc L (nI i + 1) = some (sc (i + 1)) := sl_k 1 (by omega) hL
  have s2 : sld sc L (nI i + 2) = some (sc (i + 2)) := sl_k 2 (by omega) hL
  have s3 : sld sc L (nI i + 3) = some (sc (i + 3)) := sl_k 3 (by omega) hL
  have s4 : sld sc L (nI i + 4) = some (sc (i + 4)) := sl_k 4 (by omega) hL
  obtain ⟨r, c2, d2, e1, e2, e3⟩ := p_set h (sc (i + 1)) (sc (i + 2)) (((sc (i + 3)).toInt64 <<< ((32 : Int32).toInt64 &&& 63)) ||| ((sc (i + 4)).toInt64 &&& 4294967295))
  simp only [m_L_law_J1572, m_L_law_J1748, s1, s2, s3, s4, Option.bind_some, yo_10, yo_100, e1, e2, lg_self, if_true, eq_self]
  exact hk _ _ e3
theorem lJ1645 (hi : i + 5 ≤ L) (hL : L ≤ 2560) (h : RR c d D) (hk : ∀ c2 d2, RR c2 d2 D → k18 10 100 (nI i + 5) (mk c2 d2 D) kc ks = some ()) : m_L_law_J1645 sc L 20000 mc ms k18 10 100 (nI i) (mk c d D) kc ks = some () := by
  have s1 : sld sc L (nI i + 1) = some (sc (i + 1)) := sl_k 1 (by omega) hL
  have s2 : sld sc L (nI i + 2) = some (sc (i + 2)) := sl_k 2 (by omega) hL
  have s3 : sld sc L (nI i + 3) = some (sc (i + 3)) := sl_k 3 (by omega) hL
  have s4 : sld sc L (nI i + 4) = some (sc (i + 4)) := sl_k 4 (by omega) hL
  obtain ⟨r, e1, e2⟩ := p_get h (sc (i + 1)) (sc (i + 2))
  simp only [m_L_law_J1645, m_L_law_J1748, s1, s2, s3, s4, Option.bind_some, yo_10, yo_100, e1, e2, lg_self, if_true, eq_self]
  exact hk _ _ h
theorem lJ1679 (hi : i + 5 ≤ L) (hL : L ≤ 2560) (h : RR c d D) (hk : ∀ c2 d2, RR c2 d2 D → k18 10 100 (nI i + 5) (mk c2 d2 D) kc ks = some ()) : m_L_law_J1679 sc L 20000 mc ms k18 10 100 (nI i) (mk c d D) kc ks = some () := by
  have s1 : sld sc L (nI i + 1) = some (sc (i + 1)) := sl_k 1 (by omega) hL
  have s2 : sld sc L (nI i + 2) = some (sc (i + 2)) := sl_k 2 (by omega) hL
  have s3 : sld sc L (nI i + 3) = some (sc (i + 3)) := sl_k 3 (by omega) hL
  have s4 : sld sc L (nI i + 4) = some (sc (i + 4)) := sl_k 4 (by omega) hL
  obtain ⟨r, c2, d2, e1, e2, e3⟩ := p_judge (N := 20000) h (by omega) (sc (i + 1)) (sc (i + 2)) (sc (i + 3))
  simp only [m_L_law_J1679, m_L_law_J1748, s1, s2, s3, s4, Option.bind_some, yo_10, yo_100, e1, e2, lg_self, if_true, eq_self]
  exact hk _ _ e3
theorem lJ1722 (hi : i + 5 ≤ L) (hL : L ≤ 2560) (h : RR c d D) (hk : ∀ c2 d2, RR c2 d2 D → k18 10 100 (nI i + 5) (mk c2 d2 D) kc ks = some ()) : m_L_law_J1722 sc L 20000 mc ms k18 10 100 (nI i) (mk c d D) kc ks = some () := by
  have s1 : sld sc L (nI i + 1) = some (sc (i + 1)) := sl_k 1 (by omega) hL
  have s2 : sld sc L (nI i + 2) = some (sc (i + 2)) := sl_k 2 (by omega) hL
  have s3 : sld sc L (nI i + 3) = some (sc (i + 3)) := sl_k 3 (by omega) hL
  have s4 : sld sc L (nI i + 4) = some (sc (i + 4)) := sl_k 4 (by omega) hL
  obtain ⟨r, c2, d2, e1, e2, e3⟩ := p_image (N := 20000) h (by omega)
  simp only [m_L_law_J1722, m_L_law_J1748, s1, s2, s3, s4, Option.bind_some, yo_10, yo_100, e1, e2, lg_self, if_true, eq_self]
  exact hk _ _ e3
theorem lJ1735 (hi : i + 5 ≤ L) (hL : L ≤ 2560) (h : RR c d D) (hk : ∀ c2 d2, RR c2 d2 D → k18 10 100 (nI i + 5) (mk c2 d2 D) kc ks = some ()) : m_L_law_J1735 sc L 20000 mc ms k18 10 100 (nI i) (mk c d D) kc ks = some () := by
  have s1 : sld sc L (nI i + 1) = some (sc (i + 1)) := sl_k 1 (by omega) hL
  have s2 : sld sc L (nI i + 2) = some (sc (i + 2)) := sl_k 2 (by omega) hL
  have s3 : sld sc L (nI i + 3) = some (sc (i + 3)) := sl_k 3 (by omega) hL
  have s4 : sld sc L (nI i + 4) = some (sc (i + 4)) := sl_k 4 (by omega) hL
  obtain ⟨r, c2, d2, e1, e2, e3⟩ := p_undo (N := 20000) h (by omega)
  simp only [m_L_law_J1735, m_L_law_J1748, s1, s2, s3, s4, Option.bind_some, yo_10, yo_100, e1, e2, lg_self, if_true, eq_self]
  exact hk _ _ e3
end
