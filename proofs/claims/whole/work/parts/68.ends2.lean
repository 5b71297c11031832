-- the end of a route: the reference, and both
def endsR (N : Nat) (P : PL) (c : CS) (d : MS) (D : mM) : Option Nat → Option (Int32 × mM)
  | none => some (-1, mk c (d.s_taped (nI 0)) D)
  | some p => m_X12_ends_L130 N N 100 (nI (50 + 6 * p)) (mk c ((d.s_taped (nI 0)).s_now (va_up d.now 5 (nI (P.rc - 1)))) D)
def lq (l0 l1 l2 q : Nat) : Nat := if q = 0 then l0 else if q = 1 then l1 else l2
section
variable {c c0 : CS} {d : MS} {D : mM} {N k : Nat} {a : Int32} {P : PL}
theorem RN.lq {now : Nat → Int32} {i l0 l1 l2 lg pr wt : Nat} (h : RN now i l0 l1 l2 lg pr wt) {q : Nat} (hq : q < 3) : now (50 + 6 * i + q) = nI (lq l0 l1 l2 q) ∧ Jvm.Pilot.CFareLimitsLaw_law_r1110_43f9b1.lq l0 l1 l2 q ≤ 122 := by
  obtain ⟨a1, a2, a3, a4, a5, a6, a7⟩ := h.2.1
  have : q = 0 ∨ q = 1 ∨ q = 2 := by omega
  rcases this with rfl | rfl | rfl
  · exact ⟨h.1.1, a2⟩
  · exact ⟨h.1.2.1, a3⟩
  · exact ⟨h.1.2.2.1, a4⟩
theorem mt_iff (h : TP c0 d) {now : Nat → Int32} {i l0 l1 l2 lg pr wt : Nat} (hr : RN now i l0 l1 l2 lg pr wt) : (nlt l1 l2 = c0.tsize ∧ ∀ q, q < c0.tsize → lq l0 l1 l2 q = tbn c0 q) ↔ nmR now i = tnm c0 := by
  obtain ⟨a1, a2, a3, a4, a5, a6, a7⟩ := hr.2.1
  rw [hr.nm]
  have t0 := tbn_le h 0
  have t1 := tbn_le h 1
  have t2 := tbn_le h 2
  have z : ∀ i, ¬ i < c0.tsize → tbn c0 i = 0 := fun i hi => by unfold tbn; rw [if_neg hi]
  have y : ∀ i, i < c0.tsize → 1 ≤ tbn c0 i := fun i hi => (tb_of h hi).1
  unfold tnm
  by_cases h3 : c0.tsize ≤ 3
  · rw [if_pos h3]
    have : c0.tsize = 0 ∨ c0.tsize = 1 ∨ c0.tsize = 2 ∨ c0.tsize = 3 := by omega
    unfold nmN nlt
    constructor
    · rintro ⟨e1, e2⟩
      have l0' : 0 < c0.tsize → l0 = tbn c0 0 := fun x => e2 0 x
      have l1' : 1 < c0.tsize → l1 = tbn c0 1 := fun x => e2 1 x
      have l2' : 2 < c0.tsize → l2 = tbn c0 2 := fun x => e2 2 x
      have z0 := z 0
      have z1 := z 1
      have z2 := z 2
      split at e1
      · rw [l0' (by omega), z1 (by omega), z2 (by omega)]; omega
      · split at e1
        · rw [l0' (by omega), l1' (by omega), z2 (by omega)]; omega
        · rw [l0' (by omega), l1' (by omega), l2' (by omega)]
    · intro e
      have e0 : l0 = tbn c0 0 := by omega
      have e1 : l1 = tbn c0 1 := by omega
      have e2 : l2 = tbn c0 2 := by omega
      have z0 := z 0
      have z1 := z 1
      have z2 := z 2
      have y0 := y 0
      have y1 := y 1
      have y2 := y 2
      refine ⟨?_, fun q hq => ?_⟩
      · split
        · omega
        · split <;> omega
      · have : q = 0 ∨ q = 1 ∨ q = 2 := by omega
        rcases this with rfl | rfl | rfl
        · exact e0
        · exact e1
        · exact e2
  · rw [if_neg h3]
    constructor
    · rintro ⟨e1, _⟩
      unfold nlt at e1
      split at e1
      · omega
      · split at e1 <;> omega
    · intro e
      unfold nmN at e
      omega
theorem y35 (h : TP c0 d) (h3 : c0.tsize ≤ 3) {k4 : Nat → Int32 → Int32 → mM → Option (Int32 × mM)} {i l0 l1 l2 lg pr wt : Nat} (hi : i < 12) (hr : RN d.now i l0 l1 l2 lg pr wt) (i1 : Int32) : ∀ n j : Nat, j ≤ c0.tsize → c0.tsize - j + 1 < n → ((∀ q, j ≤ q → q < c0.tsize → lq l0 l1 l2 q = tbn c0 q) ∧ m_X12_ends_L35 N k4 n 100 i1 (nI i) 1 (nI j) (mk c d D) = k4 100 (nI i) (nI (i + 1)) (mk c d D)) ∨ (¬ (∀ q, j ≤ q → q < c0.tsize → lq l0 l1 l2 q = tbn c0 q) ∧ m_X12_ends_L35 N k4 n 100 i1 (nI i) 1 (nI j) (mk c d D) = k4 100 i1 (nI (i + 1)) (mk c d D)) := by
  intro n
  induction n with
  | zero => intro j _ h; omega
  | succ n ih =>
    intro j hj hn
    have ht := h.2.1
    unfold m_X12_ends_L35
    by_cases e : j = c0.tsize
    · refine Or.inl ⟨fun q h1 h2 => by omega, ?_⟩
      subst e
      rw [if_neg (by decide), yr_100_3, Option.bind_some, ht, if_pos (nI_le (by omega) (by omega))]
      unfold m_X12_ends_J85 m_X12_ends_J94
      rw [if_neg (by decide), nI_1]
    · obtain ⟨t1, t2, t3, t4⟩ := tb_of h (i := j) (by omega)
      obtain ⟨q1, q2⟩ := hr.lq (q := j) (by omega)
      have al : aI 0 (mk c d D) 101 (50 + 6 * nI i + nI j) = some (nI (lq l0 l1 l2 j)) := by
        rw [show (50 : Int32) = nI 50 from rfl, show (6 : Int32) = nI 6 from rfl, pk_mul, nI_add, nI_add, ya_101 (by omega), q1]
      rw [if_neg (by decide), yr_100_3, Option.bind_some, ht, if_neg (by rw [nI_leI (by omega) (by omega)]; omega), yr_100_0, Option.bind_some, al, Option.bind_some, yr_100_4, Option.bind_some, ya_103 (by omega), Option.bind_some, t4]
      by_cases z : lq l0 l1 l2 j = tbn c0 j
      · rw [if_pos ((nI_eq (by omega) (by omega)).mpr z)]
        unfold m_X12_ends_J78
        rw [nI_1]
        rcases ih (j + 1) (by omega) (by omega) with ⟨g1, g2⟩ | ⟨g1, g2⟩
        · exact Or.inl ⟨fun q h1 h2 => by
            by_cases e2 : q = j
            · subst e2; exact z
            · exact g1 q (by omega) h2, g2⟩
        · exact Or.inr ⟨fun g => g1 fun q h1 h2 => g q (by omega) h2, g2⟩
      · rw [if_neg (fun y => z ((nI_eq (by omega) (by omega)).mp y))]
        refine Or.inr ⟨fun g => z (g j (Nat.le_refl _) (by omega)), ?_⟩
        obtain ⟨m, rfl⟩ : ∃ m, n = m + 1 := ⟨n - 1, by omega⟩
        unfold m_X12_ends_J78 m_X12_ends_L35 m_X12_ends_J85 m_X12_ends_J94
        rw [if_pos rfl, if_pos rfl, nI_1]
theorem y130 : ∀ (n z : Nat) (d : MS) (r : Nat), r ≤ 11 → d.now 5 = nI r → 50 ≤ z → z ≤ 50 + 6 * r → 50 + 6 * r - z < n → ∃ f : Nat → Int32, m_X12_ends_L130 N n 100 (nI z) (mk c d D) = some (nI r, mk c (d.s_now f) D) ∧ (∀ q, f q = if z ≤ q ∧ q < 50 + 6 * r then d.now (q + 6) else d.now q) := by
  intro n
  induction n with
  | zero => intro z d r _ _ _ _ h; omega
  | succ n ih =>
    intro z d r hr h5 hz hz2 hn
    have a5 : ∀ d : MS, aI 0 (mk c d D) 101 5 = some (d.now 5) := fun d => ya_101 (i := 5) (by omega)
    have e56 : (50 : Int32) + 6 * nI r = nI (50 + 6 * r) := by rw [show (50 : Int32) = nI 50 from rfl, show (6 : Int32) = nI 6 from rfl, pk_mul, nI_add]
    unfold m_X12_ends_L130
    by_cases e : z = 50 + 6 * r
    · subst e
      refine ⟨d.now, ?_, fun q => by rw [if_neg (by omega)]⟩
      rw [yr_100_0, Option.bind_some, a5, Option.bind_some, h5, e56, if_pos (nI_le (by omega) (by omega)), Option.bind_some, a5, Option.bind_some, h5]
      rfl
    · obtain ⟨f, f1, f2⟩ := ih (z + 1) (d.s_now (va_up d.now z (d.now (z + 6)))) r hr (by show va_up d.now z _ 5 = _; rw [upn (by omega)]; exact h5) (by omega) (by omega) (by omega)
      refine ⟨f, ?_, fun q => ?_⟩
      · rw [yr_100_0, Option.bind_some, a5, Option.bind_some, h5, e56, if_neg (by rw [nI_leI (by omega) (by omega)]; omega), Option.bind_some, Option.bind_some, show (6 : Int32) = nI 6 from rfl, nI_add, ya_101 (by omega), Option.bind_some, yu_101 (by omega), Option.bind_some, nI_1]
        exact f1
      · rw [f2 q]
        show (if z + 1 ≤ q ∧ q < 50 + 6 * r then va_up d.now z (d.now (z + 6)) (q + 6) else va_up d.now z (d.now (z + 6)) q) = _
        by_cases h1 : z + 1 ≤ q ∧ q < 50 + 6 * r
        · rw [if_pos h1, if_pos (by omega), upn (by omega)]
        · rw [if_neg h1]
          by_cases h2 : q = z
          · subst h2
            rw [upe, if_pos (by omega)]
          · rw [upn h2, if_neg (by omega)]
theorem yends_go (hN : 100 ≤ N) (hP : PR P d.now) (hR : RO P d.now D) (h : TP c0 d) {R : Option Nat} (hRr : ∀ p, R = some p ↔ p < P.rc ∧ nmR d.now p = tnm c0) : ∀ (n i : Nat) (r : Option Nat), i ≤ P.rc → P.rc - i < n → (∀ p, r = some p ↔ p < i ∧ nmR d.now p = tnm c0) → m_X12_ends_L4 N n 100 (encB r) (nI i) (mk c d D) = endsR N P c d D R := by
  intro n
  induction n with
  | zero => intro i r _ h; omega
  | succ n ih =>
    intro i r hi hn hr
    have hrc := hP.rc
    have ht := h.2.1
    have a5 : ∀ d : MS, aI 0 (mk c d D) 101 5 = some (d.now 5) := fun d => ya_101 (i := 5) (by omega)
    unfold m_X12_ends_L4
    by_cases e : i = P.rc
    · subst e
      have er : r = R := Option.ext fun p => (hr p).trans (hRr p).symm
      subst er
      rw [yr_100_0, Option.bind_some, a5, Option.bind_some, hP.rc_, if_pos (nI_le (by omega) (by omega)), show (0 : Int32) = nI 0 from rfl, yw_100_3, Option.bind_some]
      cases r with
      | none =>
        rw [if_neg (by decide)]
        rfl
      | some p =>
        obtain ⟨p1, p2⟩ := (hRr p).mp rfl
        have u5 : uI 0 .int (mk c (d.s_taped (nI 0)) D) 101 5 (nI (P.rc - 1)) = some (mk c ((d.s_taped (nI 0)).s_now (va_up d.now 5 (nI (P.rc - 1)))) D) := yu_101 (i := 5) (by omega)
        have e56 : (50 : Int32) + 6 * nI p = nI (50 + 6 * p) := by rw [show (50 : Int32) = nI 50 from rfl, show (6 : Int32) = nI 6 from rfl, pk_mul, nI_add]
        rw [show encB (some p) = nI p from rfl, if_pos (by rw [nI_leI (by omega) (by omega)]; omega), yr_100_0, Option.bind_some, a5, Option.bind_some, show (d.s_taped (nI 0)).now 5 = nI P.rc from hP.rc_, show (1 : Int32) = nI 1 from rfl, pk_sub (by omega), u5, Option.bind_some, e56]
        rfl
    · obtain ⟨j, l0, l1, l2, h1, h2, h3⟩ := hR.got (i := i) (by omega)
      have yl := yletters (c := c) (D := D) (N := N) hN (by omega) h3
      have nl : nlt l1 l2 ≤ 3 := by unfold nlt; split <;> (try split) <;> omega
      have mi := mt_iff h h3
      have ts := h.1
      have stay : ¬ nmR d.now i = tnm c0 → m_X12_ends_L4 N n 100 (encB r) (nI (i + 1)) (mk c d D) = endsR N P c d D R := fun z =>
        ih (i + 1) r (by omega) (by omega) (fun p => (hr p).trans ⟨fun x => ⟨by omega, x.2⟩, fun x => ⟨by
          have : p ≠ i := fun y => z (y ▸ x.2)
          omega, x.2⟩⟩)
      have go : nmR d.now i = tnm c0 → m_X12_ends_L4 N n 100 (nI i) (nI (i + 1)) (mk c d D) = endsR N P c d D R := fun z =>
        ih (i + 1) (some i) (by omega) (by omega) (fun p => ⟨fun x => by cases x; exact ⟨by omega, z⟩, fun x => by
          rw [hR.uniq (i := p) (j := i) (by omega) (by omega) (by rw [x.2, z])]⟩)
      rw [yr_100_0, Option.bind_some, a5, Option.bind_some, hP.rc_, if_neg (by rw [nI_leI (by omega) (by omega)]; omega), yo_100, Option.bind_some, yl, Option.bind_some, yr_100_3, Option.bind_some, ht]
      by_cases z : nlt l1 l2 = c0.tsize
      · rw [if_pos ((nI_eq (by omega) (by omega)).mpr z)]
        unfold m_X12_ends_J31
        rcases y35 (N := N) (D := D) h (by omega) (k4 := m_X12_ends_L4 N n) (by omega) h3 (encB r) N 0 (by omega) (by omega) with ⟨g1, g2⟩ | ⟨g1, g2⟩
        · refine g2.trans (go (mi.mp ⟨z, fun q hq => g1 q (by omega) hq⟩))
        · refine g2.trans (stay fun y => g1 fun q _ hq => (mi.mpr y).2 q hq)
      · rw [if_neg (fun y => z ((nI_eq (by omega) (by omega)).mp y))]
        obtain ⟨m, rfl⟩ : ∃ m, N = m + 1 := ⟨N - 1, by omega⟩
        unfold m_X12_ends_J31 m_X12_ends_L35 m_X12_ends_J85 m_X12_ends_J94
        rw [if_pos rfl, if_pos rfl, nI_1]
        exact stay fun y => z (mi.mpr y).1
theorem p_ends (h : RR c d D) (hN : 100 ≤ N) : ∃ r c' d', m_X11_ends N 10 (mk c d D) = some (r, mk c' d D) ∧ m_X12_ends N 100 (mk c' d D) = some (r, mk c' d' D) ∧ RR c' d' D := by
  have hP := h.1
  have hr := hP.rc
  have hR := h.2.1
  have hT := h.2.2.2.2.1
  have xn := xname (D := D) hN hT
  have tl : tnm c < 2 ^ 24 := by
    have t0 := tbn_le hT 0
    have t1 := tbn_le hT 1
    have t2 := tbn_le hT 2
    unfold tnm nmN
    split <;> omega
  have hw : RR (c.s_tsize 0) (d.s_taped (nI 0)) D := ⟨h.1, h.2.1, h.2.2.1, h.2.2.2.1, ⟨Nat.zero_le _, rfl, fun i hi => absurd hi (Nat.not_lt_zero _)⟩, h.2.2.2.2.2.1, h.2.2.2.2.2.2.1, h.2.2.2.2.2.2.2⟩
  have sg : ∀ p, p < c.pl.rc → ∀ (n2 : Nat → Int32), (∀ q, n2 q = if 50 + 6 * p ≤ q ∧ q < 50 + 6 * (c.pl.rc - 1) then va_up d.now 5 (nI (c.pl.rc - 1)) (q + 6) else va_up d.now 5 (nI (c.pl.rc - 1)) q) → ∀ i, i < c.pl.rc - 1 → ∀ z, z < 6 → n2 (50 + 6 * i + z) = d.now (50 + 6 * (if i < p then i else i + 1) + z) := by
    intro p hp n2 hn i hi z hz
    rw [hn]
    by_cases q : i < p
    · rw [if_pos q, if_neg (by omega), upn (by omega)]
    · rw [if_neg q, if_pos (by omega), upn (by omega), show 50 + 6 * i + z + 6 = 50 + 6 * (i + 1) + z by omega]
  rcases xplace (c := c) (N := N) hN hP hR tl with ⟨p, p1, p2, p3⟩ | ⟨p1, p2⟩
  · obtain ⟨f, f1, f2⟩ := xremove_go (d := d) (D := D) (N := N) N p (c.s_tsize 0) hr p1 (by show c.pl.rc - p < N + 1; omega) (fun q hq => okR_of hR hq)
    have f1 : m_X4_remove N 14 (nI p) (mk (c.s_tsize 0) d D) = some (mk ((c.s_tsize 0).s_pl ((c.pl.s_rc (c.pl.rc - 1)).s_rts f)) d D) := f1
    have Rr : ∀ q, (some p : Option Nat) = some q ↔ q < c.pl.rc ∧ nmR d.now q = tnm c := fun q => ⟨fun x => (by cases x; exact ⟨p1, p2⟩), fun x => by rw [hR.uniq p1 x.1 (by rw [p2, x.2])]⟩
    have y := yends_go (c := (c.s_tsize 0).s_pl ((c.pl.s_rc (c.pl.rc - 1)).s_rts f)) (N := N) hN hP hR hT Rr N 0 none (by omega) (by omega) (fun q => ⟨fun x => (by cases x), fun x => by omega⟩)
    obtain ⟨n2, g1, g2⟩ := y130 (c := (c.s_tsize 0).s_pl ((c.pl.s_rc (c.pl.rc - 1)).s_rts f)) (D := D) (N := N) N (50 + 6 * p) ((d.s_taped (nI 0)).s_now (va_up d.now 5 (nI (c.pl.rc - 1)))) (c.pl.rc - 1) (by omega) (by show va_up d.now 5 (nI (c.pl.rc - 1)) 5 = nI (c.pl.rc - 1); exact upe) (by omega) (by omega) (by omega)
    have g2 : ∀ q, n2 q = if 50 + 6 * p ≤ q ∧ q < 50 + 6 * (c.pl.rc - 1) then va_up d.now 5 (nI (c.pl.rc - 1)) (q + 6) else va_up d.now 5 (nI (c.pl.rc - 1)) q := g2
    have sg := sg p p1 n2 g2
    have f2 : ∀ q, q < 12 → f q = if p ≤ q ∧ q + 1 < c.pl.rc then c.pl.rts (q + 1) else c.pl.rts q := f2
    have hP2 : PR ((c.pl.s_rc (c.pl.rc - 1)).s_rts f) n2 := hP.u_routes (by omega) f (by rw [g2, if_neg (by omega), upe]) (fun z z5 hz => by rw [g2, if_neg (by omega), upn z5])
    have hn : ∀ i, i < c.pl.rc - 1 → nmR n2 i = nmR d.now (if i < p then i else i + 1) := fun i hi => by
      have e0 := sg i hi 0 (by omega)
      have e1 := sg i hi 1 (by omega)
      have e2 := sg i hi 2 (by omega)
      simp only [Nat.add_zero] at e0
      unfold nmR
      rw [e0, e1, e2]
    have hR2 : RO ((c.pl.s_rc (c.pl.rc - 1)).s_rts f) n2 D := by
      refine ⟨fun i hi => ?_, fun i hi => ?_, fun i hi l0 l1 l2 lg pr wt k0 k1 k2 mg qr xt x y => ?_⟩
      · show f i = none ∨ _
        have : ∀ q, f q = c.pl.rts i → False ∨ True := fun _ _ => Or.inr trivial
        rw [show (((c.pl.s_rc (c.pl.rc - 1)).s_rts f)).rts i = f i from rfl, f2 i hi]
        split
        · exact hR.1 _ (by omega)
        · exact hR.1 _ (by omega)
      · have hi : i < c.pl.rc - 1 := hi
        rw [show (((c.pl.s_rc (c.pl.rc - 1)).s_rts f)).rts i = f i from rfl, f2 i (by omega)]
        by_cases q : i < p
        · rw [if_neg (by omega)]
          obtain ⟨j, l0, l1, l2, lg, pr, wt, h1, h2, h3⟩ := hR.2.1 i (by omega)
          exact ⟨j, l0, l1, l2, lg, pr, wt, h1, h2, h3.to fun z hz => by rw [sg i hi z hz, if_pos q]⟩
        · rw [if_pos (by omega)]
          obtain ⟨j, l0, l1, l2, lg, pr, wt, h1, h2, h3⟩ := hR.2.1 (i + 1) (by omega)
          exact ⟨j, l0, l1, l2, lg, pr, wt, h1, h2, h3.to fun z hz => by rw [sg i hi z hz, if_neg q]⟩
      · have hi : i + 1 < c.pl.rc - 1 := hi
        rw [← x.nm, ← y.nm, hn i (by omega), hn (i + 1) hi]
        by_cases q : i < p
        · rw [if_pos q]
          by_cases q2 : i + 1 < p
          · rw [if_pos q2]
            exact hR.inc 0 i (by omega)
          · rw [if_neg q2]
            exact hR.inc 1 i (by omega)
        · rw [if_neg q, if_neg (by omega)]
          exact hR.inc 0 (i + 1) (by omega)
    refine ⟨nI (c.pl.rc - 1), (c.s_tsize 0).s_pl ((c.pl.s_rc (c.pl.rc - 1)).s_rts f), (d.s_taped (nI 0)).s_now n2, ?_, ?_, hw.keep _ n2 hP2 hR2 ⟨rfl, rfl, rfl⟩ rfl rfl⟩
    · have pn : ¬ nI p = -1 := fun z => by have := congrArg Int32.toInt z; rw [nI_toInt (by omega)] at this; have e1 : (-1 : Int32).toInt = -1 := rfl; omega
      have w : m_X7_wipe 77 (mk c d D) = some (mk (c.s_tsize 0) d D) := rfl
      unfold m_X11_ends
      rw [yr_10_0, Option.bind_some, yr_11_3, Option.bind_some, yr_10_6, Option.bind_some, yo_77, Option.bind_some, xn, Option.bind_some, yo_14, Option.bind_some, p3, Option.bind_some, Option.bind_some, yo_77, Option.bind_some, w, Option.bind_some, if_neg pn, yr_10_0, Option.bind_some, yr_11_3, Option.bind_some, yo_14, Option.bind_some, f1, Option.bind_some, yr_10_0, Option.bind_some, yr_11_3, Option.bind_some, yr_14_3, Option.bind_some]
      rfl
    · unfold m_X12_ends
      exact y.trans g1
  · have Rr : ∀ q, (none : Option Nat) = some q ↔ q < c.pl.rc ∧ nmR d.now q = tnm c := fun q => ⟨fun x => (by cases x), fun x => absurd x.2 (p1 q x.1)⟩
    have y := yends_go (c := c.s_tsize 0) (N := N) hN hP hR hT Rr N 0 none (by omega) (by omega) (fun q => ⟨fun x => (by cases x), fun x => by omega⟩)
    refine ⟨-1, c.s_tsize 0, d.s_taped (nI 0), ?_, ?_, hw⟩
    · have w : m_X7_wipe 77 (mk c d D) = some (mk (c.s_tsize 0) d D) := rfl
      unfold m_X11_ends
      rw [yr_10_0, Option.bind_some, yr_11_3, Option.bind_some, yr_10_6, Option.bind_some, yo_77, Option.bind_some, xn, Option.bind_some, yo_14, Option.bind_some, p2, Option.bind_some, Option.bind_some, yo_77, Option.bind_some, w, Option.bind_some, if_pos rfl]
    · unfold m_X12_ends
      exact y
end
