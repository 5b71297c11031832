-- the book: the end
section
variable {c : CS} {d : MS} {D : mM} {N k : Nat} {a : Int32} {P : PL}
theorem xadd_gn {nw : Nat → Int32} {jn nm lg pr wt r : Nat} (hnm : nm < 2 ^ 24) (hr : r ≤ 11) (hN : D[jn]? = some (cRt nm lg pr wt)) : ∀ (n i : Nat) (c : CS), c.pl.rc = r → i ≤ r → i < n → (∀ q, q < 12 → okR D (c.pl.rts q)) → (∀ q, q < i → ∃ j l0 l1 l2 lg pr wt, c.pl.rts q = some (j + 120) ∧ D[j]? = some (cRt (nmR nw q) lg pr wt) ∧ nmR nw q < 2 ^ 24 ∧ RN nw q l0 l1 l2 lg pr wt) → ∃ f : Nat → Option Nat, m_X4_add_L20 N n 14 (jn + 120) (nI i) (nI i) (mk c d D) = some (mk (c.s_pl ((c.pl.s_rts f).s_rc (r + 1))) d D) ∧ (∀ q, q < 12 → f q = if q < posR nw nm i then c.pl.rts q else if q = posR nw nm i then some (jn + 120) else if q ≤ i then c.pl.rts (q - 1) else c.pl.rts q) := by
  intro n
  induction n with
  | zero => intro i c _ _ h; omega
  | succ n ih =>
    intro i c hrc hi hn hok hg
    have ok1 : okR D (some (jn + 120)) := Or.inr ⟨jn, nm, lg, pr, wt, rfl, hN⟩
    have fin : ∃ f : Nat → Option Nat, m_X4_add_J66 N 14 (jn + 120) (nI i) (mk c d D) = some (mk (c.s_pl ((c.pl.s_rts f).s_rc (r + 1))) d D) ∧ (∀ q, q < 12 → f q = if q < i then c.pl.rts q else if q = i then some (jn + 120) else if q ≤ i then c.pl.rts (q - 1) else c.pl.rts q) := by
      refine ⟨va_up c.pl.rts i (some (jn + 120)), ?_, fun q hq => ?_⟩
      · unfold m_X4_add_J66
        rw [yr_14_2, Option.bind_some, yuQ_17 (by omega) ok1, Option.bind_some, yr_14_3, Option.bind_some, nI_1, yw_14_3, Option.bind_some]
        rw [show (c.s_pl (c.pl.s_rts (va_up c.pl.rts i (some (jn + 120))))).pl.rc = r from hrc]
        rfl
      · by_cases e : q = i
        · subst e
          rw [upe, if_neg (by omega), if_pos rfl]
        · rw [upn e, if_neg e]
          split
          · rfl
          · rw [if_neg (by omega)]
    unfold m_X4_add_L20
    by_cases e : i = 0
    · subst e
      rw [if_pos (by decide)]
      exact fin
    · obtain ⟨p, rfl⟩ : ∃ p, i = p + 1 := ⟨i - 1, by omega⟩
      obtain ⟨j, l0, l1, l2, lg2, pr2, wt2, g1, g2, g3, g4⟩ := hg p (by omega)
      have ar := ya_17r (d := d) (D := D) (by omega) g1
      rw [if_neg (nI_nle (by omega) (by omega)), yr_14_2, Option.bind_some, show (1 : Int32) = nI 1 from rfl, pk_sub (by omega), Nat.add_sub_cancel, ar, Option.bind_some, yd_0 g2, Option.bind_some, yd_0 hN, Option.bind_some]
      by_cases z : nmR nw p ≤ nm
      · rw [if_pos ((nI_leI (by omega) (by omega)).mpr z), show posR nw nm (p + 1) = p + 1 from if_pos z]
        exact fin
      · rw [if_neg (fun y => z ((nI_leI (by omega) (by omega)).mp y)), show posR nw nm (p + 1) = posR nw nm p from if_neg z]
        have pl := posR_le (now := nw) (nm := nm) p
        have ok2 : ∀ q, q < 12 → okR D ((c.s_pl (c.pl.s_rts (va_up c.pl.rts (p + 1) (c.pl.rts p)))).pl.rts q) := fun q hq => by
          show okR D (va_up c.pl.rts (p + 1) (c.pl.rts p) q)
          by_cases e2 : q = p + 1
          · subst e2; rw [upe]; exact hok _ (by omega)
          · rw [upn e2]; exact hok q hq
        obtain ⟨f, f1, f2⟩ := ih p (c.s_pl (c.pl.s_rts (va_up c.pl.rts (p + 1) (c.pl.rts p)))) hrc (by omega) (by omega) ok2 (fun q hq => by
          obtain ⟨j, l0, l1, l2, lg3, pr3, wt3, g1, g2⟩ := hg q (by omega)
          refine ⟨j, l0, l1, l2, lg3, pr3, wt3, ?_, g2⟩
          show va_up c.pl.rts (p + 1) (c.pl.rts p) q = _
          rw [upn (by omega)]
          exact g1)
        have em : nI (p + 1) + -nI 1 = nI p := pk_m1 p
        refine ⟨f, ?_, fun q hq => ?_⟩
        · rw [Option.bind_some, Option.bind_some, ya_17 (by omega), Option.bind_some, yuQ_17 (by omega) (hok _ (by omega)), Option.bind_some, em]
          exact f1
        · rw [f2 q hq]
          show (if q < posR nw nm p then va_up c.pl.rts (p + 1) (c.pl.rts p) q else if q = posR nw nm p then some (jn + 120) else if q ≤ p then va_up c.pl.rts (p + 1) (c.pl.rts p) (q - 1) else va_up c.pl.rts (p + 1) (c.pl.rts p) q) = _
          by_cases h1 : q < posR nw nm p
          · rw [if_pos h1, if_pos h1, upn (by omega)]
          · rw [if_neg h1, if_neg h1]
            by_cases h2 : q = posR nw nm p
            · rw [if_pos h2, if_pos h2]
            · rw [if_neg h2, if_neg h2]
              by_cases h3 : q ≤ p
              · rw [if_pos h3, if_pos (by omega), upn (by omega)]
              · rw [if_neg h3]
                by_cases h4 : q = p + 1
                · subst h4
                  rw [upe, if_pos (Nat.le_refl _), Nat.add_sub_cancel]
                · rw [upn h4, if_neg (by omega)]
/-- what is poured off: the plan's words -/
def aC (d : MS) (z : Nat) : Int32 := if z < 129 then d.now z else d.ahead z
def wC (d : MS) (z : Nat) : Int32 := if z < 129 then d.ahead z else d.now z
theorem pour1 : ∀ (n i : Nat) (d : MS), i ≤ 129 → 129 - i < n → ∃ g, m_X12_pours_L2 N n 101 119 (nI i) (mk c d D) = some (mk c (d.s_ahead g) D) ∧ ∀ z, g z = if i ≤ z ∧ z < 129 then d.now z else d.ahead z := by
  intro n
  induction n with
  | zero => intro i d _ h; omega
  | succ n ih =>
    intro i d hi hn
    unfold m_X12_pours_L2
    by_cases e : i = 129
    · subst e
      refine ⟨d.ahead, ?_, fun z => by rw [if_neg (by omega)]⟩
      rw [if_pos (by decide)]
      rfl
    · obtain ⟨g, g1, g2⟩ := ih (i + 1) (d.s_ahead (va_up d.ahead i (d.now i))) (by omega) (by omega)
      refine ⟨g, ?_, fun z => ?_⟩
      · rw [if_neg (by rw [show (129 : Int32) = nI 129 from rfl, nI_leI (by omega) (by omega)]; omega), ya_101 (by omega), Option.bind_some, yu_119 (by omega), Option.bind_some, nI_1]
        exact g1
      · rw [g2 z]
        show (if i + 1 ≤ z ∧ z < 129 then d.now z else va_up d.ahead i (d.now i) z) = _
        by_cases h1 : i + 1 ≤ z ∧ z < 129
        · rw [if_pos h1, if_pos (by omega)]
        · rw [if_neg h1]
          by_cases h2 : z = i
          · subst h2
            rw [upe, if_pos (by omega)]
          · rw [upn h2, if_neg (by omega)]
theorem pour2 : ∀ (n i : Nat) (d : MS), i ≤ 129 → 129 - i < n → ∃ g, m_X12_pours_L2 N n 119 101 (nI i) (mk c d D) = some (mk c (d.s_now g) D) ∧ ∀ z, g z = if i ≤ z ∧ z < 129 then d.ahead z else d.now z := by
  intro n
  induction n with
  | zero => intro i d _ h; omega
  | succ n ih =>
    intro i d hi hn
    unfold m_X12_pours_L2
    by_cases e : i = 129
    · subst e
      refine ⟨d.now, ?_, fun z => by rw [if_neg (by omega)]⟩
      rw [if_pos (by decide)]
      rfl
    · obtain ⟨g, g1, g2⟩ := ih (i + 1) (d.s_now (va_up d.now i (d.ahead i))) (by omega) (by omega)
      refine ⟨g, ?_, fun z => ?_⟩
      · rw [if_neg (by rw [show (129 : Int32) = nI 129 from rfl, nI_leI (by omega) (by omega)]; omega), ya_119 (by omega), Option.bind_some, yu_101 (by omega), Option.bind_some, nI_1]
        exact g1
      · rw [g2 z]
        show (if i + 1 ≤ z ∧ z < 129 then d.ahead z else va_up d.now i (d.ahead i) z) = _
        by_cases h1 : i + 1 ≤ z ∧ z < 129
        · rw [if_pos h1, if_pos (by omega)]
        · rw [if_neg h1]
          by_cases h2 : z = i
          · subst h2
            rw [upe, if_pos (by omega)]
          · rw [upn h2, if_neg (by omega)]
theorem pour1_ (hN : 200 ≤ N) : m_X12_pours N 101 119 (mk c d D) = some (mk c (d.s_ahead (aC d)) D) := by
  obtain ⟨g, g1, g2⟩ := pour1 (c := c) (D := D) (N := N) N 0 d (by omega) (by omega)
  have e : g = aC d := by
    funext z
    rw [g2 z]
    unfold aC
    by_cases h : z < 129
    · rw [if_pos (by omega), if_pos h]
    · rw [if_neg (by omega), if_neg h]
  rw [← e]
  exact g1
theorem pour2_ (hN : 200 ≤ N) : m_X12_pours N 119 101 (mk c d D) = some (mk c (d.s_now (wC d)) D) := by
  obtain ⟨g, g1, g2⟩ := pour2 (c := c) (D := D) (N := N) N 0 d (by omega) (by omega)
  have e : g = wC d := by
    funext z
    rw [g2 z]
    unfold wC
    by_cases h : z < 129
    · rw [if_pos (by omega), if_pos h]
    · rw [if_neg (by omega), if_neg h]
  rw [← e]
  exact g1
theorem xadds (hN : 200 ≤ N) {r M mc ms : Nat} {tr : Nat → Option Nat} {ns : Nat → Nat → Int32} (hM : M ≤ 12) (hst : ∀ q, q < M → Step D tr r q (ns q) (ns (q + 1))) {P0 : PL} : ∀ (k q n : Nat) (c : CS) (x y : Nat), q + k = M → k < n → c.tn = M → c.tread = tr → PR c.pl (ns q) → RO c.pl (ns q) D → c.pl.rc = r + q → (c.pl.rules = P0.rules ∧ c.pl.price = P0.price ∧ c.pl.kind = P0.kind) → c.pl.odds = P0.odds → c.pl.n = P0.n → ∃ Q, m_X11_book_L34 N mc ms n 10 (nI q) (mk c d D) x y = some (nI M, mk (c.s_pl Q) d D) ∧ PR Q (ns M) ∧ RO Q (ns M) D ∧ (Q.rules = P0.rules ∧ Q.price = P0.price ∧ Q.kind = P0.kind) ∧ Q.odds = P0.odds ∧ Q.n = P0.n := by
  intro k
  induction k with
  | zero =>
    intro q n c x y hq hn ht htr hP hR hr h1 h2 h3
    obtain ⟨n, rfl⟩ : ∃ m, n = m + 1 := ⟨n - 1, by omega⟩
    obtain rfl : q = M := by omega
    refine ⟨c.pl, ?_, hP, hR, h1, h2, h3⟩
    unfold m_X11_book_L34
    rw [yr_10_6, Option.bind_some, yr_77_3, Option.bind_some, ht, if_pos (nI_le (by omega) (by omega)), Option.bind_some, yr_77_3, Option.bind_some, ht]
    rfl
  | succ k ih =>
    intro q n c x y hq hn ht htr hP hR hr h1 h2 h3
    obtain ⟨n, rfl⟩ : ∃ m, n = m + 1 := ⟨n - 1, by omega⟩
    have st := hst q (by omega)
    have s0 := st.1
    obtain ⟨jn, nm, lg, pr, wt, e1, e2, e3, e4⟩ := st.go hP hR hr
    have hrc := hP.rc
    obtain ⟨f, f1, f2⟩ := xadd_gn (d := d) (D := D) (N := N) (nw := ns q) e3 (r := c.pl.rc) (by omega) e2 N c.pl.rc c rfl (Nat.le_refl _) (by omega) (fun z hz => okR_of (d := d.s_now (ns q)) hR hz) (fun z hz => by
      obtain ⟨j, l0, l1, l2, k1, k2, k3⟩ := hR.got (d := d.s_now (ns q)) hz
      have k2 := k2
      rw [← k3.nm] at k2
      exact ⟨j, l0, l1, l2, _, _, _, k1, k2, k3.lt.1, k3⟩)
    obtain ⟨e5, e6⟩ := e4 f f2
    obtain ⟨Q, q1, q2, q3, q4, q5, q6⟩ := ih (q + 1) n (c.s_pl ((c.pl.s_rts f).s_rc (c.pl.rc + 1))) x y (by omega) (by omega) ht htr e5 e6 (by show c.pl.rc + 1 = _; omega) h1 h2 h3
    refine ⟨Q, ?_, q2, q3, q4, q5, q6⟩
    have tq : c.tread q = some (jn + 120) := by rw [htr]; exact e1
    have ar := ya_79r (d := d) (D := D) (i := q) (by omega) tq
    unfold m_X11_book_L34
    rw [yr_10_6, Option.bind_some, yr_77_3, Option.bind_some, ht, if_neg (by rw [nI_leI (by omega) (by omega)]; omega), yr_10_0, Option.bind_some, yr_11_3, Option.bind_some, Option.bind_some, yr_77_2, Option.bind_some, ar, Option.bind_some, yo_14, Option.bind_some]
    have xa : m_X4_add N 14 (jn + 120) (mk c d D) = some (mk (c.s_pl ((c.pl.s_rts f).s_rc (c.pl.rc + 1))) d D) := by
      unfold m_X4_add
      rw [yr_14_3, Option.bind_some, if_pos (by rw [show (12 : Int32) = nI 12 from rfl, nI_ltI (by omega) (by omega)]; omega), Option.bind_some, Option.bind_some]
      exact f1
    rw [xa, Option.bind_some, nI_1]
    exact q1
end
