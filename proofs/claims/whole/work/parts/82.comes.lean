-- the reference: one route more, in its place
theorem posR_congr {f g : Nat → Int32} {nm : Nat} : ∀ i, (∀ q, q < i → nmR f q = nmR g q) → posR f nm i = posR g nm i
  | 0, _ => rfl
  | i + 1, h => by
    unfold posR
    rw [h i (by omega), posR_congr i (fun q hq => h q (by omega))]
section
variable {c : CS} {d : MS} {D : mM} {N k : Nat} {a : Int32} {P : PL}
theorem y78 {i : Nat} (hi : i ≤ 11) : ∀ (n w : Nat) (d : MS), w ≤ 6 → 6 - w < n → ∃ g : Nat → Int32, m_X12_comes_L78 N n 100 (nI i) (nI w) (mk c d D) = some (mk c (d.s_now g) D) ∧ (∀ z, g z = if 50 + 6 * i + w ≤ z ∧ z < 50 + 6 * i + 6 then d.read (z - (50 + 6 * i)) else d.now z) := by
  intro n
  induction n with
  | zero => intro w d _ h; omega
  | succ n ih =>
    intro w d hw hn
    unfold m_X12_comes_L78
    by_cases e : w = 6
    · subst e
      refine ⟨d.now, ?_, fun z => by rw [if_neg (by omega)]⟩
      rw [if_pos (by decide)]
      rfl
    · obtain ⟨g, g1, g2⟩ := ih (w + 1) (d.s_now (va_up d.now (50 + 6 * i + w) (d.read w))) (by omega) (by omega)
      refine ⟨g, ?_, fun z => ?_⟩
      · rw [if_neg (by rw [show (6 : Int32) = nI 6 from rfl, nI_leI (by omega) (by omega)]; omega), yr_100_0, Option.bind_some, yr_100_26, Option.bind_some, ya_118 (by omega), Option.bind_some, show (50 : Int32) = nI 50 from rfl, show (6 : Int32) = nI 6 from rfl, pk_mul, nI_add, nI_add, yu_101 (by omega), Option.bind_some, nI_1]
        exact g1
      · rw [g2 z]
        show (if 50 + 6 * i + (w + 1) ≤ z ∧ z < 50 + 6 * i + 6 then d.read (z - (50 + 6 * i)) else va_up d.now (50 + 6 * i + w) (d.read w) z) = _
        by_cases h1 : 50 + 6 * i + (w + 1) ≤ z ∧ z < 50 + 6 * i + 6
        · rw [if_pos h1, if_pos (by omega)]
        · rw [if_neg h1]
          by_cases h2 : z = 50 + 6 * i + w
          · subst h2
            rw [upe, if_pos (by omega), Nat.add_sub_cancel_left]
          · rw [upn h2, if_neg (by omega)]
theorem y28 {k12 : Nat → Int32 → mM → Option mM} {i : Nat} (hi : i + 1 ≤ 11) : ∀ (n w : Nat) (d : MS), w ≤ 6 → 6 - w < n → ∃ g : Nat → Int32, m_X12_comes_L28 N k12 n 100 (nI (i + 1)) (nI w) (mk c d D) = k12 100 (nI i) (mk c (d.s_now g) D) ∧ (∀ z, g z = if 50 + 6 * (i + 1) + w ≤ z ∧ z < 50 + 6 * (i + 1) + 6 then d.now (z - 6) else d.now z) := by
  intro n
  induction n with
  | zero => intro w d _ h; omega
  | succ n ih =>
    intro w d hw hn
    have em : nI (i + 1) + -1 = nI i := pk_m1 i
    have ei : nI (i + 1) - 1 = nI i := by rw [show (1 : Int32) = nI 1 from rfl, pk_sub (by omega), Nat.add_sub_cancel]
    unfold m_X12_comes_L28
    by_cases e : w = 6
    · subst e
      refine ⟨d.now, ?_, fun z => by rw [if_neg (by omega)]⟩
      rw [if_pos (by decide), em]
      rfl
    · obtain ⟨g, g1, g2⟩ := ih (w + 1) (d.s_now (va_up d.now (50 + 6 * (i + 1) + w) (d.now (50 + 6 * i + w)))) (by omega) (by omega)
      refine ⟨g, ?_, fun z => ?_⟩
      · rw [if_neg (by rw [show (6 : Int32) = nI 6 from rfl, nI_leI (by omega) (by omega)]; omega), yr_100_0, Option.bind_some, Option.bind_some, ei, show (50 : Int32) = nI 50 from rfl, show (6 : Int32) = nI 6 from rfl, pk_mul, pk_mul, nI_add, nI_add, nI_add, nI_add, ya_101 (by omega), Option.bind_some, yu_101 (by omega), Option.bind_some, nI_1]
        exact g1
      · rw [g2 z]
        show (if 50 + 6 * (i + 1) + (w + 1) ≤ z ∧ z < 50 + 6 * (i + 1) + 6 then va_up d.now (50 + 6 * (i + 1) + w) (d.now (50 + 6 * i + w)) (z - 6) else va_up d.now (50 + 6 * (i + 1) + w) (d.now (50 + 6 * i + w)) z) = _
        by_cases h1 : 50 + 6 * (i + 1) + (w + 1) ≤ z ∧ z < 50 + 6 * (i + 1) + 6
        · rw [if_pos h1, if_pos (by omega), upn (by omega)]
        · rw [if_neg h1]
          by_cases h2 : z = 50 + 6 * (i + 1) + w
          · subst h2
            rw [upe, if_pos (by omega), show 50 + 6 * (i + 1) + w - 6 = 50 + 6 * i + w by omega]
          · rw [upn h2, if_neg (by omega)]
theorem y12 (hN : 100 ≤ N) {b0 b1 b2 : Nat} (q0 : b0 ≤ 122) (q1 : b1 ≤ 122) (q2 : b2 ≤ 122) : ∀ (n i : Nat) (d : MS), i ≤ 11 → i < n → d.read 0 = nI b0 → d.read 1 = nI b1 → d.read 2 = nI b2 → (∀ q, q < i → ∃ l0 l1 l2 lg pr wt, RN d.now q l0 l1 l2 lg pr wt) → ∃ g : Nat → Int32, m_X12_comes_L12 N n 100 (nI i) (mk c d D) = some (mk c (d.s_now g) D) ∧ (∀ z, g z = if 50 + 6 * posR d.now (nmN b0 b1 b2) i ≤ z ∧ z < 50 + 6 * posR d.now (nmN b0 b1 b2) i + 6 then d.read (z - (50 + 6 * posR d.now (nmN b0 b1 b2) i)) else if 50 + 6 * posR d.now (nmN b0 b1 b2) i + 6 ≤ z ∧ z < 50 + 6 * i + 6 then d.now (z - 6) else d.now z) := by
  intro n
  induction n with
  | zero => intro i d _ h; omega
  | succ n ih =>
    intro i d hi hn r0 r1 r2 hq
    have fin : ∃ g : Nat → Int32, m_X12_comes_J76 N 100 (nI i) (mk c d D) = some (mk c (d.s_now g) D) ∧ (∀ z, g z = if 50 + 6 * i ≤ z ∧ z < 50 + 6 * i + 6 then d.read (z - (50 + 6 * i)) else if 50 + 6 * i + 6 ≤ z ∧ z < 50 + 6 * i + 6 then d.now (z - 6) else d.now z) := by
      obtain ⟨g, g1, g2⟩ := y78 (c := c) (D := D) (N := N) hi N 0 d (by omega) (by omega)
      refine ⟨g, g1, fun z => ?_⟩
      rw [g2 z, Nat.add_zero]
      by_cases h : 50 + 6 * i ≤ z ∧ z < 50 + 6 * i + 6
      · rw [if_pos h, if_pos h]
      · rw [if_neg h, if_neg h, if_neg (by omega)]
    unfold m_X12_comes_L12
    by_cases e : i = 0
    · subst e
      rw [if_pos (by decide)]
      exact fin
    · obtain ⟨p, rfl⟩ : ∃ p, i = p + 1 := ⟨i - 1, by omega⟩
      obtain ⟨l0, l1, l2, lg, pr, wt, hp⟩ := hq p (by omega)
      obtain ⟨x, x1, x2, _⟩ := yby (c := c) (D := D) hN (by omega) hp r0 r1 r2 q0 q1 q2
      have ei : nI (p + 1) - 1 = nI p := by rw [show (1 : Int32) = nI 1 from rfl, pk_sub (by omega), Nat.add_sub_cancel]
      rw [← hp.nm] at x2
      rw [if_neg (nI_nle (by omega) (by omega)), yo_100, Option.bind_some, ei, x1, Option.bind_some]
      by_cases z : nmR d.now p ≤ nmN b0 b1 b2
      · rw [if_pos (x2.mpr z), show posR d.now (nmN b0 b1 b2) (p + 1) = p + 1 from if_pos z]
        exact fin
      · rw [if_neg (fun y => z (x2.mp y)), show posR d.now (nmN b0 b1 b2) (p + 1) = posR d.now (nmN b0 b1 b2) p from if_neg z]
        obtain ⟨g, g1, g2⟩ := y28 (c := c) (D := D) (N := N) (k12 := m_X12_comes_L12 N n) hi N 0 d (by omega) (by omega)
        have lo : ∀ q, q < 50 + 6 * (p + 1) → g q = d.now q := fun q h => by rw [g2 q, if_neg (by omega)]
        have hc : posR g (nmN b0 b1 b2) p = posR d.now (nmN b0 b1 b2) p := posR_congr p fun q h => by
          unfold nmR
          rw [lo _ (by omega), lo _ (by omega), lo _ (by omega)]
        have pl := posR_le (now := d.now) (nm := nmN b0 b1 b2) p
        obtain ⟨g', k1, k2⟩ := ih p (d.s_now g) (by omega) (by omega) r0 r1 r2 (fun q h => by
          obtain ⟨l0, l1, l2, lg, pr, wt, hx⟩ := hq q (by omega)
          exact ⟨l0, l1, l2, lg, pr, wt, hx.to fun w hw => lo _ (by omega)⟩)
        refine ⟨g', ?_, fun w => ?_⟩
        · rw [show (0 : Int32) = nI 0 from rfl, g1]
          exact k1
        · have k2 := k2 w
          rw [show (d.s_now g).now = g from rfl, hc, show (d.s_now g).read = d.read from rfl] at k2
          rw [k2]
          by_cases h1 : 50 + 6 * posR d.now (nmN b0 b1 b2) p ≤ w ∧ w < 50 + 6 * posR d.now (nmN b0 b1 b2) p + 6
          · rw [if_pos h1, if_pos h1]
          · rw [if_neg h1, if_neg h1]
            by_cases h2 : 50 + 6 * posR d.now (nmN b0 b1 b2) p + 6 ≤ w ∧ w < 50 + 6 * p + 6
            · rw [if_pos h2, if_pos (by omega), lo _ (by omega)]
            · rw [if_neg h2, g2 w]
              by_cases h3 : 50 + 6 * (p + 1) + 0 ≤ w ∧ w < 50 + 6 * (p + 1) + 6
              · rw [if_pos h3, if_pos (by omega)]
              · rw [if_neg h3, if_neg (by omega)]
end
