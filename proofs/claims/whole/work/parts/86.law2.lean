-- the law: all rounds
def BookOK : Prop := ∀ (c : CS) (d : MS) (D : mM), RR c d D → ∃ r c2 d2 D2, m_X11_book 20000 13 52 10 (mk c d D) = some (r, mk c2 d D2) ∧ m_X12_book 20000 100 (mk c2 d D2) = some (r, mk c2 d2 D2) ∧ RR c2 d2 D2
def SpellOK : Prop := ∀ (c : CS) (d : MS) (D : mM), RR c d D → ∃ r c2 d2 D2, m_X11_spell 20000 300 600 10 (mk c d D) = some (r, mk c2 d D2) ∧ m_X12_spell 20000 100 (mk c2 d D2) = some (r, mk c2 d2 D2) ∧ RR c2 d2 D2
section
variable {c : CS} {d : MS} {D : mM} {sc : Nat → Int32} {L mc ms i kc ks : Nat} {k18 : Nat → Nat → Int32 → mM → Nat → Nat → Option Unit}
theorem lJ970 (hB : BookOK) (hi : i + 5 ≤ L) (hL : L ≤ 2560) (h : RR c d D) (h1 : kc + 300 ≤ mc) (h2 : ks + 600 ≤ ms) (hk : ∀ c2 d2 D2 k1 k2, RR c2 d2 D2 → k1 ≤ kc + 300 → k2 ≤ ks + 600 → k18 10 100 (nI i + 5) (mk c2 d2 D2) k1 k2 = some ()) : m_L_law_J970 sc L 20000 mc ms k18 10 100 (nI i) (mk c d D) kc ks = some () := by
  obtain ⟨r, c2, d2, D2, e1, e2, e3⟩ := hB c d D h
  have o : oif (kc + 13 ≤ mc ∧ ks + 52 ≤ ms) = some () := if_pos ⟨by omega, by omega⟩
  simp only [m_L_law_J970, m_L_law_J1748, o, Option.bind_some, yo_10, yo_100, e1, e2, if_true, eq_self]
  exact hk _ _ _ _ _ e3 (by omega) (by omega)
theorem lJ1108 (hS : SpellOK) (hi : i + 5 ≤ L) (hL : L ≤ 2560) (h : RR c d D) (h1 : kc + 300 ≤ mc) (h2 : ks + 600 ≤ ms) (hk : ∀ c2 d2 D2 k1 k2, RR c2 d2 D2 → k1 ≤ kc + 300 → k2 ≤ ks + 600 → k18 10 100 (nI i + 5) (mk c2 d2 D2) k1 k2 = some ()) : m_L_law_J1108 sc L 20000 mc ms k18 10 100 (nI i) (mk c d D) kc ks = some () := by
  obtain ⟨r, c2, d2, D2, e1, e2, e3⟩ := hS c d D h
  have o : oif (kc + 300 ≤ mc ∧ ks + 600 ≤ ms) = some () := if_pos ⟨by omega, by omega⟩
  simp only [m_L_law_J1108, m_L_law_J1748, o, Option.bind_some, yo_10, yo_100, e1, e2, if_true, eq_self]
  exact hk _ _ _ _ _ e3 (by omega) (by omega)
theorem L5_toInt (hL : L ≤ 2560) : (nI L - 5).toInt = (L : Int) - 5 := by
  by_cases h : 5 ≤ L
  · rw [show (5 : Int32) = nI 5 from rfl, pk_sub h, nI_toInt (by omega)]
    omega
  · have : ∀ L, L < 5 → (nI L - 5).toInt = (L : Int) - 5 := by decide +kernel
    exact this L (by omega)
set_option maxHeartbeats 4000000 in
set_option maxRecDepth 8192 in
theorem l18 (hB : BookOK) (hS : SpellOK) (hL : L ≤ 2560) : ∀ (n q : Nat) (c : CS) (d : MS) (D : mM) (kc ks : Nat), RR c d D → 5 * q ≤ L → L < 5 * (q + n) → kc ≤ 132 + 300 * q → ks ≤ 3841 + 600 * q → m_L_law_L18 sc L 20000 600000 7302250 n 10 100 (nI (5 * q)) (mk c d D) kc ks = some () := by
  intro n
  induction n with
  | zero => intro q c d D kc ks _ h1 h2; omega
  | succ n ih =>
    intro q c d D kc ks h h1 h2 h3 h4
    unfold m_L_law_L18
    by_cases e : L < 5 * q + 5
    · rw [if_pos (by rw [Int32.lt_iff_toInt_lt, L5_toInt hL, nI_toInt (by omega)]; omega)]
    · rw [if_neg (by rw [Int32.lt_iff_toInt_lt, L5_toInt hL, nI_toInt (by omega)]; omega)]
      have s0 : sld sc L (nI (5 * q)) = some (sc (5 * q)) := by
        have := sl_k (sc := sc) (L := L) (i := 5 * q) 0 (by omega) hL
        rw [show nI (5 * q) + nI 0 = nI (5 * q) from Int32.add_zero _, Nat.add_zero] at this
        exact this
      have e5 : nI (5 * q) + 5 = nI (5 * (q + 1)) := by
        rw [show (5 : Int32) = nI 5 from rfl, nI_add, show 5 * q + 5 = 5 * (q + 1) by omega]
      have kk : ∀ c2 d2 D2 k1 k2, RR c2 d2 D2 → k1 ≤ kc + 300 → k2 ≤ ks + 600 → m_L_law_L18 sc L 20000 600000 7302250 n 10 100 (nI (5 * q) + 5) (mk c2 d2 D2) k1 k2 = some () := by
        intro c2 d2 D2 k1 k2 hr hk1 hk2
        rw [e5]
        exact ih (q + 1) c2 d2 D2 k1 k2 hr (by omega) (by omega) (by omega) (by omega)
      have k0 : ∀ c2 d2, RR c2 d2 D → m_L_law_L18 sc L 20000 600000 7302250 n 10 100 (nI (5 * q) + 5) (mk c2 d2 D) kc ks = some () := fun c2 d2 hr => kk c2 d2 D kc ks hr (by omega) (by omega)
      rw [s0, Option.bind_some]
      by_cases q0 : (sc (5 * q) &&& 63) = 0
      · rw [if_pos q0]
        exact lJ236 (by omega) hL h k0
      rw [if_neg q0]
      by_cases q1 : (sc (5 * q) &&& 63) = 1
      · rw [if_pos q1]
        exact lJ269 (by omega) hL h k0
      rw [if_neg q1]
      by_cases q2 : (sc (5 * q) &&& 63) = 2
      · rw [if_pos q2]
        exact lJ302 (by omega) hL h k0
      rw [if_neg q2]
      by_cases q3 : (sc (5 * q) &&& 63) = 3
      · rw [if_pos q3]
        exact lJ345 (by omega) hL h k0
      rw [if_neg q3]
      by_cases q4 : (sc (5 * q) &&& 63) = 4
      · rw [if_pos q4]
        exact lJ358 (by omega) hL h k0
      rw [if_neg q4]
      by_cases q5 : (sc (5 * q) &&& 63) = 5
      · rw [if_pos q5]
        exact lJ391 (by omega) hL h k0
      rw [if_neg q5]
      by_cases q6 : (sc (5 * q) &&& 63) = 6
      · rw [if_pos q6]
        exact lJ415 (by omega) hL h k0
      rw [if_neg q6]
      by_cases q7 : (sc (5 * q) &&& 63) = 7
      · rw [if_pos q7]
        exact lJ449 (by omega) hL h k0
      rw [if_neg q7]
      by_cases q8 : (sc (5 * q) &&& 63) = 8
      · rw [if_pos q8]
        exact lJ482 (by omega) hL h k0
      rw [if_neg q8]
      by_cases q9 : (sc (5 * q) &&& 63) = 9
      · rw [if_pos q9]
        exact lJ516 (by omega) hL h k0
      rw [if_neg q9]
      by_cases q10 : (sc (5 * q) &&& 63) = 10
      · rw [if_pos q10]
        exact lJ549 (by omega) hL h k0
      rw [if_neg q10]
      by_cases q11 : (sc (5 * q) &&& 63) = 11
      · rw [if_pos q11]
        exact lJ583 (by omega) hL h k0
      rw [if_neg q11]
      by_cases q12 : (sc (5 * q) &&& 63) = 12
      · rw [if_pos q12]
        exact lJ626 (by omega) hL h k0
      rw [if_neg q12]
      by_cases q13 : (sc (5 * q) &&& 63) = 13
      · rw [if_pos q13]
        exact lJ659 (by omega) hL h k0
      rw [if_neg q13]
      by_cases q14 : (sc (5 * q) &&& 63) = 14
      · rw [if_pos q14]
        exact lJ692 (by omega) hL h k0
      rw [if_neg q14]
      by_cases q15 : (sc (5 * q) &&& 63) = 15
      · rw [if_pos q15]
        exact lJ736 (by omega) hL h k0
      rw [if_neg q15]
      by_cases q16 : (sc (5 * q) &&& 63) = 16
      · rw [if_pos q16]
        exact lJ770 (by omega) hL h k0
      rw [if_neg q16]
      by_cases q17 : (sc (5 * q) &&& 63) = 17
      · rw [if_pos q17]
        exact lJ814 (by omega) hL h k0
      rw [if_neg q17]
      by_cases q18 : (sc (5 * q) &&& 63) = 18
      · rw [if_pos q18]
        exact lJ847 (by omega) hL h k0
      rw [if_neg q18]
      by_cases q19 : (sc (5 * q) &&& 63) = 19
      · rw [if_pos q19]
        exact lJ891 (by omega) hL h k0
      rw [if_neg q19]
      by_cases q20 : (sc (5 * q) &&& 63) = 20
      · rw [if_pos q20]
        exact lJ934 (by omega) hL h k0
      rw [if_neg q20]
      by_cases q21 : (sc (5 * q) &&& 63) = 21
      · rw [if_pos q21]
        exact lJ957 (by omega) hL h k0
      rw [if_neg q21]
      by_cases q22 : (sc (5 * q) &&& 63) = 22
      · rw [if_pos q22]
        exact lJ970 hB (by omega) hL h (by omega) (by omega) kk
      rw [if_neg q22]
      by_cases q23 : (sc (5 * q) &&& 63) = 23
      · rw [if_pos q23]
        exact lJ983 (by omega) hL h k0
      rw [if_neg q23]
      by_cases q24 : (sc (5 * q) &&& 63) = 24
      · rw [if_pos q24]
        exact lJ996 (by omega) hL h k0
      rw [if_neg q24]
      by_cases q25 : (sc (5 * q) &&& 63) = 25
      · rw [if_pos q25]
        exact lJ1029 (by omega) hL h k0
      rw [if_neg q25]
      by_cases q26 : (sc (5 * q) &&& 63) = 26
      · rw [if_pos q26]
        exact lJ1062 (by omega) hL h k0
      rw [if_neg q26]
      by_cases q27 : (sc (5 * q) &&& 63) = 27
      · rw [if_pos q27]
        exact lJ1085 (by omega) hL h k0
      rw [if_neg q27]
      by_cases q28 : (sc (5 * q) &&& 63) = 28
      · rw [if_pos q28]
        exact lJ1108 hS (by omega) hL h (by omega) (by omega) kk
      rw [if_neg q28]
      by_cases q29 : (sc (5 * q) &&& 63) = 29
      · rw [if_pos q29]
        exact lJ1121 (by omega) hL h k0
      rw [if_neg q29]
      by_cases q30 : (sc (5 * q) &&& 63) = 30
      · rw [if_pos q30]
        exact lJ1144 (by omega) hL h k0
      rw [if_neg q30]
      by_cases q31 : (sc (5 * q) &&& 63) = 31
      · rw [if_pos q31]
        exact lJ1167 (by omega) hL h k0
      rw [if_neg q31]
      by_cases q32 : (sc (5 * q) &&& 63) = 32
      · rw [if_pos q32]
        exact lJ1211 (by omega) hL h k0
      rw [if_neg q32]
      by_cases q33 : (sc (5 * q) &&& 63) = 33
      · rw [if_pos q33]
        exact lJ1255 (by omega) hL h k0
      rw [if_neg q33]
      by_cases q34 : (sc (5 * q) &&& 63) = 34
      · rw [if_pos q34]
        exact lJ1288 (by omega) hL h k0
      rw [if_neg q34]
      by_cases q35 : (sc (5 * q) &&& 63) = 35
      · rw [if_pos q35]
        exact lJ1311 (by omega) hL h k0
      rw [if_neg q35]
      by_cases q36 : (sc (5 * q) &&& 63) = 36
      · rw [if_pos q36]
        exact lJ1364 (by omega) hL h k0
      rw [if_neg q36]
      by_cases q37 : (sc (5 * q) &&& 63) = 37
      · rw [if_pos q37]
        exact lJ1387 (by omega) hL h k0
      rw [if_neg q37]
      by_cases q38 : (sc (5 * q) &&& 63) = 38
      · rw [if_pos q38]
        exact lJ1430 (by omega) hL h k0
      rw [if_neg q38]
      by_cases q39 : (sc (5 * q) &&& 63) = 39
      · rw [if_pos q39]
        exact lJ1473 (by omega) hL h k0
      rw [if_neg q39]
      by_cases q40 : (sc (5 * q) &&& 63) = 40
      · rw [if_pos q40]
        exact lJ1506 (by omega) hL h k0
      rw [if_neg q40]
      by_cases q41 : (sc (5 * q) &&& 63) = 41
      · rw [if_pos q41]
        exact lJ1539 (by omega) hL h k0
      rw [if_neg q41]
      by_cases q42 : (sc (5 * q) &&& 63) = 42
      · rw [if_pos q42]
        exact lJ1572 (by omega) hL h k0
      rw [if_neg q42]
      by_cases q43 : (sc (5 * q) &&& 63) = 43
      · rw [if_pos q43]
        exact lJ1645 (by omega) hL h k0
      rw [if_neg q43]
      by_cases q44 : (sc (5 * q) &&& 63) = 44
      · rw [if_pos q44]
        exact lJ1679 (by omega) hL h k0
      rw [if_neg q44]
      by_cases q45 : (sc (5 * q) &&& 63) = 45
      · rw [if_pos q45]
        exact lJ1722 (by omega) hL h k0
      rw [if_neg q45]
      by_cases q46 : (sc (5 * q) &&& 63) = 46
      · rw [if_pos q46]
        exact lJ1735 (by omega) hL h k0
      rw [if_neg q46]
      unfold m_L_law_J1748
      exact k0 c d h
end
