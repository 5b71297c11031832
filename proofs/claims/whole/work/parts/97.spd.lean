-- the paper: the reference's side, and both
def dT (d : MS) (x : Int32) (g : Nat → Int32) : MS := (d.s_written x).s_paper g
def KD (d d2 : MS) : Prop := ∃ x g, d2 = dT d x g
theorem KD.refl {d : MS} : KD d d := ⟨d.written, d.paper, rfl⟩
theorem KD.trans {d d2 d3 : MS} (h : KD d d2) (h2 : KD d2 d3) : KD d d3 := by
  obtain ⟨x, g, rfl⟩ := h
  obtain ⟨x2, g2, rfl⟩ := h2
  exact ⟨x2, g2, rfl⟩
theorem KD.rn {d d2 : MS} (h : KD d d2) {i l0 l1 l2 lg pr wt : Nat} (e : RN d.now i l0 l1 l2 lg pr wt) : RN d2.now i l0 l1 l2 lg pr wt := by
  obtain ⟨x, g, rfl⟩ := h
  exact e
def YT (d : MS) (W : List Nat) : Prop := d.written = nI W.length ∧ ∀ i b, W[i]? = some b → d.paper i = nI b
theorem dv_f : ∀ x, x < 100 → ∀ y, y < 100 → nI (100 * x + y) / 10 = nI ((100 * x + y) / 10) := by decide +kernel
theorem dv_n {v : Nat} (h : v ≤ 9999) : nI v / 10 = nI (v / 10) := by
  have := dv_f (v / 100) (by omega) (v % 100) (by omega)
  rw [show 100 * (v / 100) + v % 100 = v by omega] at this
  exact this
theorem dgL_r {v : Nat} (h : 10 ≤ v) (h2 : v ≤ 9999) : dgL v = dgL (v / 10) ++ [48 + v % 10] := by
  unfold dgL
  rw [if_neg (by omega)]
  by_cases a : v < 100
  · rw [if_pos a, if_pos (by omega)]
    rfl
  · rw [if_neg a]
    by_cases b : v < 1000
    · rw [if_pos b, if_neg (by omega), if_pos (by omega)]
      show [48 + v / 100, 48 + v / 10 % 10, 48 + v % 10] = [48 + v / 10 / 10, 48 + v / 10 % 10, 48 + v % 10]
      rw [show v / 10 / 10 = v / 100 by omega]
    · rw [if_neg b, if_neg (by omega), if_neg (by omega), if_pos (by omega)]
      show [48 + v / 1000, 48 + v / 100 % 10, 48 + v / 10 % 10, 48 + v % 10] = [48 + v / 10 / 100, 48 + v / 10 / 10 % 10, 48 + v / 10 % 10, 48 + v % 10]
      rw [show v / 10 / 100 = v / 1000 by omega, show v / 10 / 10 = v / 100 by omega]
section
variable {c c0 : CS} {d d0 : MS} {D D0 : mM} {N k : Nat} {a : Int32} {P : PL}
theorem ywr {b : Nat} {W : List Nat} (h : YT d W) (hl : W.length < 260) : ∃ d2, m_X12_writes 100 (nI b) (mk c d D) = some (mk c d2 D) ∧ KD d d2 ∧ YT d2 (W ++ [b]) := by
  refine ⟨dT d (nI (W.length + 1)) (va_up d.paper W.length (nI b)), ?_, ⟨_, _, rfl⟩, ?_, ?_⟩
  · unfold m_X12_writes
    rw [yr_100_6, Option.bind_some, yr_100_5, Option.bind_some, h.1, nI_1, yw_100_5, Option.bind_some, yu_104 hl, Option.bind_some]
    rfl
  · show nI (W.length + 1) = nI (W ++ [b]).length
    rw [List.length_append]
    rfl
  · refine tsx (f2 := (dT d (nI (W.length + 1)) (va_up d.paper W.length (nI b))).paper) h.2 (fun i hi => ?_) (fun q b2 hq => ?_)
    · show va_up d.paper W.length (nI b) i = _
      rw [upn (by omega)]
    · show va_up d.paper W.length (nI b) (W.length + q) = _
      cases q with
      | zero =>
        cases hq
        exact upe
      | succ q => cases hq
theorem ywn : ∀ (r v : Nat) (d : MS) (W : List Nat), YT d W → W.length + (dgL v).length ≤ 250 → v ≤ 9999 → v < 10 ^ r → 1 ≤ r → ∃ d2, m_X12_writesNumber r 100 (nI v) (mk c d D) = some (mk c d2 D) ∧ KD d d2 ∧ YT d2 (W ++ dgL v) := by
  intro r
  induction r with
  | zero => intro v d W _ _ _ _ h; omega
  | succ r ih =>
    intro v d W h hl hv hr _
    have j14 : ∀ (d : MS) (W : List Nat), YT d W → W.length < 260 → ∃ d2, m_X12_writesNumber_J14 100 (nI v) (mk c d D) = some (mk c d2 D) ∧ KD d d2 ∧ YT d2 (W ++ [48 + v % 10]) := by
      intro d W h hl
      obtain ⟨d2, w1, w2, w3⟩ := ywr (c := c) (D := D) (b := 48 + v % 10) h hl
      refine ⟨d2, ?_, w2, w3⟩
      unfold m_X12_writesNumber_J14
      rw [yo_100, Option.bind_some, dv_n hv, show (10 : Int32) = nI 10 from rfl, show (48 : Int32) = nI 48 from rfl, pk_mul, pk_sub (by omega), nI_add, show 48 + (v - v / 10 * 10) = 48 + v % 10 by omega, w1, Option.bind_some]
    unfold m_X12_writesNumber
    by_cases z : v < 10
    · have e : dgL v = [48 + v % 10] := by
        unfold dgL
        rw [if_pos z, Nat.mod_eq_of_lt z]
      rw [e] at hl ⊢
      rw [if_pos (by rw [show (9 : Int32) = nI 9 from rfl, nI_leI (by omega) (by omega)]; omega)]
      exact j14 d W h (by have : [48 + v % 10].length = 1 := rfl; omega)
    · have e := dgL_r (v := v) (by omega) hv
      have el : (dgL v).length = (dgL (v / 10)).length + 1 := by rw [e, List.length_append]; rfl
      have r1 : 1 ≤ r := by
        rcases Nat.eq_zero_or_pos r with q | q
        · subst q
          rw [show 10 ^ (0 + 1) = 10 from rfl] at hr
          omega
        · exact q
      rw [Nat.pow_succ] at hr
      obtain ⟨d2, k1, k2, k3⟩ := ih (v / 10) d W h (by omega) (by omega) (by omega) r1
      obtain ⟨d3, k4, k5, k6⟩ := j14 d2 _ k3 (by rw [List.length_append]; omega)
      refine ⟨d3, ?_, k2.trans k5, ?_⟩
      · rw [if_neg (by rw [show (9 : Int32) = nI 9 from rfl, nI_leI (by omega) (by omega)]; omega), yo_100, Option.bind_some, dv_n hv, k1, Option.bind_some]
        exact k4
      · rw [e, ← List.append_assoc]
        exact k6
theorem ysp29 (hN : 100 ≤ N) {k7 : Nat → Int32 → mM → Option (Int32 × mM)} {i l0 l1 l2 lg pr wt : Nat} {W : List Nat} (hi : i < 12) (hl : W.length ≤ 240) : ∀ (n q : Nat) (d : MS), RN d.now i l0 l1 l2 lg pr wt → q ≤ nlt l1 l2 → nlt l1 l2 - q < n → YT d (W ++ ltTo l0 l1 l2 q) → ∃ d2, m_X12_spell_L29 N k7 n 100 (nI i) (nI q) (mk c d D) = m_X12_spell_L70 N k7 N 100 (nI i) 0 (mk c d2 D) ∧ KD d d2 ∧ YT d2 ((W ++ ltTo l0 l1 l2 (nlt l1 l2)) ++ [61]) := by
  intro n
  induction n with
  | zero => intro q d _ _ h; omega
  | succ n ih =>
    intro q d hRN hq hn h
    have nl := nlt_le (l1 := l1) (l2 := l2)
    have wl : (W ++ ltTo l0 l1 l2 q).length = W.length + q := by rw [List.length_append, ltTo_len]
    unfold m_X12_spell_L29
    rw [yo_100, Option.bind_some, yletters hN hi hRN, Option.bind_some]
    by_cases e : q = nlt l1 l2
    · subst e
      obtain ⟨d2, w1, w2, w3⟩ := ywr (c := c) (D := D) (b := 61) h (by rw [wl]; omega)
      have w1 : m_X12_writes 100 61 (mk c d D) = some (mk c d2 D) := w1
      refine ⟨d2, ?_, w2, w3⟩
      rw [if_pos (nI_le (by omega) (by omega)), Option.bind_some, w1, Option.bind_some]
    · obtain ⟨g1, g2⟩ := hRN.lq (q := q) (by omega)
      obtain ⟨d2, w1, w2, w3⟩ := ywr (c := c) (D := D) (b := lq l0 l1 l2 q) h (by rw [wl]; omega)
      rw [List.append_assoc] at w3
      obtain ⟨d3, y1, y2, y3⟩ := ih (q + 1) d2 (w2.rn hRN) (by omega) (by omega) w3
      refine ⟨d3, ?_, w2.trans y2, y3⟩
      rw [if_neg (by rw [nI_leI (by omega) (by omega)]; omega), yr_100_0, Option.bind_some, show (50 : Int32) = nI 50 from rfl, show (6 : Int32) = nI 6 from rfl, pk_mul, nI_add, nI_add, ya_101 (by omega), g1, Option.bind_some, Option.bind_some, w1, Option.bind_some, nI_1]
      exact y1
theorem ysp70 (hN : 100 ≤ N) {k7 : Nat → Int32 → mM → Option (Int32 × mM)} {i l0 l1 l2 lg pr wt : Nat} {W : List Nat} (hi : i < 12) (hl : W.length ≤ 240) : ∀ (n q : Nat) (d : MS), RN d.now i l0 l1 l2 lg pr wt → q ≤ 4 → 4 - q < n → YT d (W ++ lgTo lg q) → ∃ n1 d2, m_X12_spell_L70 N k7 n 100 (nI i) (nI q) (mk c d D) = m_X12_spell_L70 N k7 (n1 + 1) 100 (nI i) (nI 4) (mk c d2 D) ∧ KD d d2 ∧ YT d2 (W ++ lgTo lg 4) := by
  intro n
  induction n with
  | zero => intro q d _ _ h; omega
  | succ n ih =>
    intro q d hRN hq hn h
    by_cases e : q = 4
    · subst e
      exact ⟨n, d, rfl, KD.refl, h⟩
    · have wl : (W ++ lgTo lg q).length ≤ W.length + 4 := by
        have := lgTo_le (lg := lg) q
        rw [List.length_append]
        omega
      have yo := yover (c := c) (D := D) (k := q) hRN hi (by omega)
      have st : m_X12_spell_L70 N k7 (n + 1) 100 (nI i) (nI q) (mk c d D) = if nI (gb lg q) = 0 then m_X12_spell_L70 N k7 n 100 (nI i) (nI q + 1) (mk c d D) else (m_X12_writes 100 (48 + nI q) (mk c d D)).bind fun x35 => m_X12_spell_L70 N k7 n 100 (nI i) (nI q + 1) x35 := by
        conv => lhs; unfold m_X12_spell_L70
        rw [if_neg (by rw [show (4 : Int32) = nI 4 from rfl, nI_leI (by omega) (by omega)]; omega), yo_100, Option.bind_some, yo, Option.bind_some, Option.bind_some]
        rfl
      rw [st, nI_1]
      by_cases z : gb lg q = 0
      · rw [if_pos (nI_gb.mpr z)]
        have e2 : lgTo lg (q + 1) = lgTo lg q := by
          show lgTo lg q ++ (if gb lg q = 1 then [48 + q] else []) = _
          rw [if_neg (by omega), List.append_nil]
        exact ih (q + 1) d hRN (by omega) (by omega) (by rw [e2]; exact h)
      · have z1 : gb lg q = 1 := by have := gb_lt (lg := lg) (k := q); omega
        have e2 : lgTo lg (q + 1) = lgTo lg q ++ [48 + q] := by
          show lgTo lg q ++ (if gb lg q = 1 then [48 + q] else []) = _
          rw [if_pos z1]
        obtain ⟨d2, w1, w2, w3⟩ := ywr (c := c) (D := D) (b := 48 + q) h (by omega)
        rw [List.append_assoc, ← e2] at w3
        obtain ⟨n1, d3, y1, y2, y3⟩ := ih (q + 1) d2 (w2.rn hRN) (by omega) (by omega) w3
        refine ⟨n1, d3, ?_, w2.trans y2, y3⟩
        rw [if_neg (fun y => z (nI_gb.mp y)), show (48 : Int32) = nI 48 from rfl, nI_add, w1, Option.bind_some]
        exact y1
/-- a route spelled, the reference's side -/
theorem yspR (hN : 100 ≤ N) {k7 : Nat → Int32 → mM → Option (Int32 × mM)} {i l0 l1 l2 lg pr wt : Nat} {W : List Nat} (hi : i < 12) (hl : W.length ≤ 220) (hRN : RN d.now i l0 l1 l2 lg pr wt) (h : YT d W) : ∃ d2, m_X12_spell_J27 N k7 100 (nI i) (mk c d D) = k7 100 (nI (i + 1)) (mk c d2 D) ∧ KD d d2 ∧ YT d2 (W ++ spR l0 l1 l2 lg pr wt) := by
  have hwt := hRN.2.2.2.2
  have hpr := hRN.2.2.2.1
  have nl := nlt_le (l1 := l1) (l2 := l2)
  obtain ⟨d1, e1, k1, t1⟩ := ysp29 (c := c) (D := D) (k7 := k7) (W := W) hN hi (by omega) N 0 d hRN (by omega) (by omega) (by show YT d (W ++ []); rw [List.append_nil]; exact h)
  have w1 : ((W ++ ltTo l0 l1 l2 (nlt l1 l2)) ++ [61]).length = W.length + nlt l1 l2 + 1 := by
    rw [List.length_append, List.length_append, ltTo_len]
    rfl
  have r1 := k1.rn hRN
  obtain ⟨n1, d2, e2, k2, t2⟩ := ysp70 (c := c) (D := D) (k7 := k7) hN hi (by rw [w1]; omega) N 0 d1 r1 (by omega) (by omega) (by show YT d1 (((W ++ ltTo l0 l1 l2 (nlt l1 l2)) ++ [61]) ++ []); rw [List.append_nil]; exact t1)
  have w2 : (((W ++ ltTo l0 l1 l2 (nlt l1 l2)) ++ [61]) ++ lgTo lg 4).length ≤ W.length + 8 := by
    have := lgTo_le (lg := lg) 4
    rw [List.length_append, w1]
    omega
  have r2 := k2.rn r1
  obtain ⟨d3, e3, k3, t3⟩ := ywr (c := c) (D := D) (b := 58) t2 (by omega)
  have e3 : m_X12_writes 100 58 (mk c d2 D) = some (mk c d3 D) := e3
  have r3 := k3.rn r2
  have d4l := dgL_le (v := pr)
  obtain ⟨d4, e4, k4, t4⟩ := ywn (c := c) (D := D) 5 pr d3 _ t3 (by rw [List.length_append]; show _ + 1 + _ ≤ _; omega) hpr.2 (by omega) (by omega)
  have r4 := k4.rn r3
  have hs : W ++ spR l0 l1 l2 lg pr wt = (((((W ++ ltTo l0 l1 l2 (nlt l1 l2)) ++ [61]) ++ lgTo lg 4) ++ [58]) ++ dgL pr) ++ wtL wt := by
    unfold spR
    simp only [List.append_assoc]
  have w4 : (((((W ++ ltTo l0 l1 l2 (nlt l1 l2)) ++ [61]) ++ lgTo lg 4) ++ [58]) ++ dgL pr).length ≤ W.length + 13 := by
    rw [List.length_append, List.length_append]
    show _ + 1 + _ ≤ _
    omega
  have kk := ((k1.trans k2).trans k3).trans k4
  have tail : ∃ d5, m_X12_spell_L70 N k7 (n1 + 1) 100 (nI i) (nI 4) (mk c d2 D) = k7 100 (nI (i + 1)) (mk c d5 D) ∧ KD d d5 ∧ YT d5 (W ++ spR l0 l1 l2 lg pr wt) := by
    unfold m_X12_spell_L70
    rw [if_pos (by decide), yo_100, Option.bind_some, e3, Option.bind_some, yo_100, Option.bind_some, yfee r3 hi, Option.bind_some, Option.bind_some, e4, Option.bind_some, yo_100, Option.bind_some, ywanted r4 hi, Option.bind_some]
    by_cases z : wt = 0
    · refine ⟨d4, ?_, kk, ?_⟩
      · rw [if_pos (by rw [z]; rfl)]
        unfold m_X12_spell_J139
        rw [nI_1]
      · rw [hs]
        unfold wtL
        rw [if_pos z, List.append_nil]
        exact t4
    · have ew : wtL wt = [42] ++ dgL wt := by
        unfold wtL
        rw [if_neg z]
      have d5l := dgL_le (v := wt)
      obtain ⟨d5, e5, k5, t5⟩ := ywr (c := c) (D := D) (b := 42) t4 (by omega)
      have e5 : m_X12_writes 100 42 (mk c d4 D) = some (mk c d5 D) := e5
      have r5 := k5.rn r4
      obtain ⟨d6, e6, k6, t6⟩ := ywn (c := c) (D := D) 5 wt d5 _ t5 (by rw [List.length_append]; show _ + 1 + _ ≤ _; omega) (by omega) (by omega) (by omega)
      refine ⟨d6, ?_, (kk.trans k5).trans k6, ?_⟩
      · rw [if_neg (by rw [show (0 : Int32) = nI 0 from rfl, nI_eq (by omega) (by omega)]; exact z), Option.bind_some, e5, Option.bind_some, yo_100, Option.bind_some, ywanted r5 hi, Option.bind_some, Option.bind_some, e6, Option.bind_some]
        unfold m_X12_spell_J139
        rw [nI_1]
      · rw [hs, ew, ← List.append_assoc]
        exact t6
  obtain ⟨d5, y1, y2, y3⟩ := tail
  refine ⟨d5, ?_, y2, y3⟩
  unfold m_X12_spell_J27
  exact e1.trans (e2.trans y1)
end
