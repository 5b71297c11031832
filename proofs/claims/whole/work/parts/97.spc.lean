-- a route spelled: the text, the class's side
def ltTo (l0 l1 l2 : Nat) : Nat → List Nat
  | 0 => []
  | q + 1 => ltTo l0 l1 l2 q ++ [lq l0 l1 l2 q]
def lgTo (lg : Nat) : Nat → List Nat
  | 0 => []
  | i + 1 => lgTo lg i ++ (if gb lg i = 1 then [48 + i] else [])
def wtL (wt : Nat) : List Nat := if wt = 0 then [] else [42] ++ dgL wt
def spR (l0 l1 l2 lg pr wt : Nat) : List Nat := ltTo l0 l1 l2 (nlt l1 l2) ++ ([61] ++ (lgTo lg 4 ++ ([58] ++ (dgL pr ++ wtL wt))))
theorem ltTo_len {l0 l1 l2 : Nat} : ∀ q, (ltTo l0 l1 l2 q).length = q
  | 0 => rfl
  | q + 1 => by
    unfold ltTo
    rw [List.length_append, ltTo_len q]
    rfl
theorem lgTo_le {lg : Nat} : ∀ i, (lgTo lg i).length ≤ i
  | 0 => Nat.le_refl 0
  | i + 1 => by
    have := lgTo_le (lg := lg) i
    unfold lgTo
    rw [List.length_append]
    split
    · show _ + 1 ≤ _; omega
    · show _ + 0 ≤ _; omega
theorem lgTo_mono {lg : Nat} {i : Nat} : ∀ k, (lgTo lg i).length ≤ (lgTo lg (i + k)).length
  | 0 => Nat.le_refl _
  | k + 1 => by
    have := lgTo_mono (lg := lg) (i := i) k
    rw [show i + (k + 1) = i + k + 1 by omega]
    show _ ≤ (lgTo lg (i + k) ++ _).length
    rw [List.length_append]
    omega
theorem nlt_le {l1 l2 : Nat} : 1 ≤ nlt l1 l2 ∧ nlt l1 l2 ≤ 3 := by
  unfold nlt
  repeat' split
  all_goals omega
theorem wtL_le {wt : Nat} (h : wt ≤ 99) : (wtL wt).length ≤ 3 := by
  have := (dgL_le (v := wt)).2.2 h
  unfold wtL
  split
  · show 0 ≤ 3; omega
  · rw [List.length_append]
    show 1 + _ ≤ 3
    omega
theorem spR_len {l0 l1 l2 lg pr wt : Nat} : (spR l0 l1 l2 lg pr wt).length = nlt l1 l2 + (1 + ((lgTo lg 4).length + (1 + ((dgL pr).length + (wtL wt).length)))) := by
  unfold spR
  simp only [List.length_append, ltTo_len, List.length_cons, List.length_nil, Nat.zero_add]
theorem spR_le {l0 l1 l2 lg pr wt : Nat} (h : wt ≤ 99) : (spR l0 l1 l2 lg pr wt).length ≤ 16 := by
  have h1 := nlt_le (l1 := l1) (l2 := l2)
  have h2 := lgTo_le (lg := lg) 4
  have h3 := dgL_le (v := pr)
  have h4 := wtL_le h
  rw [spR_len]
  omega
/-- the room used up within a route: at most one new array -/
def BU (n m R n2 kc ks : Nat) : Prop := (n2 = n ∧ kc = 0 ∧ ks = 0) ∨ (n2 = 2 * n + 2 ∧ kc = 1 ∧ ks = 2 * n + 2 ∧ n < m + R)
theorem BU.step {n m R n2 kc ks p : Nat} (h : BU n m R n2 kc ks) (hp : p ≤ m + R) (hm : m ≤ n) (hR : R ≤ 16) (hn : 16 ≤ n) : kc + (if p ≤ n2 then 0 else 1) ≤ (if m + R ≤ n then 0 else 1) ∧ ks + (if p ≤ n2 then 0 else 2 * n2 + 2) ≤ (if m + R ≤ n then 0 else 2 * n + 2) ∧ BU n m R (grow n2 p) (kc + (if p ≤ n2 then 0 else 1)) (ks + (if p ≤ n2 then 0 else 2 * n2 + 2)) := by
  unfold grow BU
  rcases h with ⟨rfl, rfl, rfl⟩ | ⟨rfl, rfl, rfl, h⟩
  · by_cases z : p ≤ n2
    · rw [if_pos z, if_pos z, if_pos z]
      refine ⟨by omega, by omega, Or.inl ⟨rfl, rfl, rfl⟩⟩
    · rw [if_neg z, if_neg z, if_neg z, if_neg (by omega), if_neg (by omega)]
      refine ⟨by omega, by omega, Or.inr ⟨rfl, by omega, by omega, by omega⟩⟩
  · have z : p ≤ 2 * n + 2 := by omega
    rw [if_pos z, if_pos z, if_pos z, if_neg (by omega), if_neg (by omega)]
    exact ⟨by omega, by omega, Or.inr ⟨rfl, by omega, by omega, h⟩⟩
section
variable {c c0 : CS} {d : MS} {D D0 : mM} {N k : Nat} {a : Int32} {P : PL}
def KT (c c2 : CS) : Prop := ∃ v m g, c2 = cT c v m g
theorem KT.step {c c2 : CS} {v m : Nat} {g : Nat → Int32} (h : KT c c2) : KT c (cT c2 v m g) := by
  obtain ⟨v2, m2, g2, rfl⟩ := h
  exact ⟨v, m, g, rfl⟩
theorem KT.trans {c c2 c3 : CS} (h : KT c c2) (h2 : KT c2 c3) : KT c c3 := by
  obtain ⟨v, m, g, rfl⟩ := h2
  exact h.step
/-- within a route that began behind m signs, in an array of n, and has R signs -/
def RS (c0 : CS) (D0 : mM) (n m R : Nat) (W : List Nat) (c : CS) (D : mM) (kc ks : Nat) : Prop := KT c0 c ∧ DO D0 D ∧ ∃ n2, TS c D n2 W ∧ BU n m R n2 kc ks
theorem rsg {n m R kc ks b : Nat} {W : List Nat} (h : RS c0 D0 n m R W c D kc ks) (hm : m ≤ n) (hR : R ≤ 16) (hn : 16 ≤ n) (h250 : m + R ≤ 250) (hb : b ≤ 127) (hl : W.length + 1 ≤ m + R) : oif (kc + bC (mk c d D) 83 1 ≤ (if m + R ≤ n then 0 else 1) ∧ ks + bS (mk c d D) 83 1 ≤ (if m + R ≤ n then 0 else 2 * n + 2)) = some () ∧ ∃ c2 D2, m_J4_append_cf468 (bC (mk c d D) 83 1) (bS (mk c d D) 83 1) 83 (nI b) (mk c d D) = some (83, mk c2 d D2) ∧ RS c0 D0 n m R (W ++ [b]) c2 D2 (kc + bC (mk c d D) 83 1) (ks + bS (mk c d D) 83 1) := by
  obtain ⟨h1, h2, n2, h3, h4⟩ := h
  obtain ⟨b1, b2⟩ := h3.bud (d := d) 1
  obtain ⟨s1, s2, s3⟩ := h4.step (p := W.length + 1) hl hm hR hn
  obtain ⟨v, g, D2, x1, x2, x3⟩ := xsg (d := d) h3 hb (by omega)
  have el : (W ++ [b]).length = W.length + 1 := by rw [List.length_append]; rfl
  refine ⟨if_pos ⟨by rw [b1]; exact s1, by rw [b2]; exact s2⟩, _, D2, x1, h1.step, h2.trans x3, _, x2, ?_⟩
  rw [b1, b2, el]
  exact s3
theorem rnb (hN : 100 ≤ N) {n m R kc ks v : Nat} {W : List Nat} (h : RS c0 D0 n m R W c D kc ks) (hm : m ≤ n) (hR : R ≤ 16) (hn : 16 ≤ n) (h250 : m + R ≤ 250) (hv : v ≤ 9999) (hl : W.length + (dgL v).length ≤ m + R) : oif (kc + bC (mk c d D) 83 (dgN (nI v)) ≤ (if m + R ≤ n then 0 else 1) ∧ ks + bS (mk c d D) 83 (dgN (nI v)) ≤ (if m + R ≤ n then 0 else 2 * n + 2)) = some () ∧ ∃ c2 D2, m_J4_append_bf812 N (bC (mk c d D) 83 (dgN (nI v))) (bS (mk c d D) 83 (dgN (nI v))) 83 (nI v) (mk c d D) = some (83, mk c2 d D2) ∧ RS c0 D0 n m R (W ++ dgL v) c2 D2 (kc + bC (mk c d D) 83 (dgN (nI v))) (ks + bS (mk c d D) 83 (dgN (nI v))) := by
  obtain ⟨h1, h2, n2, h3, h4⟩ := h
  obtain ⟨b1, b2⟩ := h3.bud (d := d) (dgL v).length
  obtain ⟨s1, s2, s3⟩ := h4.step (p := W.length + (dgL v).length) hl hm hR hn
  obtain ⟨x, g, D2, x1, x2, x3⟩ := xnb (d := d) hN h3 hv (by omega)
  have el : (W ++ dgL v).length = W.length + (dgL v).length := List.length_append
  rw [dgN_n hv] at x1 ⊢
  refine ⟨if_pos ⟨by rw [b1]; exact s1, by rw [b2]; exact s2⟩, _, D2, x1, h1.step, h2.trans x3, _, x2, ?_⟩
  rw [b1, b2, el]
  exact s3
theorem xsp2 (hN : 100 ≤ N) {j i l0 l1 l2 lg pr wt n m R : Nat} {W : List Nat} (hD : D0[j]? = some (cRt (nmN l0 l1 l2) lg pr wt)) (hRN : RN d.now i l0 l1 l2 lg pr wt) (hW : W.length = m) (hm : m ≤ n) (hR : R ≤ 16) (hn : 16 ≤ n) (h250 : m + R ≤ 250) (hR2 : nlt l1 l2 + 1 ≤ R) : ∀ (n0 q : Nat) (c : CS) (D : mM) (kc ks : Nat), q ≤ nlt l1 l2 → nlt l1 l2 - q < n0 → RS c0 D0 n m R (W ++ ltTo l0 l1 l2 q) c D kc ks → ∃ c2 D2 k2 s2, m_X4_spellRoute_L2 N (if m + R ≤ n then 0 else 1) (if m + R ≤ n then 0 else 2 * n + 2) n0 83 (j + 120) (nI q) (mk c d D) kc ks = m_X4_spellRoute_L36 N (if m + R ≤ n then 0 else 1) (if m + R ≤ n then 0 else 2 * n + 2) N 83 (j + 120) 0 (mk c2 d D2) k2 s2 ∧ RS c0 D0 n m R ((W ++ ltTo l0 l1 l2 (nlt l1 l2)) ++ [61]) c2 D2 k2 s2 := by
  intro n0
  induction n0 with
  | zero => intro q c D kc ks _ h; omega
  | succ n0 ih =>
    intro q c D kc ks hq hn0 h
    have h2 := h.2.1.rt hD
    have nl := nlt_le (l1 := l1) (l2 := l2)
    have wl : ∀ q, (W ++ ltTo l0 l1 l2 q).length = m + q := fun q => by rw [List.length_append, ltTo_len, hW]
    unfold m_X4_spellRoute_L2
    rw [yd_o h2, Option.bind_some, xletters hN h2 hRN, Option.bind_some]
    by_cases e : q = nlt l1 l2
    · subst e
      obtain ⟨o, c2, D2, x1, x2⟩ := rsg (d := d) (b := 61) h hm hR hn h250 (by omega) (by rw [wl]; omega)
      have x1 : m_J4_append_cf468 (bC (mk c d D) 83 1) (bS (mk c d D) 83 1) 83 61 (mk c d D) = some (83, mk c2 d D2) := x1
      refine ⟨c2, D2, _, _, ?_, x2⟩
      rw [if_pos (nI_le (by omega) (by omega)), yo_83, Option.bind_some, o, Option.bind_some, x1, Option.bind_some]
    · obtain ⟨a1, a2, a3, a4, a5⟩ := hRN.2.1
      have l122 := (hRN.lq (q := q) (by omega)).2
      have xl := xletter (c := c) (d := d) (D := D) (q := q) h2 a2 a3 a4 (by omega)
      have xl : m_X6_letter (j + 120) (nI q) (mk c d D) = some (nI (lq l0 l1 l2 q)) := xl
      obtain ⟨o, c2, D2, x1, x2⟩ := rsg (d := d) (b := lq l0 l1 l2 q) h hm hR hn h250 (by omega) (by rw [wl]; omega)
      have bf := (byte_f (lq l0 l1 l2 q) (by omega)).2.2.2
      rw [List.append_assoc] at x2
      obtain ⟨c3, D3, k3, s3, y1, y2⟩ := ih (q + 1) c2 D2 _ _ (by omega) (by omega) x2
      refine ⟨c3, D3, k3, s3, ?_, y2⟩
      rw [if_neg (by rw [nI_leI (by omega) (by omega)]; omega), Option.bind_some, xl, Option.bind_some, yo_83, Option.bind_some, o, Option.bind_some, bf, x1, Option.bind_some, nI_1]
      exact y1
theorem xsp36 (hN : 100 ≤ N) {j nm lg pr wt n m R : Nat} {W : List Nat} (hD : D0[j]? = some (cRt nm lg pr wt)) (hlg : lg ≤ 15) (hm : m ≤ n) (hR : R ≤ 16) (hn : 16 ≤ n) (h250 : m + R ≤ 250) (hR2 : W.length + (lgTo lg 4).length ≤ m + R) : ∀ (n0 i : Nat) (c : CS) (D : mM) (kc ks : Nat), i ≤ 4 → 4 - i < n0 → RS c0 D0 n m R (W ++ lgTo lg i) c D kc ks → ∃ n1 c2 D2 k2 s2, m_X4_spellRoute_L36 N (if m + R ≤ n then 0 else 1) (if m + R ≤ n then 0 else 2 * n + 2) n0 83 (j + 120) (nI i) (mk c d D) kc ks = m_X4_spellRoute_L36 N (if m + R ≤ n then 0 else 1) (if m + R ≤ n then 0 else 2 * n + 2) (n1 + 1) 83 (j + 120) (nI 4) (mk c2 d D2) k2 s2 ∧ RS c0 D0 n m R (W ++ lgTo lg 4) c2 D2 k2 s2 := by
  intro n0
  induction n0 with
  | zero => intro i c D kc ks _ h; omega
  | succ n0 ih =>
    intro i c D kc ks hi hn0 h
    by_cases e : i = 4
    · subst e
      exact ⟨n0, c, D, kc, ks, rfl, h⟩
    · have h2 := h.2.1.rt hD
      have xg := xgoes (c := c) (d := d) (D := D) (k := i) h2 hlg (by omega)
      have st : m_X4_spellRoute_L36 N (if m + R ≤ n then 0 else 1) (if m + R ≤ n then 0 else 2 * n + 2) (n0 + 1) 83 (j + 120) (nI i) (mk c d D) kc ks = if nI (gb lg i) = 0 then m_X4_spellRoute_L36 N (if m + R ≤ n then 0 else 1) (if m + R ≤ n then 0 else 2 * n + 2) n0 83 (j + 120) (nI i + 1) (mk c d D) kc ks else (oif (kc + bC (mk c d D) 83 (dgN (nI i)) ≤ (if m + R ≤ n then 0 else 1) ∧ ks + bS (mk c d D) 83 (dgN (nI i)) ≤ (if m + R ≤ n then 0 else 2 * n + 2))).bind fun _ => (m_J4_append_bf812 N (bC (mk c d D) 83 (dgN (nI i))) (bS (mk c d D) 83 (dgN (nI i))) 83 (nI i) (mk c d D)).bind fun x29 => m_X4_spellRoute_L36 N (if m + R ≤ n then 0 else 1) (if m + R ≤ n then 0 else 2 * n + 2) n0 83 (j + 120) (nI i + 1) x29.2 (kc + bC (mk c d D) 83 (dgN (nI i))) (ks + bS (mk c d D) 83 (dgN (nI i))) := by
        conv => lhs; unfold m_X4_spellRoute_L36
        rw [if_neg (by rw [show (4 : Int32) = nI 4 from rfl, nI_leI (by omega) (by omega)]; omega), yd_o h2, Option.bind_some, xg, Option.bind_some, yo_83, Option.bind_some]
        rfl
      rw [st, nI_1]
      by_cases z : gb lg i = 0
      · rw [if_pos (nI_gb.mpr z)]
        have e2 : lgTo lg (i + 1) = lgTo lg i := by
          show lgTo lg i ++ (if gb lg i = 1 then [48 + i] else []) = _
          rw [if_neg (by omega), List.append_nil]
        exact ih (i + 1) c D kc ks (by omega) (by omega) (by rw [e2]; exact h)
      · have z1 : gb lg i = 1 := by have := gb_lt (lg := lg) (k := i); omega
        have e2 : lgTo lg (i + 1) = lgTo lg i ++ dgL i := by
          show lgTo lg i ++ (if gb lg i = 1 then [48 + i] else []) = _
          rw [if_pos z1]
          unfold dgL
          rw [if_pos (by omega)]
        have lm := lgTo_mono (lg := lg) (i := i + 1) (4 - (i + 1))
        rw [show i + 1 + (4 - (i + 1)) = 4 by omega, e2, List.length_append] at lm
        obtain ⟨o, c2, D2, x1, x2⟩ := rnb (d := d) (v := i) hN h hm hR hn h250 (by omega) (by rw [List.length_append]; omega)
        rw [if_neg (fun y => z (nI_gb.mp y)), o, Option.bind_some, x1, Option.bind_some]
        rw [List.append_assoc, ← e2] at x2
        exact ih (i + 1) c2 D2 _ _ (by omega) (by omega) x2
/-- a route spelled, the class's side -/
theorem xspR (hN : 100 ≤ N) {j i l0 l1 l2 lg pr wt n : Nat} {W : List Nat} (hD : D[j]? = some (cRt (nmN l0 l1 l2) lg pr wt)) (hRN : RN d.now i l0 l1 l2 lg pr wt) (hT : TS c D n W) (hl : W.length + (spR l0 l1 l2 lg pr wt).length ≤ 250) : ∃ c2 D2, m_X4_spellRoute N (bC (mk c d D) 83 (spR l0 l1 l2 lg pr wt).length) (bS (mk c d D) 83 (spR l0 l1 l2 lg pr wt).length) 14 83 (j + 120) (mk c d D) = some (mk c2 d D2) ∧ KT c c2 ∧ DO D D2 ∧ TS c2 D2 (grow n (W ++ spR l0 l1 l2 lg pr wt).length) (W ++ spR l0 l1 l2 lg pr wt) := by
  obtain ⟨b1, b2⟩ := hT.bud (d := d) (spR l0 l1 l2 lg pr wt).length
  have hwt := hRN.2.2.2.2
  have hpr := hRN.2.2.2.1
  have hlg := hRN.2.2.1
  have hR16 := spR_le (l0 := l0) (l1 := l1) (l2 := l2) (lg := lg) (pr := pr) hwt
  have hRl := spR_len (l0 := l0) (l1 := l1) (l2 := l2) (lg := lg) (pr := pr) (wt := wt)
  have hn := hT.2.2.2.1.le
  have hm := hT.2.2.1
  rw [b1, b2]
  generalize hR : (spR l0 l1 l2 lg pr wt).length = R at *
  have r0 : RS c D n W.length R (W ++ ltTo l0 l1 l2 0) c D 0 0 := by
    refine ⟨⟨c.pgv, c.pgc, c.pg0, rfl⟩, DO.refl, n, ?_, Or.inl ⟨rfl, rfl, rfl⟩⟩
    show TS c D n (W ++ [])
    rw [List.append_nil]
    exact hT
  obtain ⟨c1, D1, k1, s1, e1, r1⟩ := xsp2 (d := d) hN hD hRN rfl hm hR16 hn.1 hl (by omega) N 0 c D 0 0 (by omega) (by have := nlt_le (l1 := l1) (l2 := l2); omega) r0
  have w1 : ((W ++ ltTo l0 l1 l2 (nlt l1 l2)) ++ [61]).length = W.length + nlt l1 l2 + 1 := by
    rw [List.length_append, List.length_append, ltTo_len]
    rfl
  have r1' : RS c D n W.length R (((W ++ ltTo l0 l1 l2 (nlt l1 l2)) ++ [61]) ++ lgTo lg 0) c1 D1 k1 s1 := by
    show RS c D n W.length R (((W ++ ltTo l0 l1 l2 (nlt l1 l2)) ++ [61]) ++ []) c1 D1 k1 s1
    rw [List.append_nil]
    exact r1
  obtain ⟨n1, c2, D2, k2, s2, e2, r2⟩ := xsp36 (d := d) hN hD hlg.2 hm hR16 hn.1 hl (by rw [w1]; omega) N 0 c1 D1 k1 s1 (by omega) (by omega) r1'
  have w2 : (((W ++ ltTo l0 l1 l2 (nlt l1 l2)) ++ [61]) ++ lgTo lg 4).length = W.length + nlt l1 l2 + 1 + (lgTo lg 4).length := by rw [List.length_append, w1]
  obtain ⟨o3, c3, D3, x3, r3⟩ := rsg (d := d) (b := 58) r2 hm hR16 hn.1 hl (by omega) (by rw [w2]; omega)
  have x3 : m_J4_append_cf468 (bC (mk c2 d D2) 83 1) (bS (mk c2 d D2) 83 1) 83 58 (mk c2 d D2) = some (83, mk c3 d D3) := x3
  have w3 : ((((W ++ ltTo l0 l1 l2 (nlt l1 l2)) ++ [61]) ++ lgTo lg 4) ++ [58]).length = W.length + nlt l1 l2 + 1 + (lgTo lg 4).length + 1 := by
    rw [List.length_append, w2]
    rfl
  obtain ⟨o4, c4, D4, x4, r4⟩ := rnb (d := d) (v := pr) hN r3 hm hR16 hn.1 hl hpr.2 (by rw [w3]; omega)
  have w4 : (((((W ++ ltTo l0 l1 l2 (nlt l1 l2)) ++ [61]) ++ lgTo lg 4) ++ [58]) ++ dgL pr).length = W.length + nlt l1 l2 + 1 + (lgTo lg 4).length + 1 + (dgL pr).length := by rw [List.length_append, w3]
  have d3 := r3.2.1.rt hD
  have d4 := r4.2.1.rt hD
  -- at the end: the array grew where the text had no room
  have fin : ∀ (W2 : List Nat) (c5 : CS) (D5 : mM) (k5 s5 : Nat), W2 = W ++ spR l0 l1 l2 lg pr wt → RS c D n W.length R W2 c5 D5 k5 s5 → KT c c5 ∧ DO D D5 ∧ TS c5 D5 (grow n (W ++ spR l0 l1 l2 lg pr wt).length) (W ++ spR l0 l1 l2 lg pr wt) := by
    intro W2 c5 D5 k5 s5 e5 r5
    subst e5
    obtain ⟨z1, z2, n2, z3, z4⟩ := r5
    refine ⟨z1, z2, ?_⟩
    have z5 := z3.2.2.1
    have z6 : (W ++ spR l0 l1 l2 lg pr wt).length = W.length + R := by rw [List.length_append, hR]
    have : n2 = grow n (W ++ spR l0 l1 l2 lg pr wt).length := by
      rw [z6] at z5 ⊢
      unfold grow
      rcases z4 with ⟨g1, g2, g3⟩ | ⟨g1, g2, g3, g4⟩
      · rw [if_pos (by omega)]
        exact g1
      · rw [if_neg (by omega)]
        exact g1
    rw [← this]
    exact z3
  have tail : ∃ c5 D5 k5 s5 W2, m_X4_spellRoute_L36 N (if W.length + R ≤ n then 0 else 1) (if W.length + R ≤ n then 0 else 2 * n + 2) (n1 + 1) 83 (j + 120) (nI 4) (mk c2 d D2) k2 s2 = some (mk c5 d D5) ∧ W2 = W ++ spR l0 l1 l2 lg pr wt ∧ RS c D n W.length R W2 c5 D5 k5 s5 := by
    have hs : W ++ spR l0 l1 l2 lg pr wt = (((((W ++ ltTo l0 l1 l2 (nlt l1 l2)) ++ [61]) ++ lgTo lg 4) ++ [58]) ++ dgL pr) ++ wtL wt := by
      unfold spR
      simp only [List.append_assoc]
    unfold m_X4_spellRoute_L36
    rw [if_pos (by decide), yo_83, Option.bind_some, o3, Option.bind_some, x3, Option.bind_some, yd_2 d3, Option.bind_some, yo_83, Option.bind_some, o4, Option.bind_some, x4, Option.bind_some, yd_3 d4, Option.bind_some]
    by_cases z : wt = 0
    · refine ⟨c4, D4, _, _, _, ?_, ?_, r4⟩
      · rw [if_pos (by rw [z]; rfl)]
      · rw [hs]
        unfold wtL
        rw [if_pos z, List.append_nil]
    · have ew : wtL wt = [42] ++ dgL wt := by
        unfold wtL
        rw [if_neg z]
      have ewl : (wtL wt).length = 1 + (dgL wt).length := by
        rw [ew, List.length_append]
        rfl
      obtain ⟨o5, c5, D5, x5, r5⟩ := rsg (d := d) (b := 42) r4 hm hR16 hn.1 hl (by omega) (by rw [w4]; omega)
      have x5 : m_J4_append_cf468 (bC (mk c4 d D4) 83 1) (bS (mk c4 d D4) 83 1) 83 42 (mk c4 d D4) = some (83, mk c5 d D5) := x5
      have d5 := r5.2.1.rt hD
      obtain ⟨o6, c6, D6, x6, r6⟩ := rnb (d := d) (v := wt) hN r5 hm hR16 hn.1 hl (by omega) (by rw [List.length_append, w4]; show _ + 1 + _ ≤ _; omega)
      refine ⟨c6, D6, _, _, _, ?_, ?_, r6⟩
      · rw [if_neg (by rw [show (0 : Int32) = nI 0 from rfl, nI_eq (by omega) (by omega)]; exact z), yo_83, Option.bind_some, o5, Option.bind_some, x5, Option.bind_some, yd_3 d5, Option.bind_some, yo_83, Option.bind_some, o6, Option.bind_some, x6, Option.bind_some]
      · rw [hs, ew]
        simp only [List.append_assoc]
  obtain ⟨c5, D5, k5, s5, W2, t1, t2, t3⟩ := tail
  refine ⟨c5, D5, ?_, fin W2 c5 D5 k5 s5 t2 t3⟩
  unfold m_X4_spellRoute
  exact e1.trans (e2.trans t1)
end
