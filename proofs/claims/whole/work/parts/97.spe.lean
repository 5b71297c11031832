-- the paper: all routes, both sides
def laR (now : Nat → Int32) (i q : Nat) : Nat := (now (50 + 6 * i + q)).toNatClampNeg
def spN (now : Nat → Int32) (i : Nat) : List Nat := spR (laR now i 0) (laR now i 1) (laR now i 2) (lgR now i) (prR now i) (wtR now i)
def spTo (now : Nat → Int32) : Nat → List Nat
  | 0 => []
  | i + 1 => (if i = 0 then spTo now i else spTo now i ++ [59]) ++ spN now i
section
variable {c c0 : CS} {d d0 : MS} {D D0 : mM} {N k : Nat} {a : Int32} {P : PL}
theorem RN.la {now : Nat → Int32} {i l0 l1 l2 lg pr wt : Nat} (h : RN now i l0 l1 l2 lg pr wt) : spN now i = spR l0 l1 l2 lg pr wt := by
  obtain ⟨e1, e2, e3⟩ := h.cl
  obtain ⟨a1, a2, a3, a4, a5, a6, a7⟩ := h.2.1
  unfold spN laR
  rw [e1, e2, e3, Nat.add_zero, h.1.1, h.1.2.1, h.1.2.2.1, nI_cl (by omega), nI_cl (by omega), nI_cl (by omega)]
theorem spTo_le (hR : RO P d.now D) : ∀ i, i ≤ P.rc → (spTo d.now i).length ≤ 17 * i
  | 0, _ => Nat.le_refl 0
  | i + 1, h => by
    have ih := spTo_le hR i (by omega)
    obtain ⟨j, l0, l1, l2, _, _, hx⟩ := hR.got (i := i) (by omega)
    have l16 := spR_le (l0 := l0) (l1 := l1) (l2 := l2) (lg := lgR d.now i) (pr := prR d.now i) hx.2.2.2.2
    rw [← hx.la] at l16
    unfold spTo
    rw [List.length_append]
    split
    · omega
    · rw [List.length_append]
      show _ + 1 + _ ≤ _
      omega
theorem ltN_n {l0 l1 l2 : Nat} (h0 : 97 ≤ l0) (h0' : l0 ≤ 122) (h1 : l1 ≤ 122) (h2 : l2 ≤ 122) (h3 : l1 = 0 → l2 = 0) : ltN (nI (nmN l0 l1 l2)) = nlt l1 l2 := by
  have hn : nmN l0 l1 l2 < 2 ^ 24 := by unfold nmN; omega
  have s16 : nI (nmN l0 l1 l2) >>> 16 = nI (nmN l0 l1 l2 / 2 ^ 16) := nI_shr (k := 16) (by omega) (by omega)
  have s8 : nI (nmN l0 l1 l2) >>> 8 = nI (nmN l0 l1 l2 / 2 ^ 8) := nI_shr (k := 8) (by omega) (by omega)
  have m255 : ∀ x, nI x &&& 255 = nI (x % 256) := fun x => nI_mask (k := 8)
  have z : ∀ x, x < 1000 → ((nI x = 0) ↔ x = 0) := fun x hx => nI_eq (b := 0) (by omega) (by omega)
  have e0 : nmN l0 l1 l2 / 2 ^ 16 % 256 = l0 := by unfold nmN; omega
  have e1 : nmN l0 l1 l2 / 2 ^ 8 % 256 = l1 := by unfold nmN; omega
  have e2 : nmN l0 l1 l2 % 256 = l2 := by unfold nmN; omega
  unfold ltN nlt
  rw [s16, s8, m255, m255, m255, e0, e1, e2, if_neg (fun y => by have := (z l0 (by omega)).mp y; omega)]
  by_cases q1 : l1 = 0
  · have q2 := h3 q1
    rw [if_pos ((z l1 (by omega)).mpr q1), if_pos ((z l2 (by omega)).mpr q2), if_pos q1]
  · rw [if_neg (fun y => q1 ((z l1 (by omega)).mp y)), if_neg q1]
    by_cases q2 : l2 = 0
    · rw [if_pos ((z l2 (by omega)).mpr q2), if_pos q2]
    · rw [if_neg (fun y => q2 ((z l2 (by omega)).mp y)), if_neg q2]
theorem lgN_n : ∀ lg, lg < 16 → lgN (nI lg) = (lgTo lg 4).length := by decide +kernel
theorem rl_n {j i l0 l1 l2 lg pr wt : Nat} (h : D[j]? = some (cRt (nmN l0 l1 l2) lg pr wt)) (hRN : RN d.now i l0 l1 l2 lg pr wt) : rl (mk c d D) (j + 120) = (spR l0 l1 l2 lg pr wt).length := by
  obtain ⟨a1, a2, a3, a4, a5, a6, a7⟩ := hRN.2.1
  have hwt := hRN.2.2.2.2
  have hpr := hRN.2.2.2.1
  have hlg := hRN.2.2.1
  have z : (nI wt = 0) ↔ wt = 0 := nI_eq (b := 0) (by omega) (by omega)
  unfold rl
  rw [yd_0 h, Option.bind_some, yd_1 h, Option.bind_some, yd_2 h, Option.bind_some, yd_3 h, Option.bind_some, ltN_n a1 a2 a3 a4 a5, lgN_n lg (by omega), dgN_n hpr.2, dgN_n (v := wt) (by omega), spR_len]
  show nlt l1 l2 + 1 + (lgTo lg 4).length + 1 + (dgL pr).length + (if nI wt = 0 then 0 else 1 + (dgL wt).length) = _
  unfold wtL
  by_cases w : wt = 0
  · rw [if_pos (z.mpr w), if_pos w]
    show _ = _ + (1 + (_ + (1 + (_ + 0))))
    omega
  · rw [if_neg (fun y => w (z.mp y)), if_neg w, List.length_append]
    show _ = _ + (1 + (_ + (1 + (_ + (1 + _)))))
    omega
/-- the room used up, by the array's length -/
def NS (n kc ks : Nat) : Prop := (n = 16 ∧ kc = 0 ∧ ks = 0) ∨ (n = 34 ∧ kc ≤ 1 ∧ ks ≤ 34) ∨ (n = 70 ∧ kc ≤ 2 ∧ ks ≤ 104) ∨ (n = 142 ∧ kc ≤ 3 ∧ ks ≤ 246) ∨ (n = 286 ∧ kc ≤ 4 ∧ ks ≤ 532)
theorem NS.step {n kc ks p : Nat} (h : NS n kc ks) (hp : p ≤ 250) : kc + (if p ≤ n then 0 else 1) ≤ 300 ∧ ks + (if p ≤ n then 0 else 2 * n + 2) ≤ 600 ∧ NS (grow n p) (kc + (if p ≤ n then 0 else 1)) (ks + (if p ≤ n then 0 else 2 * n + 2)) := by
  unfold NS grow at *
  by_cases z : p ≤ n
  · rw [if_pos z, if_pos z, if_pos z]
    omega
  · rw [if_neg z, if_neg z, if_neg z]
    omega
theorem xspA (hN : 100 ≤ N) (hP : PR c0.pl d.now) (hR : RO c0.pl d.now D0) : ∀ (n0 i : Nat) (c : CS) (D : mM) (n kc ks : Nat), i ≤ c0.pl.rc → c0.pl.rc - i < n0 → KT c0 c → DO D0 D → TS c D n (spTo d.now i) → NS n kc ks → ∃ c2 D2 n2, m_X4_spellOn_L7 N 300 600 n0 14 83 (nI i) (mk c d D) kc ks = some (mk c2 d D2) ∧ KT c0 c2 ∧ DO D0 D2 ∧ TS c2 D2 n2 (spTo d.now c0.pl.rc) := by
  intro n0
  induction n0 with
  | zero => intro i c D n kc ks _ h; omega
  | succ n0 ih =>
    intro i c D n kc ks hi hn0 hK hO hT hB
    have hrc := hP.rc
    have erc : c.pl = c0.pl := by
      obtain ⟨v, m, g, rfl⟩ := hK
      rfl
    by_cases e : i = c0.pl.rc
    · subst e
      refine ⟨c, D, n, ?_, hK, hO, hT⟩
      unfold m_X4_spellOn_L7
      rw [yr_14_3, Option.bind_some, erc, if_pos (nI_le (by omega) (by omega))]
    · obtain ⟨j, l0, l1, l2, h1, h2, h3⟩ := hR.got (i := i) (by omega)
      have sl := spTo_le hR i (by omega)
      have l16 := spR_le (l0 := l0) (l1 := l1) (l2 := l2) (lg := lgR d.now i) (pr := prR d.now i) h3.2.2.2.2
      have esp := h3.la
      -- the route, from where it begins
      have J : ∀ (c : CS) (D : mM) (n kc ks : Nat), KT c0 c → DO D0 D → TS c D n (if i = 0 then spTo d.now i else spTo d.now i ++ [59]) → NS n kc ks → ∃ c2 D2 n2, m_X4_spellOn_J26 N 300 600 (m_X4_spellOn_L7 N 300 600 n0) 14 83 (nI i) (mk c d D) kc ks = some (mk c2 d D2) ∧ KT c0 c2 ∧ DO D0 D2 ∧ TS c2 D2 n2 (spTo d.now c0.pl.rc) := by
        intro c D n kc ks hK hO hT hB
        have erc : c.pl = c0.pl := by
          obtain ⟨v, m, g, rfl⟩ := hK
          rfl
        have h2 := hO.rt h2
        have wl : (if i = 0 then spTo d.now i else spTo d.now i ++ [59]).length ≤ 17 * i + 1 := by
          split
          · omega
          · rw [List.length_append]
            show _ + 1 ≤ _
            omega
        have ar := ya_17r (c := c) (d := d) (D := D) (i := i) (by omega) (by rw [erc]; exact h1)
        obtain ⟨b1, b2⟩ := hT.bud (d := d) (spR l0 l1 l2 (lgR d.now i) (prR d.now i) (wtR d.now i)).length
        obtain ⟨c2, D2, x1, x2, x3, x4⟩ := xspR (c := c) (d := d) (D := D) hN h2 h3 hT (by omega)
        have st := hB.step (p := (if i = 0 then spTo d.now i else spTo d.now i ++ [59]).length + (spR l0 l1 l2 (lgR d.now i) (prR d.now i) (wtR d.now i)).length) (by omega)
        rw [← b1, ← b2] at st
        have es : (if i = 0 then spTo d.now i else spTo d.now i ++ [59]) ++ spR l0 l1 l2 (lgR d.now i) (prR d.now i) (wtR d.now i) = spTo d.now (i + 1) := by
          show _ = (if i = 0 then spTo d.now i else spTo d.now i ++ [59]) ++ spN d.now i
          rw [esp]
        rw [es] at x4
        have o : oif (kc + bC (mk c d D) 83 (spR l0 l1 l2 (lgR d.now i) (prR d.now i) (wtR d.now i)).length ≤ 300 ∧ ks + bS (mk c d D) 83 (spR l0 l1 l2 (lgR d.now i) (prR d.now i) (wtR d.now i)).length ≤ 600) = some () := if_pos ⟨st.1, st.2.1⟩
        have st3 := st.2.2
        rw [← List.length_append, es] at st3
        obtain ⟨c3, D3, n3, y1, y2, y3, y4⟩ := ih (i + 1) c2 D2 _ _ _ (by omega) (by omega) (hK.trans x2) (hO.trans x3) x4 st3
        refine ⟨c3, D3, n3, ?_, y2, y3, y4⟩
        unfold m_X4_spellOn_J26
        rw [yr_14_2, Option.bind_some, ar, Option.bind_some, yo_14, Option.bind_some, rl_n (c := c) h2 h3, o, Option.bind_some, x1, Option.bind_some, nI_1]
        exact y1
      unfold m_X4_spellOn_L7
      rw [yr_14_3, Option.bind_some, erc, if_neg (by rw [nI_leI (by omega) (by omega)]; omega)]
      by_cases z : i = 0
      · rw [if_pos (by rw [z]; decide)]
        exact J c D n kc ks hK hO (by rw [if_pos z]; exact hT) hB
      · obtain ⟨b1, b2⟩ := hT.bud (d := d) 1
        obtain ⟨v, g, D2, x1, x2, x3⟩ := xsg (d := d) (b := 59) hT (by omega) (by omega)
        have el : (spTo d.now i ++ [59]).length = (spTo d.now i).length + 1 := by rw [List.length_append]; rfl
        have x1 : m_J4_append_cf468 (bC (mk c d D) 83 1) (bS (mk c d D) 83 1) 83 59 (mk c d D) = _ := x1
        have st := hB.step (p := (spTo d.now i).length + 1) (by omega)
        rw [← b1, ← b2] at st
        have o : oif (kc + bC (mk c d D) 83 1 ≤ 300 ∧ ks + bS (mk c d D) 83 1 ≤ 600) = some () := if_pos ⟨st.1, st.2.1⟩
        rw [if_neg (by rw [show (0 : Int32) = nI 0 from rfl, nI_leI (by omega) (by omega)]; omega), yo_83, Option.bind_some, o, Option.bind_some, x1, Option.bind_some]
        have st3 := st.2.2
        rw [← el] at st3
        exact J _ D2 _ _ _ hK.step (hO.trans x3) (by rw [if_neg z]; exact x2) st3
theorem yspA (hN : 100 ≤ N) : ∀ (n0 i : Nat) (d : MS), PR P d.now → RO P d.now D0 → i ≤ P.rc → P.rc - i < n0 → YT d (spTo d.now i) → ∃ d2, m_X12_spell_L7 N n0 100 (nI i) (mk c d D) = some (nI (spTo d.now P.rc).length, mk c d2 D) ∧ KD d d2 ∧ YT d2 (spTo d.now P.rc) := by
  intro n0
  induction n0 with
  | zero => intro i d _ _ _ h; omega
  | succ n0 ih =>
    intro i d hP hR hi hn0 h
    have hrc := hP.rc
    have r5 : aI 0 (mk c d D) 101 5 = some (nI P.rc) := (ya_101 (i := 5) (by omega)).trans (by rw [hP.rc_])
    unfold m_X12_spell_L7
    rw [yr_100_0, Option.bind_some, r5, Option.bind_some]
    by_cases e : i = P.rc
    · subst e
      refine ⟨d, ?_, KD.refl, h⟩
      rw [if_pos (nI_le (by omega) (by omega)), yr_100_5, Option.bind_some, h.1]
    · obtain ⟨j, l0, l1, l2, h1, h2, h3⟩ := hR.got (i := i) (by omega)
      have sl := spTo_le hR i (by omega)
      have esp := h3.la
      have J : ∀ d1 : MS, KD d d1 → YT d1 (if i = 0 then spTo d.now i else spTo d.now i ++ [59]) → ∃ d2, m_X12_spell_J27 N (m_X12_spell_L7 N n0) 100 (nI i) (mk c d1 D) = some (nI (spTo d.now P.rc).length, mk c d2 D) ∧ KD d d2 ∧ YT d2 (spTo d.now P.rc) := by
        intro d1 hk h
        have wl : (if i = 0 then spTo d.now i else spTo d.now i ++ [59]).length ≤ 17 * i + 1 := by
          split
          · omega
          · rw [List.length_append]
            show _ + 1 ≤ _
            omega
        obtain ⟨d2, y1, y2, y3⟩ := yspR (c := c) (D := D) (N := N) (d := d1) (k7 := m_X12_spell_L7 N n0) (i := i) hN (by omega) (by omega) (hk.rn h3) h
        have en : d2.now = d.now := by
          obtain ⟨x, g, rfl⟩ := hk.trans y2
          rfl
        have es : (if i = 0 then spTo d.now i else spTo d.now i ++ [59]) ++ spR l0 l1 l2 (lgR d.now i) (prR d.now i) (wtR d.now i) = spTo d.now (i + 1) := by
          show _ = (if i = 0 then spTo d.now i else spTo d.now i ++ [59]) ++ spN d.now i
          rw [esp]
        rw [es] at y3
        obtain ⟨d3, z1, z2, z3⟩ := ih (i + 1) d2 (by rw [en]; exact hP) (by rw [en]; exact hR) (by omega) (by omega) (by rw [en]; exact y3)
        rw [en] at z1 z3
        exact ⟨d3, y1.trans z1, (hk.trans y2).trans z2, z3⟩
      rw [if_neg (by rw [nI_leI (by omega) (by omega)]; omega)]
      by_cases z : i = 0
      · rw [if_pos (by rw [z]; decide)]
        exact J d KD.refl (by rw [if_pos z]; exact h)
      · obtain ⟨d1, w1, w2, w3⟩ := ywr (c := c) (D := D) (b := 59) h (by omega)
        have w1 : m_X12_writes 100 59 (mk c d D) = some (mk c d1 D) := w1
        rw [if_neg (by rw [show (0 : Int32) = nI 0 from rfl, nI_leI (by omega) (by omega)]; omega), yo_100, Option.bind_some, w1, Option.bind_some]
        exact J d1 w2 (by rw [if_neg z]; exact w3)
/-- the text emptied -/
theorem xlen0 {n : Nat} {f : Nat → Int32} (hcd : c.pgcd = 0) (h : PA c D n f) (hn : nS n) (hc : c.pgc ≤ 250) : ∃ x, m_J4_setLength_d00df N 0 0 83 0 (mk c d D) = some (mk ((c.s_pg2 x).s_pgc 0) d D) := by
  have e1 : (0 : Int32) - (nI n >>> ((0 : Int32) &&& 31)) ≤ 0 := (need_f n hn.mem 0 (by omega)).mpr (Nat.zero_le _)
  have o : oif (0 + 0 ≤ 0 ∧ 0 + 0 ≤ 0) = some () := if_pos ⟨Nat.le_refl _, Nat.le_refl _⟩
  have en : m_J5_ensureCapacityInternal_d00df 0 0 83 0 (mk c d D) = some (mk c d D) := by
    unfold m_J5_ensureCapacityInternal_d00df
    rw [yr_83_0, Option.bind_some, pa_n h, Option.bind_some, yr_83_1, Option.bind_some, hcd, if_pos e1]
  have w3 : ∀ c : CS, sV (mk c d D) 83 0 3 (.int 0) = some (mk (c.s_pgc 0) d D) := fun c => yw_83_3 (x := 0)
  unfold m_J4_setLength_d00df m_J5_setLength_d00df
  rw [yo_83, Option.bind_some, o, Option.bind_some, if_pos (by decide), Option.bind_some, Option.bind_some, en, Option.bind_some, yr_83_3, Option.bind_some, if_pos (show (0 : Int32) ≤ nI c.pgc from nI_le (a := 0) (by omega) (by omega))]
  by_cases z : nI c.pgc ≤ 0
  · refine ⟨c.pg2, ?_⟩
    rw [Option.bind_some, if_pos z, w3, Option.bind_some, Option.bind_some]
    rfl
  · refine ⟨1, ?_⟩
    have s2 : sZ (mk c d D) 83 0 2 1 = some (mk (c.s_pg2 1) d D) := by
      unfold sZ
      rw [if_pos (Or.inr rfl), yw_83_2]
    rw [Option.bind_some, if_neg z, s2, Option.bind_some, w3, Option.bind_some, Option.bind_some]
theorem spell_N (hN : 100 ≤ N) (h : RR c d D) : ∃ r c2 d2 D2, m_X11_spell N 300 600 10 (mk c d D) = some (r, mk c2 d D2) ∧ m_X12_spell N 100 (mk c2 d D2) = some (r, mk c2 d2 D2) ∧ RR c2 d2 D2 := by
  have hP := h.1
  have hR := h.2.1
  have hrc := hP.rc
  obtain ⟨p1, p2, p3, n, f, p4, p5, p6, p7, p8, p9⟩ := h.2.2.2.2.2.1
  obtain ⟨x, e0⟩ := xlen0 (N := N) (d := d) p1 p4 p8 p2
  have t0 : TS ((c.s_pg2 x).s_pgc 0) D n (spTo d.now 0) := ⟨p1, rfl, Nat.zero_le _, p8, f, p4, p9, fun i b hb => by cases hb⟩
  have n0 : NS n (0 + 0) (0 + 0) := by
    unfold NS
    rcases p8 with r | r | r | r | r <;> omega
  obtain ⟨c2, D2, n2, x1, ⟨v, m, g, rfl⟩, x3, x4⟩ := xspA (d := d) (c0 := (c.s_pg2 x).s_pgc 0) (D0 := D) hN hP hR N 0 ((c.s_pg2 x).s_pgc 0) D n (0 + 0) (0 + 0) (Nat.zero_le _) (by show c.pl.rc - 0 < N; omega) ⟨c.pgv, 0, c.pg0, rfl⟩ DO.refl t0 n0
  have x4 : TS (cT ((c.s_pg2 x).s_pgc 0) v m g) D2 n2 (spTo d.now c.pl.rc) := x4
  have sl := spTo_le hR c.pl.rc (Nat.le_refl _)
  obtain ⟨d2, y1, ⟨u, w, rfl⟩, y3⟩ := yspA (c := cT ((c.s_pg2 x).s_pgc 0) v m g) (D := D2) (D0 := D) (P := c.pl) hN N 0 (d.s_written 0) hP hR (Nat.zero_le _) (by omega) ⟨rfl, fun i b hb => by cases hb⟩
  obtain ⟨q1, q2, q3, q4, f2, q5, q6, q7⟩ := x4
  have hnl := q4.le
  refine ⟨nI (spTo d.now c.pl.rc).length, cT ((c.s_pg2 x).s_pgc 0) v m g, dT (d.s_written 0) u w, D2, ?_, ?_, ⟨hP, hR.exo x3, h.2.2.1.exo x3, h.2.2.2.1, h.2.2.2.2.1, ⟨q1, by rw [q2]; omega, by rw [q2]; exact y3.1, n2, f2, q5, by rw [q2]; exact q3, by omega, fun i hi => ?_, q4, q6⟩, h.2.2.2.2.2.2.1, h.2.2.2.2.2.2.2⟩⟩
  · have o1 : oif (0 + 300 ≤ 300 ∧ 0 + 600 ≤ 600) = some () := if_pos ⟨by omega, by omega⟩
    have o2 : oif (0 + 0 ≤ 300 ∧ 0 + 0 ≤ 600) = some () := if_pos ⟨by omega, by omega⟩
    have xo : m_X4_spellOn N 300 600 14 83 (mk c d D) = some (mk (cT ((c.s_pg2 x).s_pgc 0) v m g) d D2) := by
      unfold m_X4_spellOn
      rw [yo_83, Option.bind_some, o2, Option.bind_some, e0, Option.bind_some]
      exact x1
    unfold m_X11_spell m_J4_length_8abf5 m_J5_length_8abf5
    rw [yr_10_0, Option.bind_some, yr_11_3, Option.bind_some, yr_10_8, Option.bind_some, yo_14, Option.bind_some, o1, Option.bind_some, xo, Option.bind_some, yr_10_8, Option.bind_some, yo_83, Option.bind_some, yr_83_3, Option.bind_some, Option.bind_some, q2, Option.bind_some, Option.bind_some]
  · unfold m_X12_spell
    rw [yw_100_5, Option.bind_some]
    exact y1
  · rw [q2] at hi
    obtain ⟨b, b1, b2⟩ := q6 i (by omega)
    have hg : (spTo d.now c.pl.rc)[i]? = some (spTo d.now c.pl.rc)[i] := List.getElem?_eq_getElem hi
    refine ⟨b, b1, b2, ?_⟩
    rw [← b2, q7 i _ hg]
    exact y3.2 i _ hg
theorem spell_ok : SpellOK := fun c d D h => spell_N (by omega) h
end
