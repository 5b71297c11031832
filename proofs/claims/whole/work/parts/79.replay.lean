-- replay
theorem rqA_sur {b : Nat → Nat} {j : Nat} : ∀ T, j < rqA b T → ∃ q, q < T ∧ b q ≠ 45 ∧ rqA b q = j
  | 0, h => absurd h (Nat.not_lt_zero _)
  | T + 1, h => by
    have h : j < rqA b T + (if b T = 45 then 0 else 1) := h
    by_cases z : j < rqA b T
    · obtain ⟨q, h1, h2, h3⟩ := rqA_sur T z
      exact ⟨q, by omega, h2, h3⟩
    · by_cases e : b T = 45
      · rw [if_pos e] at h; omega
      · rw [if_neg e] at h
        exact ⟨T, by omega, e, by omega⟩
theorem gb_0 {j : Nat} : gb 0 j = 0 := by unfold gb; rw [Nat.zero_div]
theorem cnm_0 : ∀ A, cnm 0 A = 0
  | 0 => rfl
  | A + 1 => by unfold cnm; rw [cnm_0 A, gb_0]
section
variable {c c2 : CS} {d d0 d2 : MS} {D : mM} {N k : Nat} {a : Int32} {P : PL}
theorem behind_eq (hN : 10000 ≤ N) {T : Nat} (hT : T ≤ 20) {b : Nat → Nat} (hP : PR c.pl d0.now) (hn : d2.now = d0.now) (e1 : c2.pl = c.pl) (hv : ∀ q, q < T → vF c.pl.n (b q)) (hb : ∀ q, q < T → b q ≤ 127) (htp : ∀ q, q < T → d2.tape q = nI (b q)) (hda : c2.dasked = rqA b T) (hA : AP c.pl b c2.pa T) : ∃ σ, m_X1_pricesBehind N 80 (mk c2 d D) = some σ ∧ ∀ c3, m_X12_behind N 100 (nI T) (mk c3 d2 D) = some σ := by
  have hr0 := hP.r0
  have hP2 : PR c.pl d2.now := by rw [hn]; exact hP
  have AT := rqA_le (b := b) T
  have hp : ∀ j, j < rqA b T → c2.pa j = nI (c2.pa j).toNatClampNeg ∧ (c2.pa j).toNatClampNeg ≤ 9999 ∧ 1 ≤ (c2.pa j).toNatClampNeg := by
    intro j hj
    obtain ⟨q, q1, q2, q3⟩ := rqA_sur T hj
    have h := hA q q1 q2
    rw [q3] at h
    obtain ⟨v1, v2⟩ := (hv q q1).resolve_left q2
    have hn6 := hP.n
    have p1 := hP.p (i := b q - 97) (by omega)
    have p2 := hP.pp v2
    rw [h, nI_cl (by omega)]
    exact ⟨rfl, p1, p2⟩
  have hpj : ∀ q, q < T → b q ≠ 45 → (c2.pa (rqA b q)).toNatClampNeg = c.pl.price (b q - 97) := by
    intro q q1 q2
    obtain ⟨v1, v2⟩ := (hv q q1).resolve_left q2
    have hn6 := hP.n
    have p1 := hP.p (i := b q - 97) (by omega)
    rw [hA q q1 q2, nI_cl (by omega)]
  have es : c2.pl.rules 0 = c.pl.rules 0 := by rw [e1]
  have key : ∀ c3, ∃ σ, m_X1_pricesBehind N 80 (mk c2 d D) = some σ ∧ m_X12_behind N 100 (nI T) (mk c3 d2 D) = some σ := by
    intro c3
    obtain ⟨σ, s1, s2⟩ := y14 (c := c3) (D := D) (N := N) (R := fun n σ m s => m_X1_pricesBehind_L6 N (mk c2 d D) n 80 σ (nI m) (nI s)) (S := c.pl.rules 0) (pj := fun j => (c2.pa j).toNatClampNeg) (V := m_X1_pricesBehind N 80 (mk c2 d D)) (by omega) hP2 hT hb hv htp hr0 hpj (fun j hj => (hp j hj).2.2) (fun m s j0 σ n h1 h2 h3 h4 h5 h6 => xb6_take (by omega) (by rw [es]; exact hr0) (by omega) hda (fun j hj => ⟨(hp j hj).1, (hp j hj).2.1⟩) h1 h2 h3 h4 (by rw [es]; exact h5) h6 σ n) (fun m s σ n h1 h2 => xb6_done (by rw [es]; exact hr0) (by omega) hda (by omega) (by rw [es]; exact h2) σ n) N 9999 0 0 (by omega) (by omega) (by
      refine ⟨N - 1, 0, ?_, by omega, by omega, (cnm_0 _).symm, by omega, fun _ j hj => ?_⟩
      · rw [show N - 1 + 1 = N by omega]
        rfl
      · rw [gb_0]
        have : (fun j => (c2.pa j).toNatClampNeg) j ≤ 9999 := (hp j hj).2.1
        constructor
        · intro h; omega
        · intro h; omega)
    refine ⟨σ, s1, ?_⟩
    have an : aI 0 (mk c3 d2 D) 101 1 = some (nI (c.pl.rules 0)) := by
      rw [show aI 0 (mk c3 d2 D) 101 1 = some (d2.now 1) from ya_101 (i := 1) (by omega), hP2.r0_]
    unfold m_X12_behind
    rw [yr_100_0, Option.bind_some, an, Option.bind_some]
    exact s2
  obtain ⟨σ, k1, _⟩ := key c2
  refine ⟨σ, k1, fun c3 => ?_⟩
  obtain ⟨σ2, k2, k3⟩ := key c3
  rw [k1] at k2
  cases k2
  exact k3
theorem p_replay (h : RR c d D) (hN : 10000 ≤ N) (i1 : Int32) : ∃ r c' d', m_X11_replay N 10 i1 (mk c d D) = some (r, mk c' d D) ∧ m_X12_replay N 100 i1 (mk c' d D) = some (r, mk c' d' D) ∧ RR c' d' D := by
  have hP := h.1
  have h0 := hP.r0
  rcases rg i1 4 with ⟨o, ho, rfl⟩ | hb
  · have e1 := wi_in (k := o) (m := 4) ho
    have f1 := in_in (k := o) (lo := 0) (hi := 4) (by omega) ho
    have pre : ∀ M : mM, m_X12_replay N 100 (nI o) M = (oO M 100 12).bind fun _ => (m_X12_goes N 100 (nI 0) M).bind fun x5 => if 0 ≤ x5.1 then (if nI o = 0 then (fI x5.2 100 12 21).bind fun x15 => some (x15, x5.2) else if nI o = 1 then (fR x5.2 100 12 0).bind fun x9 => (aI 0 x5.2 x9 1).bind fun x11 => (fI x5.2 100 12 20).bind fun x13 => some (x11 - x13, x5.2) else if nI o = 2 then (fI x5.2 100 12 20).bind fun x7 => some (x7, x5.2) else if nI o = 3 then some (x5.1, x5.2) else (fI x5.2 100 12 28).bind fun x7 => (oO x5.2 100 12).bind fun _ => (m_X12_behind N 100 x7 x5.2).bind fun x11 => some (x11, x5.2)) else some (x5.1, x5.2) := by
      intro M
      unfold m_X12_replay
      rw [show (0 : Int64) = lN 0 from rfl, show (4 : Int64) = lN 4 from rfl, f1, Option.bind_some, if_neg (by decide)]
      rfl
    have xpre : m_X11_replay N 10 (nI o) (mk c d D) = (m_X11_answerRequests N 10 (nI o) (nI 0) (mk c d D)).bind fun x5 => some (x5.1, x5.2) := by
      unfold m_X11_replay
      rw [(show m_X11_within (nI o) 4 = some (nI 1) from e1), Option.bind_some, if_neg (by decide), yo_10, Option.bind_some]
      rfl
    rcases rq_both (N := N) h (by omega) (hd := 0) (by omega) (nI o) with ⟨j, c2, d2, j20, x1, y1, r⟩ | ⟨T, c2, d2, hT, hTe, hv, x1, y1, r, sc, xd, da, dp, ap, n2, t2, a2, yd⟩
    · refine ⟨-100 - nI j, c2, d2, ?_, ?_, r⟩
      · rw [xpre, x1, Option.bind_some]
      · rw [pre, yo_100, Option.bind_some, y1, Option.bind_some, if_neg (m100 j20)]
    · obtain ⟨z1, z2, z3, z4, z5, z6, z7⟩ := xd
      obtain ⟨u1, u2, u3, u4, u5⟩ := yd
      rw [sc.1] at z2 z3 z5 z6
      rw [z6, z4, z3, dp] at x1
      rw [Int32.zero_add] at u4
      have hT5 := h.2.2.2.2.1
      obtain ⟨σ, b1, b2⟩ := behind_eq (c := c) (c2 := c2.s_tsize 0) (d := d) (d0 := d) (d2 := d2) (D := D) (N := N) hN hT hP n2 sc.1 hv (fun q hq => tbn_le hT5 q) (fun q hq => by rw [t2]; exact (tb_of hT5 (by omega)).2.2.2) da ap
      have b2 := b2 (c2.s_tsize 0)
      have an : aI 0 (mk (c2.s_tsize 0) d2 D) 101 1 = some (nI (c.pl.rules 0)) := by
        rw [show aI 0 (mk (c2.s_tsize 0) d2 D) 101 1 = some (d2.now 1) from ya_101 (i := 1) (by omega), n2, hP.r0_]
      have es : nI (c.pl.rules 0) - nI (c.pl.rules 0 - (rqL c.pl 0 T (tbn c) T).length) = nI (rqL c.pl 0 T (tbn c) T).length := by
        rw [pk_sub (by omega), show c.pl.rules 0 - (c.pl.rules 0 - (rqL c.pl 0 T (tbn c) T).length) = (rqL c.pl 0 T (tbn c) T).length by omega]
      have Y := (pre (mk (c2.s_tsize 0) d D))
      rw [yo_100, Option.bind_some, y1, Option.bind_some, if_pos (rqM_pos hT), yr_100_21, Option.bind_some, yr_100_0, Option.bind_some, an, Option.bind_some, yr_100_20, Option.bind_some, Option.bind_some, yr_100_28, Option.bind_some, yo_100, Option.bind_some, a2, b2, Option.bind_some, u2, u4, es] at Y
      rw [b1, Option.bind_some] at x1
      have : o = 0 ∨ o = 1 ∨ o = 2 ∨ o = 3 ∨ o = 4 := by omega
      rcases this with rfl | rfl | rfl | rfl | rfl
      · rw [if_pos (show nI 0 = 0 from rfl)] at x1 Y
        exact ⟨_, _, _, by rw [xpre, x1, Option.bind_some], Y, r⟩
      · rw [if_neg (show ¬ nI 1 = 0 by decide), if_pos (show nI 1 = 1 from rfl)] at x1 Y
        exact ⟨_, _, _, by rw [xpre, x1, Option.bind_some], Y, r⟩
      · rw [if_neg (show ¬ nI 2 = 0 by decide), if_neg (show ¬ nI 2 = 1 by decide), if_pos (show nI 2 = 2 from rfl)] at x1 Y
        exact ⟨_, _, _, by rw [xpre, x1, Option.bind_some], Y, r⟩
      · rw [if_neg (show ¬ nI 3 = 0 by decide), if_neg (show ¬ nI 3 = 1 by decide), if_neg (show ¬ nI 3 = 2 by decide), if_pos (show nI 3 = 3 from rfl)] at x1 Y
        exact ⟨_, _, _, by rw [xpre, x1, Option.bind_some], Y, r⟩
      · rw [if_neg (show ¬ nI 4 = 0 by decide), if_neg (show ¬ nI 4 = 1 by decide), if_neg (show ¬ nI 4 = 2 by decide), if_neg (show ¬ nI 4 = 3 by decide)] at x1 Y
        exact ⟨_, _, _, by rw [xpre, x1, Option.bind_some], Y, r⟩
  · have e1 := wi_out (x := i1) (m := 4) hb
    have f1 := in_out (x := i1) (lo := 0) (hi := 4) (by omega)
    refine ⟨-1, c, d, ?_, ?_, h⟩
    · unfold m_X11_replay
      rw [(show m_X11_within i1 4 = some (nI 0) from e1), Option.bind_some, if_pos (by decide)]
    · unfold m_X12_replay
      rw [show (0 : Int64) = lN 0 from rfl, show (4 : Int64) = lN 4 from rfl, f1, Option.bind_some, if_pos (by decide)]
end
