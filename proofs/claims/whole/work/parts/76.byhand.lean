-- by hand
section
variable {c c0 : CS} {d d0 : MS} {D : mM} {N k : Nat} {a : Int32} {P : PL}
theorem m100 {j : Nat} (h : j ≤ 20) : ¬ (0 : Int32) ≤ -100 - nI j := by
  have : ∀ j, j < 21 → ¬ (0 : Int32) ≤ -100 - nI j := by decide +kernel
  exact this j (by omega)
theorem rqM_pos {P : PL} {hd T : Nat} {b : Nat → Nat} (h : T ≤ 20) : (0 : Int32) ≤ nI (rqM P hd T b T) := by
  have := rqM_lt (P := P) (hd := hd) (T := T) (b := b) T h
  rw [show (0 : Int32) = nI 0 from rfl, nI_leI (by omega) (by omega)]
  omega
theorem p_byHand (h : RR c d D) (hN : 200 ≤ N) (i1 : Int32) : ∃ r c' d', m_X11_byHand N 10 i1 (mk c d D) = some (r, mk c' d D) ∧ m_X12_byHand N 100 i1 (mk c' d D) = some (r, mk c' d' D) ∧ RR c' d' D := by
  have hP := h.1
  have h0 := hP.r0
  rcases rg i1 3 with ⟨o, ho, rfl⟩ | hb
  · have e1 := wi_in (k := o) (m := 3) ho
    have f1 := in_in (k := o) (lo := 0) (hi := 3) (by omega) ho
    have pre : ∀ M : mM, m_X12_byHand N 100 (nI o) M = (oO M 100 12).bind fun _ => (m_X12_goes N 100 (nI 1) M).bind fun x5 => if 0 ≤ x5.1 then (if nI o = 0 then (fI x5.2 100 12 21).bind fun x15 => some (x15, x5.2) else if nI o = 1 then (fR x5.2 100 12 0).bind fun x9 => (aI 0 x5.2 x9 1).bind fun x11 => (fI x5.2 100 12 20).bind fun x13 => some (x11 - x13, x5.2) else if nI o = 2 then (fI x5.2 100 12 20).bind fun x7 => some (x7, x5.2) else some (x5.1, x5.2)) else some (x5.1, x5.2) := by
      intro M
      unfold m_X12_byHand
      rw [show (0 : Int64) = lN 0 from rfl, show (3 : Int64) = lN 3 from rfl, f1, Option.bind_some, if_neg (by decide)]
      rfl
    have xpre : m_X11_byHand N 10 (nI o) (mk c d D) = (m_X11_answerRequests N 10 (nI o) (nI 1) (mk c d D)).bind fun x5 => some (x5.1, x5.2) := by
      unfold m_X11_byHand
      rw [(show m_X11_within (nI o) 3 = some (nI 1) from e1), Option.bind_some, if_neg (by decide), yo_10, Option.bind_some]
      rfl
    rcases rq_both h hN (hd := 1) (by omega) (nI o) with ⟨j, c2, d2, j20, x1, y1, r⟩ | ⟨T, c2, d2, hT, hTe, hv, x1, y1, r, sc, xd, da, dp, ap, n2, t2, a2, yd⟩
    · refine ⟨-100 - nI j, c2, d2, ?_, ?_, r⟩
      · rw [xpre, x1, Option.bind_some]
      · rw [pre, yo_100, Option.bind_some, y1, Option.bind_some, if_neg (m100 j20)]
    · obtain ⟨z1, z2, z3, z4, z5, z6, z7⟩ := xd
      obtain ⟨u1, u2, u3, u4, u5⟩ := yd
      rw [sc.1] at z2 z3 z5 z6
      rw [z6, z4, z3, dp] at x1
      rw [Int32.zero_add] at u4
      have an : aI 0 (mk (c2.s_tsize 0) d2 D) 101 1 = some (nI (c.pl.rules 0)) := by
        rw [show aI 0 (mk (c2.s_tsize 0) d2 D) 101 1 = some (d2.now 1) from ya_101 (i := 1) (by omega), n2, hP.r0_]
      have es : nI (c.pl.rules 0) - nI (c.pl.rules 0 - (rqL c.pl 1 T (tbn c) T).length) = nI (rqL c.pl 1 T (tbn c) T).length := by
        rw [pk_sub (by omega), show c.pl.rules 0 - (c.pl.rules 0 - (rqL c.pl 1 T (tbn c) T).length) = (rqL c.pl 1 T (tbn c) T).length by omega]
      have Y := (pre (mk (c2.s_tsize 0) d D))
      rw [yo_100, Option.bind_some, y1, Option.bind_some, if_pos (rqM_pos hT), yr_100_21, Option.bind_some, yr_100_0, Option.bind_some, an, Option.bind_some, yr_100_20, Option.bind_some, Option.bind_some, u2, u4, es] at Y
      have : o = 0 ∨ o = 1 ∨ o = 2 ∨ o = 3 := by omega
      rcases this with rfl | rfl | rfl | rfl
      · rw [if_pos (show nI 0 = 0 from rfl)] at x1 Y
        exact ⟨_, _, _, by rw [xpre, x1, Option.bind_some], Y, r⟩
      · rw [if_neg (show ¬ nI 1 = 0 by decide), if_pos (show nI 1 = 1 from rfl)] at x1 Y
        exact ⟨_, _, _, by rw [xpre, x1, Option.bind_some], Y, r⟩
      · rw [if_neg (show ¬ nI 2 = 0 by decide), if_neg (show ¬ nI 2 = 1 by decide), if_pos (show nI 2 = 2 from rfl)] at x1 Y
        exact ⟨_, _, _, by rw [xpre, x1, Option.bind_some], Y, r⟩
      · rw [if_neg (show ¬ nI 3 = 0 by decide), if_neg (show ¬ nI 3 = 1 by decide), if_neg (show ¬ nI 3 = 2 by decide)] at x1 Y
        rw [if_pos (show nI 3 = 3 from rfl)] at x1
        exact ⟨_, _, _, by rw [xpre, x1, Option.bind_some], Y, r⟩
  · have e1 := wi_out (x := i1) (m := 3) hb
    have f1 := in_out (x := i1) (lo := 0) (hi := 3) (by omega)
    refine ⟨-1, c, d, ?_, ?_, h⟩
    · unfold m_X11_byHand
      rw [(show m_X11_within i1 3 = some (nI 0) from e1), Option.bind_some, if_pos (by decide)]
    · unfold m_X12_byHand
      rw [show (0 : Int64) = lN 0 from rfl, show (3 : Int64) = lN 3 from rfl, f1, Option.bind_some, if_pos (by decide)]
end
