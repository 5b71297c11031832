-- requests: by hand
section
variable {c c0 : CS} {d d0 : MS} {D : mM} {N k : Nat} {a : Int32} {P : PL}
theorem wiped (h : RR c d D) : RR (c.s_tsize 0) (d.s_taped (nI 0)) D := ⟨h.1, h.2.1, h.2.2.1, h.2.2.2.1, ⟨Nat.zero_le _, rfl, fun i hi => absurd hi (Nat.not_lt_zero _)⟩, h.2.2.2.2.2.1, h.2.2.2.2.2.2.1, h.2.2.2.2.2.2.2⟩
/-- both sides up to the answers -/
theorem rq_both (h : RR c d D) (hN : 200 ≤ N) {hd : Nat} (hh : hd ≤ 1) (i1 : Int32) : (∃ j c2 d2, j ≤ 20 ∧ m_X11_answerRequests N 10 i1 (nI hd) (mk c d D) = some (-100 - nI j, mk c2 d D) ∧ m_X12_goes N 100 (nI hd) (mk c2 d D) = some (-100 - nI j, mk c2 d2 D) ∧ RR c2 d2 D) ∨ (∃ (T : Nat) (c2 : CS) (d2 : MS), T ≤ 20 ∧ T = c.tsize ∧ (∀ q, q < T → vF c.pl.n (tbn c q)) ∧ (m_X11_answerRequests N 10 i1 (nI hd) (mk c d D) = if i1 = 0 then some (c2.dprices, mk (c2.s_tsize 0) d D) else if i1 = 1 then some (nI c2.dcount, mk (c2.s_tsize 0) d D) else if i1 = 2 then some (nI c2.dleft, mk (c2.s_tsize 0) d D) else if i1 = 3 then some (c2.dplaces, mk (c2.s_tsize 0) d D) else (m_X1_pricesBehind N 80 (mk (c2.s_tsize 0) d D)).bind fun x15 => some (x15, mk (c2.s_tsize 0) d D)) ∧ m_X12_goes N 100 (nI hd) (mk (c2.s_tsize 0) d D) = some (nI (rqM c.pl hd T (tbn c) T), mk (c2.s_tsize 0) d2 D) ∧ RR (c2.s_tsize 0) d2 D ∧ SC c c2 ∧ XD c2 (rqL c.pl hd T (tbn c) T) ∧ c2.dasked = rqA (tbn c) T ∧ c2.dplaces = nI (rqM c.pl hd T (tbn c) T) ∧ AP c.pl (tbn c) c2.pa T ∧ d2.now = d.now ∧ d2.tape = d.tape ∧ d2.asked = nI T ∧ YD c.pl 0 d2 (rqL c.pl hd T (tbn c) T)) := by
  have hP := h.1
  have hT := h.2.2.2.2.1
  have ht := hT.1
  have hn6 := hP.n
  have xf : m_X7_faultAsRequests N 77 (nI c.pl.n) (mk c d D) = some (fq c.pl.n c.tsize (tbn c) c.tsize 0) := xfq_go (d := d) (D := D) (N := N) hT hn6 N c.tsize 0 (by omega) (by omega) (by omega)
  have yf : ∀ c', m_X12_wrongSign N 100 (mk c' d D) = some (fq c.pl.n c.tsize (tbn c) c.tsize 0) := fun c' => yfq_go (c := c') (D := D) (N := N) hP hT N c.tsize 0 (by omega) (by omega) (by omega)
  have w : ∀ c' : CS, m_X7_wipe 77 (mk c' d D) = some (mk (c'.s_tsize 0) d D) := fun c' => rfl
  have ygo : ∀ c', m_X12_goes N 100 (nI hd) (mk c' d D) = if fq c.pl.n c.tsize (tbn c) c.tsize 0 < 0 then (m_X12_reckons N 100 (nI c.tsize) (mk c' ((d.s_asked (nI c.tsize)).s_taped (nI 0)) D)).bind (fun x15 => (oO x15 100 12).bind fun _ => (m_X12_opens N 100 x15).bind fun x19 => (sV x19 100 12 21 (.int 0)).bind fun M21 => m_X12_goes_L49 N N 100 (nI hd) 0 0 M21) else some (-100 - fq c.pl.n c.tsize (tbn c) c.tsize 0, mk c' ((d.s_asked (nI c.tsize)).s_taped (nI 0)) D) := by
    intro c'
    unfold m_X12_goes
    rw [yo_100, Option.bind_some, yf, Option.bind_some, yr_100_3, Option.bind_some, hT.2.1, yw_100_28, Option.bind_some, show (Value.int 0) = Value.int (nI 0) from rfl, yw_100_3, Option.bind_some, yr_100_28, Option.bind_some, yo_100, Option.bind_some]
    rfl
  rcases fq_cases (n := c.pl.n) (T := c.tsize) (b := tbn c) c.tsize 0 (by omega) (by omega) with ⟨f1, f2, f3, f4⟩ | ⟨j, j20, fj⟩
  · right
    have hv : ∀ q, q < c.tsize → vF c.pl.n (tbn c q) := fun q hq => f4 q (by omega) hq
    obtain ⟨b1, b2, b3⟩ := begin_xd (c := c)
    obtain ⟨c2, n2, r1, r2, r3, r4, r5, r6, r7⟩ := xrq_go (d := d) (D := D) (N := N) (by omega) hP hh f2 hv i1 N c.tsize 0 (beginC c) (by omega) (by omega) (by rfl) h.2.2.2.1 hT (by rfl) (by rfl) b1 b2 (by rw [b3]; rfl) (fun q hq => by omega)
    have ts2 : c2.tsize = c.tsize := r3.2.1
    have sc : SC c c2 := (begin_sc (c := c)).trans h.2.2.2.1 r3
    have hR2 := sc.2.2.2 d D h r2
    have xend : m_X11_answerRequests_L42 N (n2 + 1) 10 i1 (nI hd) (nI c.tsize) (mk c2 d D) = if i1 = 0 then some (c2.dprices, mk (c2.s_tsize 0) d D) else if i1 = 1 then some (nI c2.dcount, mk (c2.s_tsize 0) d D) else if i1 = 2 then some (nI c2.dleft, mk (c2.s_tsize 0) d D) else if i1 = 3 then some (c2.dplaces, mk (c2.s_tsize 0) d D) else (m_X1_pricesBehind N 80 (mk (c2.s_tsize 0) d D)).bind fun x15 => some (x15, mk (c2.s_tsize 0) d D) := by
      unfold m_X11_answerRequests_L42
      rw [yr_10_6, Option.bind_some, yr_77_1, Option.bind_some, ts2, if_pos (nI_le (by omega) (by omega)), Option.bind_some, yo_77, Option.bind_some, w, Option.bind_some]
      simp only [yr_10_7, Option.bind_some, yr_80_7, yr_80_6, yr_80_4, yr_80_8, yo_80]
      rfl
    obtain ⟨wo, w1, w2⟩ := yreck (c := c2.s_tsize 0) (D := D) (N := N) (P := c.pl) (d := (d.s_asked (nI c.tsize)).s_taped (nI 0)) (by omega) hP f2
    obtain ⟨d1, o1, o2, o3, o4, o5⟩ := yopens (c := c2.s_tsize 0) (D := D) (N := N) (P := c.pl) (d := ((d.s_asked (nI c.tsize)).s_taped (nI 0)).s_worths wo) (by omega) hP
    have k1 : YD c.pl 0 (d1.s_prices (nI 0)) [] := ⟨o3.1, o3.2.1, o3.2.2.1, by show nI 0 = 0 + 0; rfl, o3.2.2.2.2⟩
    have n1 : d1.now = d.now := o2.1
    have t1 : d1.tape = d.tape := o2.2.1
    have a1 : d1.asked = nI c.tsize := o2.2.2.2.1
    have v1 : d1.worths = wo := o2.2.2.1
    obtain ⟨d2, g1, g2, g3⟩ := yrq_go (c := c2.s_tsize 0) (D := D) (N := N) (P := c.pl) (by omega) hh f2 (fun q hq => tbn_le hT q) hv (base := 0) N c.tsize 0 (d1.s_prices (nI 0)) (by omega) (by omega) (by show PR c.pl d1.now; rw [n1]; exact hP) a1 (fun q hq => by show d1.tape q = _; rw [t1]; exact (tb_of hT hq).2.2.2) (by show WOK c.pl c.tsize d1.worths; rw [v1]; exact w2) k1
    refine ⟨c.tsize, c2, d2, f2, rfl, hv, ?_, ?_, ?_, sc, r4, r5, r6, r7, by rw [g2.1]; exact n1, by rw [g2.2.1]; exact t1, by rw [g2.2.2.2.1]; exact a1, g3⟩
    · rw [← xend, ← r1]
      unfold m_X11_answerRequests
      rw [yr_10_6, Option.bind_some, yr_10_0, Option.bind_some, yr_11_1, Option.bind_some, yo_77, Option.bind_some, xf, Option.bind_some, f1, if_pos rfl, yr_10_7, Option.bind_some, yo_80, Option.bind_some, xdbegin, Option.bind_some]
      rfl
    · rw [ygo, f1, if_pos (by decide), w1, Option.bind_some, yo_100, Option.bind_some, o1, Option.bind_some, show (Value.int 0) = Value.int (nI 0) from rfl, yw_100_21, Option.bind_some]
      exact g1
    · have q0 := wiped hR2
      have q1 : RR (c2.s_tsize 0) ((((d.s_asked (nI c.tsize)).s_taped (nI 0)).s_worths wo).s_now (((d.s_asked (nI c.tsize)).s_taped (nI 0)).s_worths wo).now) D := q0
      have q2 := o2.2.2.2.2 _ _ _ q1
      have q3 : RR (c2.s_tsize 0) ((d1.s_prices (nI 0)).s_now d.now) D := q2
      have q4 := g2.2.2.2.2 _ _ _ q3
      have e : d2.now = d.now := by rw [g2.1]; exact n1
      rw [← e] at q4
      exact q4
  · left
    have jn : ¬ nI j = -1 := fun z => by have := congrArg Int32.toInt z; rw [nI_toInt (by omega)] at this; have e1 : (-1 : Int32).toInt = -1 := rfl; omega
    have jl : ¬ nI j < 0 := by rw [show (0 : Int32) = nI 0 from rfl, nI_ltI (by omega) (by omega)]; omega
    refine ⟨j, c.s_tsize 0, (d.s_asked (nI c.tsize)).s_taped (nI 0), j20, ?_, ?_, wiped h⟩
    · unfold m_X11_answerRequests
      rw [yr_10_6, Option.bind_some, yr_10_0, Option.bind_some, yr_11_1, Option.bind_some, yo_77, Option.bind_some, xf, Option.bind_some, fj, if_neg jn, Option.bind_some, yo_77, Option.bind_some, w, Option.bind_some]
    · rw [ygo, fj, if_neg jl]
end
