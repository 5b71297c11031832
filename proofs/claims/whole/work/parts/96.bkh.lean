-- the book: both sides
section
variable {c : CS} {d : MS} {D : mM} {N k : Nat} {a : Int32} {P : PL}
theorem xbk0 {fo : Option Nat} {cE : CS} {DE : mM} (hx : m_X7_faultAsBook_L12 N 13 52 N 77 14 0 (mk ((c.s_tat 0).s_tn 0) d D) 0 0 = some (encB fo, mk cE d DE)) : m_X11_book N 13 52 10 (mk c d D) = if encB fo = -1 then m_X11_book_L34 N 13 52 N 10 0 (mk (cE.s_tsize 0) d DE) (0 + 13) (0 + 52) else some (-100 - encB fo, mk (cE.s_tsize 0) d DE) := by
  have o : oif (0 + 13 ≤ 13 ∧ 0 + 52 ≤ 52) = some () := if_pos ⟨by omega, by omega⟩
  have w4 : sV (mk c d D) 77 7 4 (.int 0) = some (mk (c.s_tat 0) d D) := yw_77_4 (x := 0)
  have w3 : sV (mk (c.s_tat 0) d D) 77 7 3 (.int 0) = some (mk ((c.s_tat 0).s_tn 0) d D) := yw_77_3 (x := 0)
  have w1 : sV (mk cE d DE) 77 7 1 (.int 0) = some (mk (cE.s_tsize 0) d DE) := yw_77_1 (x := 0)
  unfold m_X11_book m_X7_faultAsBook m_X7_wipe
  rw [yr_10_6, Option.bind_some, yr_10_0, Option.bind_some, yr_11_3, Option.bind_some, yo_77, Option.bind_some, o, Option.bind_some, w4, Option.bind_some, w3, Option.bind_some, hx, Option.bind_some, yr_10_6, Option.bind_some, yo_77, Option.bind_some, w1, Option.bind_some, Option.bind_some]
theorem yj58f (hN : 200 ≤ N) {f : Nat} (hf : d.fault = nI f) (hl : f ≤ 1000) (i1 : Int32) : m_X12_book_J58 N 100 i1 (mk c d D) = some (-100 - nI f, mk c ((d.s_taped 0).s_now (wC d)) D) := by
  have p2 := pour2_ (c := c) (d := d.s_taped 0) (D := D) hN
  unfold m_X12_book_J58
  rw [yw_100_3, Option.bind_some, yr_100_25, Option.bind_some, show (d.s_taped 0).fault = nI f from hf, if_pos (nI_ge0 hl), yr_100_27, Option.bind_some, yr_100_0, Option.bind_some, p2, Option.bind_some, yr_100_25, Option.bind_some, show ((d.s_taped 0).s_now (wC (d.s_taped 0))).fault = nI f from hf]
  rfl
theorem yj58o (hf : d.fault = -1) (i1 : Int32) : m_X12_book_J58 N 100 i1 (mk c d D) = some (i1, mk c (d.s_taped 0) D) := by
  unfold m_X12_book_J58
  rw [yw_100_3, Option.bind_some, yr_100_25, Option.bind_some, show (d.s_taped 0).fault = -1 from hf, if_neg (by decide)]
theorem ybk0 (hN : 200 ≤ N) : m_X12_book N 100 (mk c d D) = m_X12_book_L23 N N 100 0 (mk c (((d.s_at_ 0).s_fault (-1)).s_ahead (aC d)) D) := by
  have p1 := pour1_ (c := c) (d := (d.s_at_ 0).s_fault (-1)) (D := D) hN
  unfold m_X12_book
  rw [yw_100_24, Option.bind_some, yw_100_25, Option.bind_some, yr_100_0, Option.bind_some, yr_100_27, Option.bind_some, p1, Option.bind_some]
  rfl
/-- both sides keep the relation over what a book leaves behind -/
theorem RR.bk {D2 : mM} {x1 : Nat → Option Nat} {x2 x3 : Nat} {x4 x5 x6 x7 : Int32} {y1 w y4 : Nat → Int32} {y2 y3 : Int32} (h : RR c d D) (hx : DX D D2) {Q : PL} (hP : PR Q w) (hR : RO Q w D2) (hw : Q.rules = c.pl.rules ∧ Q.price = c.pl.price ∧ Q.kind = c.pl.kind) (ho : Q.odds = c.pl.odds) (hn : Q.n = c.pl.n) : RR (((cP c x1 x2 x3 x4 x5 x6 x7).s_tsize 0).s_pl Q) (((dP (((d.s_at_ 0).s_fault (-1)).s_ahead (aC d)) y1 y2 y3 y4).s_taped 0).s_now w) D2 := by
  have hr := h.ext hx
  exact ⟨hP, hR, hr.2.2.1, hr.2.2.2.1.like rfl rfl hw ho hn, ⟨Nat.zero_le _, rfl, fun i hi => absurd hi (Nat.not_lt_zero _)⟩, hr.2.2.2.2.2.1, hr.2.2.2.2.2.2.1, hr.2.2.2.2.2.2.2⟩
theorem book_N (hN : 200 ≤ N) (h : RR c d D) : ∃ r c2 d2 D2, m_X11_book N 13 52 10 (mk c d D) = some (r, mk c2 d D2) ∧ m_X12_book N 100 (mk c2 d D2) = some (r, mk c2 d2 D2) ∧ RR c2 d2 D2 := by
  have hP := h.1
  have hR := h.2.1
  have hT := h.2.2.2.2.1
  have bi : BKI c (((d.s_at_ 0).s_fault (-1)).s_ahead (aC d)) D 0 0 (cP c c.tread 0 0 c.tname c.tlegs c.tprice c.twanted) [] (fun _ => d.now) := by
    refine ⟨⟨c.tread, c.tname, c.tlegs, c.tprice, c.twanted, rfl⟩, by omega, by omega, ⟨fun _ => 0, fun q hq => absurd hq (Nat.not_lt_zero _), fun v => ⟨fun hh => Or.inl hh, fun hh => ?_⟩⟩, ⟨c.pl, hP, hR.ext DX.app, rfl⟩, rfl, fun q hq => absurd hq (Nat.not_lt_zero _)⟩
    rcases hh with hh | ⟨q, hq, _⟩
    · exact hh
    · exact absurd hq (Nat.not_lt_zero _)
  obtain ⟨fo, cE, nE, E2, M, k1, k2, ⟨x1, x2, x3, x4, x5, x6, x7, rfl⟩, k4, k5⟩ := bk_go (N := N) (c := c) (d := ((d.s_at_ 0).s_fault (-1)).s_ahead (aC d)) (d0 := d) (D := D) (by omega) hP hR hT hT rfl 13 0 0 _ [] _ N N (by omega) bi (by omega) (by omega)
  rw [List.append_nil] at k1
  have k1 : m_X7_faultAsBook_L12 N 13 52 N 77 14 0 (mk ((c.s_tat 0).s_tn 0) d D) 0 0 = some (encB fo, mk (cP c x1 x2 x3 x4 x5 x6 x7) d (D ++ E2)) := k1
  have xb := xbk0 k1
  have ed : dP (((d.s_at_ 0).s_fault (-1)).s_ahead (aC d)) d.read (nI 0) (-1) d.now = ((d.s_at_ 0).s_fault (-1)).s_ahead (aC d) := rfl
  cases fo with
  | some f =>
    have f1 := k4 f rfl
    rw [if_neg (show ¬ encB (some f) = -1 from nI_m1 f1)] at xb
    obtain ⟨y1, y2, k6⟩ := k2 ((cP c x1 x2 x3 x4 x5 x6 x7).s_tsize 0) (D ++ E2) d.read
    rw [ed] at k6
    have wd : ∀ z, z < 129 → wC ((dP (((d.s_at_ 0).s_fault (-1)).s_ahead (aC d)) y1 y2 (encB (some f)) nE)) z = d.now z := fun z hz => by
      show (if z < 129 then aC d z else nE z) = d.now z
      rw [if_pos hz]
      unfold aC
      rw [if_pos hz]
    refine ⟨-100 - nI f, (cP c x1 x2 x3 x4 x5 x6 x7).s_tsize 0, ((dP (((d.s_at_ 0).s_fault (-1)).s_ahead (aC d)) y1 y2 (encB (some f)) nE).s_taped 0).s_now (wC (dP (((d.s_at_ 0).s_fault (-1)).s_ahead (aC d)) y1 y2 (encB (some f)) nE)), D ++ E2, xb, ?_, ?_⟩
    · rw [ybk0 hN]
      exact k6.trans (yj58f hN rfl f1 _)
    · exact RR.bk h DX.app (Q := c.pl) (hP.like ⟨rfl, rfl, rfl, rfl, rfl, rfl, rfl, rfl, rfl, rfl⟩ fun z hz => wd z (by omega)) ((hR.ext DX.app).like ⟨rfl, rfl⟩ hP.rc fun z h1 h2 => wd z (by omega)) ⟨rfl, rfl, rfl⟩ rfl rfl
  | none =>
    obtain ⟨ns, n1, n2, n3, n4, n5⟩ := k5 rfl
    rw [if_pos (show encB none = -1 from rfl)] at xb
    obtain ⟨Q, q1, q2, q3, q4, q5, q6⟩ := xadds (d := d) (D := D ++ E2) (N := N) (mc := 13) (ms := 52) hN n2 n5 (P0 := c.pl) M 0 N ((cP c x1 x2 x3 x4 x5 x6 x7).s_tsize 0) (0 + 13) (0 + 52) (by omega) (by omega) n1 rfl (by rw [n3]; exact hP) (by rw [n3]; exact hR.ext DX.app) rfl ⟨rfl, rfl, rfl⟩ rfl rfl
    obtain ⟨y1, y2, k6⟩ := k2 (((cP c x1 x2 x3 x4 x5 x6 x7).s_tsize 0).s_pl Q) (D ++ E2) d.read
    rw [ed] at k6
    refine ⟨nI M, ((cP c x1 x2 x3 x4 x5 x6 x7).s_tsize 0).s_pl Q, ((dP (((d.s_at_ 0).s_fault (-1)).s_ahead (aC d)) y1 y2 (encB none) nE).s_taped 0).s_now nE, D ++ E2, xb.trans q1, ?_, ?_⟩
    · rw [ybk0 hN]
      exact k6.trans (yj58o rfl _)
    · rw [n4]
      exact RR.bk h DX.app q2 q3 q4 q5 q6
theorem book_ok : BookOK := fun c d D h => book_N (by omega) h
end
