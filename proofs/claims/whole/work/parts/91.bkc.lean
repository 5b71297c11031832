-- one route, the reference's side
section
variable {c c0 : CS} {d d0 : MS} {D : mM} {N k : Nat} {a : Int32} {P : PL}
-- once a fault is known nothing moves
theorem nI_ge0 {f : Nat} (h : f ≤ 1000) : (0 : Int32) ≤ nI f := nI_le (a := 0) (by omega) (by omega)
theorem dwrong {f : Nat} (hf : d.fault = nI f) (h : f ≤ 1000) (x : Int32) : m_X12_wrong 100 x (mk c d D) = some (mk c d D) := by
  unfold m_X12_wrong
  rw [yr_100_25, Option.bind_some, hf, if_pos (nI_ge0 h)]
theorem dsign {f : Nat} (hf : d.fault = nI f) (h : f ≤ 1000) (x y : Int32) : m_X12_isSign 100 x y (mk c d D) = some 0 := by
  unfold m_X12_isSign
  rw [yr_100_25, Option.bind_some, hf, if_pos (nI_ge0 h)]
theorem at0 : d.s_at_ (d.at_ + 0) = d := by rw [Int32.add_zero]; rfl
theorem dtakes {f : Nat} (hf : d.fault = nI f) (h : f ≤ 1000) (x : Int32) : m_X12_takes 100 x (mk c d D) = some (0, mk c d D) := by
  unfold m_X12_takes
  rw [yo_100, Option.bind_some, dsign hf h, Option.bind_some, yr_100_24, Option.bind_some, if_pos rfl, yw_100_24, Option.bind_some, at0]
  rfl
theorem dneeds {f : Nat} (hf : d.fault = nI f) (h : f ≤ 1000) (x : Int32) : m_X12_needs 100 x (mk c d D) = some (mk c d D) := by
  unfold m_X12_needs
  rw [yo_100, Option.bind_some, dtakes hf h, Option.bind_some, if_pos rfl, yr_100_24, Option.bind_some, yo_100, Option.bind_some, dwrong hf h, Option.bind_some]
theorem dnumber {f p mx mn : Nat} (hf : d.fault = nI f) (h : f ≤ 1000) (ha : d.at_ = nI p) (hp : p ≤ 1000) (hm : 1 ≤ mx) (hm2 : mx ≤ 4) (hN : 100 ≤ N) : m_X12_number N 100 (nI mx) (nI mn) (mk c d D) = some (0, mk c d D) := by
  obtain ⟨M, rfl⟩ : ∃ M, N = M + 1 := ⟨N - 1, by omega⟩
  unfold m_X12_number
  rw [yr_100_24, Option.bind_some, ha]
  unfold m_X12_number_L8
  rw [yr_100_24, Option.bind_some, ha, nI_add, if_neg (by rw [nI_leI (by omega) (by omega)]; omega), yo_100, Option.bind_some, dsign hf h, Option.bind_some, if_pos rfl]
  unfold m_X12_number_J59
  rw [yr_100_24, Option.bind_some, ha, if_pos rfl, yo_100, Option.bind_some, dwrong hf h, Option.bind_some]
theorem dJ163 {f : Nat} (hf : d.fault = nI f) (h : f ≤ 1000) (x : Int32) : ∃ rd, m_X12_readRoute_J163 N 100 118 5 x (mk c d D) = some (mk c (d.s_read rd) D) := by
  refine ⟨va_up d.read 5 x, ?_⟩
  unfold m_X12_readRoute_J163
  have u : uI 0 .int (mk c d D) 118 5 x = some (mk c (d.s_read (va_up d.read 5 x)) D) := yu_118 (i := 5) (by omega)
  rw [u, Option.bind_some, yr_100_25, Option.bind_some, show (d.s_read (va_up d.read 5 x)).fault = nI f from hf, if_pos (nI_ge0 h)]
theorem dJ121 (hN : 100 ≤ N) {f p : Nat} (hf : d.fault = nI f) (h : f ≤ 1000) (ha : d.at_ = nI p) (hp : p ≤ 1000) : ∃ rd, m_X12_readRoute_J121 N 100 (mk c d D) = some (mk c (d.s_read rd) D) := by
  unfold m_X12_readRoute_J121
  have u : uI 0 .int (mk c d D) 118 4 0 = some (mk c (d.s_read (va_up d.read 4 0)) D) := yu_118 (i := 4) (by omega)
  have dn : m_X12_number N 100 4 1 (mk c d D) = some (0, mk c d D) := dnumber (mx := 4) (mn := 1) hf h ha hp (by omega) (by omega) hN
  rw [yo_100, Option.bind_some, dneeds hf h, Option.bind_some, yr_100_26, Option.bind_some, yo_100, Option.bind_some, dn, Option.bind_some, u, Option.bind_some, yr_100_26, Option.bind_some, yo_100, Option.bind_some, dtakes (d := d.s_read (va_up d.read 4 0)) hf h, Option.bind_some, if_pos rfl]
  obtain ⟨rd, e⟩ := dJ163 (N := N) (c := c) (D := D) (d := d.s_read (va_up d.read 4 0)) hf h 0
  exact ⟨rd, e⟩
theorem dJ30 (hN : 100 ≤ N) {f p : Nat} (hf : d.fault = nI f) (h : f ≤ 1000) (ha : d.at_ = nI p) (hp : p ≤ 1000) : ∃ rd, m_X12_readRoute_J30 N 100 (mk c d D) = some (mk c (d.s_read rd) D) := by
  obtain ⟨M, rfl⟩ : ∃ M, N = M + 1 := ⟨N - 1, by omega⟩
  unfold m_X12_readRoute_J30
  have u : uI 0 .int (mk c d D) 118 3 0 = some (mk c (d.s_read (va_up d.read 3 0)) D) := yu_118 (i := 3) (by omega)
  have r3 : aI 0 (mk c (d.s_read (va_up d.read 3 0)) D) 118 3 = some 0 := (ya_118 (i := 3) (by omega)).trans (by show some (va_up d.read 3 0 3) = _; rw [upe])
  rw [yo_100, Option.bind_some, dneeds hf h, Option.bind_some, yr_100_26, Option.bind_some, u, Option.bind_some]
  unfold m_X12_readRoute_L46
  rw [yo_100, Option.bind_some, dsign (d := d.s_read (va_up d.read 3 0)) hf h, Option.bind_some, if_pos rfl, yr_100_26, Option.bind_some, r3, Option.bind_some, if_pos rfl, yr_100_24, Option.bind_some, dwrong (d := d.s_read (va_up d.read 3 0)) hf h, Option.bind_some]
  exact dJ121 (d := d.s_read (va_up d.read 3 0)) hN hf h ha hp
-- no fault yet
theorem ytakes (hT : TP c0 d) {p s : Nat} (hs : s ≤ 127) (hs1 : 1 ≤ s) (hp : p ≤ 900) (hf : d.fault = -1) (ha : d.at_ = nI p) : m_X12_takes 100 (nI s) (mk c d D) = if tbn c0 p = s then some (1, mk c (d.s_at_ (nI (p + 1))) D) else some (0, mk c d D) := by
  have sg := ysign (c := c) (D := D) hT (i := p) (lo := s) (hi := s) (by omega) (by omega) (by omega) (by omega) hf ha
  unfold m_X12_takes
  by_cases z : tbn c0 p = s
  · have sg : m_X12_isSign 100 (nI s) (nI s) (mk c d D) = some (nI 1) := sg.trans (congrArg some (if_pos (by omega)))
    rw [yo_100, Option.bind_some, sg, Option.bind_some, yr_100_24, Option.bind_some, if_pos z, if_neg (show ¬ nI 1 = 0 by decide), ha, nI_1, yw_100_24, Option.bind_some]
    rfl
  · have sg : m_X12_isSign 100 (nI s) (nI s) (mk c d D) = some (nI 0) := sg.trans (congrArg some (if_neg (by omega)))
    rw [yo_100, Option.bind_some, sg, Option.bind_some, yr_100_24, Option.bind_some, if_neg z, if_pos (show nI 0 = 0 from rfl), yw_100_24, Option.bind_some, at0]
    rfl
theorem yneeds (hT : TP c0 d) {p s : Nat} (hs : s ≤ 127) (hs1 : 1 ≤ s) (hp : p ≤ 900) (hf : d.fault = -1) (ha : d.at_ = nI p) : m_X12_needs 100 (nI s) (mk c d D) = if tbn c0 p = s then some (mk c (d.s_at_ (nI (p + 1))) D) else some (mk c (d.s_fault (nI p)) D) := by
  unfold m_X12_needs
  rw [yo_100, Option.bind_some, ytakes hT hs hs1 hp hf ha]
  by_cases z : tbn c0 p = s
  · rw [if_pos z, if_pos z, Option.bind_some, if_neg (by show ¬ (1 : Int32) = 0; decide)]
  · rw [if_neg z, if_neg z, Option.bind_some, if_pos rfl, yr_100_24, Option.bind_some, yo_100, Option.bind_some, ywrong hf, Option.bind_some, ha]
theorem ynumber (hN : 100 ≤ N) (hT : TP c0 d) {p mx mn : Nat} (hm : mx ≤ 4) (hmn : mn ≤ 1) (hp : p ≤ 500) (hf : d.fault = -1) (ha : d.at_ = nI p) : m_X12_number N 100 (nI mx) (nI mn) (mk c d D) = some (nI (dgs (tbn c0) mx p 0).2, mk c ((d.s_at_ (nI (dgs (tbn c0) mx p 0).1)).s_fault (nbF p (dgs (tbn c0) mx p 0).1 (dgs (tbn c0) mx p 0).2 mn)) D) := by
  unfold m_X12_number
  rw [yr_100_24, Option.bind_some, ha]
  exact ynum_go (c := c) (D := D) (N := N) hm hmn hp N 0 0 p d hT hf ha (by omega) (by omega) (by omega) (by omega)
theorem f5_42 {b : Nat → Nat} {p : Nat} (h : b p = 42) : f5 b p = if (dgs b 2 (p + 1) 0).1 = p + 1 then some (p + 1) else none := by
  unfold f5
  by_cases z : (dgs b 2 (p + 1) 0).1 = p + 1
  · rw [if_pos ⟨h, z⟩, if_pos z]
  · rw [if_neg (fun y => z y.2), if_neg z]
/-- behind the price: '*' and how many are wanted -/
theorem y42b (hN : 100 ≤ N) (hT : TP c0 d) {p : Nat} (hp : p ≤ 400) (hf : d.fault = -1) (ha : d.at_ = nI p) : ∃ (r : Int32) (d2 : MS), m_X12_takes 100 42 (mk c d D) = some (r, mk c d2 D) ∧ ((r = 0 ∧ d2 = d ∧ f5 (tbn c0) p = none ∧ w5 (tbn c0) p = (p, 0)) ∨ (r = 1 ∧ (m_X12_number N 100 2 0 (mk c d2 D) = some (nI (w5 (tbn c0) p).2, mk c ((d.s_at_ (nI (w5 (tbn c0) p).1)).s_fault (encB (f5 (tbn c0) p))) D)))) := by
  have yt : m_X12_takes 100 42 (mk c d D) = _ := ytakes (c := c) (D := D) hT (s := 42) (by omega) (by omega) (by omega) hf ha
  have l1 := dg2 (b := tbn c0) (i := p + 1)
  by_cases z : tbn c0 p = 42
  · refine ⟨1, d.s_at_ (nI (p + 1)), by rw [yt, if_pos z], Or.inr ⟨rfl, ?_⟩⟩
    have yn : m_X12_number N 100 2 0 (mk c (d.s_at_ (nI (p + 1))) D) = _ := ynumber (c := c) (D := D) (N := N) (d := d.s_at_ (nI (p + 1))) (mx := 2) (mn := 0) hN hT (by omega) (by omega) (p := p + 1) (by omega) hf rfl
    rw [yn]
    unfold w5 nbF
    rw [if_pos z, f5_42 z]
    by_cases w : (dgs (tbn c0) 2 (p + 1) 0).1 = p + 1
    · rw [if_pos (Or.inl w), if_pos w]
      rfl
    · rw [if_neg (by omega), if_neg w]
      rfl
  · refine ⟨0, d, by rw [yt, if_neg z], Or.inl ⟨rfl, rfl, ?_, ?_⟩⟩
    · unfold f5
      rw [if_neg (fun y => z y.1)]
    · unfold w5
      rw [if_neg z]
theorem y121 (hN : 100 ≤ N) (hT : TP c0 d) {p : Nat} (hp : p ≤ 380) (hf : d.fault = -1) (ha : d.at_ = nI p) : (∀ f, f3 (tbn c0) p = some f → ∃ rd t, m_X12_readRoute_J121 N 100 (mk c d D) = some (mk c (((d.s_read rd).s_at_ (nI t)).s_fault (nI f)) D)) ∧ (f3 (tbn c0) p = none → m_X12_readRoute_J121 N 100 (mk c d D) = m_X12_readRoute_J163 N 100 118 5 (nI (w4 (tbn c0) (p + 1)).2.2) (mk c (((d.s_read (va_up d.read 4 (nI (w4 (tbn c0) (p + 1)).1))).s_at_ (nI (w4 (tbn c0) (p + 1)).2.1)).s_fault (-1)) D)) := by
  have yn : m_X12_needs 100 58 (mk c d D) = _ := yneeds (c := c) (D := D) hT (s := 58) (by omega) (by omega) (by omega) hf ha
  unfold m_X12_readRoute_J121
  rw [yo_100, Option.bind_some, yn]
  unfold f3
  by_cases z : tbn c0 p = 58
  · rw [if_pos z, if_pos z, Option.bind_some, yr_100_26, Option.bind_some, yo_100, Option.bind_some]
    have l4 := dg4 (b := tbn c0) (i := p + 1)
    have nb : m_X12_number N 100 4 1 (mk c (d.s_at_ (nI (p + 1))) D) = _ := ynumber (c := c) (D := D) (N := N) (d := d.s_at_ (nI (p + 1))) (mx := 4) (mn := 1) hN hT (by omega) (by omega) (p := p + 1) (by omega) hf rfl
    rw [nb, Option.bind_some]
    have u : ∀ (e : MS) (x : Int32), uI 0 .int (mk c e D) 118 4 x = some (mk c (e.s_read (va_up e.read 4 x)) D) := fun e x => yu_118 (i := 4) (by omega)
    rw [u, Option.bind_some, yr_100_26, Option.bind_some, yo_100, Option.bind_some]
    unfold f4 nbF
    by_cases w : (dgs (tbn c0) 4 (p + 1) 0).2 = 0
    · rw [if_pos w, if_pos (Or.inr (by omega))]
      refine ⟨fun f hff => ?_, fun h => by cases h⟩
      cases hff
      rw [dtakes (f := p + 1) rfl (by omega), Option.bind_some, if_pos rfl]
      obtain ⟨rd, e⟩ := dJ163 (N := N) (c := c) (D := D) (d := (((d.s_at_ (nI (p + 1))).s_at_ (nI (dgs (tbn c0) 4 (p + 1) 0).1)).s_fault (nI (p + 1))).s_read (va_up (((d.s_at_ (nI (p + 1))).s_at_ (nI (dgs (tbn c0) 4 (p + 1) 0).1)).s_fault (nI (p + 1))).read 4 (nI (dgs (tbn c0) 4 (p + 1) 0).2))) (f := p + 1) rfl (by omega) 0
      exact ⟨rd, (dgs (tbn c0) 4 (p + 1) 0).1, e⟩
    · have ne : ¬ ((dgs (tbn c0) 4 (p + 1) 0).1 = p + 1 ∨ (dgs (tbn c0) 4 (p + 1) 0).2 < 1) := by
        intro y
        rcases y with y | y
        · apply w
          have : ∀ m i, (dgs (tbn c0) m i 0).1 = i → (dgs (tbn c0) m i 0).2 = 0 := by
            intro m i h
            cases m with
            | zero => rfl
            | succ m =>
              unfold dgs at h ⊢
              split at h
              · have := dgs_le (b := tbn c0) m (i + 1) (0 * 10 + tbn c0 i - 48); omega
              · next q => rw [if_neg q]
          exact this 4 (p + 1) y
        · omega
      rw [if_neg w, if_neg ne]
      obtain ⟨r, d2, t1, t2⟩ := y42b (N := N) (c := c) (D := D) (c0 := c0) (d := (((d.s_at_ (nI (p + 1))).s_at_ (nI (dgs (tbn c0) 4 (p + 1) 0).1)).s_fault (-1)).s_read (va_up (((d.s_at_ (nI (p + 1))).s_at_ (nI (dgs (tbn c0) 4 (p + 1) 0).1)).s_fault (-1)).read 4 (nI (dgs (tbn c0) 4 (p + 1) 0).2))) hN hT (p := (dgs (tbn c0) 4 (p + 1) 0).1) (by omega) rfl rfl
      rw [t1, Option.bind_some]
      have e1 : (w4 (tbn c0) (p + 1)).1 = (dgs (tbn c0) 4 (p + 1) 0).2 := rfl
      have e2 : (w4 (tbn c0) (p + 1)).2 = w5 (tbn c0) (dgs (tbn c0) 4 (p + 1) 0).1 := rfl
      rw [e1, e2]
      rcases t2 with ⟨rfl, rfl, t4, t5⟩ | ⟨rfl, t3⟩
      · rw [if_pos rfl, t4, t5]
        exact ⟨fun f h => (by cases h), fun _ => rfl⟩
      · rw [if_neg (by show ¬ (1 : Int32) = 0; decide), yo_100, Option.bind_some, t3, Option.bind_some]
        refine ⟨fun f hff => ?_, fun h => ?_⟩
        · have fl := f5_le hff
          rw [hff]
          obtain ⟨rd, e⟩ := dJ163 (N := N) (c := c) (D := D) (d := (((((d.s_at_ (nI (p + 1))).s_at_ (nI (dgs (tbn c0) 4 (p + 1) 0).1)).s_fault (-1)).s_read (va_up (((d.s_at_ (nI (p + 1))).s_at_ (nI (dgs (tbn c0) 4 (p + 1) 0).1)).s_fault (-1)).read 4 (nI (dgs (tbn c0) 4 (p + 1) 0).2))).s_at_ (nI (w5 (tbn c0) (dgs (tbn c0) 4 (p + 1) 0).1).1)).s_fault (encB (some f))) (f := f) rfl (by omega) (nI (w5 (tbn c0) (dgs (tbn c0) 4 (p + 1) 0).1).2)
          exact ⟨rd, (w5 (tbn c0) (dgs (tbn c0) 4 (p + 1) 0).1).1, e⟩
        · rw [h]
          rfl
  · rw [if_neg z, if_neg z, Option.bind_some]
    refine ⟨fun f hff => ?_, fun h => by cases h⟩
    cases hff
    have := dJ121 (N := N) (c := c) (D := D) (d := d.s_fault (nI p)) (f := p) (p := p) hN rfl (by omega) ha (by omega)
    obtain ⟨rd, e⟩ := this
    unfold m_X12_readRoute_J121 at e
    rw [yo_100, Option.bind_some, dneeds (d := d.s_fault (nI p)) (f := p) rfl (by omega), Option.bind_some] at e
    refine ⟨rd, p, e.trans ?_⟩
    rw [← ha]
    rfl
theorem y30 (hN : 100 ≤ N) (hT : TP c0 d) {p : Nat} (hp : p ≤ 370) (hf : d.fault = -1) (ha : d.at_ = nI p) : (∀ f, f1 (tbn c0) p = some f → ∃ rd t, m_X12_readRoute_J30 N 100 (mk c d D) = some (mk c (((d.s_read rd).s_at_ (nI t)).s_fault (nI f)) D)) ∧ (f1 (tbn c0) p = none → m_X12_readRoute_J30 N 100 (mk c d D) = m_X12_readRoute_J163 N 100 118 5 (nI (w2 (tbn c0) (p + 1)).2.2.2) (mk c (((d.s_read (va_up (va_up d.read 3 (nI (w2 (tbn c0) (p + 1)).1)) 4 (nI (w2 (tbn c0) (p + 1)).2.1))).s_at_ (nI (w2 (tbn c0) (p + 1)).2.2.1)).s_fault (-1)) D)) := by
  have yn : m_X12_needs 100 61 (mk c d D) = _ := yneeds (c := c) (D := D) hT (s := 61) (by omega) (by omega) (by omega) hf ha
  have u : ∀ (e : MS) (x : Int32), uI 0 .int (mk c e D) 118 3 x = some (mk c (e.s_read (va_up e.read 3 x)) D) := fun e x => yu_118 (i := 3) (by omega)
  by_cases z : tbn c0 p = 61
  · unfold m_X12_readRoute_J30
    rw [yo_100, Option.bind_some, yn]
    unfold f1
    rw [if_pos z, if_pos z, Option.bind_some, yr_100_26, Option.bind_some, u, Option.bind_some]
    have l4 := lgs_le (b := tbn c0) 4 (p + 1) 48 0
    have yl : m_X12_readRoute_L46 N N 100 48 (mk c ((d.s_at_ (nI (p + 1))).s_read (va_up (d.s_at_ (nI (p + 1))).read 3 0)) D) = _ := ylegs_go (c := c) (D := D) (c0 := c0) (N := N) N 4 48 0 (p + 1) ((d.s_at_ (nI (p + 1))).s_read (va_up (d.s_at_ (nI (p + 1))).read 3 0)) hT hf rfl (by show va_up d.read 3 0 3 = _; rw [upe]; rfl) (by omega) (by omega) (by omega) (by omega) (by omega) (by omega) (by omega)
    rw [yl]
    have vu : ∀ x, va_up (va_up d.read 3 0) 3 x = va_up d.read 3 x := fun x => by
      funext q
      by_cases e : q = 3
      · subst e; rw [upe, upe]
      · rw [upn e, upn e, upn e]
    have vu2 : ∀ x, va_up (((d.s_at_ (nI (p + 1))).s_read (va_up (d.s_at_ (nI (p + 1))).read 3 0)).read) 3 x = va_up d.read 3 x := vu
    rw [vu2]
    unfold f2
    have e1 : (w2 (tbn c0) (p + 1)).1 = (lgs (tbn c0) 4 (p + 1) 48 0).2 := rfl
    have e2 : (w2 (tbn c0) (p + 1)).2 = w4 (tbn c0) ((lgs (tbn c0) 4 (p + 1) 48 0).1 + 1) := rfl
    rw [e1, e2]
    by_cases w : (lgs (tbn c0) 4 (p + 1) 48 0).2 = 0
    · rw [if_pos w, if_pos w]
      refine ⟨fun f hff => ?_, fun h => by cases h⟩
      cases hff
      obtain ⟨rd, e⟩ := dJ121 (N := N) (c := c) (D := D) (d := ((((d.s_at_ (nI (p + 1))).s_read (va_up (d.s_at_ (nI (p + 1))).read 3 0)).s_read (va_up d.read 3 (nI (lgs (tbn c0) 4 (p + 1) 48 0).2))).s_at_ (nI (lgs (tbn c0) 4 (p + 1) 48 0).1)).s_fault (nI (lgs (tbn c0) 4 (p + 1) 48 0).1)) (f := (lgs (tbn c0) 4 (p + 1) 48 0).1) (p := (lgs (tbn c0) 4 (p + 1) 48 0).1) hN rfl (by omega) rfl (by omega)
      exact ⟨rd, (lgs (tbn c0) 4 (p + 1) 48 0).1, e⟩
    · rw [if_neg w, if_neg w]
      obtain ⟨k1, k2⟩ := y121 (N := N) (c := c) (D := D) (c0 := c0) (d := ((((d.s_at_ (nI (p + 1))).s_read (va_up (d.s_at_ (nI (p + 1))).read 3 0)).s_read (va_up d.read 3 (nI (lgs (tbn c0) 4 (p + 1) 48 0).2))).s_at_ (nI (lgs (tbn c0) 4 (p + 1) 48 0).1)).s_fault (-1)) hN hT (p := (lgs (tbn c0) 4 (p + 1) 48 0).1) (by omega) rfl rfl
      exact ⟨fun f hff => k1 f hff, fun h => k2 h⟩
  · unfold f1
    rw [if_neg z]
    refine ⟨fun f hff => ?_, fun h => by cases h⟩
    cases hff
    obtain ⟨rd, e⟩ := dJ30 (N := N) (c := c) (D := D) (d := d.s_fault (nI p)) (f := p) (p := p) hN rfl (by omega) ha (by omega)
    refine ⟨rd, p, ?_⟩
    unfold m_X12_readRoute_J30 at e ⊢
    rw [yo_100, Option.bind_some, dneeds (d := d.s_fault (nI p)) (f := p) rfl (by omega), Option.bind_some] at e
    rw [yo_100, Option.bind_some, yn, if_neg z, Option.bind_some]
    refine e.trans ?_
    rw [← ha]
    rfl
-- the name
theorem ylet_go {i : Nat} (hi : i ≤ 400) : ∀ (n m q : Nat) (d : MS), TP c0 d → m + q = 3 → d.fault = -1 → d.at_ = nI (i + q) → m < n → ∃ rd, m_X12_name_L25 N n 100 (nI i) (mk c d D) = m_X12_name_J79 N 100 (nI i) (mk c ((d.s_read rd).s_at_ (nI (i + (q + lts (tbn c0) m (i + q))))) D) ∧ ∀ z, rd z = if q ≤ z ∧ z < q + lts (tbn c0) m (i + q) then nI (tbn c0 (i + z)) else d.read z := by
  intro n
  induction n with
  | zero => intro m q d _ _ _ _ h; omega
  | succ n ih =>
    intro m q d hT hm hf ha hn
    have ek : (d.s_read d.read).s_at_ (nI (i + q)) = d := by rw [← ha]; rfl
    unfold m_X12_name_L25
    rw [yr_100_24, Option.bind_some, ha, show (3 : Int32) = nI 3 from rfl, nI_add]
    cases m with
    | zero =>
      obtain rfl : q = 3 := by omega
      refine ⟨d.read, ?_, fun z => ?_⟩
      · rw [if_pos (nI_le (by omega) (by omega))]
        show _ = m_X12_name_J79 N 100 (nI i) (mk c ((d.s_read d.read).s_at_ (nI (i + 3))) D)
        rw [ek]
      · rw [if_neg]
        show ¬ (3 ≤ z ∧ z < 3 + 0)
        omega
    | succ m =>
      have sg := ysign (c := c) (D := D) hT (i := i + q) (lo := 97) (hi := 122) (by omega) (by omega) (by omega) (by omega) hf ha
      have sg : m_X12_isSign 100 97 122 (mk c d D) = some (if 97 ≤ tbn c0 (i + q) ∧ tbn c0 (i + q) ≤ 122 then nI 1 else nI 0) := sg
      rw [if_neg (by rw [nI_leI (by omega) (by omega)]; omega), yo_100, Option.bind_some, sg, Option.bind_some]
      unfold lts
      by_cases z : 97 ≤ tbn c0 (i + q) ∧ tbn c0 (i + q) ≤ 122
      · have zp : i + q < c0.tsize := by
          rcases Nat.lt_or_ge (i + q) c0.tsize with w | w
          · exact w
          · have : tbn c0 (i + q) = 0 := by unfold tbn; rw [if_neg (by omega)]
            omega
        obtain ⟨t1, t2, t3, t4⟩ := tb_of hT zp
        have ht := hT.1
        rw [if_pos z, if_pos z, if_neg (show ¬ nI 1 = 0 by decide), yr_100_26, Option.bind_some, Option.bind_some, yr_100_4, Option.bind_some, Option.bind_some, ya_103 (by omega), Option.bind_some, pk_sub (by omega), Nat.add_sub_cancel_left, yu_118 (by omega), Option.bind_some, t4, yr_100_24, Option.bind_some, show (d.s_read (va_up d.read q (nI (tbn c0 (i + q))))).at_ = nI (i + q) from ha, nI_1, yw_100_24, Option.bind_some]
        obtain ⟨rd, r1, r2⟩ := ih m (q + 1) ((d.s_read (va_up d.read q (nI (tbn c0 (i + q))))).s_at_ (nI (i + q + 1))) hT (by omega) hf (by rfl) (by omega)
        refine ⟨rd, ?_, fun w => ?_⟩
        · rw [r1, show i + q + 1 = i + (q + 1) by omega, show q + (lts (tbn c0) m (i + (q + 1)) + 1) = q + 1 + lts (tbn c0) m (i + (q + 1)) by omega]
          rfl
        · rw [r2 w]
          show (if q + 1 ≤ w ∧ w < q + 1 + lts (tbn c0) m (i + (q + 1)) then nI (tbn c0 (i + w)) else va_up d.read q (nI (tbn c0 (i + q))) w) = _
          rw [show i + q + 1 = i + (q + 1) by omega]
          by_cases h1 : q + 1 ≤ w ∧ w < q + 1 + lts (tbn c0) m (i + (q + 1))
          · rw [if_pos h1, if_pos (by omega)]
          · rw [if_neg h1]
            by_cases h2 : w = q
            · subst h2
              rw [upe, if_pos (by omega)]
            · rw [upn h2, if_neg (by omega)]
      · refine ⟨d.read, ?_, fun w => ?_⟩
        · rw [if_neg z, if_neg z, if_pos (by decide), Nat.add_zero, ek]
        · rw [if_neg z, if_neg (by omega)]
theorem yname0 (hN : 100 ≤ N) {i : Nat} (ha : d.at_ = nI i) : ∃ rd, m_X12_name N 100 (mk c d D) = m_X12_name_L25 N N 100 (nI i) (mk c (d.s_read rd) D) ∧ rd 0 = 0 ∧ rd 1 = 0 ∧ rd 2 = 0 := by
  obtain ⟨M, rfl⟩ : ∃ M, N = M + 4 := ⟨N - 4, by omega⟩
  have u0 : ∀ e : MS, uI 0 .int (mk c e D) 118 0 0 = some (mk c (e.s_read (va_up e.read 0 0)) D) := fun e => yu_118 (i := 0) (by omega)
  have u1 : ∀ e : MS, uI 0 .int (mk c e D) 118 (0 + 1) 0 = some (mk c (e.s_read (va_up e.read 1 0)) D) := fun e => yu_118 (i := 1) (by omega)
  have u2 : ∀ e : MS, uI 0 .int (mk c e D) 118 (0 + 1 + 1) 0 = some (mk c (e.s_read (va_up e.read 2 0)) D) := fun e => yu_118 (i := 2) (by omega)
  have st : ∀ n (v : Int32) (M1 : mM), m_X12_name_L7 (M + 4) (n + 1) 100 (nI i) v M1 = if 3 ≤ v then m_X12_name_L25 (M + 4) (M + 4) 100 (nI i) M1 else (fR M1 100 12 26).bind fun x1 => (uI 0 .int M1 x1 v 0).bind fun M3 => m_X12_name_L7 (M + 4) n 100 (nI i) (v + 1) M3 := fun n v M1 => rfl
  refine ⟨va_up (va_up (va_up d.read 0 0) 1 0) 2 0, ?_, ?_, ?_, ?_⟩
  · unfold m_X12_name
    rw [yr_100_24, Option.bind_some, ha, st, if_neg (by decide), yr_100_26, Option.bind_some, u0, Option.bind_some, st, if_neg (by decide), yr_100_26, Option.bind_some, u1, Option.bind_some, st, if_neg (by decide), yr_100_26, Option.bind_some, u2, Option.bind_some, st, if_pos (by decide)]
    rfl
  · rw [upn (by omega), upn (by omega), upe]
  · rw [upn (by omega), upe]
  · rw [upe]
theorem ydup_go (hN : 100 ≤ N) {i r b0 b1 b2 : Nat} (hi : i ≤ 1000) (hr : r ≤ 12) (q0 : b0 ≤ 122) (q1 : b1 ≤ 122) (q2 : b2 ≤ 122) : ∀ (n j : Nat) (d : MS), d.now 5 = nI r → (∀ q, q < r → ∃ l0 l1 l2 lg pr wt, RN d.now q l0 l1 l2 lg pr wt) → d.read 0 = nI b0 → d.read 1 = nI b1 → d.read 2 = nI b2 → (d.fault = -1 ∨ d.fault = nI i) → j ≤ r → r - j < n → ∃ fl, m_X12_name_L97 N n 100 (nI i) (nI j) (mk c d D) = some (mk c (d.s_fault fl) D) ∧ (d.fault = nI i → fl = nI i) ∧ (d.fault = -1 → ((∃ q, j ≤ q ∧ q < r ∧ nmR d.now q = nmN b0 b1 b2) → fl = nI i) ∧ ((∀ q, j ≤ q → q < r → nmR d.now q ≠ nmN b0 b1 b2) → fl = -1)) := by
  intro n
  induction n with
  | zero => intro j d _ _ _ _ _ _ _ h; omega
  | succ n ih =>
    intro j d h5 hq r0 r1 r2 hf hj hn
    have r5 : aI 0 (mk c d D) 101 5 = some (nI r) := (ya_101 (i := 5) (by omega)).trans (by rw [h5])
    unfold m_X12_name_L97
    rw [yr_100_0, Option.bind_some, r5, Option.bind_some]
    by_cases e : j = r
    · subst e
      refine ⟨d.fault, ?_, fun h => h, fun h => ⟨fun ⟨q, a1, a2, _⟩ => by omega, fun _ => h⟩⟩
      rw [if_pos (nI_le (by omega) (by omega))]
      rfl
    · obtain ⟨l0, l1, l2, lg, pr, wt, hx⟩ := hq j (by omega)
      obtain ⟨x, x1, _, x2⟩ := yby (c := c) (D := D) hN (by omega) hx r0 r1 r2 q0 q1 q2
      rw [← hx.nm] at x2
      rw [if_neg (by rw [nI_leI (by omega) (by omega)]; omega), yo_100, Option.bind_some, x1, Option.bind_some]
      by_cases z : nmR d.now j = nmN b0 b1 b2
      · rw [if_pos (x2.mpr z), Option.bind_some]
        have wr : m_X12_wrong 100 (nI i) (mk c d D) = some (mk c (d.s_fault (nI i)) D) := by
          rcases hf with hf | hf
          · exact ywrong hf _
          · rw [dwrong hf hi, ← hf]
            rfl
        rw [wr, Option.bind_some]
        unfold m_X12_name_J120
        obtain ⟨fl, f1, f2, f3⟩ := ih (j + 1) (d.s_fault (nI i)) h5 hq r0 r1 r2 (Or.inr rfl) (by omega) (by omega)
        have f2 := f2 rfl
        subst f2
        refine ⟨nI i, ?_, fun _ => rfl, fun _ => ⟨fun _ => rfl, fun h => absurd z (h j (Nat.le_refl _) (by omega))⟩⟩
        rw [nI_1]
        exact f1
      · rw [if_neg (fun y => z (x2.mp y))]
        unfold m_X12_name_J120
        obtain ⟨fl, f1, f2, f3⟩ := ih (j + 1) d h5 hq r0 r1 r2 hf (by omega) (by omega)
        refine ⟨fl, ?_, f2, fun h => ⟨fun ⟨q, a1, a2, a3⟩ => (f3 h).1 ⟨q, ?_, a2, a3⟩, fun g => (f3 h).2 fun q a1 a2 => g q (by omega) a2⟩⟩
        · rw [nI_1]
          exact f1
        · rcases Nat.eq_or_lt_of_le a1 with w | w
          · rw [← w] at a3
            exact absurd a3 z
          · exact w
/-- the reference's name: the letters read, a fault where it has none or where it stands already -/
theorem yname (hN : 100 ≤ N) (hT : TP c0 d) {i r : Nat} (hi : i ≤ 300) (hr : r ≤ 12) (hf : d.fault = -1) (ha : d.at_ = nI i) (h5 : d.now 5 = nI r) (hq : ∀ q, q < r → ∃ l0 l1 l2 lg pr wt, RN d.now q l0 l1 l2 lg pr wt) : ∃ rd fl, m_X12_name N 100 (mk c d D) = some (mk c (((d.s_read rd).s_at_ (nI (i + lts (tbn c0) 3 i))).s_fault fl) D) ∧ (∀ q, q < 3 → rd q = nI (ltf (tbn c0) i q)) ∧ ((lts (tbn c0) 3 i = 0 ∨ ∃ q, q < r ∧ nmR d.now q = nmA (tbn c0) i) → fl = nI i) ∧ (¬ (lts (tbn c0) 3 i = 0 ∨ ∃ q, q < r ∧ nmR d.now q = nmA (tbn c0) i) → fl = -1) := by
  have ln := lts_le (b := tbn c0) 3 i
  obtain ⟨rd0, n1, n2, n3, n4⟩ := yname0 (c := c) (D := D) hN ha
  obtain ⟨rd, l1, l2⟩ := ylet_go (c := c) (D := D) (N := N) (c0 := c0) (i := i) (by omega) N 3 0 (d.s_read rd0) hT (by omega) hf ha (by omega)
  simp only [Nat.zero_add, Nat.add_zero, Nat.zero_le, true_and] at l1 l2
  have rq : ∀ q, q < 3 → rd q = nI (ltf (tbn c0) i q) := fun q hq => by
    rw [l2 q]
    unfold ltf
    split
    · rfl
    · have : q = 0 ∨ q = 1 ∨ q = 2 := by omega
      rcases this with rfl | rfl | rfl
      · exact n2
      · exact n3
      · exact n4
  rw [n1, l1]
  unfold m_X12_name_J79
  rw [yr_100_24, Option.bind_some]
  have b0 := ltf_le (b := tbn c0) (i := i) (q := 0)
  have b1 := ltf_le (b := tbn c0) (i := i) (q := 1)
  have b2 := ltf_le (b := tbn c0) (i := i) (q := 2)
  show ∃ rd2 fl, (if nI (i + lts (tbn c0) 3 i) = nI i then _ else _) = _ ∧ _
  by_cases z : lts (tbn c0) 3 i = 0
  · rw [if_pos (by rw [z, Nat.add_zero]), Option.bind_some, yo_100, Option.bind_some, ywrong (d := ((d.s_read rd0).s_read rd).s_at_ (nI (i + lts (tbn c0) 3 i))) hf, Option.bind_some]
    obtain ⟨fl, g1, g2, g3⟩ := ydup_go (c := c) (D := D) (N := N) hN (i := i) (r := r) (by omega) hr b0 b1 b2 N 0 ((((d.s_read rd0).s_read rd).s_at_ (nI (i + lts (tbn c0) 3 i))).s_fault (((d.s_read rd0).s_read rd).s_at_ (nI (i + lts (tbn c0) 3 i))).at_) h5 hq (rq 0 (by omega)) (rq 1 (by omega)) (rq 2 (by omega)) (Or.inr (by show nI (i + lts (tbn c0) 3 i) = _; rw [z, Nat.add_zero])) (by omega) (by omega)
    have g2 := g2 (by show nI (i + lts (tbn c0) 3 i) = _; rw [z, Nat.add_zero])
    refine ⟨rd, fl, g1, rq, fun _ => g2, fun h => absurd (Or.inl z) h⟩
  · rw [if_neg (by rw [nI_eq (by omega) (by omega)]; omega)]
    obtain ⟨fl, g1, g2, g3⟩ := ydup_go (c := c) (D := D) (N := N) hN (i := i) (r := r) (by omega) hr b0 b1 b2 N 0 (((d.s_read rd0).s_read rd).s_at_ (nI (i + lts (tbn c0) 3 i))) h5 hq (rq 0 (by omega)) (rq 1 (by omega)) (rq 2 (by omega)) (Or.inl hf) (by omega) (by omega)
    obtain ⟨g4, g5⟩ := g3 hf
    refine ⟨rd, fl, g1, rq, fun h => ?_, fun h => ?_⟩
    · rcases h with h | ⟨q, a1, a2⟩
      · exact absurd h z
      · exact g4 ⟨q, Nat.zero_le _, a1, a2⟩
    · exact g5 fun q _ a1 a2 => h (Or.inr ⟨q, a1, a2⟩)
end
