-- drawn days: the days
section
variable {c : CS} {d d0 : MS} {D : mM} {N k : Nat} {a : Int32} {P : PL}
def beginC (c : CS) : CS := ((((c.s_dleft (c.pl.rules 0)).s_dasked 0).s_dcount 0).s_dprices 0).s_dplaces 0
theorem xdbegin : m_X1_begin 80 (mk c d D) = some (mk (beginC c) d D) := by
  have z0 : aI 0 (mk c d D) 13 0 = some (nI (c.pl.rules 0)) := ya_13 (i := 0) (by omega)
  unfold m_X1_begin
  rw [yr_80_0, Option.bind_some, yr_11_2, Option.bind_some, z0, Option.bind_some, yw_80_4, Option.bind_some, show (0 : Int32) = nI 0 from rfl, yw_80_5, Option.bind_some, yw_80_6, Option.bind_some, yw_80_7, Option.bind_some, yw_80_8, Option.bind_some]
  rfl
theorem begin_xd : XD (beginC c) [] ∧ (beginC c).dasked = 0 ∧ (beginC c).dplaces = 0 := ⟨⟨Nat.zero_le _, Nat.zero_le _, rfl, rfl, fun i hi => absurd hi (Nat.not_lt_zero _), rfl, fun g hg => by cases hg⟩, rfl, rfl⟩
theorem begin_sc : SC c (beginC c) := ⟨by rfl, by rfl, by rfl, fun d D h w => ⟨h.1, h.2.1, h.2.2.1, w, h.2.2.2.2.1, h.2.2.2.2.2.1, h.2.2.2.2.2.2.1, h.2.2.2.2.2.2.2⟩⟩
theorem yopens_go : ∀ (n i : Nat) (d : MS), i ≤ 6 → 6 - i < n → (∀ q, q < i → d.had q = nI 0) → ∃ f : Nat → Int32, m_X12_opens_L12 N n 100 (nI i) (mk c d D) = some (mk c (d.s_had f) D) ∧ (∀ q, q < 6 → f q = nI 0) := by
  intro n
  induction n with
  | zero => intro i d _ h; omega
  | succ n ih =>
    intro i d hi hn hq
    unfold m_X12_opens_L12
    by_cases e : i = 6
    · subst e
      refine ⟨d.had, ?_, hq⟩
      rw [if_pos (by decide)]
      rfl
    · obtain ⟨f, f1, f2⟩ := ih (i + 1) (d.s_had (va_up d.had i 0)) (by omega) (by omega) (fun q h => by
        show va_up d.had i 0 q = _
        by_cases e2 : q = i
        · subst e2; rw [upe]; rfl
        · rw [upn e2]; exact hq q (by omega))
      refine ⟨f, ?_, f2⟩
      rw [if_neg (by rw [show (6 : Int32) = nI 6 from rfl, nI_leI (by omega) (by omega)]; omega), yr_100_19, Option.bind_some, yu_116 (by omega), Option.bind_some, nI_1]
      exact f1
theorem yopens (hN : 100 ≤ N) (hP : PR P d.now) : ∃ d2 : MS, m_X12_opens N 100 (mk c d D) = some (mk c d2 D) ∧ SD d d2 ∧ YD P d.prices d2 [] ∧ d2.askers = d.askers ∧ d2.prices = d.prices := by
  have z1 : aI 0 (mk c d D) 101 1 = some (d.now 1) := ya_101 (i := 1) (by omega)
  obtain ⟨f, f1, f2⟩ := yopens_go (c := c) (D := D) (N := N) N 0 (d.s_left (nI (P.rules 0))) (by omega) (by omega) (fun q h => by omega)
  refine ⟨(d.s_left (nI (P.rules 0))).s_had f, ?_, ⟨by rfl, by rfl, by rfl, by rfl, fun w c D h => h⟩, ⟨Nat.zero_le _, by rfl, fun k hk => f2 k hk, ?_, fun g hg => by cases hg⟩, by rfl, by rfl⟩
  · unfold m_X12_opens
    rw [yr_100_0, Option.bind_some, z1, Option.bind_some, hP.r0_, yw_100_20, Option.bind_some]
    exact f1
  · show d.prices = d.prices + 0
    rw [Int32.add_zero]
theorem hasF_out (h : c.pl.n ≤ 6) : m_X5_hasFare 11 (-1) (mk c d D) = some 0 := by
  unfold m_X5_hasFare
  rw [if_pos (by decide)]
theorem len_step {P : PL} {hd : Nat} {L : List Nat} {f t : Nat} : (dStep P hd L f t).length ≤ L.length + 1 := by
  unfold dStep
  split
  · rw [List.length_append, List.length_singleton]; omega
  · omega
theorem dSum_seed {x : Int32} : ∀ L : List Nat, dSum (P.s_seed x) L = dSum P L
  | [] => rfl
  | g :: L => by
    show nI (P.price g) + dSum (P.s_seed x) L = nI (P.price g) + dSum P L
    rw [dSum_seed L]
theorem xd_seed {L : List Nat} (h : XD c L) (y : Int32) : XD (c.s_pl (c.pl.s_seed y)) L := by
  obtain ⟨x1, x2, x3, x4, x5, x6, x7⟩ := h
  refine ⟨x1, x2, x3, x4, x5, ?_, x7⟩
  show c.dprices = dSum (c.pl.s_seed y) L
  rw [dSum_seed]
  exact x6
theorem xseeded (hP : PR P d0.now) (hc : c.pl = P.s_seed c.pl.seed) (hw : WR c) {L : List Nat} (hL : XD c L) (y : Int32) : ∃ c1 : CS, c1.pl = P.s_seed c1.pl.seed ∧ c1.pl.seed = y ∧ PR c1.pl (d0.s_now (va_up d0.now 128 c1.pl.seed)).now ∧ WR c1 ∧ XD c1 L ∧ SX P c c1 ∧ c1.dasked = c.dasked ∧ c1.pl.n = P.n ∧ c1.pl.odds = P.odds ∧ sV (mk c d D) 11 5 4 (.int y) = some (mk c1 d D) := by
  have e : c.pl.s_seed y = P.s_seed y := by rw [hc]; rfl
  refine ⟨c.s_pl (c.pl.s_seed y), e, by rfl, ?_, hw.like (c2 := c.s_pl (c.pl.s_seed y)) (by rfl) (by rfl) ⟨by rfl, by rfl, by rfl⟩ (by rfl) (by rfl), xd_seed hL y, xseed_sx hP hc _, by rfl, ?_, ?_, yw_11_4⟩
  · show PR (c.pl.s_seed y) (va_up d0.now 128 y)
    rw [e]
    exact hP.u_seed _
  · show (c.pl.s_seed y).n = P.n
    rw [e]
    rfl
  · show (c.pl.s_seed y).odds = P.odds
    rw [e]
    rfl
theorem xdraw_go {nx : Int32 → Int32} (hnx : ∀ x : Int32, x * 1103515245 + 12345 = nx x) (hN : 100 ≤ N) (hP : PR P d0.now) {hd T : Nat} (hh : hd ≤ 1) (hT : T ≤ 20) : ∀ (n t : Nat) (c : CS) (L : List Nat), c.pl = P.s_seed c.pl.seed → WR c → XD c L → t ≤ T → c.dasked + t ≤ 20 → t < n → ∃ c2 : CS, m_X1_draw_L6 N n 80 (nI T) (nI hd) (nI t) (mk c d D) = some (mk c2 d D) ∧ WR c2 ∧ SX P c c2 ∧ XD c2 (dayL nx P hd t c.pl.seed L) ∧ c2.pl.seed = dayX nx t c.pl.seed ∧ c2.dasked = c.dasked + dayQ nx P t c.pl.seed := by
  intro n
  induction n with
  | zero => intro t c L _ _ _ _ _ h; omega
  | succ n ih =>
    intro t c L hc hw hL ht hq hn
    cases t with
    | zero =>
      refine ⟨c, by unfold m_X1_draw_L6; exact if_pos (by decide), hw, SC.sx hc SC.rfl, hL, rfl, rfl⟩
    | succ t =>
      have hP6 := hP.n
      obtain ⟨c1, hc1, hs1, hPc, w1, k1, s1, q1, n1, o1, ws⟩ := xseeded (d := d) (D := D) hP hc hw hL (nx c.pl.seed)
      have ey := hnx c.pl.seed
      rw [dayL_s, dayX_s, dayQ_s]
      generalize nx c.pl.seed = y at *
      have fd := xfd_go (c := c1) (d := d) (D := D) (N := N) (r := drw y) hPc (ph := (t + 1 - 1) / 5) (by omega) N 0 0 (by omega) (by omega)
      have fdE : fdO c1.pl ((t + 1 - 1) / 5) (drw y) (c1.pl.n - 0) 0 0 = fdr P (t + 1) y := by
        have : ∀ m i s, fdO c1.pl ((t + 1 - 1) / 5) (drw y) m i s = fdO P ((t + 1 - 1) / 5) (drw y) m i s := by
          intro m
          induction m with
          | zero => intro i s; rfl
          | succ m ihm =>
            intro i s
            unfold fdO
            rw [ihm, o1]
        rw [this, n1]
        rfl
      rw [fdE] at fd
      have fd : m_X1_fareDrawn N 80 (drw y) (nI ((t + 1 - 1) / 5)) (mk c1 d D) = some (encB (fdr P (t + 1) y)) := fd
      have em : nI (t + 1) + -1 = nI t := pk_m1 t
      have go : ∀ (c2 : CS) (L2 : List Nat), WR c2 → SC c1 c2 → XD c2 L2 → c2.dasked = c.dasked + askO P (t + 1) y → L2 = dayO P hd (t + 1) y L → ∃ c3 : CS, m_X1_draw_L6 N n 80 (nI T) (nI hd) (nI t) (mk c2 d D) = some (mk c3 d D) ∧ WR c3 ∧ SX P c c3 ∧ XD c3 (dayL nx P hd t y (dayO P hd (t + 1) y L)) ∧ c3.pl.seed = dayX nx t y ∧ c3.dasked = c.dasked + (askO P (t + 1) y + dayQ nx P t y) := by
        intro c2 L2 w2 s2 k2 q2 e2
        have sp := s2.1
        have sd : c2.pl.seed = y := by rw [sp]; exact hs1
        have hc2 : c2.pl = P.s_seed c2.pl.seed := by rw [sp]; exact hc1
        have aq : askO P (t + 1) y ≤ 1 := by unfold askO; split <;> omega
        obtain ⟨c3, r1, r2, r3, r4, r5, r6⟩ := ih t c2 L2 hc2 w2 k2 (by omega) (by omega) (by omega)
        rw [sd] at r4 r5 r6
        refine ⟨c3, r1, r2, (s1.trans w1 (SC.sx hc1 s2)).trans w2 r3, ?_, r5, ?_⟩
        · rw [e2] at r4
          exact r4
        · rw [r6, q2, Nat.add_assoc]
      have pre : m_X1_draw_L6 N (n + 1) 80 (nI T) (nI hd) (nI (t + 1)) (mk c d D) = (m_X1_ask N 80 (encB (fdr P (t + 1) y)) (nI (t + 1)) (nI T - nI (t + 1)) (nI hd) (mk c1 d D)).bind fun x21 => m_X1_draw_L6 N n 80 (nI T) (nI hd) (nI t) x21 := by
        have fd' : m_X1_fareDrawn N 80 ((y.toUInt32 >>> ((16 : Int32).toUInt32 &&& Int32.toUInt32 31)).toInt32 - (y.toUInt32 >>> ((16 : Int32).toUInt32 &&& Int32.toUInt32 31)).toInt32 / 100 * 100) (nI ((t + 1 - 1) / 5)) (mk c1 d D) = some (encB (fdr P (t + 1) y)) := fd
        have ys : fI (mk c1 d D) 11 5 4 = some y := by rw [yr_11_4, hs1]
        conv => lhs; unfold m_X1_draw_L6
        rw [if_neg (nI_nle (by omega) (by omega)), yr_80_0, Option.bind_some, Option.bind_some, yr_11_4, Option.bind_some, ey, ws, Option.bind_some, yr_80_0, Option.bind_some, ys, Option.bind_some, phase_x (by omega) (by omega), Option.bind_some, yo_80, Option.bind_some, fd', Option.bind_some, Option.bind_some, em]
      rw [pre]
      cases hf : fdr P (t + 1) y with
      | none =>
        have a1 : m_X1_ask N 80 (encB none) (nI (t + 1)) (nI T - nI (t + 1)) (nI hd) (mk c1 d D) = some (mk c1 d D) := by
          unfold m_X1_ask
          rw [yr_80_0, Option.bind_some, yo_11, Option.bind_some, show encB none = -1 from rfl, hasF_out (by omega), Option.bind_some, if_pos rfl]
        rw [a1, Option.bind_some]
        exact go c1 L w1 SC.rfl k1 (by unfold askO; rw [hf, q1]; rfl) (by unfold dayO; rw [hf])
      | some f =>
        have fl : f < P.n := by have := fdO_lt _ _ _ hf; omega
        obtain ⟨c2, a1, a2, a3, a4, a5, a6, a7⟩ := xask (d := d) (D := D) hN hPc w1 k1 (f := f) (t := t + 1) (hd := hd) (by omega) (by omega) (by omega) hh (by omega) (nI T - nI (t + 1))
        rw [show encB (some f) = nI f from rfl, a1, Option.bind_some]
        refine go c2 _ a2 a3 a4 (by rw [a6, q1]; unfold askO; rw [hf]) ?_
        unfold dayO
        rw [hf, hc1]
        exact dStep_seed
end
