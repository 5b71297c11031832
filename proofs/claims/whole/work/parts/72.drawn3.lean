-- drawn days: the reference, and both
def SE (x : Int32) (a b : MS) : Prop := b.now = va_up a.now 128 x ∧ b.tape = a.tape ∧ b.worths = a.worths ∧ b.asked = a.asked ∧ ∀ w c D, RR c (a.s_now w) D → RR c (b.s_now w) D
theorem va_uu {f : Nat → Int32} {x y : Int32} : va_up (va_up f 128 x) 128 y = va_up f 128 y := by
  funext q
  by_cases e : q = 128
  · subst e; rw [upe, upe]
  · rw [upn e, upn e, upn e]
theorem SE.trans {x y : Int32} {a b c : MS} (h : SE x a b) (h2 : SE y b c) : SE y a c := ⟨by rw [h2.1, h.1, va_uu], h2.2.1.trans h.2.1, h2.2.2.1.trans h.2.2.1, h2.2.2.2.1.trans h.2.2.2.1, fun w d D r => h2.2.2.2.2 w d D (h.2.2.2.2 w d D r)⟩
theorem SE.sd {x : Int32} {a b c : MS} (h : SE x a b) (h2 : SD b c) : SE x a c := ⟨by rw [h2.1, h.1], h2.2.1.trans h.2.1, h2.2.2.1.trans h.2.2.1, h2.2.2.2.1.trans h.2.2.2.1, fun w d D r => h2.2.2.2.2 w d D (h.2.2.2.2 w d D r)⟩
section
variable {c : CS} {d d0 : MS} {D : mM} {N k : Nat} {a : Int32} {P : PL}
theorem yd_seed {base : Int32} {L : List Nat} {x : Int32} (h : YD P base d L) : YD (P.s_seed x) base d L := by
  obtain ⟨x1, x2, x3, x4, x5⟩ := h
  exact ⟨x1, x2, x3, by rw [dSum_seed]; exact x4, x5⟩
theorem yd_unseed {base : Int32} {L : List Nat} {x : Int32} (h : YD (P.s_seed x) base d L) : YD P base d L := by
  obtain ⟨x1, x2, x3, x4, x5⟩ := h
  exact ⟨x1, x2, x3, by rw [dSum_seed] at x4; exact x4, x5⟩
theorem wok_seed {u : Nat} {w : Nat → UInt64} {x : Int32} (h : WOK P u w) {v : Nat} (hv : v ≤ u) : WOK (P.s_seed x) v w := fun t ht s hs => by
  rw [WD_like (P := P) (Q := P.s_seed x) ⟨rfl, rfl, rfl⟩ rfl rfl]
  exact h t (by omega) s hs
theorem yd84 {nx : Int32 → Int32} (hnx : ∀ x : Int32, x * 1103515245 + 12345 = nx x) (hN : 100 ≤ N) {k71 : Nat → Int32 → Int32 → Int32 → Int32 → Int32 → Int32 → Int32 → mM → Option (Int32 × mM)} {hd T : Nat} (hh : hd ≤ 1) (hT : T ≤ 20) {base : Int32} (i1 i2 i4 i5 i6 i7 : Int32) : ∀ (n t : Nat) (d : MS) (x : Int32) (L : List Nat), PR (P.s_seed x) d.now → YD P base d L → WOK P T d.worths → t ≤ T → t < n → ∃ d2 : MS, m_X12_drawn_L84 N k71 n 100 i1 i2 (nI hd) i4 i5 i6 i7 (nI t) (mk c d D) = (if nI (P.rules 0 - (dayL nx P hd t x L).length) = 0 then m_X12_drawn_J148 N k71 100 i1 i2 (nI hd) i4 (i5 + (nI (P.rules 0) - nI (P.rules 0 - (dayL nx P hd t x L).length))) i7 i6 1 (mk c d2 D) else m_X12_drawn_J148 N k71 100 i1 i2 (nI hd) i4 (i5 + (nI (P.rules 0) - nI (P.rules 0 - (dayL nx P hd t x L).length))) i7 i6 0 (mk c d2 D)) ∧ SE (dayX nx t x) d d2 ∧ YD P base d2 (dayL nx P hd t x L) ∧ d2.askers = d.askers + nI (dayQ nx P t x) := by
  intro n
  induction n with
  | zero => intro t d x L _ _ _ _ h; omega
  | succ n ih =>
    intro t d x L hP hL hw ht hn
    cases t with
    | zero =>
      have z1 : aI 0 (mk c d D) 101 1 = some (d.now 1) := ya_101 (i := 1) (by omega)
      have e0 : d.now 1 = nI (P.rules 0) := hP.r0_
      have e1 : va_up d.now 128 x = d.now := by
        funext q
        by_cases e : q = 128
        · subst e; rw [upe]; exact hP.s_.symm
        · rw [upn e]
      rw [show dayL nx P hd 0 x L = L from rfl, show dayX nx 0 x = x from rfl, show dayQ nx P 0 x = 0 from rfl]
      refine ⟨d, ?_, ⟨e1.symm, by rfl, by rfl, by rfl, fun w c D h => h⟩, hL, ?_⟩
      · unfold m_X12_drawn_L84
        rw [if_pos (by decide), yr_100_0, Option.bind_some, z1, Option.bind_some, yr_100_20, Option.bind_some, Option.bind_some, e0, hL.2.1]
      · show d.askers = d.askers + 0
        rw [Int32.add_zero]
    | succ t =>
      have ey := hnx x
      rw [dayL_s, dayX_s, dayQ_s]
      have hs := hP.s_
      have hs : d.now 128 = x := hs
      have z8 : ∀ d : MS, aI 0 (mk c d D) 101 128 = some (d.now 128) := fun d => ya_101 (i := 128) (by omega)
      have u8 : uI 0 .int (mk c d D) 101 128 (nx x) = some (mk c (d.s_now (va_up d.now 128 (nx x))) D) := yu_101 (i := 128) (by omega)
      have hP1 : PR (P.s_seed (nx x)) (va_up d.now 128 (nx x)) := hP.u_seed (nx x)
      have em : nI (t + 1) + -1 = nI t := pk_m1 t
      generalize nx x = y at *
      have s1 : SE y d (d.s_now (va_up d.now 128 y)) := ⟨by rfl, by rfl, by rfl, by rfl, fun w c D h => h⟩
      have k1 : YD P base (d.s_now (va_up d.now 128 y)) L := hL
      have fd := yfd_go (c := c) (D := D) (N := N) (d := d.s_now (va_up d.now 128 y)) (r := drw y) hP1 (t := t + 1) (by omega) (by omega) N 0 0 (by omega) (by have := hP.n; show P.n - 0 < N; have h6 : P.n ≤ 6 := hP.n; omega)
      have fdE : fdO (P.s_seed y) ((t + 1 - 1) / 5) (drw y) ((P.s_seed y).n - 0) 0 0 = fdr P (t + 1) y := by
        have : ∀ m i s, fdO (P.s_seed y) ((t + 1 - 1) / 5) (drw y) m i s = fdO P ((t + 1 - 1) / 5) (drw y) m i s := by
          intro m
          induction m with
          | zero => intro i s; rfl
          | succ m ihm =>
            intro i s
            unfold fdO
            rw [ihm]
            rfl
        rw [this]
        rfl
      rw [fdE] at fd
      have fd2 : m_X12_drawnFare N 100 (nI (t + 1)) (mk c d D) = some (encB (fdr P (t + 1) y), mk c (d.s_now (va_up d.now 128 y)) D) := by
        unfold m_X12_drawnFare
        rw [yr_100_0, Option.bind_some, Option.bind_some, z8, Option.bind_some, hs, ey, u8, Option.bind_some, yr_100_0, Option.bind_some, z8, Option.bind_some, show (d.s_now (va_up d.now 128 y)).now 128 = y from (by show va_up d.now 128 y 128 = y; exact upe)]
        exact fd
      have go : ∀ (d2 : MS) (L2 : List Nat), SE y d d2 → YD P base d2 L2 → d2.askers = d.askers + nI (askO P (t + 1) y) → L2 = dayO P hd (t + 1) y L → ∃ d3 : MS, m_X12_drawn_L84 N k71 n 100 i1 i2 (nI hd) i4 i5 i6 i7 (nI t) (mk c d2 D) = (if nI (P.rules 0 - (dayL nx P hd t y (dayO P hd (t + 1) y L)).length) = 0 then m_X12_drawn_J148 N k71 100 i1 i2 (nI hd) i4 (i5 + (nI (P.rules 0) - nI (P.rules 0 - (dayL nx P hd t y (dayO P hd (t + 1) y L)).length))) i7 i6 1 (mk c d3 D) else m_X12_drawn_J148 N k71 100 i1 i2 (nI hd) i4 (i5 + (nI (P.rules 0) - nI (P.rules 0 - (dayL nx P hd t y (dayO P hd (t + 1) y L)).length))) i7 i6 0 (mk c d3 D)) ∧ SE (dayX nx t y) d d3 ∧ YD P base d3 (dayL nx P hd t y (dayO P hd (t + 1) y L)) ∧ d3.askers = d.askers + nI (askO P (t + 1) y + dayQ nx P t y) := by
        intro d2 L2 s2 k2 q2 e2
        obtain ⟨d3, r1, r2, r3, r4⟩ := ih t d2 y L2 (by rw [s2.1]; exact hP1) k2 (by rw [s2.2.2.1]; exact hw) (by omega) (by omega)
        rw [e2] at r1 r3
        refine ⟨d3, r1, s2.trans r2, r3, ?_⟩
        rw [r4, q2, Int32.add_assoc, nI_add]
      have pre : m_X12_drawn_L84 N k71 (n + 1) 100 i1 i2 (nI hd) i4 i5 i6 i7 (nI (t + 1)) (mk c d D) = if encB (fdr P (t + 1) y) < 0 then m_X12_drawn_L84 N k71 n 100 i1 i2 (nI hd) i4 i5 i6 i7 (nI t) (mk c (d.s_now (va_up d.now 128 y)) D) else (m_X12_has N 100 (encB (fdr P (t + 1) y)) (nI (t + 1)) (nI hd) (mk c (d.s_now (va_up d.now 128 y)) D)).bind fun x15 => m_X12_drawn_L84 N k71 n 100 i1 i2 (nI hd) i4 i5 i6 i7 (nI t) x15.2 := by
        conv => lhs; unfold m_X12_drawn_L84
        rw [if_neg (nI_nle (by omega) (by omega)), yo_100, Option.bind_some, fd2, Option.bind_some, yo_100, Option.bind_some]
        unfold m_X12_drawn_J112
        rw [em]
      rw [pre]
      cases hf : fdr P (t + 1) y with
      | none =>
        rw [if_pos (by decide)]
        refine go _ L s1 k1 ?_ (by unfold dayO; rw [hf])
        unfold askO
        rw [hf]
        show d.askers = d.askers + 0
        rw [Int32.add_zero]
      | some f =>
        have fl : f < P.n := by have := fdO_lt _ _ _ hf; omega
        have h6 : P.n ≤ 6 := hP.n
        obtain ⟨d2, a1, a2, a3, a4⟩ := yhas (c := c) (D := D) hN hP1 (d := d.s_now (va_up d.now 128 y)) (yd_seed k1) (f := f) (t := t + 1) (hd := hd) fl (by omega) (by omega) hh (wok_seed hw (by omega))
        rw [show encB (some f) = nI f from rfl, if_neg (by rw [show (0 : Int32) = nI 0 from rfl, nI_ltI (by omega) (by omega)]; omega), a1, Option.bind_some]
        refine go d2 _ (s1.sd a2) (yd_unseed a3) ?_ ?_
        · rw [a4]
          unfold askO
          rw [hf]
          rfl
        · unfold dayO
          rw [hf]
          exact dStep_seed
end
