-- one route, the reference's side: whole
section
variable {c c0 : CS} {d d0 : MS} {D DD : mM} {N k : Nat} {a : Int32} {P : PL}
/-- the words of a reference's plan, with one route more in its place -/
def insN (now n2 : Nat → Int32) (rd : Nat → Int32) (nm r : Nat) : Prop := n2 5 = nI (r + 1) ∧ ∀ z, z ≠ 5 → n2 z = if 50 + 6 * posR now nm r ≤ z ∧ z < 50 + 6 * posR now nm r + 6 then rd (z - (50 + 6 * posR now nm r)) else if 50 + 6 * posR now nm r + 6 ≤ z ∧ z < 50 + 6 * r + 6 then now (z - 6) else now z
theorem ycomes (hN : 100 ≤ N) (hP : PR P d.now) (hR : RO P d.now DD) (hr : P.rc ≤ 11) {b0 b1 b2 : Nat} (q0 : b0 ≤ 122) (q1 : b1 ≤ 122) (q2 : b2 ≤ 122) (r0 : d.read 0 = nI b0) (r1 : d.read 1 = nI b1) (r2 : d.read 2 = nI b2) : ∃ g, m_X12_comes N 100 (mk c d D) = some (mk c (d.s_now g) D) ∧ insN d.now g d.read (nmN b0 b1 b2) P.rc := by
  have h5 := hP.rc_
  have r5 : aI 0 (mk c d D) 101 5 = some (nI P.rc) := (ya_101 (i := 5) (by omega)).trans (by rw [h5])
  have u5 : uI 0 .int (mk c d D) 101 5 (nI (P.rc + 1)) = some (mk c (d.s_now (va_up d.now 5 (nI (P.rc + 1)))) D) := yu_101 (i := 5) (by omega)
  have lo : ∀ z, z ≠ 5 → va_up d.now 5 (nI (P.rc + 1)) z = d.now z := fun z h => upn h
  obtain ⟨g, g1, g2⟩ := y12 (c := c) (D := D) (N := N) hN q0 q1 q2 N P.rc (d.s_now (va_up d.now 5 (nI (P.rc + 1)))) hr (by omega) r0 r1 r2 (fun q hq => by
    obtain ⟨j, l0, l1, l2, lg, pr, wt, _, _, h3⟩ := hR.2.1 q hq
    exact ⟨l0, l1, l2, lg, pr, wt, h3.to fun w hw => lo _ (by omega)⟩)
  have hc : posR (va_up d.now 5 (nI (P.rc + 1))) (nmN b0 b1 b2) P.rc = posR d.now (nmN b0 b1 b2) P.rc := posR_congr _ fun q h => by
    unfold nmR
    rw [lo _ (by omega), lo _ (by omega), lo _ (by omega)]
  refine ⟨g, ?_, ?_, fun z hz => ?_⟩
  · unfold m_X12_comes
    rw [yr_100_0, Option.bind_some, r5, Option.bind_some, nI_1, u5, Option.bind_some, g1]
    rfl
  · rw [g2 5, if_neg (by omega), if_neg (by omega)]
    show va_up d.now 5 (nI (P.rc + 1)) 5 = _
    exact upe
  · have g2 := g2 z
    rw [show (d.s_now (va_up d.now 5 (nI (P.rc + 1)))).now = va_up d.now 5 (nI (P.rc + 1)) from rfl, hc] at g2
    rw [g2]
    by_cases h1 : 50 + 6 * posR d.now (nmN b0 b1 b2) P.rc ≤ z ∧ z < 50 + 6 * posR d.now (nmN b0 b1 b2) P.rc + 6
    · rw [if_pos h1, if_pos h1]
      rfl
    · rw [if_neg h1, if_neg h1]
      by_cases h2 : 50 + 6 * posR d.now (nmN b0 b1 b2) P.rc + 6 ≤ z ∧ z < 50 + 6 * P.rc + 6
      · rw [if_pos h2, if_pos h2, lo _ (by omega)]
      · rw [if_neg h2, if_neg h2, lo _ hz]
theorem yJ163c (hN : 100 ≤ N) (hP : PR P d.now) (hR : RO P d.now DD) (hr : P.rc ≤ 11) {b0 b1 b2 : Nat} (q0 : b0 ≤ 122) (q1 : b1 ≤ 122) (q2 : b2 ≤ 122) (r0 : d.read 0 = nI b0) (r1 : d.read 1 = nI b1) (r2 : d.read 2 = nI b2) (hf : d.fault = -1) (x : Int32) : ∃ g, m_X12_readRoute_J163 N 100 118 5 x (mk c d D) = some (mk c ((d.s_read (va_up d.read 5 x)).s_now g) D) ∧ insN d.now g (va_up d.read 5 x) (nmN b0 b1 b2) P.rc := by
  have u : uI 0 .int (mk c d D) 118 5 x = some (mk c (d.s_read (va_up d.read 5 x)) D) := yu_118 (i := 5) (by omega)
  have v0 : va_up d.read 5 x 0 = nI b0 := (upn (by omega)).trans r0
  have v1 : va_up d.read 5 x 1 = nI b1 := (upn (by omega)).trans r1
  have v2 : va_up d.read 5 x 2 = nI b2 := (upn (by omega)).trans r2
  obtain ⟨g, g1, g2⟩ := ycomes (c := c) (D := D) (N := N) (P := P) (DD := DD) (d := d.s_read (va_up d.read 5 x)) hN hP hR hr q0 q1 q2 v0 v1 v2
  refine ⟨g, ?_, g2⟩
  unfold m_X12_readRoute_J163
  rw [u, Option.bind_some, yr_100_25, Option.bind_some, show (d.s_read (va_up d.read 5 x)).fault = -1 from hf, if_neg (by decide), yo_100, Option.bind_some, g1, Option.bind_some]
theorem nf_a {r r2 : Nat → Int32} {x f : Int32} : (((d.s_read r).s_at_ x).s_fault f).s_read r2 = ((d.s_read r2).s_at_ x).s_fault f := rfl
theorem nf_b {r r2 : Nat → Int32} {x f x2 f2 : Int32} : (((((d.s_read r).s_at_ x).s_fault f).s_read r2).s_at_ x2).s_fault f2 = ((d.s_read r2).s_at_ x2).s_fault f2 := rfl
theorem nf_c {r r2 r3 g : Nat → Int32} {x f x2 f2 : Int32} : (((((((d.s_read r).s_at_ x).s_fault f).s_read r2).s_at_ x2).s_fault f2).s_read r3).s_now g = (((d.s_read r3).s_at_ x2).s_fault f2).s_now g := rfl
theorem nf_d {r : Nat → Int32} {f : Int32} : (d.s_fault f).s_read r = ((d.s_read r).s_at_ d.at_).s_fault f := rfl
theorem nf_r {r r2 : Nat → Int32} {x f x2 f2 : Int32} {q : Nat} : ((((((d.s_read r).s_at_ x).s_fault f).s_read r2).s_at_ x2).s_fault f2).read q = r2 q := rfl
theorem mk_d {A B : MS} {r : Option mM} (e : r = some (mk c A D)) (h : A = B) : r = some (mk c B D) := by rw [e, h]
theorem yroute (hN : 100 ≤ N) (hT : TP c0 d) (hP : PR P d.now) (hR : RO P d.now DD) {i : Nat} (hi : i ≤ 300) (hf : d.fault = -1) (ha : d.at_ = nI i) : ((12 ≤ P.rc ∨ lts (tbn c0) 3 i = 0 ∨ ∃ q, q < P.rc ∧ nmR d.now q = nmA (tbn c0) i) → ∃ rd t, m_X12_readRoute N 100 (mk c d D) = some (mk c (((d.s_read rd).s_at_ t).s_fault (nI i)) D)) ∧ (¬ (12 ≤ P.rc ∨ lts (tbn c0) 3 i = 0 ∨ ∃ q, q < P.rc ∧ nmR d.now q = nmA (tbn c0) i) → (∀ f, f1 (tbn c0) (i + lts (tbn c0) 3 i) = some f → ∃ rd t, m_X12_readRoute N 100 (mk c d D) = some (mk c (((d.s_read rd).s_at_ t).s_fault (nI f)) D)) ∧ (f1 (tbn c0) (i + lts (tbn c0) 3 i) = none → ∃ rd g, m_X12_readRoute N 100 (mk c d D) = some (mk c ((((d.s_read rd).s_at_ (nI (w2 (tbn c0) (i + lts (tbn c0) 3 i + 1)).2.2.1)).s_fault (-1)).s_now g) D) ∧ (rd 0 = nI (ltf (tbn c0) i 0) ∧ rd 1 = nI (ltf (tbn c0) i 1) ∧ rd 2 = nI (ltf (tbn c0) i 2) ∧ rd 3 = nI (w2 (tbn c0) (i + lts (tbn c0) 3 i + 1)).1 ∧ rd 4 = nI (w2 (tbn c0) (i + lts (tbn c0) 3 i + 1)).2.1 ∧ rd 5 = nI (w2 (tbn c0) (i + lts (tbn c0) 3 i + 1)).2.2.2) ∧ insN d.now g rd (nmA (tbn c0) i) P.rc)) := by
  have hr := hP.rc
  have h5 := hP.rc_
  have ln := lts_le (b := tbn c0) 3 i
  have r5 : aI 0 (mk c d D) 101 5 = some (nI P.rc) := (ya_101 (i := 5) (by omega)).trans (by rw [h5])
  unfold m_X12_readRoute
  rw [yr_100_0, Option.bind_some, r5, Option.bind_some]
  by_cases z12 : P.rc = 12
  · rw [if_pos (by rw [z12]; rfl), yr_100_24, Option.bind_some, yo_100, Option.bind_some, ywrong hf, Option.bind_some, ha]
    unfold m_X12_readRoute_J19
    rw [yr_100_25, Option.bind_some, show (d.s_fault (nI i)).fault = nI i from rfl, if_pos (nI_ge0 (by omega))]
    obtain ⟨rd, e⟩ := dJ30 (N := N) (c := c) (D := D) (d := d.s_fault (nI i)) (f := i) (p := i) hN rfl (by omega) ha (by omega)
    exact ⟨fun _ => ⟨rd, d.at_, mk_d e nf_d⟩, fun h => absurd (Or.inl (by omega)) h⟩
  · rw [if_neg (by rw [show (12 : Int32) = nI 12 from rfl, nI_eq (by omega) (by omega)]; exact z12)]
    unfold m_X12_readRoute_J19
    rw [yr_100_25, Option.bind_some, hf, if_neg (by decide), yo_100, Option.bind_some]
    obtain ⟨rd, fl, n1, n2, n3, n4⟩ := yname (c := c) (D := D) (N := N) (c0 := c0) hN hT (i := i) (r := P.rc) hi hr hf ha h5 (fun q hq => by
      obtain ⟨j, l0, l1, l2, lg, pr, wt, _, _, h3⟩ := hR.2.1 q hq
      exact ⟨l0, l1, l2, lg, pr, wt, h3⟩)
    rw [n1, Option.bind_some]
    refine ⟨fun h => ?_, fun h => ?_⟩
    · have e := n3 (by
        rcases h with h | h
        · omega
        · exact h)
      subst e
      obtain ⟨rd2, e⟩ := dJ30 (N := N) (c := c) (D := D) (d := ((d.s_read rd).s_at_ (nI (i + lts (tbn c0) 3 i))).s_fault (nI i)) (f := i) (p := i + lts (tbn c0) 3 i) hN rfl (by omega) rfl (by omega)
      exact ⟨rd2, nI (i + lts (tbn c0) 3 i), mk_d e nf_a⟩
    · have hno : ¬ (lts (tbn c0) 3 i = 0 ∨ ∃ q, q < P.rc ∧ nmR d.now q = nmA (tbn c0) i) := fun y => h (Or.inr y)
      have hrc : P.rc ≤ 11 := by omega
      have e := n4 hno
      subst e
      obtain ⟨k1, k2⟩ := y30 (N := N) (c := c) (D := D) (c0 := c0) (d := ((d.s_read rd).s_at_ (nI (i + lts (tbn c0) 3 i))).s_fault (-1)) hN hT (p := i + lts (tbn c0) 3 i) (by omega) rfl rfl
      refine ⟨fun f hff => ?_, fun hff => ?_⟩
      · obtain ⟨rd2, t, e⟩ := k1 f hff
        exact ⟨rd2, nI t, mk_d e nf_b⟩
      · have k2 := k2 hff
        generalize w2 (tbn c0) (i + lts (tbn c0) 3 i + 1) = W at *
        have v1 : ∀ q, q < 3 → va_up (va_up rd 3 (nI W.1)) 4 (nI W.2.1) q = rd q := fun q hq => by rw [upn (by omega), upn (by omega)]
        obtain ⟨g, g1, g2⟩ := yJ163c (c := c) (D := D) (N := N) (P := P) (DD := DD) (d := (((((d.s_read rd).s_at_ (nI (i + lts (tbn c0) 3 i))).s_fault (-1)).s_read (va_up (va_up rd 3 (nI W.1)) 4 (nI W.2.1))).s_at_ (nI W.2.2.1)).s_fault (-1)) hN hP hR hrc (b0 := ltf (tbn c0) i 0) (b1 := ltf (tbn c0) i 1) (b2 := ltf (tbn c0) i 2) ltf_le ltf_le ltf_le (nf_r.trans ((v1 0 (by omega)).trans (n2 0 (by omega)))) (nf_r.trans ((v1 1 (by omega)).trans (n2 1 (by omega)))) (nf_r.trans ((v1 2 (by omega)).trans (n2 2 (by omega)))) rfl (nI W.2.2.2)
        have x1 : ∀ q, q < 5 → va_up (va_up (va_up rd 3 (nI W.1)) 4 (nI W.2.1)) 5 (nI W.2.2.2) q = va_up (va_up rd 3 (nI W.1)) 4 (nI W.2.1) q := fun q hq => by rw [upn (by omega)]
        exact ⟨va_up (va_up (va_up rd 3 (nI W.1)) 4 (nI W.2.1)) 5 (nI W.2.2.2), g, mk_d (k2.trans g1) nf_c, ⟨(x1 0 (by omega)).trans ((v1 0 (by omega)).trans (n2 0 (by omega))), (x1 1 (by omega)).trans ((v1 1 (by omega)).trans (n2 1 (by omega))), (x1 2 (by omega)).trans ((v1 2 (by omega)).trans (n2 2 (by omega))), (x1 3 (by omega)).trans ((upn (by omega)).trans upe), (x1 4 (by omega)).trans upe, upe⟩, g2⟩
end
