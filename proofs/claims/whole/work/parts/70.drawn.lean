-- drawn days
theorem takeB_like {P Q : PL} (h : Q.rules = P.rules ∧ Q.price = P.price ∧ Q.kind = P.kind) (ho : Q.odds = P.odds) (hn : Q.n = P.n) (f t s : Nat) : takeB Q f t s = takeB P f t s := by
  unfold takeB
  rw [netD_like h, WD_like h ho hn, WD_like h ho hn]
theorem dGive_seed {P : PL} {x : Int32} {hd : Nat} {L : List Nat} {f t : Nat} : dGive (P.s_seed x) hd L f t ↔ dGive P hd L f t := by
  have e : takeB (P.s_seed x) f t (P.rules 0 - L.length) = takeB P f t (P.rules 0 - L.length) := takeB_like (P := P) (Q := P.s_seed x) ⟨rfl, rfl, rfl⟩ rfl rfl f t _
  unfold dGive
  show (L.length < P.rules 0 ∧ (if hd = 1 then L.countP (fun g => decide (P.price g ≤ P.price f)) < P.hand f else takeB (P.s_seed x) f t (P.rules 0 - L.length) = 1)) ↔ _
  rw [e]
theorem dStep_seed {P : PL} {x : Int32} {hd : Nat} {L : List Nat} {f t : Nat} : dStep (P.s_seed x) hd L f t = dStep P hd L f t := by
  unfold dStep
  by_cases h : dGive P hd L f t
  · rw [if_pos h, if_pos (dGive_seed.mpr h)]
  · rw [if_neg h, if_neg (fun z => h (dGive_seed.mp z))]
def drw (x : Int32) : Int32 := ((x.toUInt32 >>> ((16 : Int32).toUInt32 &&& Int32.toUInt32 31)).toInt32) - ((x.toUInt32 >>> ((16 : Int32).toUInt32 &&& Int32.toUInt32 31)).toInt32) / 100 * 100
def fdO (P : PL) (ph : Nat) (r : Int32) : Nat → Nat → Nat → Option Nat
  | 0, _, _ => none
  | m + 1, i, s => if nI (s + P.odds i ph) ≤ r then fdO P ph r m (i + 1) (s + P.odds i ph) else some i
theorem fdO_lt {P : PL} {ph : Nat} {r : Int32} {f : Nat} : ∀ m i s, fdO P ph r m i s = some f → f < i + m
  | m + 1, i, s, h => by
    unfold fdO at h
    split at h
    · have := fdO_lt m (i + 1) _ h; omega
    · cases h; omega
/-- the fare that a stage's request is for -/
def fdr (P : PL) (t : Nat) (x : Int32) : Option Nat := fdO P ((t - 1) / 5) (drw x) P.n 0 0
def dayO (P : PL) (hd t : Nat) (x : Int32) (L : List Nat) : List Nat := match fdr P t x with
  | none => L
  | some f => dStep P hd L f t
def askO (P : PL) (t : Nat) (x : Int32) : Nat := match fdr P t x with
  | none => 0
  | some _ => 1
def dayL (nx : Int32 → Int32) (P : PL) (hd : Nat) : Nat → Int32 → List Nat → List Nat
  | 0, _, L => L
  | t + 1, x, L => dayL nx P hd t (nx x) (dayO P hd (t + 1) (nx x) L)
def itX (f : Int32 → Int32) : Nat → Int32 → Int32
  | 0, x => x
  | t + 1, x => itX f t (f x)
theorem itX_s {f : Int32 → Int32} {t : Nat} {x : Int32} : itX f (t + 1) x = itX f t (f x) := rfl
def dayX (nx : Int32 → Int32) (t : Nat) (x : Int32) : Int32 := itX nx t x
def dayQ (nx : Int32 → Int32) (P : PL) : Nat → Int32 → Nat
  | 0, _ => 0
  | t + 1, x => askO P (t + 1) (nx x) + dayQ nx P t (nx x)
theorem dayX_s {nx : Int32 → Int32} {t : Nat} {x : Int32} : dayX nx (t + 1) x = dayX nx t (nx x) := itX_s
theorem dayL_s {nx : Int32 → Int32} {P : PL} {hd t : Nat} {x : Int32} {L : List Nat} : dayL nx P hd (t + 1) x L = dayL nx P hd t (nx x) (dayO P hd (t + 1) (nx x) L) := rfl
theorem dayQ_s {nx : Int32 → Int32} {P : PL} {t : Nat} {x : Int32} : dayQ nx P (t + 1) x = askO P (t + 1) (nx x) + dayQ nx P t (nx x) := rfl
/-- the class, at another seed -/
def SX (P : PL) (c c2 : CS) : Prop := c2.pl = P.s_seed c2.pl.seed ∧ c2.tsize = c.tsize ∧ c2.tb = c.tb ∧ ∀ d D, RR c d D → WR c2 → RR c2 (d.s_now (va_up d.now 128 c2.pl.seed)) D
theorem SX.trans {P : PL} {a b c : CS} (h : SX P a b) (hb : WR b) (h2 : SX P b c) : SX P a c := by
  refine ⟨h2.1, h2.2.1.trans h.2.1, h2.2.2.1.trans h.2.2.1, fun d D r w => ?_⟩
  have := h2.2.2.2 _ D (h.2.2.2 d D r hb) w
  have e : va_up (d.s_now (va_up d.now 128 b.pl.seed)).now 128 c.pl.seed = va_up d.now 128 c.pl.seed := by
    funext q
    show va_up (va_up d.now 128 b.pl.seed) 128 c.pl.seed q = _
    by_cases e : q = 128
    · subst e; rw [upe, upe]
    · rw [upn e, upn e, upn e]
  rw [e] at this
  exact this
section
variable {c : CS} {d d0 : MS} {D : mM} {N k : Nat} {a : Int32} {P : PL}
theorem xfd_go {ph : Nat} {r : Int32} (hP : PR c.pl d0.now) (hph : ph < 4) : ∀ n i s : Nat, i ≤ c.pl.n → c.pl.n - i < n → m_X1_fareDrawn_L5 N (mk c d D) n 80 r (nI ph) (nI s) (nI i) = some (encB (fdO c.pl ph r (c.pl.n - i) i s)) := by
  intro n
  induction n with
  | zero => intro i s _ h; omega
  | succ n ih =>
    intro i s hi hn
    have hn6 := hP.n
    unfold m_X1_fareDrawn_L5
    by_cases e : i = c.pl.n
    · subst e
      rw [yr_80_0, Option.bind_some, yr_11_1, Option.bind_some, if_pos (nI_le (by omega) (by omega)), Nat.sub_self]
      rfl
    · rw [show c.pl.n - i = (c.pl.n - (i + 1)) + 1 by omega]
      unfold fdO
      rw [yr_80_0, Option.bind_some, yr_11_1, Option.bind_some, if_neg (by rw [nI_leI (by omega) (by omega)]; omega), Option.bind_some, yr_11_0, Option.bind_some, yfar_R (by omega), Option.bind_some, yf_3 (by omega), Option.bind_some, yfoa (by omega) hph, Option.bind_some, nI_add]
      by_cases q : nI (s + c.pl.odds i ph) ≤ r
      · rw [if_pos q, if_pos q, nI_1]
        exact ih (i + 1) _ (by omega) (by omega)
      · rw [if_neg q, if_neg q]
        rfl
theorem yfd_go {t : Nat} {r : Int32} (hP : PR P d.now) (h1 : 1 ≤ t) (h2 : t ≤ 20) : ∀ n i s : Nat, i ≤ P.n → P.n - i < n → m_X12_drawnFare_L43 N n 100 (nI t) r (nI s) (nI i) (mk c d D) = some (encB (fdO P ((t - 1) / 5) r (P.n - i) i s), mk c d D) := by
  intro n
  induction n with
  | zero => intro i s _ h; omega
  | succ n ih =>
    intro i s hi hn
    have hn6 := hP.n
    have z0 : aI 0 (mk c d D) 101 0 = some (d.now 0) := ya_101 (i := 0) (by omega)
    unfold m_X12_drawnFare_L43
    by_cases e : i = P.n
    · subst e
      rw [yr_100_0, Option.bind_some, z0, Option.bind_some, hP.n_, if_pos (nI_le (by omega) (by omega)), Nat.sub_self]
      rfl
    · rw [show P.n - i = (P.n - (i + 1)) + 1 by omega]
      unfold fdO
      rw [yr_100_0, Option.bind_some, z0, Option.bind_some, hP.n_, if_neg (by rw [nI_leI (by omega) (by omega)]; omega), yo_100, Option.bind_some, yodds hP (by omega) h1 h2, Option.bind_some, nI_add]
      by_cases q : nI (s + P.odds i ((t - 1) / 5)) ≤ r
      · rw [if_pos q, if_pos q, nI_1]
        exact ih (i + 1) _ (by omega) (by omega)
      · rw [if_neg q, if_neg q]
        rfl
theorem xseed_sx (hP : PR P d0.now) (hc : c.pl = P.s_seed c.pl.seed) (x : Int32) : SX P c (c.s_pl (c.pl.s_seed x)) := by
  refine ⟨?_, by rfl, by rfl, fun d D h w => ?_⟩
  · show c.pl.s_seed x = P.s_seed x
    rw [hc]
    rfl
  · exact h.keep (c.pl.s_seed x) (va_up d.now 128 x) (h.1.u_seed x) (h.2.1.like ⟨rfl, rfl⟩ h.1.rc (fun z h1 h2 => upn (by omega))) ⟨rfl, rfl, rfl⟩ rfl rfl
theorem SC.sx {c2 : CS} (hc : c.pl = P.s_seed c.pl.seed) (h : SC c c2) : SX P c c2 := by
  refine ⟨by rw [h.1]; exact hc, h.2.1, h.2.2.1, fun d D r w => ?_⟩
  have r2 := h.2.2.2 d D r w
  have e : d.s_now (va_up d.now 128 c2.pl.seed) = d := by
    have : va_up d.now 128 c2.pl.seed = d.now := by
      funext q
      by_cases e : q = 128
      · subst e; rw [upe]; exact r2.1.s_.symm
      · rw [upn e]
    rw [this]
    rfl
  rw [e]
  exact r2
end
