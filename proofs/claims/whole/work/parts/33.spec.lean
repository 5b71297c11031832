-- what is worked out, in doubles, from a plan
def c100 : UInt64 := 4636737291354636288
def hundredth (k : Nat) : UInt64 := FP.ddiv (FP.i2d (nI k)) c100
def showD (P : PL) : Nat → UInt64
  | 0 => FP.dsub FP.dconst1 (hundredth (P.rules 2))
  | t + 1 => FP.dmul (showD P t) (FP.dsub FP.dconst1 (hundredth (P.rules 1)))
def keepD (k : Nat) : UInt64 := if k = 0 then 4602678819172646912 else if k = 1 then FP.dconst0 else if k = 2 then FP.dconst1 else 4604930618986332160
def netD (P : PL) (f t : Nat) : UInt64 := FP.dmul (FP.i2d (nI (P.price f))) (FP.dadd (showD P t) (FP.dmul (FP.dsub FP.dconst1 (showD P t)) (keepD (P.kind f))))
/-- a gain that isn't above 0 -/
def noGain (g : UInt64) : Prop := Op.cmpValue (FP.dcmp g FP.dconst0) CmpOp.l ≤ 0
def accD (P : PL) (t : Nat) (bid w : UInt64) : Nat → UInt64
  | 0 => w
  | f + 1 => if Op.cmpValue (FP.dcmp (FP.dsub (netD P f (t - 1)) bid) FP.dconst0) CmpOp.l ≤ 0 then accD P t bid w f else FP.dadd (accD P t bid w f) (FP.dmul (hundredth (P.odds f ((t - 1) / 5))) (FP.dsub (netD P f (t - 1)) bid))
def WD (P : PL) : Nat → Nat → UInt64
  | 0, _ => FP.dconst0
  | _ + 1, 0 => FP.dconst0
  | t + 1, s + 1 => accD P (t + 1) (FP.dsub (WD P t (s + 1)) (WD P t s)) (WD P t (s + 1)) P.n
theorem WD_0 {P : PL} {t : Nat} : WD P t 0 = FP.dconst0 := by cases t <;> rfl
theorem showD_like {P Q : PL} (h : Q.rules = P.rules) : ∀ t, showD Q t = showD P t
  | 0 => by unfold showD; rw [h]
  | t + 1 => by unfold showD; rw [showD_like h t, h]
theorem netD_like {P Q : PL} (h : Q.rules = P.rules ∧ Q.price = P.price ∧ Q.kind = P.kind) (f t : Nat) : netD Q f t = netD P f t := by
  unfold netD
  rw [showD_like h.1, h.2.1, h.2.2]
theorem accD_like {P Q : PL} (h : Q.rules = P.rules ∧ Q.price = P.price ∧ Q.kind = P.kind) (ho : Q.odds = P.odds) (t : Nat) (b w : UInt64) : ∀ n, accD Q t b w n = accD P t b w n
  | 0 => rfl
  | n + 1 => by unfold accD; rw [accD_like h ho t b w n, netD_like h, ho]
theorem WD_like {P Q : PL} (h : Q.rules = P.rules ∧ Q.price = P.price ∧ Q.kind = P.kind) (ho : Q.odds = P.odds) (hn : Q.n = P.n) : ∀ t s, WD Q t s = WD P t s
  | 0, _ => rfl
  | _ + 1, 0 => rfl
  | t + 1, s + 1 => by unfold WD; rw [WD_like h ho hn t (s + 1), WD_like h ho hn t s, accD_like h ho, hn]
/-- the class's rows of worths -/
def WR (c : CS) : Prop := c.made ≤ 20 ∧ (∀ t, t ≤ c.made → ∀ s, s ≤ c.pl.rules 0 → c.rows t s = WD c.pl t s) ∧ (∀ s, s < 31 → c.rows 0 s = FP.dconst0) ∧ (∀ t, t < 21 → c.rows t 0 = FP.dconst0)
/-- THE RELATION -/
def RR (c : CS) (d : MS) (D : mM) : Prop := PR c.pl d.now ∧ RO c.pl d.now D ∧ IM c d D ∧ WR c ∧ TP c d ∧ PG c d D ∧ TR c d ∧ LI c d
theorem WR.forget {c : CS} (h : WR c) (h0 : c.pl.rules 0 ≤ 30) (Q : PL) (hq : Q.rules 0 ≤ 30) : WR ((c.s_pl Q).s_made 0) := by
  refine ⟨Nat.zero_le _, fun t ht s hs => ?_, h.2.2.1, h.2.2.2⟩
  have ht : t = 0 := by have : t ≤ 0 := ht; omega
  subst ht
  have hs : s ≤ Q.rules 0 := hs
  show c.rows 0 s = FP.dconst0
  exact h.2.2.1 s (by omega)
theorem WR.like {c c2 : CS} (h : WR c) (e1 : c2.made = c.made) (e2 : c2.rows = c.rows) (h1 : c2.pl.rules = c.pl.rules ∧ c2.pl.price = c.pl.price ∧ c2.pl.kind = c.pl.kind) (ho : c2.pl.odds = c.pl.odds) (hn : c2.pl.n = c.pl.n) : WR c2 := by
  unfold WR at h ⊢
  rw [e1, e2]
  refine ⟨h.1, fun t ht s hs => ?_, h.2.2.1, h.2.2.2⟩
  rw [WD_like h1 ho hn]
  rw [h1.1] at hs
  exact h.2.1 t ht s hs
/-- a call that changes the plan and forgets the worths -/
theorem RR.forget {c : CS} {d : MS} {D : mM} (h : RR c d D) (Q : PL) (now2 : Nat → Int32) (h1 : PR Q now2) (h2 : Q.rc = c.pl.rc ∧ Q.rts = c.pl.rts) (e : ∀ z, 50 ≤ z → z < 122 → now2 z = d.now z) : RR ((c.s_pl Q).s_made 0) (d.s_now now2) D :=
  ⟨h1, h.2.1.like h2 h.1.rc e, h.2.2.1, h.2.2.2.1.forget h.1.r0 Q h1.r0, h.2.2.2.2.1, h.2.2.2.2.2.1, h.2.2.2.2.2.2.1, h.2.2.2.2.2.2.2⟩
/-- a call that changes the plan, not the worths -/
theorem RR.keep {c : CS} {d : MS} {D : mM} (h : RR c d D) (Q : PL) (now2 : Nat → Int32) (h1 : PR Q now2) (h2 : RO Q now2 D) (hw : Q.rules = c.pl.rules ∧ Q.price = c.pl.price ∧ Q.kind = c.pl.kind) (ho : Q.odds = c.pl.odds) (hn : Q.n = c.pl.n) : RR (c.s_pl Q) (d.s_now now2) D :=
  ⟨h1, h2, h.2.2.1, h.2.2.2.1.like rfl rfl hw ho hn, h.2.2.2.2.1, h.2.2.2.2.2.1, h.2.2.2.2.2.2.1, h.2.2.2.2.2.2.2⟩
