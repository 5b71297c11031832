-- the routes: what a passenger over one leg costs
theorem nI_shr {n k : Nat} (hn : n < 2 ^ 31) (hk : k < 32) : nI n >>> (nI k &&& 31) = nI (n / 2 ^ k) := by
  refine Int32.toBitVec_inj.mp ?_
  rw [Int32.toBitVec_shiftRight]
  have e : ((nI k &&& 31).toBitVec.smod 32) = BitVec.ofNat 32 k := by
    have : ∀ k, k < 32 → ((nI k &&& 31).toBitVec.smod 32) = BitVec.ofNat 32 k := by decide +kernel
    exact this k hk
  rw [e]
  show BitVec.sshiftRight' (BitVec.ofNat 32 n) (BitVec.ofNat 32 k) = BitVec.ofNat 32 (n / 2 ^ k)
  have m : (BitVec.ofNat 32 n).msb = false := by
    rw [BitVec.msb_eq_false_iff_two_mul_lt, BitVec.toNat_ofNat, Nat.mod_eq_of_lt (by omega)]
    omega
  refine BitVec.eq_of_toNat_eq ?_
  rw [BitVec.sshiftRight_eq', BitVec.sshiftRight_eq_of_msb_false m, BitVec.toNat_ushiftRight, BitVec.toNat_ofNat, BitVec.toNat_ofNat, BitVec.toNat_ofNat, Nat.mod_eq_of_lt (a := k) (by omega), Nat.mod_eq_of_lt (a := n) (by omega), Nat.shiftRight_eq_div_pow, Nat.mod_eq_of_lt]
  exact Nat.lt_of_le_of_lt (Nat.div_le_self _ _) (by omega)
theorem nI_mask {n k : Nat} : nI n &&& nI (2 ^ k - 1) = nI (n % 2 ^ k) := by
  refine Int32.toBitVec_inj.mp ?_
  show BitVec.ofNat 32 n &&& BitVec.ofNat 32 (2 ^ k - 1) = BitVec.ofNat 32 (n % 2 ^ k)
  refine BitVec.eq_of_toNat_eq ?_
  rw [BitVec.toNat_and, BitVec.toNat_ofNat, BitVec.toNat_ofNat, BitVec.toNat_ofNat, ← Nat.and_mod_two_pow, Nat.and_two_pow_sub_one_eq_mod]
theorem gb_I {m k : Nat} (hm : m < 2 ^ 31) (hk : k < 32) : (nI m >>> (nI k &&& 31)) &&& 1 = nI (gb m k) := by
  rw [nI_shr hm hk, show (1 : Int32) = nI (2 ^ 1 - 1) from rfl, nI_mask]
  rfl
theorem or_I {m k : Nat} (hm : m < 2 ^ 12) (hk : k < 12) : nI m ||| (1 <<< (nI k &&& 31)) = nI (m ||| 2 ^ k) := by
  have e : ∀ k, k < 12 → (1 : Int32) <<< (nI k &&& 31) = nI (2 ^ k) := by decide +kernel
  rw [e k hk]
  refine Int32.toBitVec_inj.mp ?_
  show BitVec.ofNat 32 m ||| BitVec.ofNat 32 (2 ^ k) = BitVec.ofNat 32 (m ||| 2 ^ k)
  refine BitVec.eq_of_toNat_eq ?_
  rw [BitVec.toNat_or, BitVec.toNat_ofNat, BitVec.toNat_ofNat, BitVec.toNat_ofNat, Nat.or_mod_two_pow]
theorem gb_or {m k q : Nat} : gb (m ||| 2 ^ k) q = if q = k then 1 else gb m q := by
  have a : ∀ n q, gb n q = (n.testBit q).toNat := fun n q => by
    unfold gb
    rw [Nat.testBit_eq_decide_div_mod_eq]
    by_cases h : n / 2 ^ q % 2 = 1
    · rw [h]; rfl
    · rw [show n / 2 ^ q % 2 = 0 by omega]; rfl
  rw [a, a, Nat.testBit_or, Nat.testBit_two_pow]
  by_cases e : q = k
  · subst e
    simp
  · simp [e, Ne.symm e]
theorem or_lt {m k : Nat} (hm : m < 2 ^ 12) (hk : k < 12) : m ||| 2 ^ k < 2 ^ 12 := Nat.or_lt_two_pow hm (Nat.pow_lt_pow_right (by omega) hk)
def lgR (now : Nat → Int32) (i : Nat) : Nat := (now (50 + 6 * i + 3)).toNatClampNeg
def prR (now : Nat → Int32) (i : Nat) : Nat := (now (50 + 6 * i + 4)).toNatClampNeg
def wtR (now : Nat → Int32) (i : Nat) : Nat := (now (50 + 6 * i + 5)).toNatClampNeg
theorem nI_cl {n : Nat} (h : n < 2 ^ 31) : (nI n).toNatClampNeg = n := by
  show (nI n).toInt.toNat = n
  rw [nI_toInt h]
  rfl
theorem RN.cl {now : Nat → Int32} {i l0 l1 l2 lg pr wt : Nat} (h : RN now i l0 l1 l2 lg pr wt) : lgR now i = lg ∧ prR now i = pr ∧ wtR now i = wt := by
  have h1 := h.2.2.1.2
  have h2 := h.2.2.2.1.2
  have h3 := h.2.2.2.2
  unfold lgR prR wtR
  rw [h.1.2.2.2.1, h.1.2.2.2.2.1, h.1.2.2.2.2.2]
  exact ⟨nI_cl (by omega), nI_cl (by omega), nI_cl (by omega)⟩
/-- the price of a leg on a route -/
def pcN (P : PL) (now : Nat → Int32) (k i : Nat) : UInt32 := pF P (lgR now i) (prR now i) k
abbrev candR (now : Nat → Int32) (k m i : Nat) : Prop := gb m i = 0 ∧ gb (lgR now i) k = 1
def dear (P : PL) (now : Nat → Int32) (k m : Nat) : Nat → Option Nat
  | 0 => none
  | i + 1 => if candR now k m i then (match dear P now k m i with
    | none => some i
    | some b => if Op.cmpValue (FP.fcmp (pcN P now k i) (pcN P now k b)) CmpOp.l ≤ 0 then some b else some i) else dear P now k m i
theorem dear_lt {P : PL} {now : Nat → Int32} {k m b : Nat} : ∀ i, dear P now k m i = some b → b < i ∧ candR now k m b
  | i + 1, h => by
    unfold dear at h
    split at h
    · next hc =>
      split at h
      · cases h; exact ⟨by omega, hc⟩
      · next b2 hb =>
        split at h
        · cases h
          obtain ⟨x, y⟩ := dear_lt i hb
          exact ⟨by omega, y⟩
        · cases h; exact ⟨by omega, hc⟩
    · obtain ⟨x, y⟩ := dear_lt i h
      exact ⟨by omega, y⟩
def cstR (P : PL) (now : Nat → Int32) (k : Nat) : Nat → Nat → Nat → UInt32
  | 0, _, _ => FP.fconst0
  | n + 1, m, s => match dear P now k m P.rc with
    | none => FP.fconst0
    | some b => if s + wtR now b ≤ P.free k then cstR P now k n (m ||| 2 ^ b) (s + wtR now b) else pcN P now k b
section
variable {c : CS} {d : MS} {D : mM} {N k : Nat} {a : Int32} {P : PL}
theorem RO.got (h : RO P d.now D) {i : Nat} (hi : i < P.rc) : ∃ j l0 l1 l2, P.rts i = some (j + 120) ∧ D[j]? = some (cRt (nmN l0 l1 l2) (lgR d.now i) (prR d.now i) (wtR d.now i)) ∧ RN d.now i l0 l1 l2 (lgR d.now i) (prR d.now i) (wtR d.now i) := by
  obtain ⟨j, l0, l1, l2, lg, pr, wt, h1, h2, h3⟩ := h.2.1 i hi
  obtain ⟨e1, e2, e3⟩ := h3.cl
  rw [e1, e2, e3]
  exact ⟨j, l0, l1, l2, h1, h2, h3⟩
def PZ (x : UInt32) : Prop := x = FP.fconst0 ∨ ∃ e f, FB e f x ∧ 100 ≤ e ∧ e ≤ 154
theorem pc_b (hP : PR P d.now) (hR : RO P d.now D) {k b : Nat} (hk : k < 4) (hb : b < P.rc) (hg : gb (lgR d.now b) k = 1) : ∃ e f, FB e f (pcN P d.now k b) ∧ 100 ≤ e ∧ e ≤ 154 := by
  obtain ⟨j, l0, l1, l2, h1, h2, h3⟩ := hR.got hb
  exact (pF_fin hP h3.2.2.2.1.1 h3.2.2.2.1.2 hk (sumL_ge (hP.l hk).1 hg 4 hk)).2
theorem cstR_b (hP : PR P d.now) (hR : RO P d.now D) {k : Nat} (hk : k < 4) : ∀ n m s, PZ (cstR P d.now k n m s)
  | 0, _, _ => Or.inl rfl
  | n + 1, m, s => by
    unfold cstR
    cases hb : dear P d.now k m P.rc with
    | none => exact Or.inl rfl
    | some b =>
      simp only
      obtain ⟨b1, b2⟩ := dear_lt _ hb
      split
      · exact cstR_b hP hR hk n _ _
      · exact Or.inr (pc_b hP hR hk b1 b2.2)
def encB : Option Nat → Int32
  | none => -1
  | some b => nI b
theorem xdear_go (hN : 100 ≤ N) (hP : PR c.pl d.now) (hR : RO c.pl d.now D) {k m : Nat} (hk : k < 4) (hm : m < 2 ^ 12) : ∀ (n i : Nat) (f4 : UInt32), i ≤ c.pl.rc → c.pl.rc - i < n → (∀ b, dear c.pl d.now k m i = some b → f4 = pcN c.pl d.now k b) → m_X4_dearestBut_L8 N (mk c d D) n 14 (nI m) (nI k) (encB (dear c.pl d.now k m i)) f4 (nI i) = some (encB (dear c.pl d.now k m c.pl.rc)) := by
  intro n
  induction n with
  | zero => intro i _ _ h; omega
  | succ n ih =>
    intro i f4 hi hn hf
    have hr := hP.rc
    unfold m_X4_dearestBut_L8
    by_cases e : i = c.pl.rc
    · subst e
      rw [yr_14_3, Option.bind_some, if_pos (nI_le (by omega) (by omega))]
    · obtain ⟨j, l0, l1, l2, h1, h2, h3⟩ := hR.got (i := i) (by omega)
      have ar := ya_17r (d := d) (D := D) (by omega) h1
      have eb : dear c.pl d.now k m (i + 1) = if candR d.now k m i then (match dear c.pl d.now k m i with
        | none => some i
        | some b => if Op.cmpValue (FP.fcmp (pcN c.pl d.now k i) (pcN c.pl d.now k b)) CmpOp.l ≤ 0 then some b else some i) else dear c.pl d.now k m i := rfl
      rw [yr_14_3, Option.bind_some, if_neg (by rw [nI_leI (by omega) (by omega)]; omega), gb_I (by omega) (by omega)]
      by_cases g : gb m i = 0
      · rw [if_pos (nI_gb.mpr g), yr_14_2, Option.bind_some, ar, Option.bind_some, yd_o h2, Option.bind_some, xgoes h2 h3.2.2.1.2 hk, Option.bind_some]
        by_cases g2 : gb (lgR d.now i) k = 0
        · rw [if_pos (nI_gb.mpr g2)]
          rw [if_neg (fun z => by have := z.2; omega)] at eb
          have ih := ih (i + 1) f4 (by omega) (by omega) (by rw [eb]; exact hf)
          rw [eb] at ih
          unfold m_X4_dearestBut_J74
          rw [nI_1]
          exact ih
        · have g3 : gb (lgR d.now i) k = 1 := by have := gb_lt (lg := lgR d.now i) (k := k); omega
          rw [if_pos ⟨g, g3⟩] at eb
          have x1 := xpart (c := c) (N := N) hN hP h2 h3.2.2.1.2 h3.2.2.2.1.1 h3.2.2.2.1.2 (k := k) hk
          rw [if_neg g2] at x1
          rw [if_neg (fun z => g2 (nI_gb.mp z)), Option.bind_some, ar, Option.bind_some, yo_14, Option.bind_some, x1, Option.bind_some]
          cases hb : dear c.pl d.now k m i with
          | none =>
            rw [hb] at eb
            have eb : dear c.pl d.now k m (i + 1) = some i := eb
            have ih := ih (i + 1) (pF c.pl (lgR d.now i) (prR d.now i) k) (by omega) (by omega) (fun b z => by rw [eb] at z; cases z; rfl)
            rw [eb] at ih
            rw [if_pos (show encB none = -1 from rfl)]
            unfold m_X4_dearestBut_J67 m_X4_dearestBut_J74
            rw [nI_1]
            exact ih
          | some b =>
            rw [hb] at eb
            have eb : dear c.pl d.now k m (i + 1) = if Op.cmpValue (FP.fcmp (pcN c.pl d.now k i) (pcN c.pl d.now k b)) CmpOp.l ≤ 0 then some b else some i := eb
            have bl := (dear_lt i hb).1
            rw [hf b hb, if_neg (show ¬ encB (some b) = -1 from by show ¬ nI b = -1; exact fun z => by have := congrArg Int32.toInt z; rw [nI_toInt (by omega)] at this; have e1 : (-1 : Int32).toInt = -1 := rfl; omega)]
            by_cases q : Op.cmpValue (FP.fcmp (pcN c.pl d.now k i) (pcN c.pl d.now k b)) CmpOp.l ≤ 0
            · rw [if_pos q] at eb
              have ih := ih (i + 1) (pcN c.pl d.now k b) (by omega) (by omega) (fun b z => by rw [eb] at z; cases z; rfl)
              rw [eb] at ih
              unfold pcN at q ⊢
              rw [if_pos q]
              unfold m_X4_dearestBut_J74
              rw [nI_1]
              exact ih
            · rw [if_neg q] at eb
              have ih := ih (i + 1) (pcN c.pl d.now k i) (by omega) (by omega) (fun b z => by rw [eb] at z; cases z; rfl)
              rw [eb] at ih
              unfold pcN at q ⊢
              rw [if_neg q]
              unfold m_X4_dearestBut_J67 m_X4_dearestBut_J74
              rw [nI_1]
              exact ih
      · rw [if_neg (fun z => g (nI_gb.mp z))]
        rw [if_neg (fun z => g z.1)] at eb
        have ih := ih (i + 1) f4 (by omega) (by omega) (by rw [eb]; exact hf)
        rw [eb] at ih
        unfold m_X4_dearestBut_J74
        rw [nI_1]
        exact ih
theorem xdear (hN : 100 ≤ N) (hP : PR c.pl d.now) (hR : RO c.pl d.now D) {k m : Nat} (hk : k < 4) (hm : m < 2 ^ 12) : m_X4_dearestBut N 14 (nI m) (nI k) (mk c d D) = some (encB (dear c.pl d.now k m c.pl.rc)) := by
  have hr := hP.rc
  exact xdear_go hN hP hR hk hm N 0 FP.fconst0 (by omega) (by omega) (fun b z => by cases z)
theorem xcost_go (hN : 100 ≤ N) (hP : PR c.pl d.now) (hR : RO c.pl d.now D) {k : Nat} (hk : k < 4) : ∀ (n i m s : Nat), i ≤ c.pl.rc → c.pl.rc - i < n → m < 2 ^ 12 → s ≤ 99 * i → m_X4_costOf_L7 N (mk c d D) n 14 (nI k) (nI m) (nI s) (nI i) = some (cstR c.pl d.now k (c.pl.rc - i) m s) := by
  intro n
  induction n with
  | zero => intro i m s _ h; omega
  | succ n ih =>
    intro i m s hi hn hm hs
    have hr := hP.rc
    unfold m_X4_costOf_L7
    by_cases e : i = c.pl.rc
    · subst e
      rw [yr_14_3, Option.bind_some, if_pos (nI_le (by omega) (by omega)), Nat.sub_self]
      rfl
    · rw [show c.pl.rc - i = (c.pl.rc - (i + 1)) + 1 by omega]
      rw [yr_14_3, Option.bind_some, if_neg (by rw [nI_leI (by omega) (by omega)]; omega), yo_14, Option.bind_some, xdear hN hP hR hk hm, Option.bind_some]
      unfold cstR
      cases hb : dear c.pl d.now k m c.pl.rc with
      | none => rw [if_pos (show encB none = -1 from rfl)]
      | some b =>
        obtain ⟨b1, b2⟩ := dear_lt _ hb
        obtain ⟨j, l0, l1, l2, h1, h2, h3⟩ := hR.got (i := b) b1
        have ar := ya_17r (d := d) (D := D) (by omega) h1
        have hw := h3.2.2.2.2
        have hf := hP.f hk
        have x1 := xpart (c := c) (N := N) hN hP h2 h3.2.2.1.2 h3.2.2.2.1.1 h3.2.2.2.1.2 (k := k) hk
        rw [if_neg (by have := b2.2; omega)] at x1
        rw [if_neg (show ¬ encB (some b) = -1 from by show ¬ nI b = -1; exact fun z => by have := congrArg Int32.toInt z; rw [nI_toInt (by omega)] at this; have e1 : (-1 : Int32).toInt = -1 := rfl; omega)]
        rw [show encB (some b) = nI b from rfl, yr_14_2, Option.bind_some, ar, Option.bind_some, yd_3 h2, Option.bind_some, yr_14_1, Option.bind_some, ya_16 (by omega), Option.bind_some, nI_add]
        simp only
        by_cases q : s + wtR d.now b ≤ c.pl.free k
        · rw [if_pos ((nI_leI (by omega) (by omega)).mpr q), if_pos q, or_I hm (by omega), nI_1]
          exact ih (i + 1) _ _ (by omega) (by omega) (or_lt hm (by omega)) (by omega)
        · rw [if_neg (fun z => q ((nI_leI (by omega) (by omega)).mp z)), if_neg q, Option.bind_some, ar, Option.bind_some, Option.bind_some, x1, Option.bind_some]
          rfl
theorem xcost (hN : 100 ≤ N) (hP : PR c.pl d.now) (hR : RO c.pl d.now D) {k : Nat} (hk : k < 4) : m_X4_costOf N 14 (nI k) (mk c d D) = some (cstR c.pl d.now k c.pl.rc 0 0) := by
  have hr := hP.rc
  exact xcost_go hN hP hR hk N 0 0 0 (by omega) (by omega) (by omega) (by omega)
end
