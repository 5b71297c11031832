-- reading the tape: a byte, a sign, a number
def dgs (b : Nat → Nat) : Nat → Nat → Nat → Nat × Nat
  | 0, i, v => (i, v)
  | m + 1, i, v => if 48 ≤ b i ∧ b i ≤ 57 then dgs b m (i + 1) (v * 10 + b i - 48) else (i, v)
theorem dgs_le {b : Nat → Nat} : ∀ m i v, i ≤ (dgs b m i v).1 ∧ (dgs b m i v).1 ≤ i + m
  | 0, i, v => ⟨Nat.le_refl _, Nat.le_refl _⟩
  | m + 1, i, v => by
    unfold dgs
    split
    · have := dgs_le (b := b) m (i + 1) (v * 10 + b i - 48); omega
    · exact ⟨Nat.le_refl _, by omega⟩
theorem dgs_val {b : Nat → Nat} : ∀ m i v k, v < 10 ^ k → (dgs b m i v).2 < 10 ^ (k + m)
  | 0, i, v, k, h => h
  | m + 1, i, v, k, h => by
    unfold dgs
    split
    · next hb =>
      have := dgs_val (b := b) m (i + 1) (v * 10 + b i - 48) (k + 1) (by rw [Nat.pow_succ]; omega)
      rw [show k + (m + 1) = k + 1 + m by omega]
      exact this
    · exact Nat.lt_of_lt_of_le h (Nat.pow_le_pow_right (by omega) (by omega))
section
variable {c c0 : CS} {d d0 : MS} {D : mM} {N k : Nat} {a : Int32} {P : PL}
theorem xbyte (h : TP c d0) {i : Nat} (hi : i ≤ 1000) : m_X7_byteAt 77 (nI i) (mk c d D) = some (nI (tbn c i)) := by
  by_cases z : i < c.tsize
  · exact xbyte_in h z
  · have ht := h.1
    unfold m_X7_byteAt
    rw [if_neg (by rw [show (0 : Int32) = nI 0 from rfl, nI_ltI (by omega) (by omega)]; omega), yr_77_1, Option.bind_some, if_pos (by rw [nI_leI (by omega) (by omega)]; omega)]
    unfold tbn
    rw [if_neg z]
    rfl
theorem ysign (h : TP c0 d) {i lo hi : Nat} (hi2 : i ≤ 1000) (hlo : 1 ≤ lo) (hl : lo ≤ 1000) (hh : hi ≤ 1000) (hf : d.fault = -1) (ha : d.at_ = nI i) : m_X12_isSign 100 (nI lo) (nI hi) (mk c d D) = some (if lo ≤ tbn c0 i ∧ tbn c0 i ≤ hi then nI 1 else nI 0) := by
  have ht := h.1
  unfold m_X12_isSign
  rw [yr_100_25, Option.bind_some, hf, if_neg (by decide), yr_100_24, Option.bind_some, ha, yr_100_3, Option.bind_some, h.2.1]
  by_cases z : i < c0.tsize
  · obtain ⟨t1, t2, t3, t4⟩ := tb_of h z
    rw [if_neg (by rw [nI_leI (by omega) (by omega)]; omega), yr_100_4, Option.bind_some, Option.bind_some, ya_103 (by omega), Option.bind_some, t4, nI_l (n := lo) (by omega), nI_l (n := hi) (by omega)]
    by_cases q : lo ≤ tbn c0 i ∧ tbn c0 i ≤ hi
    · rw [in_in q.1 q.2, Option.bind_some, if_neg (by decide), if_pos q]
      rfl
    · rw [in_out (x := nI (tbn c0 i)) (lo := lo) (hi := hi) (by rw [nI_toInt (by omega)]; omega), Option.bind_some, if_pos (by decide), if_neg q]
      rfl
  · rw [if_pos (by rw [nI_leI (by omega) (by omega)]; omega)]
    have : tbn c0 i = 0 := by unfold tbn; rw [if_neg z]
    rw [if_neg (by omega)]
    rfl
theorem xnum_go {b : Nat → Nat} {mx : Nat} (hm : mx ≤ 4) : ∀ (n j v : Nat) (c : CS), TP c d0 → tbn c = b → c.tat + (mx - j) ≤ 500 → j ≤ mx → mx - j < n → v < 10 ^ j → m_X7_numberOf_L4 N n 77 (nI mx) (nI v) (nI j) (mk c d D) = some (nI (dgs b (mx - j) c.tat v).2, mk (c.s_tat (dgs b (mx - j) c.tat v).1) d D) := by
  intro n
  induction n with
  | zero => intro j v c _ _ _ _ h; omega
  | succ n ih =>
    intro j v c hT hb ha hj hn hv
    unfold m_X7_numberOf_L4
    by_cases e : j = mx
    · subst e
      rw [if_pos (nI_le (by omega) (by omega)), Nat.sub_self]
      rfl
    · have v4 : v < 10 ^ 4 := Nat.lt_of_lt_of_le hv (Nat.pow_le_pow_right (by omega) (by omega))
      have xb := xbyte (d := d) (D := D) hT (i := c.tat) (by omega)
      rw [hb] at xb
      have bl : b c.tat ≤ 127 := by rw [← hb]; exact tbn_le hT _
      rw [show mx - j = (mx - (j + 1)) + 1 by omega]
      rw [if_neg (by rw [nI_leI (by omega) (by omega)]; omega), yr_77_4, Option.bind_some, yo_77, Option.bind_some, xb, Option.bind_some]
      unfold dgs
      by_cases z1 : b c.tat < 48
      · rw [if_pos (by rw [show (48 : Int32) = nI 48 from rfl, nI_ltI (by omega) (by omega)]; exact z1), if_neg (by omega)]
        rfl
      · rw [if_neg (by rw [show (48 : Int32) = nI 48 from rfl, nI_ltI (by omega) (by omega)]; exact z1), Option.bind_some, Option.bind_some, xb, Option.bind_some]
        by_cases z2 : 57 < b c.tat
        · rw [if_pos (by rw [show (57 : Int32) = nI 57 from rfl, nI_ltI (by omega) (by omega)]; exact z2), if_neg (by omega)]
          rfl
        · rw [if_neg (by rw [show (57 : Int32) = nI 57 from rfl, nI_ltI (by omega) (by omega)]; exact z2), if_pos (by omega), Option.bind_some, Option.bind_some, xb, Option.bind_some, Option.bind_some, nI_1, yw_77_4, Option.bind_some, show (10 : Int32) = nI 10 from rfl, pk_mul, nI_add, show (48 : Int32) = nI 48 from rfl, pk_sub (by omega), nI_1]
          exact ih (j + 1) (v * 10 + b c.tat - 48) (c.s_tat (c.tat + 1)) hT hb (by show c.tat + 1 + (mx - (j + 1)) ≤ 500; omega) (by omega) (by omega) (by rw [Nat.pow_succ]; omega)
/-- the reference's fault after a number -/
def nbF (i p v mn : Nat) : Int32 := if p = i ∨ v < mn then nI i else -1
theorem ywrong (hf : d.fault = -1) (x : Int32) : m_X12_wrong 100 x (mk c d D) = some (mk c (d.s_fault x) D) := by
  unfold m_X12_wrong
  rw [yr_100_25, Option.bind_some, hf, if_neg (by decide), yw_100_25, Option.bind_some]
theorem yj59 (hf : d.fault = -1) {i p v mn : Nat} (hi : i ≤ 500) (hp : p ≤ 600) (hv : v < 10 ^ 4) (hm : mn ≤ 1) (ha : d.at_ = nI p) : m_X12_number_J59 N 100 (nI mn) (nI i) (nI v) (mk c d D) = some (nI v, mk c (d.s_fault (nbF i p v mn)) D) := by
  unfold m_X12_number_J59 nbF
  rw [yr_100_24, Option.bind_some, ha]
  by_cases e : p = i
  · subst e
    rw [if_pos rfl, yo_100, Option.bind_some, ywrong hf, Option.bind_some, if_pos (Or.inl rfl)]
  · rw [if_neg (fun y => e ((nI_eq (by omega) (by omega)).mp y))]
    by_cases z : mn ≤ v
    · rw [if_pos ((nI_leI (by omega) (by omega)).mpr z), if_neg (by omega), ← hf]
      rfl
    · rw [if_neg (fun y => z ((nI_leI (by omega) (by omega)).mp y)), yo_100, Option.bind_some, ywrong hf, Option.bind_some, if_pos (Or.inr (by omega))]
theorem ynum_go {mx mn s : Nat} (hm : mx ≤ 4) (hmn : mn ≤ 1) (hs : s ≤ 500) : ∀ (n j v p : Nat) (d : MS), TP c0 d → d.fault = -1 → d.at_ = nI p → p = s + j → j ≤ mx → mx - j < n → v < 10 ^ j → m_X12_number_L8 N n 100 (nI mx) (nI mn) (nI s) (nI v) (mk c d D) = some (nI (dgs (tbn c0) (mx - j) p v).2, mk c ((d.s_at_ (nI (dgs (tbn c0) (mx - j) p v).1)).s_fault (nbF s (dgs (tbn c0) (mx - j) p v).1 (dgs (tbn c0) (mx - j) p v).2 mn)) D) := by
  intro n
  induction n with
  | zero => intro j v p d _ _ _ _ _ h; omega
  | succ n ih =>
    intro j v p d hT hf ha hp hj hn hv
    have v4 : v < 10 ^ 4 := Nat.lt_of_lt_of_le hv (Nat.pow_le_pow_right (by omega) (by omega))
    have ht := hT.1
    have eat : d.s_at_ (nI p) = d := by rw [← ha]; rfl
    unfold m_X12_number_L8
    rw [yr_100_24, Option.bind_some, ha, nI_add]
    by_cases e : j = mx
    · subst e
      rw [if_pos (by rw [nI_leI (by omega) (by omega)]; omega), Nat.sub_self, yj59 hf hs (by omega) v4 hmn ha]
      show _ = some (nI v, mk c ((d.s_at_ (nI p)).s_fault (nbF s p v mn)) D)
      rw [eat]
    · have sg := ysign (c := c) (D := D) hT (i := p) (lo := 48) (hi := 57) (by omega) (by omega) (by omega) (by omega) hf ha
      have sg : m_X12_isSign 100 48 57 (mk c d D) = some (if 48 ≤ tbn c0 p ∧ tbn c0 p ≤ 57 then nI 1 else nI 0) := sg
      rw [if_neg (by rw [nI_leI (by omega) (by omega)]; omega), yo_100, Option.bind_some, sg, Option.bind_some, show mx - j = (mx - (j + 1)) + 1 by omega]
      unfold dgs
      by_cases z : 48 ≤ tbn c0 p ∧ tbn c0 p ≤ 57
      · have zp : p < c0.tsize := by
          rcases Nat.lt_or_ge p c0.tsize with q | q
          · exact q
          · have : tbn c0 p = 0 := by unfold tbn; rw [if_neg (by omega)]
            omega
        obtain ⟨t1, t2, t3, t4⟩ := tb_of hT zp
        rw [if_pos z, if_pos z, if_neg (by decide), yr_100_4, Option.bind_some, Option.bind_some, nI_1, yw_100_24, Option.bind_some, ya_103 (by omega), Option.bind_some, show (d.s_at_ (nI (p + 1))).tape p = nI (tbn c0 p) from t4, show (10 : Int32) = nI 10 from rfl, pk_mul, nI_add, show (48 : Int32) = nI 48 from rfl, pk_sub (by omega)]
        have r := ih (j + 1) (v * 10 + tbn c0 p - 48) (p + 1) (d.s_at_ (nI (p + 1))) hT hf (by rfl) (by omega) (by omega) (by omega) (by rw [Nat.pow_succ]; omega)
        rw [show 10 * v + tbn c0 p - 48 = v * 10 + tbn c0 p - 48 by omega]
        exact r
      · rw [if_neg z, if_neg z, if_pos (by decide), yj59 hf hs (by omega) v4 hmn ha]
        rw [eat]
end
def lgs (b : Nat → Nat) : Nat → Nat → Nat → Nat → Nat × Nat
  | 0, i, _, k => (i, k)
  | m + 1, i, lo, k => if lo ≤ b i ∧ b i < 52 then lgs b m (i + 1) (b i + 1) (k ||| 2 ^ (b i - 48)) else (i, k)
section
variable {c c0 : CS} {d d0 : MS} {D : mM} {N k : Nat} {a : Int32} {P : PL}
theorem xlegs_go {b : Nat → Nat} : ∀ (n m lo k : Nat) (c : CS), TP c d0 → tbn c = b → c.tat + m ≤ 500 → m ≤ 4 → m < n → 48 ≤ lo → lo ≤ 52 → c.tlegs = nI k → m_X7_faultOfLegs_L10 N n 77 (nI lo) (nI (4 - m)) (mk c d D) = m_X7_faultOfLegs_J89 N 77 (mk ((c.s_tlegs (nI (lgs b m c.tat lo k).2)).s_tat (lgs b m c.tat lo k).1) d D) := by
  intro n
  induction n with
  | zero => intro m lo k c _ _ _ _ h; omega
  | succ n ih =>
    intro m lo k c hT hb ha hm hn h48 h52 hk
    have ek : (c.s_tlegs (nI k)).s_tat c.tat = c := by rw [← hk]; rfl
    unfold m_X7_faultOfLegs_L10
    cases m with
    | zero =>
      rw [if_pos (by decide)]
      show _ = m_X7_faultOfLegs_J89 N 77 (mk ((c.s_tlegs (nI k)).s_tat c.tat) d D)
      rw [ek]
    | succ m =>
      have xb := xbyte (d := d) (D := D) hT (i := c.tat) (by omega)
      rw [hb] at xb
      have bl : b c.tat ≤ 127 := by rw [← hb]; exact tbn_le hT _
      rw [if_neg (by rw [show (4 : Int32) = nI 4 from rfl, nI_leI (by omega) (by omega)]; omega), yr_77_4, Option.bind_some, yo_77, Option.bind_some, xb, Option.bind_some]
      unfold lgs
      by_cases z1 : b c.tat < lo
      · rw [if_pos (by rw [nI_ltI (by omega) (by omega)]; exact z1), if_neg (by omega), ek]
      · rw [if_neg (by rw [nI_ltI (by omega) (by omega)]; exact z1), Option.bind_some, Option.bind_some, xb, Option.bind_some]
        by_cases z2 : 52 ≤ b c.tat
        · rw [if_pos (by rw [show (52 : Int32) = nI 52 from rfl, nI_leI (by omega) (by omega)]; exact z2), if_neg (by omega), ek]
        · have xb2 := xbyte (c := c.s_tlegs (nI (k ||| 2 ^ (b c.tat - 48)))) (d := d) (D := D) hT (i := c.tat) (by omega)
          rw [show tbn (c.s_tlegs (nI (k ||| 2 ^ (b c.tat - 48)))) c.tat = b c.tat from by rw [← hb]; rfl] at xb2
          rw [if_neg (by rw [show (52 : Int32) = nI 52 from rfl, nI_leI (by omega) (by omega)]; exact z2), if_pos (by omega), yr_77_6, Option.bind_some, Option.bind_some, Option.bind_some, xb, Option.bind_some, hk, show nI (b c.tat) - 48 = nI (b c.tat - 48) from by rw [show (48 : Int32) = nI 48 from rfl, pk_sub (by omega)], or_20 (by omega), yw_77_6, Option.bind_some, yr_77_4, Option.bind_some, yo_77, Option.bind_some, show (c.s_tlegs (nI (k ||| 2 ^ (b c.tat - 48)))).tat = c.tat from rfl, xb2, Option.bind_some, Option.bind_some, nI_1, yw_77_4, Option.bind_some, nI_1, nI_1, show 4 - (m + 1) + 1 = 4 - m by omega]
          exact ih m (b c.tat + 1) (k ||| 2 ^ (b c.tat - 48)) ((c.s_tlegs (nI (k ||| 2 ^ (b c.tat - 48)))).s_tat (c.tat + 1)) hT hb (by show c.tat + 1 + m ≤ 500; omega) (by omega) (by omega) (by omega) (by omega) (by rfl)
theorem ylegs_go : ∀ (n m lo k p : Nat) (d : MS), TP c0 d → d.fault = -1 → d.at_ = nI p → d.read 3 = nI k → p + m ≤ 500 → m ≤ 4 → m < n → 48 ≤ lo → 52 ≤ lo + m → lo ≤ 52 → k < 16 → m_X12_readRoute_L46 N n 100 (nI lo) (mk c d D) = m_X12_readRoute_J121 N 100 (mk c (((d.s_read (va_up d.read 3 (nI (lgs (tbn c0) m p lo k).2))).s_at_ (nI (lgs (tbn c0) m p lo k).1)).s_fault (if (lgs (tbn c0) m p lo k).2 = 0 then nI (lgs (tbn c0) m p lo k).1 else -1)) D) := by
  intro n
  induction n with
  | zero => intro m lo k p d _ _ _ _ _ _ h; omega
  | succ n ih =>
    intro m lo k p d hT hf ha hk hp hm hn h48 h52 h53 hk16
    have r3 : aI 0 (mk c d D) 118 3 = some (nI k) := (ya_118 (i := 3) (by omega)).trans (by rw [hk])
    have sg := ysign (c := c) (D := D) hT (i := p) (lo := lo) (hi := 51) (by omega) (by omega) (by omega) (by omega) hf ha
    have sg : m_X12_isSign 100 (nI lo) 51 (mk c d D) = some (if lo ≤ tbn c0 p ∧ tbn c0 p ≤ 51 then nI 1 else nI 0) := sg
    have ed : (d.s_read (va_up d.read 3 (nI k))).s_at_ (nI p) = d := by
      have : va_up d.read 3 (nI k) = d.read := by
        funext q
        by_cases e : q = 3
        · subst e; rw [upe, hk]
        · rw [upn e]
      rw [this, ← ha]
      rfl
    have stop : ¬ (lo ≤ tbn c0 p ∧ tbn c0 p ≤ 51) → m_X12_readRoute_L46 N (n + 1) 100 (nI lo) (mk c d D) = m_X12_readRoute_J121 N 100 (mk c (d.s_fault (if k = 0 then nI p else -1)) D) := by
      intro z
      unfold m_X12_readRoute_L46
      rw [yo_100, Option.bind_some, sg, Option.bind_some, if_neg z, if_pos (by decide), yr_100_26, Option.bind_some, r3, Option.bind_some]
      by_cases k0 : k = 0
      · rw [if_pos (by rw [k0]; rfl), yr_100_24, Option.bind_some, ha, Option.bind_some, ywrong hf, Option.bind_some, if_pos k0]
      · rw [if_neg (by rw [show (0 : Int32) = nI 0 from rfl, nI_eq (by omega) (by omega)]; exact k0), if_neg k0, ← hf]
        rfl
    cases m with
    | zero =>
      show _ = m_X12_readRoute_J121 N 100 (mk c (((d.s_read (va_up d.read 3 (nI k))).s_at_ (nI p)).s_fault (if k = 0 then nI p else -1)) D)
      rw [ed]
      exact stop (by omega)
    | succ m =>
      unfold lgs
      by_cases z : lo ≤ tbn c0 p ∧ tbn c0 p < 52
      · have zp : p < c0.tsize := by
          rcases Nat.lt_or_ge p c0.tsize with q | q
          · exact q
          · have : tbn c0 p = 0 := by unfold tbn; rw [if_neg (by omega)]
            omega
        obtain ⟨t1, t2, t3, t4⟩ := tb_of hT zp
        have ht := hT.1
        have u3 : uI 0 .int (mk c d D) 118 3 (nI (k ||| 2 ^ (tbn c0 p - 48))) = some (mk c (d.s_read (va_up d.read 3 (nI (k ||| 2 ^ (tbn c0 p - 48))))) D) := yu_118 (i := 3) (by omega)
        have k2 : k ||| 2 ^ (tbn c0 p - 48) < 16 := Nat.or_lt_two_pow (n := 4) hk16 (Nat.pow_lt_pow_right (by omega) (by omega))
        rw [if_pos z]
        unfold m_X12_readRoute_L46
        rw [yo_100, Option.bind_some, sg, Option.bind_some, if_pos (show lo ≤ tbn c0 p ∧ tbn c0 p ≤ 51 from ⟨z.1, by omega⟩), if_neg (show ¬ nI 1 = 0 by decide), yr_100_26, Option.bind_some, r3, Option.bind_some, yr_100_4, Option.bind_some, yr_100_24, Option.bind_some, ha, ya_103 (by omega), Option.bind_some, t4, show nI (tbn c0 p) - 48 = nI (tbn c0 p - 48) from by rw [show (48 : Int32) = nI 48 from rfl, pk_sub (by omega)], or_20 (by omega), u3, Option.bind_some, yr_100_4, Option.bind_some, yr_100_24, Option.bind_some]
        have r := ih m (tbn c0 p + 1) (k ||| 2 ^ (tbn c0 p - 48)) (p + 1) ((d.s_read (va_up d.read 3 (nI (k ||| 2 ^ (tbn c0 p - 48))))).s_at_ (nI (p + 1))) hT hf (by rfl) (by show va_up d.read 3 (nI (k ||| 2 ^ (tbn c0 p - 48))) 3 = _; exact upe) (by omega) (by omega) (by omega) (by omega) (by omega) (by omega) k2
        rw [show (d.s_read (va_up d.read 3 (nI (k ||| 2 ^ (tbn c0 p - 48))))).at_ = nI p from ha, ya_103 (by omega), Option.bind_some, show (d.s_read (va_up d.read 3 (nI (k ||| 2 ^ (tbn c0 p - 48))))).tape p = nI (tbn c0 p) from t4, Option.bind_some, nI_1, yw_100_24, Option.bind_some, nI_1, r]
        have vu : va_up (va_up d.read 3 (nI (k ||| 2 ^ (tbn c0 p - 48)))) 3 (nI (lgs (tbn c0) m (p + 1) (tbn c0 p + 1) (k ||| 2 ^ (tbn c0 p - 48))).2) = va_up d.read 3 (nI (lgs (tbn c0) m (p + 1) (tbn c0 p + 1) (k ||| 2 ^ (tbn c0 p - 48))).2) := by
          funext q
          by_cases e : q = 3
          · subst e; rw [upe, upe]
          · rw [upn e, upn e, upn e]
        rw [← vu]
        rfl
      · rw [if_neg z, ed]
        exact stop (by omega)
end
