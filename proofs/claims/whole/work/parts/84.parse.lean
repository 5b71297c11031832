-- reading the tape: a byte, a sign, a number
def dgs (b : Nat → Nat) : Nat → Nat → Nat → Nat × Nat
  | 0, i, v => (i, v)
  | m + 1, i, v => if 48 ≤ b i ∧ b i ≤ 57 then dgs b m (i + 1) (v * 10 + b i - 48) else (i, v)
theorem dgs_le {b : Nat → Nat} : ∀ m i v, i ≤ (dgs b m i v).1 ∧ (dgs b m i v).1 ≤ i + m
  | 0, i, v => ⟨Nat.le_refl _, Nat.le_refl _⟩
  | m + 1, i, v => by
    unfold dgs
    split
    · have := dgs_le (b := b) m (i + 1) (v * 10 + b i - 48); omega
    · exact ⟨Nat.le_refl _, by omega⟩
theorem dgs_val {b : Nat → Nat} : ∀ m i v k, v < 10 ^ k → (dgs b m i v).2 < 10 ^ (k + m)
  | 0, i, v, k, h => h
  | m + 1, i, v, k, h => by
    unfold dgs
    split
    · next hb =>
      have := dgs_val (b := b) m (i + 1) (v * 10 + b i - 48) (k + 1) (by rw [Nat.pow_succ]; omega)
      rw [show k + (m + 1) = k + 1 + m by omega]
      exact this
    · exact Nat.lt_of_lt_of_le h (Nat.pow_le_pow_right (by omega) (by omega))
section
variable {c c0 : CS} {d d0 : MS} {D : mM} {N k : Nat} {a : Int32} {P : PL}
theorem xbyte (h : TP c d0) {i : Nat} (hi : i ≤ 1000) : m_X7_byteAt 77 (nI i) (mk c d D) = some (nI (tbn c i)) := by
  by_cases z : i < c.tsize
  · exact xbyte_in h z
  · have ht := h.1
    unfold m_X7_byteAt
    rw [if_neg (by rw [show (0 : Int32) = nI 0 from rfl, nI_ltI (by omega) (by omega)]; omega), yr_77_1, Option.bind_some, if_pos (by rw [nI_leI (by omega) (by omega)]; omega)]
    unfold tbn
    rw [if_neg z]
    rfl
theorem ysign (h : TP c0 d) {i lo hi : Nat} (hi2 : i ≤ 1000) (hlo : 1 ≤ lo) (hl : lo ≤ 1000) (hh : hi ≤ 1000) (hf : d.fault = -1) (ha : d.at_ = nI i) : m_X12_isSign 100 (nI lo) (nI hi) (mk c d D) = some (if lo ≤ tbn c0 i ∧ tbn c0 i ≤ hi then nI 1 else nI 0) := by
  have ht := h.1
  unfold m_X12_isSign
  rw [yr_100_25, Option.bind_some, hf, if_neg (by decide), yr_100_24, Option.bind_some, ha, yr_100_3, Option.bind_some, h.2.1]
  by_cases z : i < c0.tsize
  · obtain ⟨t1, t2, t3, t4⟩ := tb_of h z
    rw [if_neg (by rw [nI_leI (by omega) (by omega)]; omega), yr_100_4, Option.bind_some, Option.bind_some, ya_103 (by omega), Option.bind_some, t4, nI_l (n := lo) (by omega), nI_l (n := hi) (by omega)]
    by_cases q : lo ≤ tbn c0 i ∧ tbn c0 i ≤ hi
    · rw [in_in q.1 q.2, Option.bind_some, if_neg (by decide), if_pos q]
      rfl
    · rw [in_out (x := nI (tbn c0 i)) (lo := lo) (hi := hi) (by rw [nI_toInt (by omega)]; omega), Option.bind_some, if_pos (by decide), if_neg q]
      rfl
  · rw [if_pos (by rw [nI_leI (by omega) (by omega)]; omega)]
    have : tbn c0 i = 0 := by unfold tbn; rw [if_neg z]
    rw [if_neg (by omega)]
    rfl
theorem xnum_go {b : Nat → Nat} {mx : Nat} (hm : mx ≤ 4) : ∀ (n j v : Nat) (c : CS), TP c d0 → tbn c = b → c.tat + (mx - j) ≤ 500 → j ≤ mx → mx - j < n → v < 10 ^ j → m_X7_numberOf_L4 N n 77 (nI mx) (nI v) (nI j) (mk c d D) = some (nI (dgs b (mx - j) c.tat v).2, mk (c.s_tat (dgs b (mx - j) c.tat v).1) d D) := by
  intro n
  induction n with
  | zero => intro j v c _ _ _ _ h; omega
  | succ n ih =>
    intro j v c hT hb ha hj hn hv
    unfold m_X7_numberOf_L4
    by_cases e : j = mx
    · subst e
      rw [if_pos (nI_le (by omega) (by omega)), Nat.sub_self]
      rfl
    · have v4 : v < 10 ^ 4 := Nat.lt_of_lt_of_le hv (Nat.pow_le_pow_right (by omega) (by omega))
      have xb := xbyte (d := d) (D := D) hT (i := c.tat) (by omega)
      rw [hb] at xb
      have bl : b c.tat ≤ 127 := by rw [← hb]; exact tbn_le hT _
      rw [show mx - j = (mx - (j + 1)) + 1 by omega]
      rw [if_neg (by rw [nI_leI (by omega) (by omega)]; omega), yr_77_4, Option.bind_some, yo_77, Option.bind_some, xb, Option.bind_some]
      unfold dgs
      by_cases z1 : b c.tat < 48
      · rw [if_pos (by rw [show (48 : Int32) = nI 48 from rfl, nI_ltI (by omega) (by omega)]; exact z1), if_neg (by omega)]
        rfl
      · rw [if_neg (by rw [show (48 : Int32) = nI 48 from rfl, nI_ltI (by omega) (by omega)]; exact z1), Option.bind_some, Option.bind_some, xb, Option.bind_some]
        by_cases z2 : 57 < b c.tat
        · rw [if_pos (by rw [show (57 : Int32) = nI 57 from rfl, nI_ltI (by omega) (by omega)]; exact z2), if_neg (by omega)]
          rfl
        · rw [if_neg (by rw [show (57 : Int32) = nI 57 from rfl, nI_ltI (by omega) (by omega)]; exact z2), if_pos (by omega), Option.bind_some, Option.bind_some, xb, Option.bind_some, Option.bind_some, nI_1, yw_77_4, Option.bind_some, show (10 : Int32) = nI 10 from rfl, pk_mul, nI_add, show (48 : Int32) = nI 48 from rfl, pk_sub (by omega), nI_1]
          exact ih (j + 1) (v * 10 + b c.tat - 48) (c.s_tat (c.tat + 1)) hT hb (by show c.tat + 1 + (mx - (j + 1)) ≤ 500; omega) (by omega) (by omega) (by rw [Nat.pow_succ]; omega)
/-- the reference's fault after a number -/
def nbF (i p v mn : Nat) : Int32 := if p = i ∨ v < mn then nI i else -1
theorem ywrong (hf : d.fault = -1) (x : Int32) : m_X12_wrong 100 x (mk c d D) = some (mk c (d.s_fault x) D) := by
  unfold m_X12_wrong
  rw [yr_100_25, Option.bind_some, hf, if_neg (by decide), yw_100_25, Option.bind_some]
theorem yj59 (hf : d.fault = -1) {i p v mn : Nat} (hi : i ≤ 500) (hp : p ≤ 600) (hv : v < 10 ^ 4) (hm : mn ≤ 1) (ha : d.at_ = nI p) : m_X12_number_J59 N 100 (nI mn) (nI i) (nI v) (mk c d D) = some (nI v, mk c (d.s_fault (nbF i p v mn)) D) := by
  unfold m_X12_number_J59 nbF
  rw [yr_100_24, Option.bind_some, ha]
  by_cases e : p = i
  · subst e
    rw [if_pos rfl, yo_100, Option.bind_some, ywrong hf, Option.bind_some, if_pos (Or.inl rfl)]
  · rw [if_neg (fun y => e ((nI_eq (by omega) (by omega)).mp y))]
    by_cases z : mn ≤ v
    · rw [if_pos ((nI_leI (by omega) (by omega)).mpr z), if_neg (by omega), ← hf]
      rfl
    · rw [if_neg (fun y => z ((nI_leI (by omega) (by omega)).mp y)), yo_100, Option.bind_some, ywrong hf, Option.bind_some, if_pos (Or.inr (by omega))]
theorem ynum_go {mx mn s : Nat} (hm : mx ≤ 4) (hmn : mn ≤ 1) (hs : s ≤ 500) : ∀ (n j v p : Nat) (d : MS), TP c0 d → d.fault = -1 → d.at_ = nI p → p = s + j → j ≤ mx → mx - j < n → v < 10 ^ j → m_X12_number_L8 N n 100 (nI mx) (nI mn) (nI s) (nI v) (mk c d D) = some (nI (dgs (tbn c0) (mx - j) p v).2, mk c ((d.s_at_ (nI (dgs (tbn c0) (mx - j) p v).1)).s_fault (nbF s (dgs (tbn c0) (mx - j) p v).1 (dgs (tbn c0) (mx - j) p v).2 mn)) D) := by
  intro n
  induction n with
  | zero => intro j v p d _ _ _ _ _ h; omega
  | succ n ih =>
    intro j v p d hT hf ha hp hj hn hv
    have v4 : v < 10 ^ 4 := Nat.lt_of_lt_of_le hv (Nat.pow_le_pow_right (by omega) (by omega))
    have ht := hT.1
    have eat : d.s_at_ (nI p) = d := by rw [← ha]; rfl
    unfold m_X12_number_L8
    rw [yr_100_24, Option.bind_some, ha, nI_add]
    by_cases e : j = mx
    · subst e
      rw [if_pos (by rw [nI_leI (by omega) (by omega)]; omega), Nat.sub_self, yj59 hf hs (by omega) v4 hmn ha]
      show _ = some (nI v, mk c ((d.s_at_ (nI p)).s_fault (nbF s p v mn)) D)
      rw [eat]
    · have sg := ysign (c := c) (D := D) hT (i := p) (lo := 48) (hi := 57) (by omega) (by omega) (by omega) (by omega) hf ha
      have sg : m_X12_isSign 100 48 57 (mk c d D) = some (if 48 ≤ tbn c0 p ∧ tbn c0 p ≤ 57 then nI 1 else nI 0) := sg
      rw [if_neg (by rw [nI_leI (by omega) (by omega)]; omega), yo_100, Option.bind_some, sg, Option.bind_some, show mx - j = (mx - (j + 1)) + 1 by omega]
      unfold dgs
      by_cases z : 48 ≤ tbn c0 p ∧ tbn c0 p ≤ 57
      · have zp : p < c0.tsize := by
          rcases Nat.lt_or_ge p c0.tsize with q | q
          · exact q
          · have : tbn c0 p = 0 := by unfold tbn; rw [if_neg (by omega)]
            omega
        obtain ⟨t1, t2, t3, t4⟩ := tb_of hT zp
        rw [if_pos z, if_pos z, if_neg (by decide), yr_100_4, Option.bind_some, Option.bind_some, nI_1, yw_100_24, Option.bind_some, ya_103 (by omega), Option.bind_some, show (d.s_at_ (nI (p + 1))).tape p = nI (tbn c0 p) from t4, show (10 : Int32) = nI 10 from rfl, pk_mul, nI_add, show (48 : Int32) = nI 48 from rfl, pk_sub (by omega)]
        have r := ih (j + 1) (v * 10 + tbn c0 p - 48) (p + 1) (d.s_at_ (nI (p + 1))) hT hf (by rfl) (by omega) (by omega) (by omega) (by rw [Nat.pow_succ]; omega)
        rw [show 10 * v + tbn c0 p - 48 = v * 10 + tbn c0 p - 48 by omega]
        exact r
      · rw [if_neg z, if_neg z, if_pos (by decide), yj59 hf hs (by omega) v4 hmn ha]
        rw [eat]
end
