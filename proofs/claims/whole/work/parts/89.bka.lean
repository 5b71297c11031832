-- a route on the tape: what both sides read
def lts (b : Nat → Nat) : Nat → Nat → Nat
  | 0, _ => 0
  | m + 1, i => if 97 ≤ b i ∧ b i ≤ 122 then lts b m (i + 1) + 1 else 0
theorem lts_le {b : Nat → Nat} : ∀ m i, lts b m i ≤ m
  | 0, _ => Nat.le_refl 0
  | m + 1, i => by
    unfold lts
    split
    · have := lts_le (b := b) m (i + 1); omega
    · omega
theorem lts_in {b : Nat → Nat} : ∀ m i q, q < lts b m i → 97 ≤ b (i + q) ∧ b (i + q) ≤ 122
  | m + 1, i, q, h => by
    unfold lts at h
    by_cases z : 97 ≤ b i ∧ b i ≤ 122
    · rw [if_pos z] at h
      cases q with
      | zero => exact z
      | succ q =>
        have := lts_in (b := b) m (i + 1) q (by omega)
        rw [show i + (q + 1) = i + 1 + q by omega]
        exact this
    · rw [if_neg z] at h
      omega
/-- the q-th letter of the name at i -/
def ltf (b : Nat → Nat) (i q : Nat) : Nat := if q < lts b 3 i then b (i + q) else 0
def nmA (b : Nat → Nat) (i : Nat) : Nat := nmN (ltf b i 0) (ltf b i 1) (ltf b i 2)
theorem ltf_ok {b : Nat → Nat} {i : Nat} (h : 0 < lts b 3 i) : 97 ≤ ltf b i 0 ∧ ltf b i 0 ≤ 122 ∧ ltf b i 1 ≤ 122 ∧ ltf b i 2 ≤ 122 ∧ (ltf b i 1 = 0 → ltf b i 2 = 0) ∧ (97 ≤ ltf b i 1 ∨ ltf b i 1 = 0) ∧ (97 ≤ ltf b i 2 ∨ ltf b i 2 = 0) := by
  have h0 := lts_in (b := b) 3 i 0 h
  have h1 := lts_in (b := b) 3 i 1
  have h2 := lts_in (b := b) 3 i 2
  unfold ltf
  rw [if_pos h]
  refine ⟨h0.1, h0.2, ?_, ?_, ?_, ?_, ?_⟩
  all_goals (repeat' split) <;> omega
theorem ltf_le {b : Nat → Nat} {i q : Nat} : ltf b i q ≤ 122 := by
  unfold ltf
  split
  · next h => exact (lts_in (b := b) 3 i q h).2
  · omega
theorem nmA_lt {b : Nat → Nat} {i : Nat} : nmA b i < 2 ^ 24 := by
  have h0 := ltf_le (b := b) (i := i) (q := 0)
  have h1 := ltf_le (b := b) (i := i) (q := 1)
  have h2 := ltf_le (b := b) (i := i) (q := 2)
  unfold nmA nmN
  omega
theorem nmP_A {b : Nat → Nat} {i : Nat} : nmP (fun z => b (i + z)) (lts b 3 i) = nmA b i := by
  have h := lts_le (b := b) 3 i
  have : lts b 3 i = 0 ∨ lts b 3 i = 1 ∨ lts b 3 i = 2 ∨ lts b 3 i = 3 := by omega
  unfold nmA ltf nmN
  rcases this with e | e | e | e
  · rw [e, if_neg (by omega), if_neg (by omega), if_neg (by omega)]; rfl
  · rw [e, if_pos (by omega), if_neg (by omega), if_neg (by omega)]
    show 0 + b (i + 0) * 2 ^ 16 = b (i + 0) * 65536 + 0 * 256 + 0
    omega
  · rw [e, if_pos (by omega), if_pos (by omega), if_neg (by omega)]
    show 0 + b (i + 0) * 2 ^ 16 + b (i + 1) * 2 ^ 8 = b (i + 0) * 65536 + b (i + 1) * 256 + 0
    omega
  · rw [e, if_pos (by omega), if_pos (by omega), if_pos (by omega)]
    show 0 + b (i + 0) * 2 ^ 16 + b (i + 1) * 2 ^ 8 + b (i + 2) * 2 ^ 0 = b (i + 0) * 65536 + b (i + 1) * 256 + b (i + 2)
    omega
-- the faults behind the name, from the last part to the first, and what is read
def f5 (b : Nat → Nat) (p : Nat) : Option Nat := if b p = 42 ∧ (dgs b 2 (p + 1) 0).1 = p + 1 then some (p + 1) else none
def w5 (b : Nat → Nat) (p : Nat) : Nat × Nat := if b p = 42 then dgs b 2 (p + 1) 0 else (p, 0)
def f4 (b : Nat → Nat) (p : Nat) : Option Nat := if (dgs b 4 p 0).2 = 0 then some p else f5 b (dgs b 4 p 0).1
def w4 (b : Nat → Nat) (p : Nat) : Nat × Nat × Nat := ((dgs b 4 p 0).2, w5 b (dgs b 4 p 0).1)
def f3 (b : Nat → Nat) (p : Nat) : Option Nat := if b p = 58 then f4 b (p + 1) else some p
def f2 (b : Nat → Nat) (p : Nat) : Option Nat := if (lgs b 4 p 48 0).2 = 0 then some (lgs b 4 p 48 0).1 else f3 b (lgs b 4 p 48 0).1
def w2 (b : Nat → Nat) (p : Nat) : Nat × Nat × Nat × Nat := ((lgs b 4 p 48 0).2, w4 b ((lgs b 4 p 48 0).1 + 1))
def f1 (b : Nat → Nat) (p : Nat) : Option Nat := if b p = 61 then f2 b (p + 1) else some p
theorem lgs_le {b : Nat → Nat} : ∀ m i lo k, i ≤ (lgs b m i lo k).1 ∧ (lgs b m i lo k).1 ≤ i + m
  | 0, i, _, k => ⟨Nat.le_refl _, Nat.le_refl _⟩
  | m + 1, i, lo, k => by
    unfold lgs
    split
    · have := lgs_le (b := b) m (i + 1) (b i + 1) (k ||| 2 ^ (b i - 48)); omega
    · exact ⟨Nat.le_refl _, by omega⟩
theorem lgs_v {b : Nat → Nat} : ∀ m i lo k, k < 16 → 48 ≤ lo → (lgs b m i lo k).2 < 16
  | 0, i, _, k, h, _ => h
  | m + 1, i, lo, k, h, hl => by
    unfold lgs
    split
    · next z => exact lgs_v m (i + 1) (b i + 1) _ (Nat.or_lt_two_pow (n := 4) h (Nat.pow_lt_pow_right (by omega) (by omega))) (by omega)
    · exact h
theorem dg4 {b : Nat → Nat} {i : Nat} : i ≤ (dgs b 4 i 0).1 ∧ (dgs b 4 i 0).1 ≤ i + 4 ∧ (dgs b 4 i 0).2 ≤ 9999 := by
  have h := dgs_le (b := b) 4 i 0
  have h2 := dgs_val (b := b) 4 i 0 0 (by omega)
  omega
theorem dg2 {b : Nat → Nat} {i : Nat} : i ≤ (dgs b 2 i 0).1 ∧ (dgs b 2 i 0).1 ≤ i + 2 ∧ (dgs b 2 i 0).2 ≤ 99 := by
  have h := dgs_le (b := b) 2 i 0
  have h2 := dgs_val (b := b) 2 i 0 0 (by omega)
  omega
theorem w5_le {b : Nat → Nat} {p : Nat} : p ≤ (w5 b p).1 ∧ (w5 b p).1 ≤ p + 3 ∧ (w5 b p).2 ≤ 99 := by
  unfold w5
  split
  · have := dg2 (b := b) (i := p + 1); omega
  · exact ⟨Nat.le_refl _, by show p ≤ p + 3; omega, by show 0 ≤ 99; omega⟩
-- the class's stages
section
variable {c c0 : CS} {d d0 : MS} {D : mM} {N k : Nat} {a : Int32} {P : PL}
theorem xlet_go {b : Nat → Nat} {i : Nat} : ∀ (n m q : Nat) (c : CS), TP c d0 → tbn c = b → m + q = 3 → i ≤ 400 → c.tat = i + q → c.tname = nI (nmP (fun z => b (i + z)) q) → m < n → m_X7_faultOfName_L12 N n 77 14 (nI i) (nI q) (mk c d D) = m_X7_faultOfName_J79 N 77 14 (nI i) (mk ((c.s_tname (nI (nmP (fun z => b (i + z)) (q + lts b m (i + q))))).s_tat (i + (q + lts b m (i + q)))) d D) := by
  intro n
  induction n with
  | zero => intro m q c _ _ _ _ _ _ h; omega
  | succ n ih =>
    intro m q c hT hb hm hi hat hnm hn
    have ek : (c.s_tname (nI (nmP (fun z => b (i + z)) q))).s_tat (i + q) = c := by rw [← hnm, ← hat]; rfl
    unfold m_X7_faultOfName_L12
    cases m with
    | zero =>
      obtain rfl : q = 3 := by omega
      rw [if_pos (by decide)]
      show _ = m_X7_faultOfName_J79 N 77 14 (nI i) (mk ((c.s_tname (nI (nmP (fun z => b (i + z)) 3))).s_tat (i + 3)) d D)
      rw [ek]
    | succ m =>
      have xb := xbyte (d := d) (D := D) hT (i := c.tat) (by omega)
      rw [hb, hat] at xb
      have bl : b (i + q) ≤ 127 := by rw [← hb]; exact tbn_le hT _
      rw [if_neg (by rw [show (3 : Int32) = nI 3 from rfl, nI_leI (by omega) (by omega)]; omega), yr_77_4, Option.bind_some, yo_77, Option.bind_some, hat, xb, Option.bind_some]
      unfold lts
      by_cases z1 : b (i + q) < 97
      · rw [if_pos (by rw [show (97 : Int32) = nI 97 from rfl, nI_ltI (by omega) (by omega)]; exact z1), if_neg (by omega), Nat.add_zero, ek]
      · rw [if_neg (by rw [show (97 : Int32) = nI 97 from rfl, nI_ltI (by omega) (by omega)]; exact z1), Option.bind_some, Option.bind_some, xb, Option.bind_some]
        by_cases z2 : 122 < b (i + q)
        · rw [if_pos (by rw [show (122 : Int32) = nI 122 from rfl, nI_ltI (by omega) (by omega)]; exact z2), if_neg (by omega), Nat.add_zero, ek]
        · have np : nmP (fun z => b (i + z)) q < 2 ^ 24 := by rw [← hb]; exact nmP_lt (fun q _ => tbn_le hT _) _ (by omega)
          rw [if_neg (by rw [show (122 : Int32) = nI 122 from rfl, nI_ltI (by omega) (by omega)]; exact z2), if_pos (by omega), yr_77_5, Option.bind_some, Option.bind_some, Option.bind_some, xb, Option.bind_some, hnm, letter_w (by omega) (nmP_mod _ _ (by omega)) np bl, Option.bind_some, yw_77_5, Option.bind_some, yr_77_4, Option.bind_some, nI_1, yw_77_4, Option.bind_some, nI_1, show q + (lts b m (i + q + 1) + 1) = q + 1 + lts b m (i + (q + 1)) by rw [show i + q + 1 = i + (q + 1) by omega]; omega]
          exact ih m (q + 1) ((c.s_tname (nI (nmP (fun z => b (i + z)) q + b (i + q) * 2 ^ (8 * (2 - q))))).s_tat (c.tat + 1)) hT hb (by omega) hi (by show c.tat + 1 = _; omega) (by rfl) (by omega)
theorem ya_79r {i j : Nat} (h : i < 12) (e : c.tread i = some (j + 120)) : aR 6 (mk c d D) 79 (nI i) = some (j + 120) := by
  unfold aR
  rw [ya_79 h, e]
  rfl
/-- the routes read so far: objects, by their names -/
def RQ (c : CS) (D : mM) (nq : Nat → Nat) : Prop := ∀ q, q < c.tn → nq q < 2 ^ 24 ∧ ∃ j lg pr wt, c.tread q = some (j + 120) ∧ D[j]? = some (cRt (nq q) lg pr wt)
theorem xread_go {nq : Nat → Nat} (hq : RQ c D nq) (ht : c.tn ≤ 12) {v : Nat} (hv : v < 2 ^ 24) : ∀ n i : Nat, i ≤ c.tn → c.tn - i < n → (∀ q, q < i → nq q ≠ v) → ((∃ p, p < c.tn ∧ nq p = v) ∧ m_X7_isRead_L2 N (mk c d D) n 77 (nI v) (nI i) = some 1) ∨ ((∀ q, q < c.tn → nq q ≠ v) ∧ m_X7_isRead_L2 N (mk c d D) n 77 (nI v) (nI i) = some 0) := by
  intro n
  induction n with
  | zero => intro i _ h; omega
  | succ n ih =>
    intro i hi hn hl
    unfold m_X7_isRead_L2
    by_cases e : i = c.tn
    · refine Or.inr ⟨by rw [← e]; exact hl, ?_⟩
      rw [yr_77_3, Option.bind_some, if_pos (nI_le (by omega) (by omega))]
    · obtain ⟨h0, j, lg, pr, wt, h1, h2⟩ := hq i (by omega)
      have ar := ya_79r (d := d) (D := D) (by omega) h1
      rw [yr_77_3, Option.bind_some, if_neg (by rw [nI_leI (by omega) (by omega)]; omega), yr_77_2, Option.bind_some, ar, Option.bind_some, yd_0 h2, Option.bind_some]
      by_cases z : nq i = v
      · exact Or.inl ⟨⟨i, by omega, z⟩, by rw [if_pos ((nI_eq (by omega) (by omega)).mpr z)]⟩
      · rw [if_neg (fun y => z ((nI_eq (by omega) (by omega)).mp y)), nI_1]
        exact ih (i + 1) (by omega) (by omega) (fun q h => by
          by_cases w : q = i
          · rw [w]; exact z
          · exact hl q (by omega))
end
