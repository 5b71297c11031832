-- what is told
section
theorem x_lt {x : Int32} {m : Nat} (h : x.toInt < (m : Int)) (hm : m < 2 ^ 31 := by omega) : x < nI m := by rw [Int32.lt_iff_toInt_lt, nI_toInt hm]; exact h
theorem x_nlt {x : Int32} {m : Nat} (h : (m : Int) ≤ x.toInt) (hm : m < 2 ^ 31 := by omega) : ¬ x < nI m := by rw [Int32.lt_iff_toInt_lt, nI_toInt hm]; omega
theorem x_ge {x : Int32} {m : Nat} (h : (m : Int) ≤ x.toInt) (hm : m < 2 ^ 31 := by omega) : nI m ≤ x := by rw [Int32.le_iff_toInt_le, nI_toInt hm]; exact h
theorem x_nge {x : Int32} {m : Nat} (h : x.toInt < (m : Int)) (hm : m < 2 ^ 31 := by omega) : ¬ nI m ≤ x := by rw [Int32.le_iff_toInt_le, nI_toInt hm]; omega
theorem x_gt {x : Int32} {m : Nat} (h : (m : Int) < x.toInt) (hm : m < 2 ^ 31 := by omega) : nI m < x := by rw [Int32.lt_iff_toInt_lt, nI_toInt hm]; exact h
theorem x_ngt {x : Int32} {m : Nat} (h : x.toInt ≤ (m : Int)) (hm : m < 2 ^ 31 := by omega) : ¬ nI m < x := by rw [Int32.lt_iff_toInt_lt, nI_toInt hm]; omega
theorem x_le {x : Int32} {m : Nat} (h : x.toInt ≤ (m : Int)) (hm : m < 2 ^ 31 := by omega) : x ≤ nI m := by rw [Int32.le_iff_toInt_le, nI_toInt hm]; exact h
theorem x_nle {x : Int32} {m : Nat} (h : (m : Int) < x.toInt) (hm : m < 2 ^ 31 := by omega) : ¬ x ≤ nI m := by rw [Int32.le_iff_toInt_le, nI_toInt hm]; omega
theorem x_ne {x : Int32} {m : Nat} (h : x.toInt ≠ (m : Int)) (hm : m < 2 ^ 31 := by omega) : ¬ x = nI m := by intro e; rw [e, nI_toInt hm] at h; exact h rfl
theorem iMax_nI {a b : Nat} (ha : a < 2 ^ 31) (hb : b < 2 ^ 31) : iMax (nI a) (nI b) = nI (max a b) := by
  unfold iMax
  by_cases h : a < b
  · rw [if_pos (nI_lt h hb), Nat.max_eq_right (by omega)]
  · rw [if_neg (nI_nlt (by omega) ha), Nat.max_eq_left (by omega)]
theorem iMin_nI {a b : Nat} (ha : a < 2 ^ 31) (hb : b < 2 ^ 31) : iMin (nI a) (nI b) = nI (min a b) := by
  unfold iMin
  by_cases h : b < a
  · rw [if_pos (nI_lt h ha), Nat.min_eq_right (by omega)]
  · rw [if_neg (nI_nlt (by omega) hb), Nat.min_eq_left (by omega)]
/-- whether none of the first g is like f -/
def nw (p : Nat → Nat) (f : Nat) : Nat → Nat
  | 0 => 1
  | g + 1 => if nw p f g = 0 then 0 else if p g = p f then 0 else 1
def unl (p : Nat → Nat) : Nat → Nat
  | 0 => 0
  | f + 1 => unl p f + nw p f f
def grt (p : Nat → Nat) : Nat → Nat
  | 0 => 0
  | f + 1 => max (grt p f) (p f)
theorem nw_le {p : Nat → Nat} {f : Nat} : ∀ g : Nat, nw p f g ≤ 1
  | 0 => Nat.le_refl _
  | g + 1 => by unfold nw; repeat' split
                all_goals omega
theorem unl_le {p : Nat → Nat} : ∀ f : Nat, unl p f ≤ f
  | 0 => Nat.le_refl _
  | f + 1 => by have := unl_le (p := p) f; have := nw_le (p := p) (f := f) f; unfold unl; omega
theorem grt_le {p : Nat → Nat} (m : Nat) : ∀ f : Nat, (∀ i, i < f → p i ≤ m) → grt p f ≤ m
  | 0, _ => Nat.zero_le _
  | f + 1, h => by
    have := grt_le (p := p) m f (fun i hi => h i (by omega))
    have := h f (by omega)
    unfold grt
    omega
variable {c : CS} {d : MS} {D : mM} {N k : Nat} {a : Int32} {P : PL}
theorem yprice (h : PR P d.now) {i : Nat} (hi : i < 6) : m_X12_price 100 (nI i) (mk c d D) = some (nI (P.price i)) := by
  simp (disch := omega) only [m_X12_price, Option.bind_some, plit, plit64, nI_add, pk_mul, if_true, if_false, or_true, true_or, oifT, Nat.one_ne_zero, ↓reduceIte, Nat.reduceLT, Nat.reduceLeDiff, Nat.reduceEqDiff, Nat.reduceAdd, Nat.reduceMul, Nat.reduceSub, Nat.reduceDiv, yo_100, yr_100_0, yr_100_1, yr_100_2, yr_100_3, yr_100_4, yr_100_5, yr_100_6, yr_100_7, yr_100_8, yr_100_9, yr_100_10, yr_100_11, yr_100_12, yr_100_13, yr_100_14, yr_100_15, yr_100_16, yr_100_17, yr_100_18, yr_100_19, yr_100_20, yr_100_21, yr_100_22, yr_100_23, yr_100_24, yr_100_25, yr_100_26, yr_100_27, yr_100_28, ya_101, ya_102, ya_103, ya_104, ya_105, ya_106, ya_107, ya_108, ya_109, ya_110, ya_111, ya_112, ya_113, ya_114, ya_115, ya_116, ya_117, ya_118, ya_119, h.p_ hi]
theorem xunl_in (hp : ∀ i, i < 6 → c.pl.price i ≤ 9999) {k4 : Nat → Int32 → Int32 → Option Int32} {f s : Nat} (hf : f < 6) : ∀ n j : Nat, j ≤ f → f - j < n → m_X5_unlikePrices_L17 N (mk c d D) k4 n 11 (nI s) (nI f) (nI (nw c.pl.price f j)) (nI j) = k4 11 (nI (s + nw c.pl.price f f)) (nI (f + 1)) := by
  intro n
  have hpf := hp f hf
  induction n with
  | zero => intro j _ h; omega
  | succ n ih =>
    intro j hj h
    unfold m_X5_unlikePrices_L17
    by_cases e : j = f
    · subst e
      have h1 := nw_le (p := c.pl.price) (f := j) j
      by_cases e0 : nw c.pl.price j j = 0
      · simp (disch := omega) only [m_X5_unlikePrices_J71, Option.bind_some, plit, plit64, nI_add, pk_mul, if_true, if_false, or_true, true_or, oifT, Nat.one_ne_zero, ↓reduceIte, Nat.reduceLT, Nat.reduceLeDiff, Nat.reduceEqDiff, Nat.reduceAdd, Nat.reduceMul, Nat.reduceSub, Nat.reduceDiv, nI_eq, nI_leI, nI_ltI, Nat.le_refl, e0]
      · have e1 : nw c.pl.price j j = 1 := by omega
        simp (disch := omega) only [m_X5_unlikePrices_J71, Option.bind_some, plit, plit64, nI_add, pk_mul, if_true, if_false, or_true, true_or, oifT, Nat.one_ne_zero, ↓reduceIte, Nat.reduceLT, Nat.reduceLeDiff, Nat.reduceEqDiff, Nat.reduceAdd, Nat.reduceMul, Nat.reduceSub, Nat.reduceDiv, nI_eq, nI_leI, nI_ltI, Nat.le_refl, e1]
    · have ih := ih (j + 1) (by omega) (by omega)
      have hpj := hp j (by omega)
      have h1 := nw_le (p := c.pl.price) (f := f) j
      have eu : nw c.pl.price f (j + 1) = if nw c.pl.price f j = 0 then 0 else if c.pl.price j = c.pl.price f then 0 else 1 := rfl
      by_cases e0 : nw c.pl.price f j = 0
      · rw [if_pos e0] at eu
        rw [eu] at ih
        simp (disch := omega) only [m_X5_unlikePrices_J54, m_X5_unlikePrices_J53, Option.bind_some, plit, plit64, nI_add, pk_mul, if_true, if_false, or_true, true_or, oifT, Nat.one_ne_zero, ↓reduceIte, Nat.reduceLT, Nat.reduceLeDiff, Nat.reduceEqDiff, Nat.reduceAdd, Nat.reduceMul, Nat.reduceSub, Nat.reduceDiv, nI_eq, nI_leI, nI_ltI, show ¬ f ≤ j by omega, e0]
        exact ih
      · rw [if_neg e0] at eu
        have e1 : nw c.pl.price f j = 1 := by omega
        by_cases e2 : c.pl.price j = c.pl.price f
        · rw [if_pos e2] at eu
          rw [eu] at ih
          simp (disch := omega) only [m_X5_unlikePrices_J54, m_X5_unlikePrices_J53, Option.bind_some, plit, plit64, nI_add, pk_mul, if_true, if_false, or_true, true_or, oifT, Nat.one_ne_zero, ↓reduceIte, Nat.reduceLT, Nat.reduceLeDiff, Nat.reduceEqDiff, Nat.reduceAdd, Nat.reduceMul, Nat.reduceSub, Nat.reduceDiv, nI_eq, nI_leI, nI_ltI, yo_10, yr_10_0, yr_10_1, yr_10_2, yr_10_3, yr_10_4, yr_10_5, yr_10_6, yr_10_7, yr_10_8, yr_10_9, yr_10_10, yr_10_11, yo_11, yr_11_0, yr_11_1, yr_11_2, yr_11_3, yr_11_4, yn_13, ya_13, yo_14, yr_14_0, yr_14_1, yr_14_2, yr_14_3, ya_15, ya_16, yfar_R, yfo, yf_0, yf_1, yf_2, yf_3, yfoa, show ¬ f ≤ j by omega, e1, e2]
          exact ih
        · rw [if_neg e2] at eu
          rw [eu] at ih
          simp (disch := omega) only [m_X5_unlikePrices_J54, m_X5_unlikePrices_J53, Option.bind_some, plit, plit64, nI_add, pk_mul, if_true, if_false, or_true, true_or, oifT, Nat.one_ne_zero, ↓reduceIte, Nat.reduceLT, Nat.reduceLeDiff, Nat.reduceEqDiff, Nat.reduceAdd, Nat.reduceMul, Nat.reduceSub, Nat.reduceDiv, nI_eq, nI_leI, nI_ltI, yo_10, yr_10_0, yr_10_1, yr_10_2, yr_10_3, yr_10_4, yr_10_5, yr_10_6, yr_10_7, yr_10_8, yr_10_9, yr_10_10, yr_10_11, yo_11, yr_11_0, yr_11_1, yr_11_2, yr_11_3, yr_11_4, yn_13, ya_13, yo_14, yr_14_0, yr_14_1, yr_14_2, yr_14_3, ya_15, ya_16, yfar_R, yfo, yf_0, yf_1, yf_2, yf_3, yfoa, show ¬ f ≤ j by omega, e1, e2]
          exact ih
theorem xunl_go (hn : c.pl.n ≤ 6) (hp : ∀ i, i < 6 → c.pl.price i ≤ 9999) (hN : 10 ≤ N) : ∀ n f : Nat, f ≤ c.pl.n → c.pl.n - f < n → m_X5_unlikePrices_L4 N (mk c d D) n 11 (nI (unl c.pl.price f)) (nI f) = some (nI (unl c.pl.price c.pl.n)) := by
  intro n
  induction n with
  | zero => intro j _ h; omega
  | succ n ih =>
    intro f hf h
    unfold m_X5_unlikePrices_L4
    by_cases e : f = c.pl.n
    · subst e
      simp (disch := omega) only [Option.bind_some, plit, plit64, nI_add, pk_mul, if_true, if_false, or_true, true_or, oifT, Nat.one_ne_zero, ↓reduceIte, Nat.reduceLT, Nat.reduceLeDiff, Nat.reduceEqDiff, Nat.reduceAdd, Nat.reduceMul, Nat.reduceSub, Nat.reduceDiv, nI_eq, nI_leI, nI_ltI, yo_10, yr_10_0, yr_10_1, yr_10_2, yr_10_3, yr_10_4, yr_10_5, yr_10_6, yr_10_7, yr_10_8, yr_10_9, yr_10_10, yr_10_11, yo_11, yr_11_0, yr_11_1, yr_11_2, yr_11_3, yr_11_4, yn_13, ya_13, yo_14, yr_14_0, yr_14_1, yr_14_2, yr_14_3, ya_15, ya_16, Nat.le_refl]
    · have e1 := xunl_in (c := c) (d := d) (D := D) (N := N) hp (k4 := m_X5_unlikePrices_L4 N (mk c d D) n) (f := f) (s := unl c.pl.price f) (by omega) N 0 (by omega) (by omega)
      simp (disch := omega) only [Option.bind_some, plit, plit64, nI_add, pk_mul, if_true, if_false, or_true, true_or, oifT, Nat.one_ne_zero, ↓reduceIte, Nat.reduceLT, Nat.reduceLeDiff, Nat.reduceEqDiff, Nat.reduceAdd, Nat.reduceMul, Nat.reduceSub, Nat.reduceDiv, nI_eq, nI_leI, nI_ltI, yo_10, yr_10_0, yr_10_1, yr_10_2, yr_10_3, yr_10_4, yr_10_5, yr_10_6, yr_10_7, yr_10_8, yr_10_9, yr_10_10, yr_10_11, yo_11, yr_11_0, yr_11_1, yr_11_2, yr_11_3, yr_11_4, yn_13, ya_13, yo_14, yr_14_0, yr_14_1, yr_14_2, yr_14_3, ya_15, ya_16, show ¬ c.pl.n ≤ f by omega]
      exact e1.trans (ih (f + 1) (by omega) (by omega))
theorem xunl (hP : PR c.pl d.now) (hN : 10 ≤ N) : m_X5_unlikePrices N 11 (mk c d D) = some (nI (unl c.pl.price c.pl.n)) := xunl_go hP.n (fun i hi => hP.p hi) hN N 0 (by omega) (by have := hP.n; omega)
theorem yunl_in (hP : PR P d.now) {k4 : Nat → Int32 → Int32 → Option Int32} {f s : Nat} (hf : f < 6) : ∀ n j : Nat, j ≤ f → f - j < n → m_X12_unlike_L19 N (mk c d D) k4 n 100 (nI s) (nI f) (nI (nw P.price f j)) (nI j) = k4 100 (nI (s + nw P.price f f)) (nI (f + 1)) := by
  intro n
  have hpf := hP.p hf
  induction n with
  | zero => intro j _ h; omega
  | succ n ih =>
    intro j hj h
    unfold m_X12_unlike_L19
    by_cases e : j = f
    · subst e
      have h1 := nw_le (p := P.price) (f := j) j
      by_cases e0 : nw P.price j j = 0
      · simp (disch := omega) only [m_X12_unlike_J65, Option.bind_some, plit, plit64, nI_add, pk_mul, if_true, if_false, or_true, true_or, oifT, Nat.one_ne_zero, ↓reduceIte, Nat.reduceLT, Nat.reduceLeDiff, Nat.reduceEqDiff, Nat.reduceAdd, Nat.reduceMul, Nat.reduceSub, Nat.reduceDiv, nI_eq, nI_leI, nI_ltI, Nat.le_refl, e0]
      · have e1 : nw P.price j j = 1 := by omega
        simp (disch := omega) only [m_X12_unlike_J65, Option.bind_some, plit, plit64, nI_add, pk_mul, if_true, if_false, or_true, true_or, oifT, Nat.one_ne_zero, ↓reduceIte, Nat.reduceLT, Nat.reduceLeDiff, Nat.reduceEqDiff, Nat.reduceAdd, Nat.reduceMul, Nat.reduceSub, Nat.reduceDiv, nI_eq, nI_leI, nI_ltI, Nat.le_refl, e1]
    · have ih := ih (j + 1) (by omega) (by omega)
      have hpj := hP.p (i := j) (by omega)
      have h1 := nw_le (p := P.price) (f := f) j
      have eu : nw P.price f (j + 1) = if nw P.price f j = 0 then 0 else if P.price j = P.price f then 0 else 1 := rfl
      by_cases e0 : nw P.price f j = 0
      · rw [if_pos e0] at eu
        rw [eu] at ih
        simp (disch := omega) only [m_X12_unlike_J48, m_X12_unlike_J47, Option.bind_some, plit, plit64, nI_add, pk_mul, if_true, if_false, or_true, true_or, oifT, Nat.one_ne_zero, ↓reduceIte, Nat.reduceLT, Nat.reduceLeDiff, Nat.reduceEqDiff, Nat.reduceAdd, Nat.reduceMul, Nat.reduceSub, Nat.reduceDiv, nI_eq, nI_leI, nI_ltI, show ¬ f ≤ j by omega, e0]
        exact ih
      · rw [if_neg e0] at eu
        have e1 : nw P.price f j = 1 := by omega
        have q1 := yprice (c := c) (D := D) hP (i := j) (by omega)
        have q2 := yprice (c := c) (D := D) hP (i := f) (by omega)
        by_cases e2 : P.price j = P.price f
        · rw [if_pos e2] at eu
          rw [eu] at ih
          simp (disch := omega) only [m_X12_unlike_J48, m_X12_unlike_J47, Option.bind_some, plit, plit64, nI_add, pk_mul, if_true, if_false, or_true, true_or, oifT, Nat.one_ne_zero, ↓reduceIte, Nat.reduceLT, Nat.reduceLeDiff, Nat.reduceEqDiff, Nat.reduceAdd, Nat.reduceMul, Nat.reduceSub, Nat.reduceDiv, nI_eq, nI_leI, nI_ltI, yo_100, yr_100_0, yr_100_1, yr_100_2, yr_100_3, yr_100_4, yr_100_5, yr_100_6, yr_100_7, yr_100_8, yr_100_9, yr_100_10, yr_100_11, yr_100_12, yr_100_13, yr_100_14, yr_100_15, yr_100_16, yr_100_17, yr_100_18, yr_100_19, yr_100_20, yr_100_21, yr_100_22, yr_100_23, yr_100_24, yr_100_25, yr_100_26, yr_100_27, yr_100_28, ya_101, ya_102, ya_103, ya_104, ya_105, ya_106, ya_107, ya_108, ya_109, ya_110, ya_111, ya_112, ya_113, ya_114, ya_115, ya_116, ya_117, ya_118, ya_119, show ¬ f ≤ j by omega, e1, q1, q2, e2]
          exact ih
        · rw [if_neg e2] at eu
          rw [eu] at ih
          simp (disch := omega) only [m_X12_unlike_J48, m_X12_unlike_J47, Option.bind_some, plit, plit64, nI_add, pk_mul, if_true, if_false, or_true, true_or, oifT, Nat.one_ne_zero, ↓reduceIte, Nat.reduceLT, Nat.reduceLeDiff, Nat.reduceEqDiff, Nat.reduceAdd, Nat.reduceMul, Nat.reduceSub, Nat.reduceDiv, nI_eq, nI_leI, nI_ltI, yo_100, yr_100_0, yr_100_1, yr_100_2, yr_100_3, yr_100_4, yr_100_5, yr_100_6, yr_100_7, yr_100_8, yr_100_9, yr_100_10, yr_100_11, yr_100_12, yr_100_13, yr_100_14, yr_100_15, yr_100_16, yr_100_17, yr_100_18, yr_100_19, yr_100_20, yr_100_21, yr_100_22, yr_100_23, yr_100_24, yr_100_25, yr_100_26, yr_100_27, yr_100_28, ya_101, ya_102, ya_103, ya_104, ya_105, ya_106, ya_107, ya_108, ya_109, ya_110, ya_111, ya_112, ya_113, ya_114, ya_115, ya_116, ya_117, ya_118, ya_119, show ¬ f ≤ j by omega, e1, q1, q2, e2]
          exact ih
theorem yunl_go (hP : PR P d.now) (hN : 10 ≤ N) : ∀ n f : Nat, f ≤ P.n → P.n - f < n → m_X12_unlike_L4 N (mk c d D) n 100 (nI (unl P.price f)) (nI f) = some (nI (unl P.price P.n)) := by
  intro n
  have hn := hP.n
  induction n with
  | zero => intro j _ h; omega
  | succ n ih =>
    intro f hf h
    unfold m_X12_unlike_L4
    by_cases e : f = P.n
    · subst e
      simp (disch := omega) only [Option.bind_some, plit, plit64, nI_add, pk_mul, if_true, if_false, or_true, true_or, oifT, Nat.one_ne_zero, ↓reduceIte, Nat.reduceLT, Nat.reduceLeDiff, Nat.reduceEqDiff, Nat.reduceAdd, Nat.reduceMul, Nat.reduceSub, Nat.reduceDiv, nI_eq, nI_leI, nI_ltI, yo_100, yr_100_0, yr_100_1, yr_100_2, yr_100_3, yr_100_4, yr_100_5, yr_100_6, yr_100_7, yr_100_8, yr_100_9, yr_100_10, yr_100_11, yr_100_12, yr_100_13, yr_100_14, yr_100_15, yr_100_16, yr_100_17, yr_100_18, yr_100_19, yr_100_20, yr_100_21, yr_100_22, yr_100_23, yr_100_24, yr_100_25, yr_100_26, yr_100_27, yr_100_28, ya_101, ya_102, ya_103, ya_104, ya_105, ya_106, ya_107, ya_108, ya_109, ya_110, ya_111, ya_112, ya_113, ya_114, ya_115, ya_116, ya_117, ya_118, ya_119, Nat.le_refl, hP.n_]
    · have e1 := yunl_in (c := c) (d := d) (D := D) (N := N) hP (k4 := m_X12_unlike_L4 N (mk c d D) n) (f := f) (s := unl P.price f) (by omega) N 0 (by omega) (by omega)
      simp (disch := omega) only [Option.bind_some, plit, plit64, nI_add, pk_mul, if_true, if_false, or_true, true_or, oifT, Nat.one_ne_zero, ↓reduceIte, Nat.reduceLT, Nat.reduceLeDiff, Nat.reduceEqDiff, Nat.reduceAdd, Nat.reduceMul, Nat.reduceSub, Nat.reduceDiv, nI_eq, nI_leI, nI_ltI, yo_100, yr_100_0, yr_100_1, yr_100_2, yr_100_3, yr_100_4, yr_100_5, yr_100_6, yr_100_7, yr_100_8, yr_100_9, yr_100_10, yr_100_11, yr_100_12, yr_100_13, yr_100_14, yr_100_15, yr_100_16, yr_100_17, yr_100_18, yr_100_19, yr_100_20, yr_100_21, yr_100_22, yr_100_23, yr_100_24, yr_100_25, yr_100_26, yr_100_27, yr_100_28, ya_101, ya_102, ya_103, ya_104, ya_105, ya_106, ya_107, ya_108, ya_109, ya_110, ya_111, ya_112, ya_113, ya_114, ya_115, ya_116, ya_117, ya_118, ya_119, show ¬ P.n ≤ f by omega, hP.n_]
      exact e1.trans (ih (f + 1) (by omega) (by omega))
theorem yunl (hP : PR P d.now) (hN : 10 ≤ N) : m_X12_unlike N 100 (mk c d D) = some (nI (unl P.price P.n)) := yunl_go hP hN N 0 (by omega) (by have := hP.n; omega)
theorem xgrt_go (hn : c.pl.n ≤ 6) (hp : ∀ i, i < 6 → c.pl.price i ≤ 9999) : ∀ n f : Nat, f ≤ c.pl.n → c.pl.n - f < n → m_X5_greatestPrice_L4 N (mk c d D) n 11 (nI (grt c.pl.price f)) (nI f) = some (nI (grt c.pl.price c.pl.n)) := by
  intro n
  induction n with
  | zero => intro j _ h; omega
  | succ n ih =>
    intro f hf h
    unfold m_X5_greatestPrice_L4
    by_cases e : f = c.pl.n
    · subst e
      simp (disch := omega) only [Option.bind_some, plit, plit64, nI_add, pk_mul, if_true, if_false, or_true, true_or, oifT, Nat.one_ne_zero, ↓reduceIte, Nat.reduceLT, Nat.reduceLeDiff, Nat.reduceEqDiff, Nat.reduceAdd, Nat.reduceMul, Nat.reduceSub, Nat.reduceDiv, nI_eq, nI_leI, nI_ltI, yo_10, yr_10_0, yr_10_1, yr_10_2, yr_10_3, yr_10_4, yr_10_5, yr_10_6, yr_10_7, yr_10_8, yr_10_9, yr_10_10, yr_10_11, yo_11, yr_11_0, yr_11_1, yr_11_2, yr_11_3, yr_11_4, yn_13, ya_13, yo_14, yr_14_0, yr_14_1, yr_14_2, yr_14_3, ya_15, ya_16, Nat.le_refl]
    · have h1 := grt_le (p := c.pl.price) 9999 f (fun i hi => hp i (by omega))
      have h2 := hp f (by omega)
      simp (disch := omega) only [Option.bind_some, plit, plit64, nI_add, pk_mul, if_true, if_false, or_true, true_or, oifT, Nat.one_ne_zero, ↓reduceIte, Nat.reduceLT, Nat.reduceLeDiff, Nat.reduceEqDiff, Nat.reduceAdd, Nat.reduceMul, Nat.reduceSub, Nat.reduceDiv, nI_eq, nI_leI, nI_ltI, yo_10, yr_10_0, yr_10_1, yr_10_2, yr_10_3, yr_10_4, yr_10_5, yr_10_6, yr_10_7, yr_10_8, yr_10_9, yr_10_10, yr_10_11, yo_11, yr_11_0, yr_11_1, yr_11_2, yr_11_3, yr_11_4, yn_13, ya_13, yo_14, yr_14_0, yr_14_1, yr_14_2, yr_14_3, ya_15, ya_16, yfar_R, yfo, yf_0, yf_1, yf_2, yf_3, yfoa, show ¬ c.pl.n ≤ f by omega, iMax_nI]
      exact ih (f + 1) (by omega) (by omega)
theorem ygrt_go (hP : PR P d.now) : ∀ n f : Nat, f ≤ P.n → P.n - f < n → m_X12_greatest_L4 N (mk c d D) n 100 (nI (grt P.price f)) (nI f) = some (nI (grt P.price P.n)) := by
  intro n
  have hn := hP.n
  induction n with
  | zero => intro j _ h; omega
  | succ n ih =>
    intro f hf h
    unfold m_X12_greatest_L4
    by_cases e : f = P.n
    · subst e
      simp (disch := omega) only [Option.bind_some, plit, plit64, nI_add, pk_mul, if_true, if_false, or_true, true_or, oifT, Nat.one_ne_zero, ↓reduceIte, Nat.reduceLT, Nat.reduceLeDiff, Nat.reduceEqDiff, Nat.reduceAdd, Nat.reduceMul, Nat.reduceSub, Nat.reduceDiv, nI_eq, nI_leI, nI_ltI, yo_100, yr_100_0, yr_100_1, yr_100_2, yr_100_3, yr_100_4, yr_100_5, yr_100_6, yr_100_7, yr_100_8, yr_100_9, yr_100_10, yr_100_11, yr_100_12, yr_100_13, yr_100_14, yr_100_15, yr_100_16, yr_100_17, yr_100_18, yr_100_19, yr_100_20, yr_100_21, yr_100_22, yr_100_23, yr_100_24, yr_100_25, yr_100_26, yr_100_27, yr_100_28, ya_101, ya_102, ya_103, ya_104, ya_105, ya_106, ya_107, ya_108, ya_109, ya_110, ya_111, ya_112, ya_113, ya_114, ya_115, ya_116, ya_117, ya_118, ya_119, Nat.le_refl, hP.n_]
    · have h1 := grt_le (p := P.price) 9999 f (fun i hi => hP.p (by omega))
      have h2 := hP.p (i := f) (by omega)
      have q1 := yprice (c := c) (D := D) hP (i := f) (by omega)
      have ih := ih (f + 1) (by omega) (by omega)
      have eg : grt P.price (f + 1) = max (grt P.price f) (P.price f) := rfl
      by_cases e2 : P.price f ≤ grt P.price f
      · rw [eg, Nat.max_eq_left e2] at ih
        simp (disch := omega) only [m_X12_greatest_J32, Option.bind_some, plit, plit64, nI_add, pk_mul, if_true, if_false, or_true, true_or, oifT, Nat.one_ne_zero, ↓reduceIte, Nat.reduceLT, Nat.reduceLeDiff, Nat.reduceEqDiff, Nat.reduceAdd, Nat.reduceMul, Nat.reduceSub, Nat.reduceDiv, nI_eq, nI_leI, nI_ltI, yo_100, yr_100_0, yr_100_1, yr_100_2, yr_100_3, yr_100_4, yr_100_5, yr_100_6, yr_100_7, yr_100_8, yr_100_9, yr_100_10, yr_100_11, yr_100_12, yr_100_13, yr_100_14, yr_100_15, yr_100_16, yr_100_17, yr_100_18, yr_100_19, yr_100_20, yr_100_21, yr_100_22, yr_100_23, yr_100_24, yr_100_25, yr_100_26, yr_100_27, yr_100_28, ya_101, ya_102, ya_103, ya_104, ya_105, ya_106, ya_107, ya_108, ya_109, ya_110, ya_111, ya_112, ya_113, ya_114, ya_115, ya_116, ya_117, ya_118, ya_119, show ¬ P.n ≤ f by omega, hP.n_, q1, e2]
        exact ih
      · rw [eg, Nat.max_eq_right (by omega)] at ih
        simp (disch := omega) only [m_X12_greatest_J32, Option.bind_some, plit, plit64, nI_add, pk_mul, if_true, if_false, or_true, true_or, oifT, Nat.one_ne_zero, ↓reduceIte, Nat.reduceLT, Nat.reduceLeDiff, Nat.reduceEqDiff, Nat.reduceAdd, Nat.reduceMul, Nat.reduceSub, Nat.reduceDiv, nI_eq, nI_leI, nI_ltI, yo_100, yr_100_0, yr_100_1, yr_100_2, yr_100_3, yr_100_4, yr_100_5, yr_100_6, yr_100_7, yr_100_8, yr_100_9, yr_100_10, yr_100_11, yr_100_12, yr_100_13, yr_100_14, yr_100_15, yr_100_16, yr_100_17, yr_100_18, yr_100_19, yr_100_20, yr_100_21, yr_100_22, yr_100_23, yr_100_24, yr_100_25, yr_100_26, yr_100_27, yr_100_28, ya_101, ya_102, ya_103, ya_104, ya_105, ya_106, ya_107, ya_108, ya_109, ya_110, ya_111, ya_112, ya_113, ya_114, ya_115, ya_116, ya_117, ya_118, ya_119, show ¬ P.n ≤ f by omega, hP.n_, q1, e2]
        exact ih
set_option maxHeartbeats 2000000 in
theorem p_told (h : RR c d D) (hN : 10 ≤ N) (a : Int32) : ∃ r, m_X11_told N 10 a (mk c d D) = some r ∧ m_X12_told N 100 a (mk c d D) = some r := by
  have hP := h.1
  have hn := hP.n
  have hT := h.2.2.2.2.1.2.1
  have hW := h.2.2.2.2.2.1.2.2.1
  have hU : m_X5_unlikePrices N 11 (mk c d D) = some (nI (unl c.pl.price c.pl.n)) := xunl hP hN
  have hU2 : m_X12_unlike N 100 (mk c d D) = some (nI (unl c.pl.price c.pl.n)) := yunl hP hN
  have hG : m_X5_greatestPrice N 11 (mk c d D) = some (nI (grt c.pl.price c.pl.n)) := xgrt_go hn (fun i hi => hP.p hi) N 0 (by omega) (by omega)
  have hG2 : m_X12_greatest N 100 (mk c d D) = some (nI (grt c.pl.price c.pl.n)) := ygrt_go hP N 0 (by omega) (by omega)
  have outI : ∀ lo hi : Nat, lo < 2 ^ 31 → hi < 2 ^ 31 → (a.toInt < lo ∨ (hi : Int) < a.toInt) → m_X12_in a.toInt64 (lN lo) (lN hi) = some (nI 0) := fun lo hi h1 h2 h3 => in_out h3 h1 h2
  have inI : ∀ lo hi k : Nat, lo ≤ k → k ≤ hi → hi < 2 ^ 31 → m_X12_in (nI k).toInt64 (lN lo) (lN hi) = some (nI 1) := fun lo hi k h1 h2 h3 => in_in h1 h2 h3
  have outN : ∀ lo hi k : Nat, lo < 2 ^ 31 → hi < 2 ^ 31 → k < 2 ^ 31 → (k < lo ∨ hi < k) → m_X12_in (nI k).toInt64 (lN lo) (lN hi) = some (nI 0) := fun lo hi k h1 h2 h3 h4 => in_out (by rw [nI_toInt h3]; omega) h1 h2
  by_cases hr : ∃ w, w ≤ 40 ∧ a = nI w
  · obtain ⟨w, hw, rfl⟩ := hr
    by_cases c1 : w ≤ 5
    · have i1 := inI 0 5 w (by omega) c1 (by omega)
      by_cases w0 : w = 0
      · subst w0
        exact ⟨nI c.pl.n, by simp (disch := omega) only [m_X11_told, m_X11_told_J22, m_X11_told_J50, m_X11_told_J78, m_X11_told_J114, Option.bind_some, plit, plit64, nI_add, pk_mul, if_true, if_false, or_true, true_or, oifT, Nat.one_ne_zero, ↓reduceIte, Nat.reduceLT, Nat.reduceLeDiff, Nat.reduceEqDiff, Nat.reduceAdd, Nat.reduceMul, Nat.reduceSub, Nat.reduceDiv, nI_eq, nI_leI, nI_ltI, yo_10, yr_10_0, yr_10_1, yr_10_2, yr_10_3, yr_10_4, yr_10_5, yr_10_6, yr_10_7, yr_10_8, yr_10_9, yr_10_10, yr_10_11, yo_11, yr_11_0, yr_11_1, yr_11_2, yr_11_3, yr_11_4, yn_13, ya_13, yo_14, yr_14_0, yr_14_1, yr_14_2, yr_14_3, ya_15, ya_16], by simp (disch := omega) only [m_X12_told, Option.bind_some, plit, plit64, nI_add, pk_mul, if_true, if_false, or_true, true_or, oifT, Nat.one_ne_zero, ↓reduceIte, Nat.reduceLT, Nat.reduceLeDiff, Nat.reduceEqDiff, Nat.reduceAdd, Nat.reduceMul, Nat.reduceSub, Nat.reduceDiv, nI_eq, nI_leI, nI_ltI, yo_100, yr_100_0, yr_100_1, yr_100_2, yr_100_3, yr_100_4, yr_100_5, yr_100_6, yr_100_7, yr_100_8, yr_100_9, yr_100_10, yr_100_11, yr_100_12, yr_100_13, yr_100_14, yr_100_15, yr_100_16, yr_100_17, yr_100_18, yr_100_19, yr_100_20, yr_100_21, yr_100_22, yr_100_23, yr_100_24, yr_100_25, yr_100_26, yr_100_27, yr_100_28, ya_101, ya_102, ya_103, ya_104, ya_105, ya_106, ya_107, ya_108, ya_109, ya_110, ya_111, ya_112, ya_113, ya_114, ya_115, ya_116, ya_117, ya_118, ya_119, i1, hP.n_]⟩
      by_cases w5 : w = 5
      · subst w5
        exact ⟨nI c.pl.rc, by simp (disch := omega) only [m_X11_told, m_X11_told_J22, m_X11_told_J50, m_X11_told_J78, m_X11_told_J114, Option.bind_some, plit, plit64, nI_add, pk_mul, if_true, if_false, or_true, true_or, oifT, Nat.one_ne_zero, ↓reduceIte, Nat.reduceLT, Nat.reduceLeDiff, Nat.reduceEqDiff, Nat.reduceAdd, Nat.reduceMul, Nat.reduceSub, Nat.reduceDiv, nI_eq, nI_leI, nI_ltI, yo_10, yr_10_0, yr_10_1, yr_10_2, yr_10_3, yr_10_4, yr_10_5, yr_10_6, yr_10_7, yr_10_8, yr_10_9, yr_10_10, yr_10_11, yo_11, yr_11_0, yr_11_1, yr_11_2, yr_11_3, yr_11_4, yn_13, ya_13, yo_14, yr_14_0, yr_14_1, yr_14_2, yr_14_3, ya_15, ya_16], by simp (disch := omega) only [m_X12_told, Option.bind_some, plit, plit64, nI_add, pk_mul, if_true, if_false, or_true, true_or, oifT, Nat.one_ne_zero, ↓reduceIte, Nat.reduceLT, Nat.reduceLeDiff, Nat.reduceEqDiff, Nat.reduceAdd, Nat.reduceMul, Nat.reduceSub, Nat.reduceDiv, nI_eq, nI_leI, nI_ltI, yo_100, yr_100_0, yr_100_1, yr_100_2, yr_100_3, yr_100_4, yr_100_5, yr_100_6, yr_100_7, yr_100_8, yr_100_9, yr_100_10, yr_100_11, yr_100_12, yr_100_13, yr_100_14, yr_100_15, yr_100_16, yr_100_17, yr_100_18, yr_100_19, yr_100_20, yr_100_21, yr_100_22, yr_100_23, yr_100_24, yr_100_25, yr_100_26, yr_100_27, yr_100_28, ya_101, ya_102, ya_103, ya_104, ya_105, ya_106, ya_107, ya_108, ya_109, ya_110, ya_111, ya_112, ya_113, ya_114, ya_115, ya_116, ya_117, ya_118, ya_119, i1, hP.rc_]⟩
      have er := hP.r_ (i := w - 1) (by omega)
      rw [show 1 + (w - 1) = w by omega] at er
      exact ⟨nI (c.pl.rules (w - 1)), by simp (disch := omega) only [m_X11_told, Option.bind_some, plit, plit64, nI_add, pk_mul, if_true, if_false, or_true, true_or, oifT, Nat.one_ne_zero, ↓reduceIte, Nat.reduceLT, Nat.reduceLeDiff, Nat.reduceEqDiff, Nat.reduceAdd, Nat.reduceMul, Nat.reduceSub, Nat.reduceDiv, nI_eq, nI_leI, nI_ltI, yo_10, yr_10_0, yr_10_1, yr_10_2, yr_10_3, yr_10_4, yr_10_5, yr_10_6, yr_10_7, yr_10_8, yr_10_9, yr_10_10, yr_10_11, yo_11, yr_11_0, yr_11_1, yr_11_2, yr_11_3, yr_11_4, yn_13, ya_13, yo_14, yr_14_0, yr_14_1, yr_14_2, yr_14_3, ya_15, ya_16, show ¬ w < 1 by omega, show ¬ 4 < w by omega, pk_sub], by simp (disch := omega) only [m_X12_told, Option.bind_some, plit, plit64, nI_add, pk_mul, if_true, if_false, or_true, true_or, oifT, Nat.one_ne_zero, ↓reduceIte, Nat.reduceLT, Nat.reduceLeDiff, Nat.reduceEqDiff, Nat.reduceAdd, Nat.reduceMul, Nat.reduceSub, Nat.reduceDiv, nI_eq, nI_leI, nI_ltI, yo_100, yr_100_0, yr_100_1, yr_100_2, yr_100_3, yr_100_4, yr_100_5, yr_100_6, yr_100_7, yr_100_8, yr_100_9, yr_100_10, yr_100_11, yr_100_12, yr_100_13, yr_100_14, yr_100_15, yr_100_16, yr_100_17, yr_100_18, yr_100_19, yr_100_20, yr_100_21, yr_100_22, yr_100_23, yr_100_24, yr_100_25, yr_100_26, yr_100_27, yr_100_28, ya_101, ya_102, ya_103, ya_104, ya_105, ya_106, ya_107, ya_108, ya_109, ya_110, ya_111, ya_112, ya_113, ya_114, ya_115, ya_116, ya_117, ya_118, ya_119, i1, er]⟩
    have o1 := outN 0 5 w (by omega) (by omega) (by omega) (by omega)
    by_cases c2 : 10 ≤ w ∧ w ≤ 13
    · have i2 := inI 10 13 w c2.1 c2.2 (by omega)
      have er := hP.l_ (i := w - 10) (by omega)
      exact ⟨nI (c.pl.len (w - 10)), by simp (disch := omega) only [m_X11_told, m_X11_told_J22, Option.bind_some, plit, plit64, nI_add, pk_mul, if_true, if_false, or_true, true_or, oifT, Nat.one_ne_zero, ↓reduceIte, Nat.reduceLT, Nat.reduceLeDiff, Nat.reduceEqDiff, Nat.reduceAdd, Nat.reduceMul, Nat.reduceSub, Nat.reduceDiv, nI_eq, nI_leI, nI_ltI, yo_10, yr_10_0, yr_10_1, yr_10_2, yr_10_3, yr_10_4, yr_10_5, yr_10_6, yr_10_7, yr_10_8, yr_10_9, yr_10_10, yr_10_11, yo_11, yr_11_0, yr_11_1, yr_11_2, yr_11_3, yr_11_4, yn_13, ya_13, yo_14, yr_14_0, yr_14_1, yr_14_2, yr_14_3, ya_15, ya_16, show ¬ w < 1 by omega, show 4 < w by omega, show ¬ w < 10 by omega, show ¬ 14 ≤ w by omega, pk_sub], by
        simp (disch := omega) only [m_X12_told, Option.bind_some, plit, plit64, nI_add, pk_mul, if_true, if_false, or_true, true_or, oifT, Nat.one_ne_zero, ↓reduceIte, Nat.reduceLT, Nat.reduceLeDiff, Nat.reduceEqDiff, Nat.reduceAdd, Nat.reduceMul, Nat.reduceSub, Nat.reduceDiv, nI_eq, nI_leI, nI_ltI, yo_100, yr_100_0, yr_100_1, yr_100_2, yr_100_3, yr_100_4, yr_100_5, yr_100_6, yr_100_7, yr_100_8, yr_100_9, yr_100_10, yr_100_11, yr_100_12, yr_100_13, yr_100_14, yr_100_15, yr_100_16, yr_100_17, yr_100_18, yr_100_19, yr_100_20, yr_100_21, yr_100_22, yr_100_23, yr_100_24, yr_100_25, yr_100_26, yr_100_27, yr_100_28, ya_101, ya_102, ya_103, ya_104, ya_105, ya_106, ya_107, ya_108, ya_109, ya_110, ya_111, ya_112, ya_113, ya_114, ya_115, ya_116, ya_117, ya_118, ya_119, o1, i2, pk_sub]
        rw [← er]
        congr 2
        omega⟩
    have o2 := outN 10 13 w (by omega) (by omega) (by omega) (by omega)
    by_cases c3 : 20 ≤ w ∧ w ≤ 23
    · have i3 := inI 20 23 w c3.1 c3.2 (by omega)
      have er := hP.f_ (i := w - 20) (by omega)
      exact ⟨nI (c.pl.free (w - 20)), by simp (disch := omega) only [m_X11_told, m_X11_told_J22, m_X11_told_J50, Option.bind_some, plit, plit64, nI_add, pk_mul, if_true, if_false, or_true, true_or, oifT, Nat.one_ne_zero, ↓reduceIte, Nat.reduceLT, Nat.reduceLeDiff, Nat.reduceEqDiff, Nat.reduceAdd, Nat.reduceMul, Nat.reduceSub, Nat.reduceDiv, nI_eq, nI_leI, nI_ltI, yo_10, yr_10_0, yr_10_1, yr_10_2, yr_10_3, yr_10_4, yr_10_5, yr_10_6, yr_10_7, yr_10_8, yr_10_9, yr_10_10, yr_10_11, yo_11, yr_11_0, yr_11_1, yr_11_2, yr_11_3, yr_11_4, yn_13, ya_13, yo_14, yr_14_0, yr_14_1, yr_14_2, yr_14_3, ya_15, ya_16, show ¬ w < 1 by omega, show 4 < w by omega, show ¬ w < 10 by omega, show 14 ≤ w by omega, show ¬ w < 20 by omega, show ¬ 24 ≤ w by omega, pk_sub], by
        simp (disch := omega) only [m_X12_told, Option.bind_some, plit, plit64, nI_add, pk_mul, if_true, if_false, or_true, true_or, oifT, Nat.one_ne_zero, ↓reduceIte, Nat.reduceLT, Nat.reduceLeDiff, Nat.reduceEqDiff, Nat.reduceAdd, Nat.reduceMul, Nat.reduceSub, Nat.reduceDiv, nI_eq, nI_leI, nI_ltI, yo_100, yr_100_0, yr_100_1, yr_100_2, yr_100_3, yr_100_4, yr_100_5, yr_100_6, yr_100_7, yr_100_8, yr_100_9, yr_100_10, yr_100_11, yr_100_12, yr_100_13, yr_100_14, yr_100_15, yr_100_16, yr_100_17, yr_100_18, yr_100_19, yr_100_20, yr_100_21, yr_100_22, yr_100_23, yr_100_24, yr_100_25, yr_100_26, yr_100_27, yr_100_28, ya_101, ya_102, ya_103, ya_104, ya_105, ya_106, ya_107, ya_108, ya_109, ya_110, ya_111, ya_112, ya_113, ya_114, ya_115, ya_116, ya_117, ya_118, ya_119, o1, o2, i3, pk_sub]
        rw [← er]
        congr 2
        omega⟩
    have o3 := outN 20 23 w (by omega) (by omega) (by omega) (by omega)
    by_cases c4 : 30 ≤ w ∧ w ≤ 35
    · have i4 := inI 30 35 w c4.1 c4.2 (by omega)
      by_cases hk : w - 30 < c.pl.n
      · have er := hP.h_ (i := w - 30) (by omega)
        have e2 := yif_in (c := c) (D := D) hk hP
        exact ⟨nI (c.pl.hand (w - 30)), by simp (disch := omega) only [m_X11_told, m_X11_told_J22, m_X11_told_J50, m_X11_told_J78, Option.bind_some, plit, plit64, nI_add, pk_mul, if_true, if_false, or_true, true_or, oifT, Nat.one_ne_zero, ↓reduceIte, Nat.reduceLT, Nat.reduceLeDiff, Nat.reduceEqDiff, Nat.reduceAdd, Nat.reduceMul, Nat.reduceSub, Nat.reduceDiv, nI_eq, nI_leI, nI_ltI, yo_10, yr_10_0, yr_10_1, yr_10_2, yr_10_3, yr_10_4, yr_10_5, yr_10_6, yr_10_7, yr_10_8, yr_10_9, yr_10_10, yr_10_11, yo_11, yr_11_0, yr_11_1, yr_11_2, yr_11_3, yr_11_4, yn_13, ya_13, yo_14, yr_14_0, yr_14_1, yr_14_2, yr_14_3, ya_15, ya_16, yfar_R, yfo, yf_0, yf_1, yf_2, yf_3, yfoa, show ¬ w < 1 by omega, show 4 < w by omega, show ¬ w < 10 by omega, show 14 ≤ w by omega, show ¬ w < 20 by omega, show 24 ≤ w by omega, show ¬ w < 30 by omega, show ¬ 30 + c.pl.n ≤ w by omega, pk_sub], by
          simp (disch := omega) only [m_X12_told, Option.bind_some, plit, plit64, nI_add, pk_mul, if_true, if_false, or_true, true_or, oifT, Nat.one_ne_zero, ↓reduceIte, Nat.reduceLT, Nat.reduceLeDiff, Nat.reduceEqDiff, Nat.reduceAdd, Nat.reduceMul, Nat.reduceSub, Nat.reduceDiv, nI_eq, nI_leI, nI_ltI, yo_100, yr_100_0, yr_100_1, yr_100_2, yr_100_3, yr_100_4, yr_100_5, yr_100_6, yr_100_7, yr_100_8, yr_100_9, yr_100_10, yr_100_11, yr_100_12, yr_100_13, yr_100_14, yr_100_15, yr_100_16, yr_100_17, yr_100_18, yr_100_19, yr_100_20, yr_100_21, yr_100_22, yr_100_23, yr_100_24, yr_100_25, yr_100_26, yr_100_27, yr_100_28, ya_101, ya_102, ya_103, ya_104, ya_105, ya_106, ya_107, ya_108, ya_109, ya_110, ya_111, ya_112, ya_113, ya_114, ya_115, ya_116, ya_117, ya_118, ya_119, o1, o2, o3, i4, pk_sub, e2]
          rw [← er]
          congr 2
          omega⟩
      · have e2 := yif_out (c := c) (D := D) (a := nI (w - 30)) (by rw [nI_toInt (by omega)]; omega) hP
        exact ⟨-nI 1, by simp (disch := omega) only [m_X11_told, m_X11_told_J22, m_X11_told_J50, m_X11_told_J78, m_X11_told_J114, Option.bind_some, plit, plit64, nI_add, pk_mul, if_true, if_false, or_true, true_or, oifT, Nat.one_ne_zero, ↓reduceIte, Nat.reduceLT, Nat.reduceLeDiff, Nat.reduceEqDiff, Nat.reduceAdd, Nat.reduceMul, Nat.reduceSub, Nat.reduceDiv, nI_eq, nI_leI, nI_ltI, yo_10, yr_10_0, yr_10_1, yr_10_2, yr_10_3, yr_10_4, yr_10_5, yr_10_6, yr_10_7, yr_10_8, yr_10_9, yr_10_10, yr_10_11, yo_11, yr_11_0, yr_11_1, yr_11_2, yr_11_3, yr_11_4, yn_13, ya_13, yo_14, yr_14_0, yr_14_1, yr_14_2, yr_14_3, ya_15, ya_16, yfar_R, yfo, yf_0, yf_1, yf_2, yf_3, yfoa, show ¬ w < 1 by omega, show 4 < w by omega, show ¬ w < 10 by omega, show 14 ≤ w by omega, show ¬ w < 20 by omega, show 24 ≤ w by omega, show ¬ w < 30 by omega, show 30 + c.pl.n ≤ w by omega, show ¬ w = 0 by omega, show ¬ w = 1 by omega, show ¬ w = 2 by omega, show ¬ w = 3 by omega, show ¬ w = 4 by omega, show ¬ w = 5 by omega, show ¬ w = 6 by omega, show ¬ w = 7 by omega, show ¬ w = 8 by omega, show ¬ w = 9 by omega], by
          simp (disch := omega) only [m_X12_told, Option.bind_some, plit, plit64, nI_add, pk_mul, if_true, if_false, or_true, true_or, oifT, Nat.one_ne_zero, ↓reduceIte, Nat.reduceLT, Nat.reduceLeDiff, Nat.reduceEqDiff, Nat.reduceAdd, Nat.reduceMul, Nat.reduceSub, Nat.reduceDiv, nI_eq, nI_leI, nI_ltI, yo_100, yr_100_0, yr_100_1, yr_100_2, yr_100_3, yr_100_4, yr_100_5, yr_100_6, yr_100_7, yr_100_8, yr_100_9, yr_100_10, yr_100_11, yr_100_12, yr_100_13, yr_100_14, yr_100_15, yr_100_16, yr_100_17, yr_100_18, yr_100_19, yr_100_20, yr_100_21, yr_100_22, yr_100_23, yr_100_24, yr_100_25, yr_100_26, yr_100_27, yr_100_28, ya_101, ya_102, ya_103, ya_104, ya_105, ya_106, ya_107, ya_108, ya_109, ya_110, ya_111, ya_112, ya_113, ya_114, ya_115, ya_116, ya_117, ya_118, ya_119, o1, o2, o3, i4, pk_sub, e2]⟩
    have o4 := outN 30 35 w (by omega) (by omega) (by omega) (by omega)
    by_cases w6 : w = 6
    · subst w6
      exact ⟨nI c.tsize, by simp (disch := omega) only [m_X11_told, m_X11_told_J22, m_X11_told_J50, m_X11_told_J78, m_X11_told_J114, Option.bind_some, plit, plit64, nI_add, pk_mul, if_true, if_false, or_true, true_or, oifT, Nat.one_ne_zero, ↓reduceIte, Nat.reduceLT, Nat.reduceLeDiff, Nat.reduceEqDiff, Nat.reduceAdd, Nat.reduceMul, Nat.reduceSub, Nat.reduceDiv, nI_eq, nI_leI, nI_ltI, yo_10, yr_10_0, yr_10_1, yr_10_2, yr_10_3, yr_10_4, yr_10_5, yr_10_6, yr_10_7, yr_10_8, yr_10_9, yr_10_10, yr_10_11, yo_11, yr_11_0, yr_11_1, yr_11_2, yr_11_3, yr_11_4, yn_13, ya_13, yo_14, yr_14_0, yr_14_1, yr_14_2, yr_14_3, ya_15, ya_16, yo_77, yr_77_0, yr_77_1, yr_77_2, yr_77_3, yr_77_4, yr_77_5, yr_77_6, yr_77_7, yr_77_8, ya_78], by simp (disch := omega) only [m_X12_told, Option.bind_some, plit, plit64, nI_add, pk_mul, if_true, if_false, or_true, true_or, oifT, Nat.one_ne_zero, ↓reduceIte, Nat.reduceLT, Nat.reduceLeDiff, Nat.reduceEqDiff, Nat.reduceAdd, Nat.reduceMul, Nat.reduceSub, Nat.reduceDiv, nI_eq, nI_leI, nI_ltI, yo_100, yr_100_0, yr_100_1, yr_100_2, yr_100_3, yr_100_4, yr_100_5, yr_100_6, yr_100_7, yr_100_8, yr_100_9, yr_100_10, yr_100_11, yr_100_12, yr_100_13, yr_100_14, yr_100_15, yr_100_16, yr_100_17, yr_100_18, yr_100_19, yr_100_20, yr_100_21, yr_100_22, yr_100_23, yr_100_24, yr_100_25, yr_100_26, yr_100_27, yr_100_28, ya_101, ya_102, ya_103, ya_104, ya_105, ya_106, ya_107, ya_108, ya_109, ya_110, ya_111, ya_112, ya_113, ya_114, ya_115, ya_116, ya_117, ya_118, ya_119, o1, o2, o3, o4, hT]⟩
    by_cases w7 : w = 7
    · subst w7
      exact ⟨nI c.pgc, by simp (disch := omega) only [m_X11_told, m_X11_told_J22, m_X11_told_J50, m_X11_told_J78, m_X11_told_J114, m_J4_length_8abf5, m_J5_length_8abf5, yr_83_3, yo_83, Option.bind_some, plit, plit64, nI_add, pk_mul, if_true, if_false, or_true, true_or, oifT, Nat.one_ne_zero, ↓reduceIte, Nat.reduceLT, Nat.reduceLeDiff, Nat.reduceEqDiff, Nat.reduceAdd, Nat.reduceMul, Nat.reduceSub, Nat.reduceDiv, nI_eq, nI_leI, nI_ltI, yo_10, yr_10_0, yr_10_1, yr_10_2, yr_10_3, yr_10_4, yr_10_5, yr_10_6, yr_10_7, yr_10_8, yr_10_9, yr_10_10, yr_10_11, yo_11, yr_11_0, yr_11_1, yr_11_2, yr_11_3, yr_11_4, yn_13, ya_13, yo_14, yr_14_0, yr_14_1, yr_14_2, yr_14_3, ya_15, ya_16, yo_77, yr_77_0, yr_77_1, yr_77_2, yr_77_3, yr_77_4, yr_77_5, yr_77_6, yr_77_7, yr_77_8, ya_78], by simp (disch := omega) only [m_X12_told, Option.bind_some, plit, plit64, nI_add, pk_mul, if_true, if_false, or_true, true_or, oifT, Nat.one_ne_zero, ↓reduceIte, Nat.reduceLT, Nat.reduceLeDiff, Nat.reduceEqDiff, Nat.reduceAdd, Nat.reduceMul, Nat.reduceSub, Nat.reduceDiv, nI_eq, nI_leI, nI_ltI, yo_100, yr_100_0, yr_100_1, yr_100_2, yr_100_3, yr_100_4, yr_100_5, yr_100_6, yr_100_7, yr_100_8, yr_100_9, yr_100_10, yr_100_11, yr_100_12, yr_100_13, yr_100_14, yr_100_15, yr_100_16, yr_100_17, yr_100_18, yr_100_19, yr_100_20, yr_100_21, yr_100_22, yr_100_23, yr_100_24, yr_100_25, yr_100_26, yr_100_27, yr_100_28, ya_101, ya_102, ya_103, ya_104, ya_105, ya_106, ya_107, ya_108, ya_109, ya_110, ya_111, ya_112, ya_113, ya_114, ya_115, ya_116, ya_117, ya_118, ya_119, o1, o2, o3, o4, hW]⟩
    by_cases w8 : w = 8
    · subst w8
      exact ⟨nI (unl c.pl.price c.pl.n), by simp (disch := omega) only [m_X11_told, m_X11_told_J22, m_X11_told_J50, m_X11_told_J78, m_X11_told_J114, Option.bind_some, plit, plit64, nI_add, pk_mul, if_true, if_false, or_true, true_or, oifT, Nat.one_ne_zero, ↓reduceIte, Nat.reduceLT, Nat.reduceLeDiff, Nat.reduceEqDiff, Nat.reduceAdd, Nat.reduceMul, Nat.reduceSub, Nat.reduceDiv, nI_eq, nI_leI, nI_ltI, yo_10, yr_10_0, yr_10_1, yr_10_2, yr_10_3, yr_10_4, yr_10_5, yr_10_6, yr_10_7, yr_10_8, yr_10_9, yr_10_10, yr_10_11, yo_11, yr_11_0, yr_11_1, yr_11_2, yr_11_3, yr_11_4, yn_13, ya_13, yo_14, yr_14_0, yr_14_1, yr_14_2, yr_14_3, ya_15, ya_16, yo_77, yr_77_0, yr_77_1, yr_77_2, yr_77_3, yr_77_4, yr_77_5, yr_77_6, yr_77_7, yr_77_8, ya_78, hU], by simp (disch := omega) only [m_X12_told, Option.bind_some, plit, plit64, nI_add, pk_mul, if_true, if_false, or_true, true_or, oifT, Nat.one_ne_zero, ↓reduceIte, Nat.reduceLT, Nat.reduceLeDiff, Nat.reduceEqDiff, Nat.reduceAdd, Nat.reduceMul, Nat.reduceSub, Nat.reduceDiv, nI_eq, nI_leI, nI_ltI, yo_100, yr_100_0, yr_100_1, yr_100_2, yr_100_3, yr_100_4, yr_100_5, yr_100_6, yr_100_7, yr_100_8, yr_100_9, yr_100_10, yr_100_11, yr_100_12, yr_100_13, yr_100_14, yr_100_15, yr_100_16, yr_100_17, yr_100_18, yr_100_19, yr_100_20, yr_100_21, yr_100_22, yr_100_23, yr_100_24, yr_100_25, yr_100_26, yr_100_27, yr_100_28, ya_101, ya_102, ya_103, ya_104, ya_105, ya_106, ya_107, ya_108, ya_109, ya_110, ya_111, ya_112, ya_113, ya_114, ya_115, ya_116, ya_117, ya_118, ya_119, o1, o2, o3, o4, hU2]⟩
    by_cases w9 : w = 9
    · subst w9
      exact ⟨nI (grt c.pl.price c.pl.n), by simp (disch := omega) only [m_X11_told, m_X11_told_J22, m_X11_told_J50, m_X11_told_J78, m_X11_told_J114, Option.bind_some, plit, plit64, nI_add, pk_mul, if_true, if_false, or_true, true_or, oifT, Nat.one_ne_zero, ↓reduceIte, Nat.reduceLT, Nat.reduceLeDiff, Nat.reduceEqDiff, Nat.reduceAdd, Nat.reduceMul, Nat.reduceSub, Nat.reduceDiv, nI_eq, nI_leI, nI_ltI, yo_10, yr_10_0, yr_10_1, yr_10_2, yr_10_3, yr_10_4, yr_10_5, yr_10_6, yr_10_7, yr_10_8, yr_10_9, yr_10_10, yr_10_11, yo_11, yr_11_0, yr_11_1, yr_11_2, yr_11_3, yr_11_4, yn_13, ya_13, yo_14, yr_14_0, yr_14_1, yr_14_2, yr_14_3, ya_15, ya_16, yo_77, yr_77_0, yr_77_1, yr_77_2, yr_77_3, yr_77_4, yr_77_5, yr_77_6, yr_77_7, yr_77_8, ya_78, hG], by simp (disch := omega) only [m_X12_told, Option.bind_some, plit, plit64, nI_add, pk_mul, if_true, if_false, or_true, true_or, oifT, Nat.one_ne_zero, ↓reduceIte, Nat.reduceLT, Nat.reduceLeDiff, Nat.reduceEqDiff, Nat.reduceAdd, Nat.reduceMul, Nat.reduceSub, Nat.reduceDiv, nI_eq, nI_leI, nI_ltI, yo_100, yr_100_0, yr_100_1, yr_100_2, yr_100_3, yr_100_4, yr_100_5, yr_100_6, yr_100_7, yr_100_8, yr_100_9, yr_100_10, yr_100_11, yr_100_12, yr_100_13, yr_100_14, yr_100_15, yr_100_16, yr_100_17, yr_100_18, yr_100_19, yr_100_20, yr_100_21, yr_100_22, yr_100_23, yr_100_24, yr_100_25, yr_100_26, yr_100_27, yr_100_28, ya_101, ya_102, ya_103, ya_104, ya_105, ya_106, ya_107, ya_108, ya_109, ya_110, ya_111, ya_112, ya_113, ya_114, ya_115, ya_116, ya_117, ya_118, ya_119, o1, o2, o3, o4, hG2]⟩
    refine ⟨-nI 1, ?_, ?_⟩
    · have q1 : (14 ≤ w ∧ w < 20) ∨ (24 ≤ w ∧ w < 30) ∨ 36 ≤ w := by omega
      rcases q1 with q1 | q1 | q1
      · simp (disch := omega) only [m_X11_told, m_X11_told_J22, m_X11_told_J50, m_X11_told_J78, m_X11_told_J114, Option.bind_some, plit, plit64, nI_add, pk_mul, if_true, if_false, or_true, true_or, oifT, Nat.one_ne_zero, ↓reduceIte, Nat.reduceLT, Nat.reduceLeDiff, Nat.reduceEqDiff, Nat.reduceAdd, Nat.reduceMul, Nat.reduceSub, Nat.reduceDiv, nI_eq, nI_leI, nI_ltI, yo_10, yr_10_0, yr_10_1, yr_10_2, yr_10_3, yr_10_4, yr_10_5, yr_10_6, yr_10_7, yr_10_8, yr_10_9, yr_10_10, yr_10_11, yo_11, yr_11_0, yr_11_1, yr_11_2, yr_11_3, yr_11_4, yn_13, ya_13, yo_14, yr_14_0, yr_14_1, yr_14_2, yr_14_3, ya_15, ya_16, yfar_R, yfo, yf_0, yf_1, yf_2, yf_3, yfoa, show ¬ w < 1 by omega, show 4 < w by omega, show ¬ w < 10 by omega, show 14 ≤ w by omega, show w < 20 by omega, show w < 30 by omega, show ¬ w = 0 by omega, show ¬ w = 1 by omega, show ¬ w = 2 by omega, show ¬ w = 3 by omega, show ¬ w = 4 by omega, show ¬ w = 5 by omega, show ¬ w = 6 by omega, show ¬ w = 7 by omega, show ¬ w = 8 by omega, show ¬ w = 9 by omega]
      · simp (disch := omega) only [m_X11_told, m_X11_told_J22, m_X11_told_J50, m_X11_told_J78, m_X11_told_J114, Option.bind_some, plit, plit64, nI_add, pk_mul, if_true, if_false, or_true, true_or, oifT, Nat.one_ne_zero, ↓reduceIte, Nat.reduceLT, Nat.reduceLeDiff, Nat.reduceEqDiff, Nat.reduceAdd, Nat.reduceMul, Nat.reduceSub, Nat.reduceDiv, nI_eq, nI_leI, nI_ltI, yo_10, yr_10_0, yr_10_1, yr_10_2, yr_10_3, yr_10_4, yr_10_5, yr_10_6, yr_10_7, yr_10_8, yr_10_9, yr_10_10, yr_10_11, yo_11, yr_11_0, yr_11_1, yr_11_2, yr_11_3, yr_11_4, yn_13, ya_13, yo_14, yr_14_0, yr_14_1, yr_14_2, yr_14_3, ya_15, ya_16, yfar_R, yfo, yf_0, yf_1, yf_2, yf_3, yfoa, show ¬ w < 1 by omega, show 4 < w by omega, show ¬ w < 10 by omega, show 14 ≤ w by omega, show ¬ w < 20 by omega, show 24 ≤ w by omega, show w < 30 by omega, show ¬ w = 0 by omega, show ¬ w = 1 by omega, show ¬ w = 2 by omega, show ¬ w = 3 by omega, show ¬ w = 4 by omega, show ¬ w = 5 by omega, show ¬ w = 6 by omega, show ¬ w = 7 by omega, show ¬ w = 8 by omega, show ¬ w = 9 by omega]
      · simp (disch := omega) only [m_X11_told, m_X11_told_J22, m_X11_told_J50, m_X11_told_J78, m_X11_told_J114, Option.bind_some, plit, plit64, nI_add, pk_mul, if_true, if_false, or_true, true_or, oifT, Nat.one_ne_zero, ↓reduceIte, Nat.reduceLT, Nat.reduceLeDiff, Nat.reduceEqDiff, Nat.reduceAdd, Nat.reduceMul, Nat.reduceSub, Nat.reduceDiv, nI_eq, nI_leI, nI_ltI, yo_10, yr_10_0, yr_10_1, yr_10_2, yr_10_3, yr_10_4, yr_10_5, yr_10_6, yr_10_7, yr_10_8, yr_10_9, yr_10_10, yr_10_11, yo_11, yr_11_0, yr_11_1, yr_11_2, yr_11_3, yr_11_4, yn_13, ya_13, yo_14, yr_14_0, yr_14_1, yr_14_2, yr_14_3, ya_15, ya_16, yfar_R, yfo, yf_0, yf_1, yf_2, yf_3, yfoa, show ¬ w < 1 by omega, show 4 < w by omega, show ¬ w < 10 by omega, show 14 ≤ w by omega, show ¬ w < 20 by omega, show 24 ≤ w by omega, show ¬ w < 30 by omega, show 30 + c.pl.n ≤ w by omega, show ¬ w = 0 by omega, show ¬ w = 1 by omega, show ¬ w = 2 by omega, show ¬ w = 3 by omega, show ¬ w = 4 by omega, show ¬ w = 5 by omega, show ¬ w = 6 by omega, show ¬ w = 7 by omega, show ¬ w = 8 by omega, show ¬ w = 9 by omega]
    · simp (disch := omega) only [m_X12_told, Option.bind_some, plit, plit64, nI_add, pk_mul, if_true, if_false, or_true, true_or, oifT, Nat.one_ne_zero, ↓reduceIte, Nat.reduceLT, Nat.reduceLeDiff, Nat.reduceEqDiff, Nat.reduceAdd, Nat.reduceMul, Nat.reduceSub, Nat.reduceDiv, nI_eq, nI_leI, nI_ltI, yo_100, yr_100_0, yr_100_1, yr_100_2, yr_100_3, yr_100_4, yr_100_5, yr_100_6, yr_100_7, yr_100_8, yr_100_9, yr_100_10, yr_100_11, yr_100_12, yr_100_13, yr_100_14, yr_100_15, yr_100_16, yr_100_17, yr_100_18, yr_100_19, yr_100_20, yr_100_21, yr_100_22, yr_100_23, yr_100_24, yr_100_25, yr_100_26, yr_100_27, yr_100_28, ya_101, ya_102, ya_103, ya_104, ya_105, ya_106, ya_107, ya_108, ya_109, ya_110, ya_111, ya_112, ya_113, ya_114, ya_115, ya_116, ya_117, ya_118, ya_119, o1, o2, o3, o4, w6, w7, w8, w9]
  · have hx := out_in hr
    have o1 := outI 0 5 (by omega) (by omega) (by omega)
    have o2 := outI 10 13 (by omega) (by omega) (by omega)
    have o3 := outI 20 23 (by omega) (by omega) (by omega)
    have o4 := outI 30 35 (by omega) (by omega) (by omega)
    refine ⟨-nI 1, ?_, ?_⟩
    · rcases hx with hx | hx
      · simp (disch := omega) only [m_X11_told, m_X11_told_J22, m_X11_told_J50, m_X11_told_J78, m_X11_told_J114, Option.bind_some, plit, plit64, nI_add, pk_mul, if_true, if_false, or_true, true_or, oifT, Nat.one_ne_zero, ↓reduceIte, Nat.reduceLT, Nat.reduceLeDiff, Nat.reduceEqDiff, Nat.reduceAdd, Nat.reduceMul, Nat.reduceSub, Nat.reduceDiv, yo_10, yr_10_0, yr_10_1, yr_10_2, yr_10_3, yr_10_4, yr_10_5, yr_10_6, yr_10_7, yr_10_8, yr_10_9, yr_10_10, yr_10_11, yo_11, yr_11_0, yr_11_1, yr_11_2, yr_11_3, yr_11_4, yn_13, ya_13, yo_14, yr_14_0, yr_14_1, yr_14_2, yr_14_3, ya_15, ya_16, x_lt (x := a) (m := 1) (by omega), x_lt (x := a) (m := 10) (by omega), x_lt (x := a) (m := 20) (by omega), x_lt (x := a) (m := 30) (by omega), x_ne (x := a) (m := 0) (by omega), x_ne (x := a) (m := 1) (by omega), x_ne (x := a) (m := 2) (by omega), x_ne (x := a) (m := 3) (by omega), x_ne (x := a) (m := 4) (by omega), x_ne (x := a) (m := 5) (by omega), x_ne (x := a) (m := 6) (by omega), x_ne (x := a) (m := 7) (by omega), x_ne (x := a) (m := 8) (by omega), x_ne (x := a) (m := 9) (by omega)]
      · simp (disch := omega) only [m_X11_told, m_X11_told_J22, m_X11_told_J50, m_X11_told_J78, m_X11_told_J114, Option.bind_some, plit, plit64, nI_add, pk_mul, if_true, if_false, or_true, true_or, oifT, Nat.one_ne_zero, ↓reduceIte, Nat.reduceLT, Nat.reduceLeDiff, Nat.reduceEqDiff, Nat.reduceAdd, Nat.reduceMul, Nat.reduceSub, Nat.reduceDiv, yo_10, yr_10_0, yr_10_1, yr_10_2, yr_10_3, yr_10_4, yr_10_5, yr_10_6, yr_10_7, yr_10_8, yr_10_9, yr_10_10, yr_10_11, yo_11, yr_11_0, yr_11_1, yr_11_2, yr_11_3, yr_11_4, yn_13, ya_13, yo_14, yr_14_0, yr_14_1, yr_14_2, yr_14_3, ya_15, ya_16, x_nlt (x := a) (m := 1) (by omega), x_gt (x := a) (m := 4) (by omega), x_nlt (x := a) (m := 10) (by omega), x_ge (x := a) (m := 14) (by omega), x_nlt (x := a) (m := 20) (by omega), x_ge (x := a) (m := 24) (by omega), x_nlt (x := a) (m := 30) (by omega), x_ge (x := a) (m := 30 + c.pl.n) (by omega), x_ne (x := a) (m := 0) (by omega), x_ne (x := a) (m := 1) (by omega), x_ne (x := a) (m := 2) (by omega), x_ne (x := a) (m := 3) (by omega), x_ne (x := a) (m := 4) (by omega), x_ne (x := a) (m := 5) (by omega), x_ne (x := a) (m := 6) (by omega), x_ne (x := a) (m := 7) (by omega), x_ne (x := a) (m := 8) (by omega), x_ne (x := a) (m := 9) (by omega)]
    · simp (disch := omega) only [m_X12_told, Option.bind_some, plit, plit64, nI_add, pk_mul, if_true, if_false, or_true, true_or, oifT, Nat.one_ne_zero, ↓reduceIte, Nat.reduceLT, Nat.reduceLeDiff, Nat.reduceEqDiff, Nat.reduceAdd, Nat.reduceMul, Nat.reduceSub, Nat.reduceDiv, yo_100, yr_100_0, yr_100_1, yr_100_2, yr_100_3, yr_100_4, yr_100_5, yr_100_6, yr_100_7, yr_100_8, yr_100_9, yr_100_10, yr_100_11, yr_100_12, yr_100_13, yr_100_14, yr_100_15, yr_100_16, yr_100_17, yr_100_18, yr_100_19, yr_100_20, yr_100_21, yr_100_22, yr_100_23, yr_100_24, yr_100_25, yr_100_26, yr_100_27, yr_100_28, ya_101, ya_102, ya_103, ya_104, ya_105, ya_106, ya_107, ya_108, ya_109, ya_110, ya_111, ya_112, ya_113, ya_114, ya_115, ya_116, ya_117, ya_118, ya_119, o1, o2, o3, o4, x_ne (x := a) (m := 6) (by omega), x_ne (x := a) (m := 7) (by omega), x_ne (x := a) (m := 8) (by omega), x_ne (x := a) (m := 9) (by omega)]
end
