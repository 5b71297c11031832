-- the routes: legs, parts
def gb (lg k : Nat) : Nat := lg / 2 ^ k % 2
theorem gb_lt {lg k : Nat} : gb lg k < 2 := Nat.mod_lt _ (by decide)
theorem gb_tab : ∀ lg, lg < 16 → ∀ k, k < 4 → (nI lg >>> (nI k &&& 31)) &&& 1 = nI (gb lg k) := by decide +kernel
def sumL (P : PL) (lg : Nat) : Nat → Nat
  | 0 => 0
  | m + 1 => sumL P lg m + (if gb lg m = 0 then 0 else P.len m)
def pF (P : PL) (lg pr k : Nat) : UInt32 := FP.fdiv (FP.fmul (FP.i2f (nI pr)) (FP.i2f (nI (P.len k)))) (FP.i2f (nI (sumL P lg 4)))
theorem sumL_le {P : PL} {lg : Nat} (h : ∀ i, i < 4 → P.len i ≤ 9999) : ∀ m, m ≤ 4 → sumL P lg m ≤ 9999 * m
  | 0, _ => Nat.le_refl 0
  | m + 1, hm => by
    have i := sumL_le (lg := lg) h m (by omega)
    have j := h m (by omega)
    unfold sumL
    split <;> omega
theorem sumL_ge {P : PL} {lg k : Nat} (h : 1 ≤ P.len k) (hg : gb lg k = 1) : ∀ m, k < m → 1 ≤ sumL P lg m
  | m + 1, hm => by
    unfold sumL
    by_cases e : k = m
    · subst e
      rw [if_neg (by omega)]
      omega
    · have := sumL_ge h hg m (by omega)
      omega
section
variable {c : CS} {d : MS} {D : mM} {N k : Nat} {a : Int32} {P : PL}
theorem mk_D {j : Nat} : (mk c d D)[j + 120]? = D[j]? := rfl
theorem yd_o {j nm lg pr wt : Nat} (h : D[j]? = some (cRt nm lg pr wt)) : oO (mk c d D) (j + 120) 6 = some () := by
  unfold oO
  rw [mk_D, h]
  rfl
theorem yd_0 {j nm lg pr wt : Nat} (h : D[j]? = some (cRt nm lg pr wt)) : fI (mk c d D) (j + 120) 6 0 = some (nI nm) := by
  unfold fI fV
  rw [mk_D, h]
  rfl
theorem yd_1 {j nm lg pr wt : Nat} (h : D[j]? = some (cRt nm lg pr wt)) : fI (mk c d D) (j + 120) 6 1 = some (nI lg) := by
  unfold fI fV
  rw [mk_D, h]
  rfl
theorem yd_2 {j nm lg pr wt : Nat} (h : D[j]? = some (cRt nm lg pr wt)) : fI (mk c d D) (j + 120) 6 2 = some (nI pr) := by
  unfold fI fV
  rw [mk_D, h]
  rfl
theorem yd_3 {j nm lg pr wt : Nat} (h : D[j]? = some (cRt nm lg pr wt)) : fI (mk c d D) (j + 120) 6 3 = some (nI wt) := by
  unfold fI fV
  rw [mk_D, h]
  rfl
theorem ya_17r {i j : Nat} (h : i < 12) (e : c.pl.rts i = some (j + 120)) : aR 6 (mk c d D) 17 (nI i) = some (j + 120) := by
  unfold aR
  rw [ya_17 h, e]
  rfl
theorem gb_ite {lg k : Nat} : (if nI (gb lg k) = 1 then some (1 : Int32) else some 0) = some (nI (gb lg k)) := by
  have : gb lg k = 0 ∨ gb lg k = 1 := by have := gb_lt (lg := lg) (k := k); omega
  rcases this with e | e <;> rw [e] <;> rfl
theorem nI_gb {lg k : Nat} : nI (gb lg k) = 0 ↔ gb lg k = 0 := by
  have : gb lg k = 0 ∨ gb lg k = 1 := by have := gb_lt (lg := lg) (k := k); omega
  rcases this with e | e <;> rw [e] <;> decide
theorem xgoes {j nm lg pr wt k : Nat} (h : D[j]? = some (cRt nm lg pr wt)) (hl : lg ≤ 15) (hk : k < 4) : m_X6_goesOver (j + 120) (nI k) (mk c d D) = some (nI (gb lg k)) := by
  unfold m_X6_goesOver
  rw [yd_1 h, Option.bind_some, gb_tab lg (by omega) k hk]
  exact gb_ite
theorem yover {i l0 l1 l2 lg pr wt k : Nat} (h : RN d.now i l0 l1 l2 lg pr wt) (hi : i < 12) (hk : k < 4) : m_X12_isOver 100 (nI i) (nI k) (mk c d D) = some (nI (gb lg k)) := by
  have h3 := h.1.2.2.2.1
  have hl := h.2.2.1.2
  have e : m_X12_legs 100 (nI i) (mk c d D) = some (nI lg) := by
    simp (disch := omega) only [m_X12_legs, Option.bind_some, plit, plit64, nI_add, pk_mul, if_true, if_false, or_true, true_or, oifT, Nat.one_ne_zero, ↓reduceIte, Nat.reduceLT, Nat.reduceLeDiff, Nat.reduceEqDiff, Nat.reduceAdd, Nat.reduceMul, Nat.reduceSub, Nat.reduceDiv, yo_100, yr_100_0, yr_100_1, yr_100_2, yr_100_3, yr_100_4, yr_100_5, yr_100_6, yr_100_7, yr_100_8, yr_100_9, yr_100_10, yr_100_11, yr_100_12, yr_100_13, yr_100_14, yr_100_15, yr_100_16, yr_100_17, yr_100_18, yr_100_19, yr_100_20, yr_100_21, yr_100_22, yr_100_23, yr_100_24, yr_100_25, yr_100_26, yr_100_27, yr_100_28, ya_101, ya_102, ya_103, ya_104, ya_105, ya_106, ya_107, ya_108, ya_109, ya_110, ya_111, ya_112, ya_113, ya_114, ya_115, ya_116, ya_117, ya_118, ya_119, h3]
  unfold m_X12_isOver
  rw [yo_100, Option.bind_some, e, Option.bind_some, gb_tab lg (by omega) k hk]
  exact gb_ite
theorem yfee {i l0 l1 l2 lg pr wt : Nat} (h : RN d.now i l0 l1 l2 lg pr wt) (hi : i < 12) : m_X12_fee 100 (nI i) (mk c d D) = some (nI pr) := by
  have h3 := h.1.2.2.2.2.1
  simp (disch := omega) only [m_X12_fee, Option.bind_some, plit, plit64, nI_add, pk_mul, if_true, if_false, or_true, true_or, oifT, Nat.one_ne_zero, ↓reduceIte, Nat.reduceLT, Nat.reduceLeDiff, Nat.reduceEqDiff, Nat.reduceAdd, Nat.reduceMul, Nat.reduceSub, Nat.reduceDiv, yo_100, yr_100_0, yr_100_1, yr_100_2, yr_100_3, yr_100_4, yr_100_5, yr_100_6, yr_100_7, yr_100_8, yr_100_9, yr_100_10, yr_100_11, yr_100_12, yr_100_13, yr_100_14, yr_100_15, yr_100_16, yr_100_17, yr_100_18, yr_100_19, yr_100_20, yr_100_21, yr_100_22, yr_100_23, yr_100_24, yr_100_25, yr_100_26, yr_100_27, yr_100_28, ya_101, ya_102, ya_103, ya_104, ya_105, ya_106, ya_107, ya_108, ya_109, ya_110, ya_111, ya_112, ya_113, ya_114, ya_115, ya_116, ya_117, ya_118, ya_119, h3]
theorem ywanted {i l0 l1 l2 lg pr wt : Nat} (h : RN d.now i l0 l1 l2 lg pr wt) (hi : i < 12) : m_X12_wanted 100 (nI i) (mk c d D) = some (nI wt) := by
  have h3 := h.1.2.2.2.2.2
  simp (disch := omega) only [m_X12_wanted, Option.bind_some, plit, plit64, nI_add, pk_mul, if_true, if_false, or_true, true_or, oifT, Nat.one_ne_zero, ↓reduceIte, Nat.reduceLT, Nat.reduceLeDiff, Nat.reduceEqDiff, Nat.reduceAdd, Nat.reduceMul, Nat.reduceSub, Nat.reduceDiv, yo_100, yr_100_0, yr_100_1, yr_100_2, yr_100_3, yr_100_4, yr_100_5, yr_100_6, yr_100_7, yr_100_8, yr_100_9, yr_100_10, yr_100_11, yr_100_12, yr_100_13, yr_100_14, yr_100_15, yr_100_16, yr_100_17, yr_100_18, yr_100_19, yr_100_20, yr_100_21, yr_100_22, yr_100_23, yr_100_24, yr_100_25, yr_100_26, yr_100_27, yr_100_28, ya_101, ya_102, ya_103, ya_104, ya_105, ya_106, ya_107, ya_108, ya_109, ya_110, ya_111, ya_112, ya_113, ya_114, ya_115, ya_116, ya_117, ya_118, ya_119, h3]
theorem ylegs {i l0 l1 l2 lg pr wt : Nat} (h : RN d.now i l0 l1 l2 lg pr wt) (hi : i < 12) : m_X12_legs 100 (nI i) (mk c d D) = some (nI lg) := by
  have h3 := h.1.2.2.2.1
  simp (disch := omega) only [m_X12_legs, Option.bind_some, plit, plit64, nI_add, pk_mul, if_true, if_false, or_true, true_or, oifT, Nat.one_ne_zero, ↓reduceIte, Nat.reduceLT, Nat.reduceLeDiff, Nat.reduceEqDiff, Nat.reduceAdd, Nat.reduceMul, Nat.reduceSub, Nat.reduceDiv, yo_100, yr_100_0, yr_100_1, yr_100_2, yr_100_3, yr_100_4, yr_100_5, yr_100_6, yr_100_7, yr_100_8, yr_100_9, yr_100_10, yr_100_11, yr_100_12, yr_100_13, yr_100_14, yr_100_15, yr_100_16, yr_100_17, yr_100_18, yr_100_19, yr_100_20, yr_100_21, yr_100_22, yr_100_23, yr_100_24, yr_100_25, yr_100_26, yr_100_27, yr_100_28, ya_101, ya_102, ya_103, ya_104, ya_105, ya_106, ya_107, ya_108, ya_109, ya_110, ya_111, ya_112, ya_113, ya_114, ya_115, ya_116, ya_117, ya_118, ya_119, h3]
theorem pF_fin (hP : PR P d.now) {lg pr k : Nat} (p1 : 1 ≤ pr) (p2 : pr ≤ 9999) (hk : k < 4) (hs : 1 ≤ sumL P lg 4) : FP.Core.FFin (FP.fmul (FP.i2f (nI pr)) (FP.i2f (nI (P.len k)))) ∧ ∃ e f, FB e f (pF P lg pr k) ∧ 100 ≤ e ∧ e ≤ 154 :=
  part_f p1 p2 (hP.l hk).1 (hP.l hk).2 hs (sumL_le (fun i hi => (hP.l hi).2) 4 (by omega))
theorem xpart_go (hP : PR c.pl d.now) {j nm lg pr wt k : Nat} (h : D[j]? = some (cRt nm lg pr wt)) (hl : lg ≤ 15) (p1 : 1 ≤ pr) (p2 : pr ≤ 9999) (hk : k < 4) : ∀ n m : Nat, m ≤ 4 → 4 - m < n → m_X4_partOf_L5 N (mk c d D) n 14 (j + 120) (nI k) (nI (sumL c.pl lg m)) (nI m) = some (if gb lg k = 0 then FP.fconst0 else pF c.pl lg pr k) := by
  intro n
  induction n with
  | zero => intro m _ h; omega
  | succ n ih =>
    intro m hm hn
    unfold m_X4_partOf_L5
    by_cases e : m = 4
    · subst e
      rw [if_pos (by decide), yd_o h, Option.bind_some, xgoes h hl hk, Option.bind_some]
      by_cases g : gb lg k = 0
      · rw [if_pos (nI_gb.mpr g), if_pos g]
      · rw [if_neg (fun z => g (nI_gb.mp z)), if_neg g]
        have g1 : gb lg k = 1 := by have := gb_lt (lg := lg) (k := k); omega
        have s1 := sumL_ge (P := c.pl) (hP.l hk).1 g1 4 hk
        have s2 := sumL_le (P := c.pl) (lg := lg) (fun i hi => (hP.l hi).2) 4 (by omega)
        obtain ⟨f1, e, f, f2, f3, f4⟩ := pF_fin hP (lg := lg) p1 p2 hk s1
        rw [if_neg (by rw [show (0 : Int32) = nI 0 from rfl, nI_eq (by omega) (by omega)]; omega), yd_2 h, Option.bind_some, yr_14_0, Option.bind_some, ya_15 (by omega), Option.bind_some, oF_fin f1, Option.bind_some]
        have f2 := f2.fin
        unfold pF at f2 ⊢
        rw [oF_fin f2, Option.bind_some]
    · have ih := ih (m + 1) (by omega) (by omega)
      have es : sumL c.pl lg (m + 1) = sumL c.pl lg m + (if gb lg m = 0 then 0 else c.pl.len m) := rfl
      rw [if_neg (by rw [show (4 : Int32) = nI 4 from rfl, nI_leI (by omega) (by omega)]; omega), yd_o h, Option.bind_some, xgoes h hl (by omega), Option.bind_some]
      by_cases g : gb lg m = 0
      · rw [if_pos (nI_gb.mpr g)]
        rw [es, if_pos g] at ih
        unfold m_X4_partOf_J32
        rw [nI_1, Int32.add_zero]
        exact ih
      · rw [if_neg (fun z => g (nI_gb.mp z)), yr_14_0, Option.bind_some, ya_15 (by omega), Option.bind_some]
        rw [es, if_neg g] at ih
        unfold m_X4_partOf_J32
        rw [nI_1, nI_add]
        exact ih
theorem xpart (hN : 100 ≤ N) (hP : PR c.pl d.now) {j nm lg pr wt k : Nat} (h : D[j]? = some (cRt nm lg pr wt)) (hl : lg ≤ 15) (p1 : 1 ≤ pr) (p2 : pr ≤ 9999) (hk : k < 4) : m_X4_partOf N 14 (j + 120) (nI k) (mk c d D) = some (if gb lg k = 0 then FP.fconst0 else pF c.pl lg pr k) :=
  xpart_go (d := d) hP h hl p1 p2 hk N 0 (by omega) (by omega)
theorem ypart_go (hP : PR P d.now) {i l0 l1 l2 lg pr wt k : Nat} (h : RN d.now i l0 l1 l2 lg pr wt) (hi : i < 12) (hk : k < 4) (hg : gb lg k = 1) : ∀ n m : Nat, m ≤ 4 → 4 - m < n → m_X12_partOf_L5 N (mk c d D) n 100 (nI i) (nI k) (nI (sumL P lg m)) (nI m) = some (pF P lg pr k) := by
  intro n
  induction n with
  | zero => intro m _ h; omega
  | succ n ih =>
    intro m hm hn
    have p1 := h.2.2.2.1.1
    have p2 := h.2.2.2.1.2
    have al : ∀ q, q < 4 → aI 0 (mk c d D) 101 (42 + nI q) = some (nI (P.len q)) := fun q hq => by
      rw [show (42 : Int32) = nI 42 from rfl, nI_add, ya_101 (by omega), hP.l_ hq]
    unfold m_X12_partOf_L5
    by_cases e : m = 4
    · subst e
      have s1 := sumL_ge (P := P) (hP.l hk).1 hg 4 hk
      obtain ⟨f1, e, f, f2, f3, f4⟩ := pF_fin hP (lg := lg) p1 p2 hk s1
      rw [if_pos (by decide), yo_100, Option.bind_some, yfee h hi, Option.bind_some, yr_100_0, Option.bind_some, al k hk, Option.bind_some, oF_fin f1, Option.bind_some]
      have f2 := f2.fin
      unfold pF at f2 ⊢
      rw [oF_fin f2, Option.bind_some]
    · have ih := ih (m + 1) (by omega) (by omega)
      have es : sumL P lg (m + 1) = sumL P lg m + (if gb lg m = 0 then 0 else P.len m) := rfl
      rw [if_neg (by rw [show (4 : Int32) = nI 4 from rfl, nI_leI (by omega) (by omega)]; omega), yo_100, Option.bind_some, yover h hi (by omega), Option.bind_some]
      by_cases g : gb lg m = 0
      · rw [if_pos (nI_gb.mpr g)]
        rw [es, if_pos g] at ih
        unfold m_X12_partOf_J36
        rw [nI_1, Int32.add_zero]
        exact ih
      · rw [if_neg (fun z => g (nI_gb.mp z)), yr_100_0, Option.bind_some, al m (by omega), Option.bind_some]
        rw [es, if_neg g] at ih
        unfold m_X12_partOf_J36
        rw [nI_1, nI_add]
        exact ih
theorem ypart (hN : 100 ≤ N) (hP : PR P d.now) {i l0 l1 l2 lg pr wt k : Nat} (h : RN d.now i l0 l1 l2 lg pr wt) (hi : i < 12) (hk : k < 4) (hg : gb lg k = 1) : m_X12_partOf N 100 (nI i) (nI k) (mk c d D) = some (pF P lg pr k) :=
  ypart_go (c := c) (d := d) (D := D) hP h hi hk hg N 0 (by omega) (by omega)
-- which route
theorem route_w (hP : PR P d.now) (x : Int32) : (∃ i, i < P.rc ∧ x = nI i ∧ m_X11_within x (nI P.rc - nI 1) = some (nI 1) ∧ ∀ c, m_X12_isRoute 100 x (mk c d D) = some (nI 1)) ∨ (m_X11_within x (nI P.rc - nI 1) = some (nI 0) ∧ ∀ c, m_X12_isRoute 100 x (mk c d D) = some (nI 0)) := by
  have hr := hP.rc
  rcases rgS x P.rc with ⟨i, hi, rfl⟩ | ho
  · have e1 := wi_inS (k := i) (n := P.rc) hi
    have e2 := in_inS (k := i) (n := P.rc) hi
    refine Or.inl ⟨i, hi, rfl, e1, fun c => ?_⟩
    simp (disch := omega) only [m_X12_isRoute, Option.bind_some, plit, plit64, nI_add, pk_mul, if_true, if_false, or_true, true_or, oifT, Nat.one_ne_zero, ↓reduceIte, Nat.reduceLT, Nat.reduceLeDiff, Nat.reduceEqDiff, Nat.reduceAdd, Nat.reduceMul, Nat.reduceSub, Nat.reduceDiv, yo_100, yr_100_0, yr_100_1, yr_100_2, yr_100_3, yr_100_4, yr_100_5, yr_100_6, yr_100_7, yr_100_8, yr_100_9, yr_100_10, yr_100_11, yr_100_12, yr_100_13, yr_100_14, yr_100_15, yr_100_16, yr_100_17, yr_100_18, yr_100_19, yr_100_20, yr_100_21, yr_100_22, yr_100_23, yr_100_24, yr_100_25, yr_100_26, yr_100_27, yr_100_28, ya_101, ya_102, ya_103, ya_104, ya_105, ya_106, ya_107, ya_108, ya_109, ya_110, ya_111, ya_112, ya_113, ya_114, ya_115, ya_116, ya_117, ya_118, ya_119, hP.rc_, e2]
  · have e1 := wi_outS (x := x) (n := P.rc) ho
    have e2 := in_outS (x := x) (n := P.rc) ho
    refine Or.inr ⟨e1, fun c => ?_⟩
    simp (disch := omega) only [m_X12_isRoute, Option.bind_some, plit, plit64, nI_add, pk_mul, if_true, if_false, or_true, true_or, oifT, Nat.one_ne_zero, ↓reduceIte, Nat.reduceLT, Nat.reduceLeDiff, Nat.reduceEqDiff, Nat.reduceAdd, Nat.reduceMul, Nat.reduceSub, Nat.reduceDiv, yo_100, yr_100_0, yr_100_1, yr_100_2, yr_100_3, yr_100_4, yr_100_5, yr_100_6, yr_100_7, yr_100_8, yr_100_9, yr_100_10, yr_100_11, yr_100_12, yr_100_13, yr_100_14, yr_100_15, yr_100_16, yr_100_17, yr_100_18, yr_100_19, yr_100_20, yr_100_21, yr_100_22, yr_100_23, yr_100_24, yr_100_25, yr_100_26, yr_100_27, yr_100_28, ya_101, ya_102, ya_103, ya_104, ya_105, ya_106, ya_107, ya_108, ya_109, ya_110, ya_111, ya_112, ya_113, ya_114, ya_115, ya_116, ya_117, ya_118, ya_119, hP.rc_, e2]
theorem RO.get (h : RO c.pl d.now D) (hr : c.pl.rc ≤ 12) {i : Nat} (hi : i < c.pl.rc) : ∃ j l0 l1 l2 lg pr wt, (∀ d : MS, aR 6 (mk c d D) 17 (nI i) = some (j + 120)) ∧ D[j]? = some (cRt (nmN l0 l1 l2) lg pr wt) ∧ RN d.now i l0 l1 l2 lg pr wt := by
  obtain ⟨j, l0, l1, l2, lg, pr, wt, h1, h2, h3⟩ := h.2.1 i hi
  exact ⟨j, l0, l1, l2, lg, pr, wt, fun d => ya_17r (by omega) h1, h2, h3⟩
theorem p_part (h : RR c d D) (hN : 100 ≤ N) (a b : Int32) : ∃ r, m_X11_part N 10 a b (mk c d D) = some r ∧ m_X12_part N 100 a b (mk c d D) = some r := by
  have hP := h.1
  have hr := hP.rc
  rcases route_w (D := D) hP a with ⟨i, hi, rfl, e1, e2⟩ | ⟨e1, e2⟩
  · have e2 := e2 c
    obtain ⟨j, l0, l1, l2, lg, pr, wt, g1, g2, g3⟩ := RO.get h.2.1 hr hi
    have g1 := g1 d
    rcases rg b 3 with ⟨k, hk, rfl⟩ | ho
    · have e3 := wi_in (k := k) (m := 3) hk
      have e4 := isLeg_in hk
      have x1 := xpart (c := c) (N := N) hN hP g2 g3.2.2.1.2 g3.2.2.2.1.1 g3.2.2.2.1.2 (k := k) (by omega)
      have y1 := yover (c := c) (D := D) g3 (by omega) (k := k) (by omega)
      by_cases g : gb lg k = 0
      · rw [if_pos g] at x1
        refine ⟨nI 0, ?_, ?_⟩
        · have b1 := bits_f0 (N := N) (by omega)
          simp (disch := omega) only [m_X11_part, Option.bind_some, plit, plit64, nI_add, pk_mul, if_true, if_false, or_true, true_or, oifT, Nat.one_ne_zero, ↓reduceIte, Nat.reduceLT, Nat.reduceLeDiff, Nat.reduceEqDiff, Nat.reduceAdd, Nat.reduceMul, Nat.reduceSub, Nat.reduceDiv, nI_eq, nI_leI, nI_ltI, nI_neg, neg_eq, yo_10, yr_10_0, yr_10_1, yr_10_2, yr_10_3, yr_10_4, yr_10_5, yr_10_6, yr_10_7, yr_10_8, yr_10_9, yr_10_10, yr_10_11, yo_11, yr_11_0, yr_11_1, yr_11_2, yr_11_3, yr_11_4, yn_13, ya_13, yo_14, yr_14_0, yr_14_1, yr_14_2, yr_14_3, ya_15, ya_16, e1, e3, g1, x1]
          rw [b1]
          rfl
        · rw [g] at y1
          simp (disch := omega) only [m_X12_part, Option.bind_some, plit, plit64, nI_add, pk_mul, if_true, if_false, or_true, true_or, oifT, Nat.one_ne_zero, ↓reduceIte, Nat.reduceLT, Nat.reduceLeDiff, Nat.reduceEqDiff, Nat.reduceAdd, Nat.reduceMul, Nat.reduceSub, Nat.reduceDiv, nI_eq, nI_leI, nI_ltI, nI_neg, neg_eq, yo_100, yr_100_0, yr_100_1, yr_100_2, yr_100_3, yr_100_4, yr_100_5, yr_100_6, yr_100_7, yr_100_8, yr_100_9, yr_100_10, yr_100_11, yr_100_12, yr_100_13, yr_100_14, yr_100_15, yr_100_16, yr_100_17, yr_100_18, yr_100_19, yr_100_20, yr_100_21, yr_100_22, yr_100_23, yr_100_24, yr_100_25, yr_100_26, yr_100_27, yr_100_28, ya_101, ya_102, ya_103, ya_104, ya_105, ya_106, ya_107, ya_108, ya_109, ya_110, ya_111, ya_112, ya_113, ya_114, ya_115, ya_116, ya_117, ya_118, ya_119, e2, e4, y1]
      · rw [if_neg g] at x1
        have gg : gb lg k = 1 := by have := gb_lt (lg := lg) (k := k); omega
        have s1 := sumL_ge (P := c.pl) (hP.l (i := k) (by omega)).1 gg 4 (by omega)
        obtain ⟨f1, e, f, f2, f3, f4⟩ := pF_fin hP (lg := lg) g3.2.2.2.1.1 g3.2.2.2.1.2 (k := k) (by omega) s1
        have b1 := bits_f (N := N) (by omega) f2 (by omega)
        have b2 := fib f2.fin
        have y2 := ypart (c := c) (D := D) (N := N) hN hP g3 (by omega) (k := k) (by omega) gg
        rw [gg] at y1
        refine ⟨(pF c.pl lg pr k).toInt32, ?_, ?_⟩
        · simp (disch := omega) only [m_X11_part, Option.bind_some, plit, plit64, nI_add, pk_mul, if_true, if_false, or_true, true_or, oifT, Nat.one_ne_zero, ↓reduceIte, Nat.reduceLT, Nat.reduceLeDiff, Nat.reduceEqDiff, Nat.reduceAdd, Nat.reduceMul, Nat.reduceSub, Nat.reduceDiv, nI_eq, nI_leI, nI_ltI, nI_neg, neg_eq, yo_10, yr_10_0, yr_10_1, yr_10_2, yr_10_3, yr_10_4, yr_10_5, yr_10_6, yr_10_7, yr_10_8, yr_10_9, yr_10_10, yr_10_11, yo_11, yr_11_0, yr_11_1, yr_11_2, yr_11_3, yr_11_4, yn_13, ya_13, yo_14, yr_14_0, yr_14_1, yr_14_2, yr_14_3, ya_15, ya_16, e1, e3, g1, yo_14, x1, b1]
        · simp (disch := omega) only [m_X12_part, Option.bind_some, plit, plit64, nI_add, pk_mul, if_true, if_false, or_true, true_or, oifT, Nat.one_ne_zero, ↓reduceIte, Nat.reduceLT, Nat.reduceLeDiff, Nat.reduceEqDiff, Nat.reduceAdd, Nat.reduceMul, Nat.reduceSub, Nat.reduceDiv, nI_eq, nI_leI, nI_ltI, nI_neg, neg_eq, yo_100, yr_100_0, yr_100_1, yr_100_2, yr_100_3, yr_100_4, yr_100_5, yr_100_6, yr_100_7, yr_100_8, yr_100_9, yr_100_10, yr_100_11, yr_100_12, yr_100_13, yr_100_14, yr_100_15, yr_100_16, yr_100_17, yr_100_18, yr_100_19, yr_100_20, yr_100_21, yr_100_22, yr_100_23, yr_100_24, yr_100_25, yr_100_26, yr_100_27, yr_100_28, ya_101, ya_102, ya_103, ya_104, ya_105, ya_106, ya_107, ya_108, ya_109, ya_110, ya_111, ya_112, ya_113, ya_114, ya_115, ya_116, ya_117, ya_118, ya_119, e2, e4, y1, y2, b2]
    · have e3 := wi_out (x := b) (m := 3) ho
      have e4 := isLeg_out (x := b) ho
      refine ⟨-nI 1, ?_, ?_⟩
      · simp (disch := omega) only [m_X11_part, Option.bind_some, plit, plit64, nI_add, pk_mul, if_true, if_false, or_true, true_or, oifT, Nat.one_ne_zero, ↓reduceIte, Nat.reduceLT, Nat.reduceLeDiff, Nat.reduceEqDiff, Nat.reduceAdd, Nat.reduceMul, Nat.reduceSub, Nat.reduceDiv, nI_eq, nI_leI, nI_ltI, nI_neg, neg_eq, yo_10, yr_10_0, yr_10_1, yr_10_2, yr_10_3, yr_10_4, yr_10_5, yr_10_6, yr_10_7, yr_10_8, yr_10_9, yr_10_10, yr_10_11, yo_11, yr_11_0, yr_11_1, yr_11_2, yr_11_3, yr_11_4, yn_13, ya_13, yo_14, yr_14_0, yr_14_1, yr_14_2, yr_14_3, ya_15, ya_16, e1, e3]
      · simp (disch := omega) only [m_X12_part, Option.bind_some, plit, plit64, nI_add, pk_mul, if_true, if_false, or_true, true_or, oifT, Nat.one_ne_zero, ↓reduceIte, Nat.reduceLT, Nat.reduceLeDiff, Nat.reduceEqDiff, Nat.reduceAdd, Nat.reduceMul, Nat.reduceSub, Nat.reduceDiv, nI_eq, nI_leI, nI_ltI, nI_neg, neg_eq, yo_100, yr_100_0, yr_100_1, yr_100_2, yr_100_3, yr_100_4, yr_100_5, yr_100_6, yr_100_7, yr_100_8, yr_100_9, yr_100_10, yr_100_11, yr_100_12, yr_100_13, yr_100_14, yr_100_15, yr_100_16, yr_100_17, yr_100_18, yr_100_19, yr_100_20, yr_100_21, yr_100_22, yr_100_23, yr_100_24, yr_100_25, yr_100_26, yr_100_27, yr_100_28, ya_101, ya_102, ya_103, ya_104, ya_105, ya_106, ya_107, ya_108, ya_109, ya_110, ya_111, ya_112, ya_113, ya_114, ya_115, ya_116, ya_117, ya_118, ya_119, e2, e4]
  · have e2 := e2 c
    refine ⟨-nI 1, ?_, ?_⟩
    · simp (disch := omega) only [m_X11_part, Option.bind_some, plit, plit64, nI_add, pk_mul, if_true, if_false, or_true, true_or, oifT, Nat.one_ne_zero, ↓reduceIte, Nat.reduceLT, Nat.reduceLeDiff, Nat.reduceEqDiff, Nat.reduceAdd, Nat.reduceMul, Nat.reduceSub, Nat.reduceDiv, nI_eq, nI_leI, nI_ltI, nI_neg, neg_eq, yo_10, yr_10_0, yr_10_1, yr_10_2, yr_10_3, yr_10_4, yr_10_5, yr_10_6, yr_10_7, yr_10_8, yr_10_9, yr_10_10, yr_10_11, yo_11, yr_11_0, yr_11_1, yr_11_2, yr_11_3, yr_11_4, yn_13, ya_13, yo_14, yr_14_0, yr_14_1, yr_14_2, yr_14_3, ya_15, ya_16, e1]
    · simp (disch := omega) only [m_X12_part, Option.bind_some, plit, plit64, nI_add, pk_mul, if_true, if_false, or_true, true_or, oifT, Nat.one_ne_zero, ↓reduceIte, Nat.reduceLT, Nat.reduceLeDiff, Nat.reduceEqDiff, Nat.reduceAdd, Nat.reduceMul, Nat.reduceSub, Nat.reduceDiv, nI_eq, nI_leI, nI_ltI, nI_neg, neg_eq, yo_100, yr_100_0, yr_100_1, yr_100_2, yr_100_3, yr_100_4, yr_100_5, yr_100_6, yr_100_7, yr_100_8, yr_100_9, yr_100_10, yr_100_11, yr_100_12, yr_100_13, yr_100_14, yr_100_15, yr_100_16, yr_100_17, yr_100_18, yr_100_19, yr_100_20, yr_100_21, yr_100_22, yr_100_23, yr_100_24, yr_100_25, yr_100_26, yr_100_27, yr_100_28, ya_101, ya_102, ya_103, ya_104, ya_105, ya_106, ya_107, ya_108, ya_109, ya_110, ya_111, ya_112, ya_113, ya_114, ya_115, ya_116, ya_117, ya_118, ya_119, e2]
end
