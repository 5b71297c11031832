-- the image
theorem cpy_nI {f g : Nat → Nat} {n : Nat} : va_cpy (fun j => nI (f j)) (fun j => nI (g j)) 0 0 n = fun j => nI (va_cpy f g 0 0 n j) := by
  funext j
  unfold va_cpy
  split <;> rfl
theorem cpy_at {f g : Nat → Nat} {n j : Nat} (h : j < n) : va_cpy f g 0 0 n j = f j := by
  unfold va_cpy
  rw [if_pos (by omega)]
  congr 1
  omega
/-- alike, as far as the numbers count -/
def PLike (Q P : PL) : Prop := Q.n = P.n ∧ (∀ i, i < 4 → Q.rules i = P.rules i) ∧ Q.rc = P.rc ∧ (∀ i, i < 6 → Q.kind i = P.kind i ∧ Q.price i = P.price i ∧ Q.hand i = P.hand i ∧ ∀ j, j < 4 → Q.odds i j = P.odds i j) ∧ (∀ i, i < 4 → Q.len i = P.len i) ∧ (∀ i, i < 4 → Q.free i = P.free i) ∧ (∀ i, i < 12 → Q.rts i = P.rts i) ∧ Q.seed = P.seed
theorem PR.like2 {P Q : PL} {now now2 : Nat → Int32} (h : PR P now) (l : PLike Q P) (e : ∀ z, z < 129 → now2 z = now z) : PR Q now2 := by
  have hn := h.n
  unfold PR
  refine ⟨⟨by rw [l.1]; exact hn, by rw [l.1, e _ (by omega)]; exact h.n_⟩, fun i hi => by rw [l.2.1 i hi, e _ (by omega)]; exact ⟨h.r hi, h.r_ hi⟩, by rw [l.2.2.1, e _ (by omega)]; exact ⟨h.rc, h.rc_⟩, fun i hi => by rw [(l.2.2.2.1 i hi).1, e _ (by omega)]; exact ⟨h.k hi, h.k_ hi⟩, fun i hi => by rw [(l.2.2.2.1 i hi).2.1, e _ (by omega)]; exact ⟨h.p hi, h.p_ hi⟩, fun i hi => by rw [(l.2.2.2.1 i hi).2.2.1, e _ (by omega)]; exact ⟨h.h hi, h.h_ hi⟩, fun i hi j hj => by rw [(l.2.2.2.1 i hi).2.2.2 j hj, e _ (by omega)]; exact ⟨h.o hi hj, h.o_ hi hj⟩, fun i hi => by rw [l.2.2.2.2.1 i hi, e _ (by omega)]; exact ⟨h.l hi, h.l_ hi⟩, fun i hi => by rw [l.2.2.2.2.2.1 i hi, e _ (by omega)]; exact ⟨h.f hi, h.f_ hi⟩, by rw [l.2.2.2.2.2.2.2, e _ (by omega)]; exact h.s_, fun i hi => ?_, fun j hj => ?_⟩
  · rw [l.1] at hi
    rw [(l.2.2.2.1 i (by omega)).2.1]
    exact h.pp hi
  · rw [l.1, osum_congr (o2 := P.odds) P.n (fun i hi => (l.2.2.2.1 i (by omega)).2.2.2 j hj)]
    exact h.os hj
theorem RO.like2 {P Q : PL} {now now2 : Nat → Int32} {D : mM} (h : RO P now D) (hr : P.rc ≤ 12) (l : PLike Q P) (e : ∀ z, z < 129 → now2 z = now z) : RO Q now2 D := by
  unfold RO
  rw [l.2.2.1]
  refine ⟨fun i hi => by rw [l.2.2.2.2.2.2.1 i hi]; exact h.1 i hi, fun i hi => ?_, fun i hi l0 l1 l2 lg pr wt k0 k1 k2 mg qr xt x y => ?_⟩
  · obtain ⟨j, l0, l1, l2, lg, pr, wt, x, y, z⟩ := h.2.1 i hi
    rw [l.2.2.2.2.2.2.1 i (by omega)]
    exact ⟨j, l0, l1, l2, lg, pr, wt, x, y, z.like fun z hz => e _ (by omega)⟩
  · exact h.2.2 i hi l0 l1 l2 lg pr wt k0 k1 k2 mg qr xt (x.like fun z hz => (e _ (by omega)).symm) (y.like fun z hz => (e _ (by omega)).symm)
/-- a reference that an array of routes may hold -/
def okR (D : mM) (x : Option Nat) : Prop := x = none ∨ ∃ j nm lg pr wt, x = some (j + 120) ∧ D[j]? = some (cRt nm lg pr wt)
section
variable {c : CS} {d : MS} {D : mM} {N k : Nat} {a : Int32} {P : PL}
theorem mkD {j : Nat} : (mk c d D)[j + 120]? = D[j]? := rfl
theorem yuQ_17 {i : Nat} {x : Option Nat} (hi : i < 12) (h : okR D x) : uQ 6 6 (mk c d D) 17 (nI i) x = some (mk (c.s_pl (c.pl.s_rts (va_up c.pl.rts i x))) d D) := by
  have e : ∀ y, (mk c d D).set 17 (.inl (6, 12, .inr (.inr (.inr (.inr y))))) = mk (c.s_pl (c.pl.s_rts (y))) d D := fun y => rfl
  have e0 : (mk c d D)[17]? = some (.inl (6, 12, .inr (.inr (.inr (.inr c.pl.rts))))) := rfl
  unfold uQ
  rw [e0]
  simp only [if_true]
  rw [if_neg (vp_in_nI hi (by decide)), nI_clamp (by omega)]
  rcases h with rfl | ⟨j, nm, lg, pr, wt, rfl, h2⟩
  · simp only [e]
  · simp only [mkD, h2, cRt, if_true, e]
theorem yuQ_36 {i : Nat} {x : Option Nat} (hi : i < 12) (h : okR D x) : uQ 6 6 (mk c d D) 36 (nI i) x = some (mk (c.s_pic (c.pic.s_rts (va_up c.pic.rts i x))) d D) := by
  have e : ∀ y, (mk c d D).set 36 (.inl (6, 12, .inr (.inr (.inr (.inr y))))) = mk (c.s_pic (c.pic.s_rts (y))) d D := fun y => rfl
  have e0 : (mk c d D)[36]? = some (.inl (6, 12, .inr (.inr (.inr (.inr c.pic.rts))))) := rfl
  unfold uQ
  rw [e0]
  simp only [if_true]
  rw [if_neg (vp_in_nI hi (by decide)), nI_clamp (by omega)]
  rcases h with rfl | ⟨j, nm, lg, pr, wt, rfl, h2⟩
  · simp only [e]
  · simp only [mkD, h2, cRt, if_true, e]
theorem yuQ_79 {i : Nat} {x : Option Nat} (hi : i < 12) (h : okR D x) : uQ 6 6 (mk c d D) 79 (nI i) x = some (mk (c.s_tread (va_up c.tread i x)) d D) := by
  have e : ∀ y, (mk c d D).set 79 (.inl (6, 12, .inr (.inr (.inr (.inr y))))) = mk (c.s_tread (y)) d D := fun y => rfl
  have e0 : (mk c d D)[79]? = some (.inl (6, 12, .inr (.inr (.inr (.inr c.tread))))) := rfl
  unfold uQ
  rw [e0]
  simp only [if_true]
  rw [if_neg (vp_in_nI hi (by decide)), nI_clamp (by omega)]
  rcases h with rfl | ⟨j, nm, lg, pr, wt, rfl, h2⟩
  · simp only [e]
  · simp only [mkD, h2, cRt, if_true, e]
theorem iS_rules {f : Nat → Nat} : (mk c d D).set 32 (.inl (0, 4, .inl (fun i => nI (f i)))) = mk (c.s_pic (c.pic.s_rules f)) d D := rfl
theorem iS_len {f : Nat → Nat} : (mk c d D).set 34 (.inl (0, 4, .inl (fun i => nI (f i)))) = mk (c.s_pic (c.pic.s_len f)) d D := rfl
theorem iS_free {f : Nat → Nat} : (mk c d D).set 35 (.inl (0, 4, .inl (fun i => nI (f i)))) = mk (c.s_pic (c.pic.s_free f)) d D := rfl
theorem iX_rules : cpI (mk c d D) 13 (nI 0) 32 (nI 0) (nI 4) = some (mk (c.s_pic (c.pic.s_rules (va_cpy c.pl.rules c.pic.rules 0 0 4))) d D) := by
  rw [cpI_z (f := fun i => nI (c.pl.rules i)) (g := fun i => nI (c.pic.rules i)) (by omega) rfl rfl, cpy_nI, iS_rules]
theorem iX_len : cpI (mk c d D) 15 (nI 0) 34 (nI 0) (nI 4) = some (mk (c.s_pic (c.pic.s_len (va_cpy c.pl.len c.pic.len 0 0 4))) d D) := by
  rw [cpI_z (f := fun i => nI (c.pl.len i)) (g := fun i => nI (c.pic.len i)) (by omega) rfl rfl, cpy_nI, iS_len]
theorem iX_free : cpI (mk c d D) 16 (nI 0) 35 (nI 0) (nI 4) = some (mk (c.s_pic (c.pic.s_free (va_cpy c.pl.free c.pic.free 0 0 4))) d D) := by
  rw [cpI_z (f := fun i => nI (c.pl.free i)) (g := fun i => nI (c.pic.free i)) (by omega) rfl rfl, cpy_nI, iS_free]
theorem iX_odds {i : Nat} (hi : i < 6) : cpI (mk c d D) (19 + 2 * i) (nI 0) (38 + 2 * i) (nI 0) (nI 4) = some (mk (c.s_pic (c.pic.s_odds (va_up c.pic.odds i (va_cpy (c.pl.odds i) (c.pic.odds i) 0 0 4)))) d D) := by
  rw [cpI_z (f := fun j => nI (c.pl.odds i j)) (g := fun j => nI (c.pic.odds i j)) (by omega) (yfc hi) (yfcq hi), cpy_nI, yfosq hi]
theorem iX_routes (ho : ∀ i, i < 12 → okR D (c.pl.rts i)) : ∀ (n i : Nat) (c2 : CS), c2.pl = c.pl → i ≤ 12 → 12 - i < n → ∃ g : Nat → Option Nat, m_X4_become_L30 N n 33 14 (nI i) (mk c2 d D) = some (mk (c2.s_pic ((c2.pic.s_rts g).s_rc c.pl.rc)) d D) ∧ (∀ q, q < 12 → g q = if i ≤ q then c.pl.rts q else c2.pic.rts q) := by
  intro n
  induction n with
  | zero => intro i c2 _ _ h; omega
  | succ n ih =>
    intro i c2 hc hi hn
    unfold m_X4_become_L30
    by_cases h4 : i = 12
    · subst h4
      refine ⟨c2.pic.rts, ?_, fun q hq => by rw [if_neg (by omega)]⟩
      simp (disch := omega) only [Option.bind_some, plit, plit64, nI_add, pk_mul, if_true, if_false, or_true, true_or, oifT, Nat.one_ne_zero, ↓reduceIte, Nat.reduceLT, Nat.reduceLeDiff, Nat.reduceEqDiff, Nat.reduceAdd, Nat.reduceMul, Nat.reduceSub, Nat.reduceDiv, nI_eq, nI_leI, nI_ltI, nI_neg, neg_eq, yo_10, yr_10_0, yr_10_1, yr_10_2, yr_10_3, yr_10_4, yr_10_5, yr_10_6, yr_10_7, yr_10_8, yr_10_9, yr_10_10, yr_10_11, yo_11, yr_11_0, yr_11_1, yr_11_2, yr_11_3, yr_11_4, yn_13, ya_13, yo_14, yr_14_0, yr_14_1, yr_14_2, yr_14_3, ya_15, ya_16, yr_33_0, yr_33_1, yr_33_2, yr_33_3, Nat.le_refl, yw_33_3, hc]
      rfl
    · have h0 := ho i (by omega)
      rw [← hc] at h0
      obtain ⟨g, h1, h2⟩ := ih (i + 1) (c2.s_pic (c2.pic.s_rts (va_up c2.pic.rts i (c2.pl.rts i)))) hc (by omega) (by omega)
      refine ⟨g, ?_, fun q hq => ?_⟩
      · simp (disch := first | exact h0 | omega) only [Option.bind_some, plit, plit64, nI_add, pk_mul, if_true, if_false, or_true, true_or, oifT, Nat.one_ne_zero, ↓reduceIte, Nat.reduceLT, Nat.reduceLeDiff, Nat.reduceEqDiff, Nat.reduceAdd, Nat.reduceMul, Nat.reduceSub, Nat.reduceDiv, nI_eq, nI_leI, nI_ltI, nI_neg, neg_eq, yo_10, yr_10_0, yr_10_1, yr_10_2, yr_10_3, yr_10_4, yr_10_5, yr_10_6, yr_10_7, yr_10_8, yr_10_9, yr_10_10, yr_10_11, yo_11, yr_11_0, yr_11_1, yr_11_2, yr_11_3, yr_11_4, yn_13, ya_13, yo_14, yr_14_0, yr_14_1, yr_14_2, yr_14_3, ya_15, ya_16, yr_33_0, yr_33_1, yr_33_2, yr_33_3, ya_17, ya_36, yuQ_36, show ¬ 12 ≤ i by omega]
        rw [h1]
        rfl
      · rw [h2 q hq]
        show (if i + 1 ≤ q then c.pl.rts q else va_up c2.pic.rts i (c2.pl.rts i) q) = _
        by_cases h : i + 1 ≤ q
        · rw [if_pos h, if_pos (by omega)]
        · rw [if_neg h]
          by_cases h5 : q = i
          · subst h5
            rw [if_pos (by omega), upe, hc]
          · rw [upn h5, if_neg (by omega)]
theorem iX_fare {i : Nat} (hi : i < 6) : m_X2_become (37 + 2 * i) (18 + 2 * i) (mk c d D) = some (mk (c.s_pic ((((c.pic.s_kind (va_up c.pic.kind i (c.pl.kind i))).s_price (va_up c.pic.price i (c.pl.price i))).s_hand (va_up c.pic.hand i (c.pl.hand i))).s_odds (va_up c.pic.odds i (va_cpy (c.pl.odds i) (c.pic.odds i) 0 0 4)))) d D) := by
  simp (disch := omega) only [m_X2_become, Option.bind_some, plit, plit64, nI_add, pk_mul, if_true, if_false, or_true, true_or, oifT, Nat.one_ne_zero, ↓reduceIte, Nat.reduceLT, Nat.reduceLeDiff, Nat.reduceEqDiff, Nat.reduceAdd, Nat.reduceMul, Nat.reduceSub, Nat.reduceDiv, yf_0, yf_1, yf_2, yf_3, yfq_3, yfwq_0, yfwq_1, yfwq_2, iX_odds, pCS_pic, qCS_pic, pPL_kind, pPL_price, pPL_hand]
theorem iX_become (ho : ∀ i, i < 12 → okR D (c.pl.rts i)) (hN : 100 ≤ N) : ∀ (n i : Nat) (c2 : CS), c2.pl = c.pl → i ≤ 6 → 6 - i < n → (∀ k, k < i → c2.pic.kind k = c.pl.kind k ∧ c2.pic.price k = c.pl.price k ∧ c2.pic.hand k = c.pl.hand k ∧ ∀ j, j < 4 → c2.pic.odds k j = c.pl.odds k j) → ∃ Q : PL, m_X5_become_L2 N n 30 11 (nI i) (mk c2 d D) = some (mk (c2.s_pic Q) d D) ∧ PLike Q c.pl := by
  intro n
  induction n with
  | zero => intro i c2 _ _ h; omega
  | succ n ih =>
    intro i c2 hc hi hn hk
    unfold m_X5_become_L2
    by_cases h4 : i = 6
    · subst h4
      obtain ⟨g, g1, g2⟩ := iX_routes (d := d) (N := N) ho N 0 (c2.s_pic ((((c2.pic.s_n c2.pl.n).s_rules (va_cpy c2.pl.rules c2.pic.rules 0 0 4)).s_len (va_cpy c2.pl.len c2.pic.len 0 0 4)).s_free (va_cpy c2.pl.free c2.pic.free 0 0 4))) hc (by omega) (by omega)
      refine ⟨(((((((c2.pic.s_n c2.pl.n).s_rules (va_cpy c2.pl.rules c2.pic.rules 0 0 4)).s_len (va_cpy c2.pl.len c2.pic.len 0 0 4)).s_free (va_cpy c2.pl.free c2.pic.free 0 0 4)).s_rts g).s_rc c.pl.rc).s_seed c2.pl.seed), ?_, ?_⟩
      · simp only [pCS_pic, qCS_pic] at g1
        simp (disch := omega) only [m_X4_become, Option.bind_some, plit, plit64, nI_add, pk_mul, if_true, if_false, or_true, true_or, oifT, Nat.one_ne_zero, ↓reduceIte, Nat.reduceLT, Nat.reduceLeDiff, Nat.reduceEqDiff, Nat.reduceAdd, Nat.reduceMul, Nat.reduceSub, Nat.reduceDiv, nI_eq, nI_leI, nI_ltI, nI_neg, neg_eq, yo_10, yr_10_0, yr_10_1, yr_10_2, yr_10_3, yr_10_4, yr_10_5, yr_10_6, yr_10_7, yr_10_8, yr_10_9, yr_10_10, yr_10_11, yo_11, yr_11_0, yr_11_1, yr_11_2, yr_11_3, yr_11_4, yn_13, ya_13, yo_14, yr_14_0, yr_14_1, yr_14_2, yr_14_3, ya_15, ya_16, yr_30_0, yr_30_1, yr_30_2, yr_30_3, yr_30_4, yr_33_0, yr_33_1, yr_33_2, yr_33_3, yo_33, yn_32, yn_13, Nat.le_refl, yw_30_1, yw_30_4, iX_rules, iX_len, iX_free, pCS_pic, qCS_pic, pPL_n, pPL_rules, pPL_len, pPL_free, show (nI 4) = nI 4 from rfl, g1]
      · have hk6 : ∀ k, k < 6 → _ := hk
        refine ⟨by show c2.pl.n = _; rw [hc], fun i hi => ?_, rfl, hk6, fun i hi => ?_, fun i hi => ?_, fun i hi => ?_, by show c2.pl.seed = _; rw [hc]⟩
        · show va_cpy c2.pl.rules c2.pic.rules 0 0 4 i = _
          rw [cpy_at hi, hc]
        · show va_cpy c2.pl.len c2.pic.len 0 0 4 i = _
          rw [cpy_at hi, hc]
        · show va_cpy c2.pl.free c2.pic.free 0 0 4 i = _
          rw [cpy_at hi, hc]
        · show g i = _
          rw [g2 i hi, if_pos (by omega)]
    · obtain ⟨Q, h1, h2⟩ := ih (i + 1) (c2.s_pic ((((c2.pic.s_kind (va_up c2.pic.kind i (c2.pl.kind i))).s_price (va_up c2.pic.price i (c2.pl.price i))).s_hand (va_up c2.pic.hand i (c2.pl.hand i))).s_odds (va_up c2.pic.odds i (va_cpy (c2.pl.odds i) (c2.pic.odds i) 0 0 4)))) hc (by omega) (by omega) (fun k hk2 => by
        show va_up c2.pic.kind i (c2.pl.kind i) k = _ ∧ va_up c2.pic.price i (c2.pl.price i) k = _ ∧ va_up c2.pic.hand i (c2.pl.hand i) k = _ ∧ ∀ j, j < 4 → va_up c2.pic.odds i (va_cpy (c2.pl.odds i) (c2.pic.odds i) 0 0 4) k j = _
        by_cases e : k = i
        · subst e
          rw [upe, upe, upe, upe, hc]
          exact ⟨rfl, rfl, rfl, fun j hj => cpy_at hj⟩
        · rw [upn e, upn e, upn e, upn e]
          exact hk k (by omega))
      refine ⟨Q, ?_, h2⟩
      simp (disch := omega) only [Option.bind_some, plit, plit64, nI_add, pk_mul, if_true, if_false, or_true, true_or, oifT, Nat.one_ne_zero, ↓reduceIte, Nat.reduceLT, Nat.reduceLeDiff, Nat.reduceEqDiff, Nat.reduceAdd, Nat.reduceMul, Nat.reduceSub, Nat.reduceDiv, nI_eq, nI_leI, nI_ltI, nI_neg, neg_eq, yo_10, yr_10_0, yr_10_1, yr_10_2, yr_10_3, yr_10_4, yr_10_5, yr_10_6, yr_10_7, yr_10_8, yr_10_9, yr_10_10, yr_10_11, yo_11, yr_11_0, yr_11_1, yr_11_2, yr_11_3, yr_11_4, yn_13, ya_13, yo_14, yr_14_0, yr_14_1, yr_14_2, yr_14_3, ya_15, ya_16, yr_30_0, yfar_R, yfarq_R, yfo, yfoq, show ¬ 6 ≤ i by omega, iX_fare]
      rw [h1]
      rfl
theorem uS_rules {f : Nat → Nat} : (mk c d D).set 13 (.inl (0, 4, .inl (fun i => nI (f i)))) = mk (c.s_pl (c.pl.s_rules f)) d D := rfl
theorem uS_len {f : Nat → Nat} : (mk c d D).set 15 (.inl (0, 4, .inl (fun i => nI (f i)))) = mk (c.s_pl (c.pl.s_len f)) d D := rfl
theorem uS_free {f : Nat → Nat} : (mk c d D).set 16 (.inl (0, 4, .inl (fun i => nI (f i)))) = mk (c.s_pl (c.pl.s_free f)) d D := rfl
theorem uX_rules : cpI (mk c d D) 32 (nI 0) 13 (nI 0) (nI 4) = some (mk (c.s_pl (c.pl.s_rules (va_cpy c.pic.rules c.pl.rules 0 0 4))) d D) := by
  rw [cpI_z (f := fun i => nI (c.pic.rules i)) (g := fun i => nI (c.pl.rules i)) (by omega) rfl rfl, cpy_nI, uS_rules]
theorem uX_len : cpI (mk c d D) 34 (nI 0) 15 (nI 0) (nI 4) = some (mk (c.s_pl (c.pl.s_len (va_cpy c.pic.len c.pl.len 0 0 4))) d D) := by
  rw [cpI_z (f := fun i => nI (c.pic.len i)) (g := fun i => nI (c.pl.len i)) (by omega) rfl rfl, cpy_nI, uS_len]
theorem uX_free : cpI (mk c d D) 35 (nI 0) 16 (nI 0) (nI 4) = some (mk (c.s_pl (c.pl.s_free (va_cpy c.pic.free c.pl.free 0 0 4))) d D) := by
  rw [cpI_z (f := fun i => nI (c.pic.free i)) (g := fun i => nI (c.pl.free i)) (by omega) rfl rfl, cpy_nI, uS_free]
theorem uX_odds {i : Nat} (hi : i < 6) : cpI (mk c d D) (38 + 2 * i) (nI 0) (19 + 2 * i) (nI 0) (nI 4) = some (mk (c.s_pl (c.pl.s_odds (va_up c.pl.odds i (va_cpy (c.pic.odds i) (c.pl.odds i) 0 0 4)))) d D) := by
  rw [cpI_z (f := fun j => nI (c.pic.odds i j)) (g := fun j => nI (c.pl.odds i j)) (by omega) (yfcq hi) (yfc hi), cpy_nI, yfos hi]
theorem uX_routes (ho : ∀ i, i < 12 → okR D (c.pic.rts i)) : ∀ (n i : Nat) (c2 : CS), c2.pic = c.pic → i ≤ 12 → 12 - i < n → ∃ g : Nat → Option Nat, m_X4_become_L30 N n 14 33 (nI i) (mk c2 d D) = some (mk (c2.s_pl ((c2.pl.s_rts g).s_rc c.pic.rc)) d D) ∧ (∀ q, q < 12 → g q = if i ≤ q then c.pic.rts q else c2.pl.rts q) := by
  intro n
  induction n with
  | zero => intro i c2 _ _ h; omega
  | succ n ih =>
    intro i c2 hc hi hn
    unfold m_X4_become_L30
    by_cases h4 : i = 12
    · subst h4
      refine ⟨c2.pl.rts, ?_, fun q hq => by rw [if_neg (by omega)]⟩
      simp (disch := omega) only [Option.bind_some, plit, plit64, nI_add, pk_mul, if_true, if_false, or_true, true_or, oifT, Nat.one_ne_zero, ↓reduceIte, Nat.reduceLT, Nat.reduceLeDiff, Nat.reduceEqDiff, Nat.reduceAdd, Nat.reduceMul, Nat.reduceSub, Nat.reduceDiv, nI_eq, nI_leI, nI_ltI, nI_neg, neg_eq, yo_10, yr_10_0, yr_10_1, yr_10_2, yr_10_3, yr_10_4, yr_10_5, yr_10_6, yr_10_7, yr_10_8, yr_10_9, yr_10_10, yr_10_11, yo_11, yr_11_0, yr_11_1, yr_11_2, yr_11_3, yr_11_4, yn_13, ya_13, yo_14, yr_14_0, yr_14_1, yr_14_2, yr_14_3, ya_15, ya_16, yr_33_0, yr_33_1, yr_33_2, yr_33_3, Nat.le_refl, yw_14_3, hc]
      rfl
    · have h0 := ho i (by omega)
      rw [← hc] at h0
      obtain ⟨g, h1, h2⟩ := ih (i + 1) (c2.s_pl (c2.pl.s_rts (va_up c2.pl.rts i (c2.pic.rts i)))) hc (by omega) (by omega)
      refine ⟨g, ?_, fun q hq => ?_⟩
      · simp (disch := first | exact h0 | omega) only [Option.bind_some, plit, plit64, nI_add, pk_mul, if_true, if_false, or_true, true_or, oifT, Nat.one_ne_zero, ↓reduceIte, Nat.reduceLT, Nat.reduceLeDiff, Nat.reduceEqDiff, Nat.reduceAdd, Nat.reduceMul, Nat.reduceSub, Nat.reduceDiv, nI_eq, nI_leI, nI_ltI, nI_neg, neg_eq, yo_10, yr_10_0, yr_10_1, yr_10_2, yr_10_3, yr_10_4, yr_10_5, yr_10_6, yr_10_7, yr_10_8, yr_10_9, yr_10_10, yr_10_11, yo_11, yr_11_0, yr_11_1, yr_11_2, yr_11_3, yr_11_4, yn_13, ya_13, yo_14, yr_14_0, yr_14_1, yr_14_2, yr_14_3, ya_15, ya_16, yr_33_0, yr_33_1, yr_33_2, yr_33_3, ya_17, ya_36, yuQ_17, show ¬ 12 ≤ i by omega]
        rw [h1]
        rfl
      · rw [h2 q hq]
        show (if i + 1 ≤ q then c.pic.rts q else va_up c2.pl.rts i (c2.pic.rts i) q) = _
        by_cases h : i + 1 ≤ q
        · rw [if_pos h, if_pos (by omega)]
        · rw [if_neg h]
          by_cases h5 : q = i
          · subst h5
            rw [if_pos (by omega), upe, hc]
          · rw [upn h5, if_neg (by omega)]
theorem uX_fare {i : Nat} (hi : i < 6) : m_X2_become (18 + 2 * i) (37 + 2 * i) (mk c d D) = some (mk (c.s_pl ((((c.pl.s_kind (va_up c.pl.kind i (c.pic.kind i))).s_price (va_up c.pl.price i (c.pic.price i))).s_hand (va_up c.pl.hand i (c.pic.hand i))).s_odds (va_up c.pl.odds i (va_cpy (c.pic.odds i) (c.pl.odds i) 0 0 4)))) d D) := by
  simp (disch := omega) only [m_X2_become, Option.bind_some, plit, plit64, nI_add, pk_mul, if_true, if_false, or_true, true_or, oifT, Nat.one_ne_zero, ↓reduceIte, Nat.reduceLT, Nat.reduceLeDiff, Nat.reduceEqDiff, Nat.reduceAdd, Nat.reduceMul, Nat.reduceSub, Nat.reduceDiv, yfq_0, yfq_1, yfq_2, yfq_3, yf_3, yfw_0, yfw_1, yfw_2, uX_odds, pCS_pl, qCS_pl, pPL_kind, pPL_price, pPL_hand]
theorem uX_become (ho : ∀ i, i < 12 → okR D (c.pic.rts i)) (hN : 100 ≤ N) : ∀ (n i : Nat) (c2 : CS), c2.pic = c.pic → i ≤ 6 → 6 - i < n → (∀ k, k < i → c2.pl.kind k = c.pic.kind k ∧ c2.pl.price k = c.pic.price k ∧ c2.pl.hand k = c.pic.hand k ∧ ∀ j, j < 4 → c2.pl.odds k j = c.pic.odds k j) → ∃ Q : PL, m_X5_become_L2 N n 11 30 (nI i) (mk c2 d D) = some (mk (c2.s_pl Q) d D) ∧ PLike Q c.pic := by
  intro n
  induction n with
  | zero => intro i c2 _ _ h; omega
  | succ n ih =>
    intro i c2 hc hi hn hk
    unfold m_X5_become_L2
    by_cases h4 : i = 6
    · subst h4
      obtain ⟨g, g1, g2⟩ := uX_routes (d := d) (N := N) ho N 0 (c2.s_pl ((((c2.pl.s_n c2.pic.n).s_rules (va_cpy c2.pic.rules c2.pl.rules 0 0 4)).s_len (va_cpy c2.pic.len c2.pl.len 0 0 4)).s_free (va_cpy c2.pic.free c2.pl.free 0 0 4))) hc (by omega) (by omega)
      refine ⟨(((((((c2.pl.s_n c2.pic.n).s_rules (va_cpy c2.pic.rules c2.pl.rules 0 0 4)).s_len (va_cpy c2.pic.len c2.pl.len 0 0 4)).s_free (va_cpy c2.pic.free c2.pl.free 0 0 4)).s_rts g).s_rc c.pic.rc).s_seed c2.pic.seed), ?_, ?_⟩
      · simp only [pCS_pl, qCS_pl] at g1
        simp (disch := omega) only [m_X4_become, Option.bind_some, plit, plit64, nI_add, pk_mul, if_true, if_false, or_true, true_or, oifT, Nat.one_ne_zero, ↓reduceIte, Nat.reduceLT, Nat.reduceLeDiff, Nat.reduceEqDiff, Nat.reduceAdd, Nat.reduceMul, Nat.reduceSub, Nat.reduceDiv, nI_eq, nI_leI, nI_ltI, nI_neg, neg_eq, yo_10, yr_10_0, yr_10_1, yr_10_2, yr_10_3, yr_10_4, yr_10_5, yr_10_6, yr_10_7, yr_10_8, yr_10_9, yr_10_10, yr_10_11, yo_11, yr_11_0, yr_11_1, yr_11_2, yr_11_3, yr_11_4, yn_13, ya_13, yo_14, yr_14_0, yr_14_1, yr_14_2, yr_14_3, ya_15, ya_16, yr_30_0, yr_30_1, yr_30_2, yr_30_3, yr_30_4, yr_33_0, yr_33_1, yr_33_2, yr_33_3, yo_33, yn_32, yn_13, Nat.le_refl, yw_11_1, yw_11_4, uX_rules, uX_len, uX_free, pCS_pl, qCS_pl, pPL_n, pPL_rules, pPL_len, pPL_free, show (nI 4) = nI 4 from rfl, g1]
      · have hk6 : ∀ k, k < 6 → _ := hk
        refine ⟨by show c2.pic.n = _; rw [hc], fun i hi => ?_, rfl, hk6, fun i hi => ?_, fun i hi => ?_, fun i hi => ?_, by show c2.pic.seed = _; rw [hc]⟩
        · show va_cpy c2.pic.rules c2.pl.rules 0 0 4 i = _
          rw [cpy_at hi, hc]
        · show va_cpy c2.pic.len c2.pl.len 0 0 4 i = _
          rw [cpy_at hi, hc]
        · show va_cpy c2.pic.free c2.pl.free 0 0 4 i = _
          rw [cpy_at hi, hc]
        · show g i = _
          rw [g2 i hi, if_pos (by omega)]
    · obtain ⟨Q, h1, h2⟩ := ih (i + 1) (c2.s_pl ((((c2.pl.s_kind (va_up c2.pl.kind i (c2.pic.kind i))).s_price (va_up c2.pl.price i (c2.pic.price i))).s_hand (va_up c2.pl.hand i (c2.pic.hand i))).s_odds (va_up c2.pl.odds i (va_cpy (c2.pic.odds i) (c2.pl.odds i) 0 0 4)))) hc (by omega) (by omega) (fun k hk2 => by
        show va_up c2.pl.kind i (c2.pic.kind i) k = _ ∧ va_up c2.pl.price i (c2.pic.price i) k = _ ∧ va_up c2.pl.hand i (c2.pic.hand i) k = _ ∧ ∀ j, j < 4 → va_up c2.pl.odds i (va_cpy (c2.pic.odds i) (c2.pl.odds i) 0 0 4) k j = _
        by_cases e : k = i
        · subst e
          rw [upe, upe, upe, upe, hc]
          exact ⟨rfl, rfl, rfl, fun j hj => cpy_at hj⟩
        · rw [upn e, upn e, upn e, upn e]
          exact hk k (by omega))
      refine ⟨Q, ?_, h2⟩
      simp (disch := omega) only [Option.bind_some, plit, plit64, nI_add, pk_mul, if_true, if_false, or_true, true_or, oifT, Nat.one_ne_zero, ↓reduceIte, Nat.reduceLT, Nat.reduceLeDiff, Nat.reduceEqDiff, Nat.reduceAdd, Nat.reduceMul, Nat.reduceSub, Nat.reduceDiv, nI_eq, nI_leI, nI_ltI, nI_neg, neg_eq, yo_10, yr_10_0, yr_10_1, yr_10_2, yr_10_3, yr_10_4, yr_10_5, yr_10_6, yr_10_7, yr_10_8, yr_10_9, yr_10_10, yr_10_11, yo_11, yr_11_0, yr_11_1, yr_11_2, yr_11_3, yr_11_4, yn_13, ya_13, yo_14, yr_14_0, yr_14_1, yr_14_2, yr_14_3, ya_15, ya_16, yr_30_0, yfar_R, yfarq_R, yfo, yfoq, show ¬ 6 ≤ i by omega, uX_fare]
      rw [h1]
      rfl
theorem ypour_go {X : Nat} : ∀ (n j : Nat) (d : MS), j ≤ 129 → 129 - j < n → ∃ g : Nat → Int32, m_X12_pours_L2 N n 101 102 (nI j) (mk c d D) = some (mk c (d.s_kept g) D) ∧ (∀ z, z < 129 → g z = if j ≤ z then d.now z else d.kept z) := by
  intro n
  induction n with
  | zero => intro j d _ h; omega
  | succ n ih =>
    intro j d hj hn
    unfold m_X12_pours_L2
    by_cases h4 : j = 129
    · subst h4
      refine ⟨d.kept, ?_, fun z hz => by rw [if_neg (by omega)]⟩
      simp (disch := omega) only [Option.bind_some, plit, plit64, nI_add, pk_mul, if_true, if_false, or_true, true_or, oifT, Nat.one_ne_zero, ↓reduceIte, Nat.reduceLT, Nat.reduceLeDiff, Nat.reduceEqDiff, Nat.reduceAdd, Nat.reduceMul, Nat.reduceSub, Nat.reduceDiv, nI_eq, nI_leI, nI_ltI, nI_neg, neg_eq, Nat.le_refl]
      rfl
    · obtain ⟨g, h1, h2⟩ := ih (j + 1) (d.s_kept (va_up d.kept j (d.now j))) (by omega) (by omega)
      refine ⟨g, ?_, fun z hz => ?_⟩
      · simp (disch := omega) only [Option.bind_some, plit, plit64, nI_add, pk_mul, if_true, if_false, or_true, true_or, oifT, Nat.one_ne_zero, ↓reduceIte, Nat.reduceLT, Nat.reduceLeDiff, Nat.reduceEqDiff, Nat.reduceAdd, Nat.reduceMul, Nat.reduceSub, Nat.reduceDiv, nI_eq, nI_leI, nI_ltI, nI_neg, neg_eq, yo_100, yr_100_0, yr_100_1, yr_100_2, yr_100_3, yr_100_4, yr_100_5, yr_100_6, yr_100_7, yr_100_8, yr_100_9, yr_100_10, yr_100_11, yr_100_12, yr_100_13, yr_100_14, yr_100_15, yr_100_16, yr_100_17, yr_100_18, yr_100_19, yr_100_20, yr_100_21, yr_100_22, yr_100_23, yr_100_24, yr_100_25, yr_100_26, yr_100_27, yr_100_28, ya_101, ya_102, ya_103, ya_104, ya_105, ya_106, ya_107, ya_108, ya_109, ya_110, ya_111, ya_112, ya_113, ya_114, ya_115, ya_116, ya_117, ya_118, ya_119, yw_100_2, yw_100_3, yw_100_5, yw_100_15, yw_100_20, yw_100_21, yw_100_22, yw_100_24, yw_100_25, yw_100_28, yu_101, yu_102, yu_103, yu_104, yu_105, yu_106, yu_107, yu_108, yu_109, yu_110, yu_111, yu_112, yu_113, yu_114, yu_115, yu_116, yu_117, yu_118, yu_119, show ¬ 129 ≤ j by omega]
        rw [h1]
        simp only [qMS_kept]
      · rw [h2 z hz]
        simp only [pMS_kept, va_up]
        repeat' split
        all_goals first | rfl | omega | (congr 1; omega)
theorem zpour_go {X : Nat} : ∀ (n j : Nat) (d : MS), j ≤ 129 → 129 - j < n → ∃ g : Nat → Int32, m_X12_pours_L2 N n 102 101 (nI j) (mk c d D) = some (mk c (d.s_now g) D) ∧ (∀ z, z < 129 → g z = if j ≤ z then d.kept z else d.now z) := by
  intro n
  induction n with
  | zero => intro j d _ h; omega
  | succ n ih =>
    intro j d hj hn
    unfold m_X12_pours_L2
    by_cases h4 : j = 129
    · subst h4
      refine ⟨d.now, ?_, fun z hz => by rw [if_neg (by omega)]⟩
      simp (disch := omega) only [Option.bind_some, plit, plit64, nI_add, pk_mul, if_true, if_false, or_true, true_or, oifT, Nat.one_ne_zero, ↓reduceIte, Nat.reduceLT, Nat.reduceLeDiff, Nat.reduceEqDiff, Nat.reduceAdd, Nat.reduceMul, Nat.reduceSub, Nat.reduceDiv, nI_eq, nI_leI, nI_ltI, nI_neg, neg_eq, Nat.le_refl]
      rfl
    · obtain ⟨g, h1, h2⟩ := ih (j + 1) (d.s_now (va_up d.now j (d.kept j))) (by omega) (by omega)
      refine ⟨g, ?_, fun z hz => ?_⟩
      · simp (disch := omega) only [Option.bind_some, plit, plit64, nI_add, pk_mul, if_true, if_false, or_true, true_or, oifT, Nat.one_ne_zero, ↓reduceIte, Nat.reduceLT, Nat.reduceLeDiff, Nat.reduceEqDiff, Nat.reduceAdd, Nat.reduceMul, Nat.reduceSub, Nat.reduceDiv, nI_eq, nI_leI, nI_ltI, nI_neg, neg_eq, yo_100, yr_100_0, yr_100_1, yr_100_2, yr_100_3, yr_100_4, yr_100_5, yr_100_6, yr_100_7, yr_100_8, yr_100_9, yr_100_10, yr_100_11, yr_100_12, yr_100_13, yr_100_14, yr_100_15, yr_100_16, yr_100_17, yr_100_18, yr_100_19, yr_100_20, yr_100_21, yr_100_22, yr_100_23, yr_100_24, yr_100_25, yr_100_26, yr_100_27, yr_100_28, ya_101, ya_102, ya_103, ya_104, ya_105, ya_106, ya_107, ya_108, ya_109, ya_110, ya_111, ya_112, ya_113, ya_114, ya_115, ya_116, ya_117, ya_118, ya_119, yw_100_2, yw_100_3, yw_100_5, yw_100_15, yw_100_20, yw_100_21, yw_100_22, yw_100_24, yw_100_25, yw_100_28, yu_101, yu_102, yu_103, yu_104, yu_105, yu_106, yu_107, yu_108, yu_109, yu_110, yu_111, yu_112, yu_113, yu_114, yu_115, yu_116, yu_117, yu_118, yu_119, show ¬ 129 ≤ j by omega]
        rw [h1]
        simp only [qMS_now]
      · rw [h2 z hz]
        simp only [pMS_now, va_up]
        repeat' split
        all_goals first | rfl | omega | (congr 1; omega)
theorem RO.ok {now : Nat → Int32} (h : RO P now D) : ∀ i, i < 12 → okR D (P.rts i) := h.1
theorem p_image (h : RR c d D) (hN : 200 ≤ N) : ∃ r c' d', m_X11_image N 10 (mk c d D) = some (r, mk c' d D) ∧ m_X12_image N 100 (mk c' d D) = some (r, mk c' d' D) ∧ RR c' d' D := by
  have hP := h.1
  obtain ⟨Q, q1, q2⟩ := iX_become (c := c) (d := d) (D := D) (N := N) h.2.1.ok (by omega) N 0 c rfl (by omega) (by omega) (fun k hk => absurd hk (Nat.not_lt_zero _))
  obtain ⟨g, g1, g2⟩ := ypour_go (X := 0) (c := (c.s_pic Q).s_pictured (nI 1)) (D := D) (N := N) N 0 d (by omega) (by omega)
  have g3 : ∀ z, z < 129 → g z = d.now z := fun z hz => by rw [g2 z hz, if_pos (by omega)]
  refine ⟨nI c.pl.n, (c.s_pic Q).s_pictured (nI 1), (d.s_kept g).s_hasImage (nI 1), ?_, ?_, h.1, h.2.1, Or.inr ⟨rfl, rfl, hP.like2 q2 g3, h.2.1.like2 hP.rc q2 g3⟩, h.2.2.2.1, h.2.2.2.2.1, h.2.2.2.2.2.1, h.2.2.2.2.2.2.1, h.2.2.2.2.2.2.2⟩
  · simp (disch := omega) only [m_X11_image, m_X5_become, Option.bind_some, plit, plit64, nI_add, pk_mul, if_true, if_false, or_true, true_or, oifT, Nat.one_ne_zero, ↓reduceIte, Nat.reduceLT, Nat.reduceLeDiff, Nat.reduceEqDiff, Nat.reduceAdd, Nat.reduceMul, Nat.reduceSub, Nat.reduceDiv, nI_eq, nI_leI, nI_ltI, nI_neg, neg_eq, yo_10, yr_10_0, yr_10_1, yr_10_2, yr_10_3, yr_10_4, yr_10_5, yr_10_6, yr_10_7, yr_10_8, yr_10_9, yr_10_10, yr_10_11, yo_11, yr_11_0, yr_11_1, yr_11_2, yr_11_3, yr_11_4, yn_13, ya_13, yo_14, yr_14_0, yr_14_1, yr_14_2, yr_14_3, ya_15, ya_16, yo_30, q1, sZ, yw_10_2, pCS_pic, pCS_pictured]
  · simp (disch := omega) only [m_X12_image, m_X12_pours, Option.bind_some, plit, plit64, nI_add, pk_mul, if_true, if_false, or_true, true_or, oifT, Nat.one_ne_zero, ↓reduceIte, Nat.reduceLT, Nat.reduceLeDiff, Nat.reduceEqDiff, Nat.reduceAdd, Nat.reduceMul, Nat.reduceSub, Nat.reduceDiv, nI_eq, nI_leI, nI_ltI, nI_neg, neg_eq, yo_100, yr_100_0, yr_100_1, yr_100_2, yr_100_3, yr_100_4, yr_100_5, yr_100_6, yr_100_7, yr_100_8, yr_100_9, yr_100_10, yr_100_11, yr_100_12, yr_100_13, yr_100_14, yr_100_15, yr_100_16, yr_100_17, yr_100_18, yr_100_19, yr_100_20, yr_100_21, yr_100_22, yr_100_23, yr_100_24, yr_100_25, yr_100_26, yr_100_27, yr_100_28, ya_101, ya_102, ya_103, ya_104, ya_105, ya_106, ya_107, ya_108, ya_109, ya_110, ya_111, ya_112, ya_113, ya_114, ya_115, ya_116, ya_117, ya_118, ya_119, yw_100_2, yw_100_3, yw_100_5, yw_100_15, yw_100_20, yw_100_21, yw_100_22, yw_100_24, yw_100_25, yw_100_28, yu_101, yu_102, yu_103, yu_104, yu_105, yu_106, yu_107, yu_108, yu_109, yu_110, yu_111, yu_112, yu_113, yu_114, yu_115, yu_116, yu_117, yu_118, yu_119, g1, sZ, pMS_hasImage, pMS_kept, hP.n_]
theorem p_undo (h : RR c d D) (hN : 200 ≤ N) : ∃ r c' d', m_X11_undo N 10 (mk c d D) = some (r, mk c' d D) ∧ m_X12_undo N 100 (mk c' d D) = some (r, mk c' d' D) ∧ RR c' d' D := by
  rcases h.2.2.1 with ⟨i1, i2⟩ | ⟨i1, i2, i3, i4⟩
  · refine ⟨-nI 3, c, d, ?_, ?_, h⟩
    · simp (disch := omega) only [m_X11_undo, Option.bind_some, plit, plit64, nI_add, pk_mul, if_true, if_false, or_true, true_or, oifT, Nat.one_ne_zero, ↓reduceIte, Nat.reduceLT, Nat.reduceLeDiff, Nat.reduceEqDiff, Nat.reduceAdd, Nat.reduceMul, Nat.reduceSub, Nat.reduceDiv, nI_eq, nI_leI, nI_ltI, nI_neg, neg_eq, yo_10, yr_10_0, yr_10_1, yr_10_2, yr_10_3, yr_10_4, yr_10_5, yr_10_6, yr_10_7, yr_10_8, yr_10_9, yr_10_10, yr_10_11, yo_11, yr_11_0, yr_11_1, yr_11_2, yr_11_3, yr_11_4, yn_13, ya_13, yo_14, yr_14_0, yr_14_1, yr_14_2, yr_14_3, ya_15, ya_16, i1]
    · simp (disch := omega) only [m_X12_undo, Option.bind_some, plit, plit64, nI_add, pk_mul, if_true, if_false, or_true, true_or, oifT, Nat.one_ne_zero, ↓reduceIte, Nat.reduceLT, Nat.reduceLeDiff, Nat.reduceEqDiff, Nat.reduceAdd, Nat.reduceMul, Nat.reduceSub, Nat.reduceDiv, nI_eq, nI_leI, nI_ltI, nI_neg, neg_eq, yo_100, yr_100_0, yr_100_1, yr_100_2, yr_100_3, yr_100_4, yr_100_5, yr_100_6, yr_100_7, yr_100_8, yr_100_9, yr_100_10, yr_100_11, yr_100_12, yr_100_13, yr_100_14, yr_100_15, yr_100_16, yr_100_17, yr_100_18, yr_100_19, yr_100_20, yr_100_21, yr_100_22, yr_100_23, yr_100_24, yr_100_25, yr_100_26, yr_100_27, yr_100_28, ya_101, ya_102, ya_103, ya_104, ya_105, ya_106, ya_107, ya_108, ya_109, ya_110, ya_111, ya_112, ya_113, ya_114, ya_115, ya_116, ya_117, ya_118, ya_119, i2]
  · obtain ⟨Q, q1, q2⟩ := uX_become (c := c) (d := d) (D := D) (N := N) i4.ok (by omega) N 0 c rfl (by omega) (by omega) (fun k hk => absurd hk (Nat.not_lt_zero _))
    obtain ⟨g, g1, g2⟩ := zpour_go (X := 0) (c := (c.s_pl Q).s_made 0) (D := D) (N := N) N 0 d (by omega) (by omega)
    have g3 : ∀ z, z < 129 → g z = d.kept z := fun z hz => by rw [g2 z hz, if_pos (by omega)]
    have hQ := i3.like2 q2 g3
    refine ⟨nI Q.n, (c.s_pl Q).s_made 0, d.s_now g, ?_, ?_, hQ, i4.like2 i3.rc q2 g3, Or.inr ⟨i1, i2, i3, i4⟩, h.2.2.2.1.forget h.1.r0 Q hQ.r0, h.2.2.2.2.1, h.2.2.2.2.2.1, h.2.2.2.2.2.2.1, h.2.2.2.2.2.2.2⟩
    · simp (disch := omega) only [m_X11_undo, m_X5_become, m_X10_forget, Option.bind_some, plit, plit64, nI_add, pk_mul, if_true, if_false, or_true, true_or, oifT, Nat.one_ne_zero, ↓reduceIte, Nat.reduceLT, Nat.reduceLeDiff, Nat.reduceEqDiff, Nat.reduceAdd, Nat.reduceMul, Nat.reduceSub, Nat.reduceDiv, nI_eq, nI_leI, nI_ltI, nI_neg, neg_eq, yo_10, yr_10_0, yr_10_1, yr_10_2, yr_10_3, yr_10_4, yr_10_5, yr_10_6, yr_10_7, yr_10_8, yr_10_9, yr_10_10, yr_10_11, yo_11, yr_11_0, yr_11_1, yr_11_2, yr_11_3, yr_11_4, yn_13, ya_13, yo_14, yr_14_0, yr_14_1, yr_14_2, yr_14_3, ya_15, ya_16, i1, yo_49, yw_49_3, q1, pCS_pl, pCS_made]
    · simp (disch := omega) only [m_X12_undo, m_X12_pours, Option.bind_some, plit, plit64, nI_add, pk_mul, if_true, if_false, or_true, true_or, oifT, Nat.one_ne_zero, ↓reduceIte, Nat.reduceLT, Nat.reduceLeDiff, Nat.reduceEqDiff, Nat.reduceAdd, Nat.reduceMul, Nat.reduceSub, Nat.reduceDiv, nI_eq, nI_leI, nI_ltI, nI_neg, neg_eq, yo_100, yr_100_0, yr_100_1, yr_100_2, yr_100_3, yr_100_4, yr_100_5, yr_100_6, yr_100_7, yr_100_8, yr_100_9, yr_100_10, yr_100_11, yr_100_12, yr_100_13, yr_100_14, yr_100_15, yr_100_16, yr_100_17, yr_100_18, yr_100_19, yr_100_20, yr_100_21, yr_100_22, yr_100_23, yr_100_24, yr_100_25, yr_100_26, yr_100_27, yr_100_28, ya_101, ya_102, ya_103, ya_104, ya_105, ya_106, ya_107, ya_108, ya_109, ya_110, ya_111, ya_112, ya_113, ya_114, ya_115, ya_116, ya_117, ya_118, ya_119, yw_100_2, yw_100_3, yw_100_5, yw_100_15, yw_100_20, yw_100_21, yw_100_22, yw_100_24, yw_100_25, yw_100_28, yu_101, yu_102, yu_103, yu_104, yu_105, yu_106, yu_107, yu_108, yu_109, yu_110, yu_111, yu_112, yu_113, yu_114, yu_115, yu_116, yu_117, yu_118, yu_119, i2, g1, pMS_now, hQ.n_]
end
