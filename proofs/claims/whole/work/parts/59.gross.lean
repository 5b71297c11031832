-- gross
/-- what one sum comes to: the fares so far, against the cells a and b -/
def gS (P : PL) (ph : Nat) (pw : Option Nat) (a b : Nat) : Nat → Option Nat
  | 0 => mulO 100 a
  | f + 1 => (pw.bind fun p => mulO (P.price f) p).bind fun paid => if lg_cmp (lN paid - (lN a - lN b)) 0 ≤ 0 then gS P ph pw a b f else (gS P ph pw a b f).bind fun acc => (mulO (P.odds f ph) (lN paid - (lN a - lN b)).toInt.toNat).bind fun x => addO acc x
def GD (P : PL) : Nat → Nat → Option Nat
  | 0, _ => some 0
  | _ + 1, 0 => some 0
  | t + 1, s + 1 => (GD P t (s + 1)).bind fun a => if P.n = 0 then mulO 100 a else (GD P t s).bind fun b => gS P (t / 5) (pwO 100 t) a b P.n
theorem vo_gS {P : PL} {ph : Nat} {pw : Option Nat} {a b : Nat} : ∀ f, VO (gS P ph pw a b f)
  | 0 => vo_mul
  | f + 1 => by
    unfold gS
    refine vo_bind fun paid => ?_
    split
    · exact vo_gS f
    · exact vo_bind fun _ => vo_bind fun _ => vo_add
theorem vo_GD {P : PL} : ∀ t s, VO (GD P t s)
  | 0, _ => vo_some (by omega)
  | _ + 1, 0 => vo_some (by omega)
  | t + 1, s + 1 => by
    unfold GD
    refine vo_bind fun a => ?_
    split
    · exact vo_mul
    · exact vo_bind fun b => vo_gS _
theorem GD_0 {P : PL} : ∀ t, GD P t 0 = some 0
  | 0 => rfl
  | _ + 1 => rfl
theorem gS_none {P : PL} {ph : Nat} {pw : Option Nat} {a b : Nat} : ∀ (k f : Nat), gS P ph pw a b f = none → gS P ph pw a b (f + k) = none
  | 0, f, h => h
  | k + 1, f, h => by
    have i := gS_none k f h
    show gS P ph pw a b (f + k + 1) = none
    unfold gS
    rw [i]
    cases pw.bind fun p => mulO (P.price (f + k)) p with
    | none => rfl
    | some v =>
      simp only [Option.bind_some, Option.bind_none]
      split <;> rfl
theorem gS_over {P : PL} {ph : Nat} {pw : Option Nat} {a b f n : Nat} (h : (pw.bind fun p => mulO (P.price f) p) = none) (hn : f < n) : gS P ph pw a b n = none := by
  have e : gS P ph pw a b (f + 1) = none := by
    unfold gS
    rw [h]
    rfl
  have := gS_none (n - (f + 1)) (f + 1) e
  rw [show f + 1 + (n - (f + 1)) = n by omega] at this
  exact this
theorem enc_over {x : Option Nat} (h : VO x) : lg_cmp (enc x) (-6) = 0 ↔ x = none := by
  rw [lgc]
  cases x with
  | none => exact ⟨fun _ => rfl, fun _ => rfl⟩
  | some v =>
    constructor
    · intro e
      have := congrArg Int64.toInt e
      rw [show enc (some v) = lN v from rfl, lNT (h v rfl)] at this
      have e6 : (-6 : Int64).toInt = -6 := rfl
      rw [e6] at this
      omega
    · intro e; cases e
theorem pos_lN {x : Int64} (h : 0 < x.toInt) : x = lN x.toInt.toNat ∧ x.toInt.toNat < 2 ^ 63 := by
  have h2 : x.toInt < 2 ^ 63 := Int64.toInt_lt x
  refine ⟨Int64.toInt.inj ?_, by omega⟩
  rw [lNT (by omega)]
  omega
section
variable {c : CS} {d : MS} {D : mM} {N k : Nat} {a : Int32} {P : PL}
theorem xgross_go (hn : c.pl.n ≤ 6) (hp : ∀ i, i < 6 → c.pl.price i ≤ 9999) (ho : ∀ i p, i < 6 → p < 4 → c.pl.odds i p ≤ 100) {ph s : Nat} (hph : ph < 4) (hs : s < 40) {A B pw : Option Nat} (vA : VO A) (vB : VO B) (vp : VO pw) (hA : c.wrow (s + 1) = enc A) (hB : c.wrow s = enc B) : ∀ (n f : Nat) (S : Option Nat), f ≤ c.pl.n → c.pl.n - f < n → VO S → (∀ a b, A = some a → B = some b → S = gS c.pl ph pw a b f) → (f = 0 → S = A.bind fun a => mulO 100 a) → ∃ R : Option Nat, m_X9_nextGross_L17 N (mk c d D) n 73 (nI (s + 1)) (nI ph) (enc pw) (enc S) (nI f) = some (enc R) ∧ (f = 0 → R = A.bind fun a => if c.pl.n = 0 then mulO 100 a else B.bind fun b => gS c.pl ph pw a b c.pl.n) ∧ (∀ a b, A = some a → B = some b → R = gS c.pl ph pw a b c.pl.n) ∧ VO R := by
  intro n
  induction n with
  | zero => intro f S _ h; omega
  | succ n ih =>
    intro f S hf hn2 vS hS hS0
    unfold m_X9_nextGross_L17
    by_cases e : f = c.pl.n
    · subst e
      refine ⟨S, ?_, fun h0 => ?_, hS, vS⟩
      · simp (disch := omega) only [Option.bind_some, plit, plit64, nI_add, pk_mul, if_true, if_false, or_true, true_or, oifT, Nat.one_ne_zero, ↓reduceIte, Nat.reduceLT, Nat.reduceLeDiff, Nat.reduceEqDiff, Nat.reduceAdd, Nat.reduceMul, Nat.reduceSub, Nat.reduceDiv, nI_eq, nI_leI, nI_ltI, nI_neg, neg_eq, yo_10, yr_10_0, yr_10_1, yr_10_2, yr_10_3, yr_10_4, yr_10_5, yr_10_6, yr_10_7, yr_10_8, yr_10_9, yr_10_10, yr_10_11, yo_11, yr_11_0, yr_11_1, yr_11_2, yr_11_3, yr_11_4, yn_13, ya_13, yo_14, yr_14_0, yr_14_1, yr_14_2, yr_14_3, ya_15, ya_16, yo_73, yr_73_0, yr_73_1, yn_74, ya_74, yu_74, Nat.le_refl]
      · rw [hS0 h0]
        simp only [h0, if_true]
    · have vpaid : VO (pw.bind fun p => mulO (c.pl.price f) p) := vo_bind fun _ => vo_mul
      have hpf := hp f (by omega)
      have tp1 := xtimes (x := some (c.pl.price f)) (y := pw) (vo_some (by omega)) vp
      have tp1 : m_X9_times (lN (c.pl.price f)) (enc pw) = some (enc (pw.bind fun p => mulO (c.pl.price f) p)) := tp1
      -- none: the whole is over
      have hnone : ∀ R : Option Nat, R = none → (A = none ∨ B = none ∨ (pw.bind fun p => mulO (c.pl.price f) p) = none) → (f = 0 → R = A.bind fun a => if c.pl.n = 0 then mulO 100 a else B.bind fun b => gS c.pl ph pw a b c.pl.n) ∧ (∀ a b, A = some a → B = some b → R = gS c.pl ph pw a b c.pl.n) ∧ VO R := by
        intro R hR h
        subst hR
        refine ⟨fun _ => ?_, fun a b ha hb => ?_, vo_none⟩
        · rcases h with h | h | h
          · rw [h]; rfl
          · cases A with
            | none => rfl
            | some a =>
              show none = (if c.pl.n = 0 then mulO 100 a else B.bind fun b => gS c.pl ph pw a b c.pl.n)
              rw [if_neg (by omega), h]
              rfl
          · cases A with
            | none => rfl
            | some a =>
              show none = (if c.pl.n = 0 then mulO 100 a else B.bind fun b => gS c.pl ph pw a b c.pl.n)
              rw [if_neg (by omega)]
              cases B with
              | none => rfl
              | some b => exact (gS_over h (by omega)).symm
        · rcases h with h | h | h
          · rw [h] at ha; cases ha
          · rw [h] at hb; cases hb
          · exact (gS_over h (by omega)).symm
      by_cases q1 : (pw.bind fun p => mulO (c.pl.price f) p) = none
      · obtain ⟨r1, r2, r3⟩ := hnone none rfl (Or.inr (Or.inr q1))
        refine ⟨none, ?_, r1, r2, r3⟩
        rw [yr_73_0, Option.bind_some, yr_11_1, Option.bind_some, if_neg (by rw [nI_leI (by omega) (by omega)]; omega), Option.bind_some, yr_11_0, Option.bind_some, yfar_R (by omega), Option.bind_some, yf_1 (by omega), Option.bind_some, nI_l (by omega), tp1, Option.bind_some, if_pos ((enc_over vpaid).mpr q1)]
        rfl
      · by_cases q2 : A = none
        · obtain ⟨r1, r2, r3⟩ := hnone none rfl (Or.inl q2)
          refine ⟨none, ?_, r1, r2, r3⟩
          rw [yr_73_0, Option.bind_some, yr_11_1, Option.bind_some, if_neg (by rw [nI_leI (by omega) (by omega)]; omega), Option.bind_some, yr_11_0, Option.bind_some, yfar_R (by omega), Option.bind_some, yf_1 (by omega), Option.bind_some, nI_l (by omega), tp1, Option.bind_some, if_neg (fun z => q1 ((enc_over vpaid).mp z)), yr_73_1, Option.bind_some, ya_74 (by omega), Option.bind_some, hA, if_pos ((enc_over vA).mpr q2)]
          rfl
        · by_cases q3 : B = none
          · obtain ⟨r1, r2, r3⟩ := hnone none rfl (Or.inr (Or.inl q3))
            refine ⟨none, ?_, r1, r2, r3⟩
            rw [yr_73_0, Option.bind_some, yr_11_1, Option.bind_some, if_neg (by rw [nI_leI (by omega) (by omega)]; omega), Option.bind_some, yr_11_0, Option.bind_some, yfar_R (by omega), Option.bind_some, yf_1 (by omega), Option.bind_some, nI_l (by omega), tp1, Option.bind_some, if_neg (fun z => q1 ((enc_over vpaid).mp z)), yr_73_1, Option.bind_some, ya_74 (by omega), Option.bind_some, hA, if_neg (fun z => q2 ((enc_over vA).mp z)), Option.bind_some, show (1 : Int32) = nI 1 from rfl, pk_sub (by omega), Nat.add_sub_cancel, ya_74 (by omega), Option.bind_some, hB, if_pos ((enc_over vB).mpr q3)]
            rfl
          · obtain ⟨av, rfl⟩ := Option.ne_none_iff_exists'.mp q2
            obtain ⟨bv, rfl⟩ := Option.ne_none_iff_exists'.mp q3
            obtain ⟨paid, hpd⟩ := Option.ne_none_iff_exists'.mp q1
            have hSf := hS av bv rfl rfl
            have eg : gS c.pl ph pw av bv (f + 1) = if lg_cmp (lN paid - (lN av - lN bv)) 0 ≤ 0 then gS c.pl ph pw av bv f else (gS c.pl ph pw av bv f).bind fun acc => (mulO (c.pl.odds f ph) (lN paid - (lN av - lN bv)).toInt.toNat).bind fun x => addO acc x := by
              show ((pw.bind fun p => mulO (c.pl.price f) p).bind fun paid => _) = _
              rw [hpd]
              rfl
            by_cases q4 : lg_cmp (lN paid - (lN av - lN bv)) 0 ≤ 0
            · rw [if_pos q4] at eg
              obtain ⟨R, r1, r2, r3, r4⟩ := ih (f + 1) S (by omega) (by omega) vS (fun a b ha hb => by cases ha; cases hb; rw [eg]; exact hSf) (fun z => by omega)
              refine ⟨R, ?_, fun z => ?_, r3, r4⟩
              · rw [yr_73_0, Option.bind_some, yr_11_1, Option.bind_some, if_neg (by rw [nI_leI (by omega) (by omega)]; omega), Option.bind_some, yr_11_0, Option.bind_some, yfar_R (by omega), Option.bind_some, yf_1 (by omega), Option.bind_some, nI_l (by omega), tp1, Option.bind_some, if_neg (fun z => q1 ((enc_over vpaid).mp z)), yr_73_1, Option.bind_some, ya_74 (by omega), Option.bind_some, hA, if_neg (fun z => q2 ((enc_over vA).mp z)), Option.bind_some, show (1 : Int32) = nI 1 from rfl, pk_sub (by omega), Nat.add_sub_cancel, ya_74 (by omega), Option.bind_some, hB, if_neg (fun z => q3 ((enc_over vB).mp z)), Option.bind_some, ya_74 (by omega), Option.bind_some, Option.bind_some, ya_74 (by omega), Option.bind_some, hA, hB, hpd, show enc (some paid) = lN paid from rfl, show enc (some av) = lN av from rfl, show enc (some bv) = lN bv from rfl, if_pos q4]
                unfold m_X9_nextGross_J145
                rw [show (1 : Int32) = nI 1 from rfl, nI_add]
                exact r1
              · rw [r3 av bv rfl rfl]
                show _ = (if c.pl.n = 0 then mulO 100 av else gS c.pl ph pw av bv c.pl.n)
                rw [if_neg (by omega)]
            · rw [if_neg q4] at eg
              have hpos : 0 < (lN paid - (lN av - lN bv)).toInt := by
                rw [lg_le, l0T] at q4
                omega
              obtain ⟨ex1, ex2⟩ := pos_lN hpos
              generalize hE : (lN paid - (lN av - lN bv)).toInt.toNat = E at *
              have hod := ho f ph (by omega) (by omega)
              have tt : m_X9_times (lN (c.pl.odds f ph)) (lN E) = some (enc (mulO (c.pl.odds f ph) E)) := xtimes (x := some (c.pl.odds f ph)) (y := some E) (vo_some (by omega)) (vo_some ex2)
              have pp := xplus vS (vo_mul (a := c.pl.odds f ph) (b := E))
              have vS2 : VO (S.bind fun a => (mulO (c.pl.odds f ph) E).bind fun b => addO a b) := vo_bind fun _ => vo_bind fun _ => vo_add
              obtain ⟨R, r1, r2, r3, r4⟩ := ih (f + 1) _ (by omega) (by omega) vS2 (fun a b ha hb => by cases ha; cases hb; rw [eg, hSf]) (fun z => by omega)
              refine ⟨R, ?_, fun z => ?_, r3, r4⟩
              · rw [yr_73_0, Option.bind_some, yr_11_1, Option.bind_some, if_neg (by rw [nI_leI (by omega) (by omega)]; omega), Option.bind_some, yr_11_0, Option.bind_some, yfar_R (by omega), Option.bind_some, yf_1 (by omega), Option.bind_some, nI_l (by omega), tp1, Option.bind_some, if_neg (fun z => q1 ((enc_over vpaid).mp z)), yr_73_1, Option.bind_some, ya_74 (by omega), Option.bind_some, hA, if_neg (fun z => q2 ((enc_over vA).mp z)), Option.bind_some, show (1 : Int32) = nI 1 from rfl, pk_sub (by omega), Nat.add_sub_cancel, ya_74 (by omega), Option.bind_some, hB, if_neg (fun z => q3 ((enc_over vB).mp z)), Option.bind_some, ya_74 (by omega), Option.bind_some, Option.bind_some, ya_74 (by omega), Option.bind_some, hA, hB, hpd, show enc (some paid) = lN paid from rfl, show enc (some av) = lN av from rfl, show enc (some bv) = lN bv from rfl, if_neg q4, Option.bind_some, yr_11_0, Option.bind_some, yfar_R (by omega), Option.bind_some, yf_3 (by omega), Option.bind_some, yfoa (by omega) (by omega), Option.bind_some, nI_l (by omega), ex1, tt, Option.bind_some, pp, Option.bind_some]
                unfold m_X9_nextGross_J145
                rw [show (1 : Int32) = nI 1 from rfl, nI_add]
                exact r1
              · rw [r3 av bv rfl rfl]
                show _ = (if c.pl.n = 0 then mulO 100 av else gS c.pl ph pw av bv c.pl.n)
                rw [if_neg (by omega)]
end
