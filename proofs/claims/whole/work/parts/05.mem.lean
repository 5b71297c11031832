-- reading and writing the abstract memory
def vI : Value → Option Int32
  | .int x => some x
  | _ => none
def vL : Value → Option Int64
  | .long x => some x
  | _ => none
def vD : Value → Option UInt64
  | .double x => some x
  | _ => none
def vR : Value → Option Nat
  | .ref x => some x
  | _ => none
theorem vI_eq {v : Value} {x : Int32} (h : vI v = some x) : v = .int x := by cases v <;> simp [vI] at h ⊢; exact h
theorem vL_eq {v : Value} {x : Int64} (h : vL v = some x) : v = .long x := by cases v <;> simp [vL] at h ⊢; exact h
theorem vD_eq {v : Value} {x : UInt64} (h : vD v = some x) : v = .double x := by cases v <;> simp [vD] at h ⊢; exact h
theorem vR_eq {v : Value} {x : Nat} (h : vR v = some x) : v = .ref x := by cases v <;> simp [vR] at h ⊢; exact h
def cF (ci k : Nat) : mC → Option Value
  | .inr (c, fs) => if c = ci then fs[k]? else none
  | .inl _ => none
def fV (M : mM) (a ci k : Nat) : Option Value := M[a]?.bind (cF ci k)
def fI (M : mM) (a ci k : Nat) : Option Int32 := (fV M a ci k).bind vI
def fL (M : mM) (a ci k : Nat) : Option Int64 := (fV M a ci k).bind vL
def fR (M : mM) (a ci k : Nat) : Option Nat := (fV M a ci k).bind vR
theorem fV_spec {M : mM} {a ci k : Nat} {v : Value} (h : fV M a ci k = some v) : ∃ fs : List Value, M[a]? = some (.inr (ci, fs)) ∧ fs[k]? = some v := by
  obtain ⟨c, h1, h2⟩ := Option.bind_eq_some_iff.mp h
  cases c with
  | inl x => cases h2
  | inr o =>
    obtain ⟨c, fs⟩ := o
    simp only [cF] at h2
    split at h2
    · next e => subst e; exact ⟨fs, h1, h2⟩
    · cases h2
theorem fI_V {M : mM} {a ci k : Nat} {x : Int32} (h : fI M a ci k = some x) : fV M a ci k = some (.int x) := by
  obtain ⟨v, h1, h2⟩ := Option.bind_eq_some_iff.mp h
  rw [h1, vI_eq h2]
theorem fL_V {M : mM} {a ci k : Nat} {x : Int64} (h : fL M a ci k = some x) : fV M a ci k = some (.long x) := by
  obtain ⟨v, h1, h2⟩ := Option.bind_eq_some_iff.mp h
  rw [h1, vL_eq h2]
theorem fR_V {M : mM} {a ci k : Nat} {x : Nat} (h : fR M a ci k = some x) : fV M a ci k = some (.ref x) := by
  obtain ⟨v, h1, h2⟩ := Option.bind_eq_some_iff.mp h
  rw [h1, vR_eq h2]
def cS (k : Nat) (v : Value) (ci : Nat) : mC → Option mC
  | .inr (c, fs) => if c = ci ∧ k < fs.length then some (.inr (c, fs.set k v)) else none
  | .inl _ => none
def sV (M : mM) (a ci k : Nat) (v : Value) : Option mM := M[a]?.bind fun c => (cS k v ci c).map fun c2 => M.set a c2
theorem sV_spec {M M2 : mM} {a ci k : Nat} {v : Value} (h : sV M a ci k v = some M2) : ∃ fs : List Value, M[a]? = some (.inr (ci, fs)) ∧ k < fs.length ∧ M2 = M.set a (.inr (ci, fs.set k v)) := by
  obtain ⟨c, h1, h2⟩ := Option.bind_eq_some_iff.mp h
  obtain ⟨c2, h3, h4⟩ := Option.map_eq_some_iff.mp h2
  cases c with
  | inl x => cases h3
  | inr o =>
    obtain ⟨c, fs⟩ := o
    simp only [cS] at h3
    split at h3
    · next e =>
      obtain ⟨rfl, e⟩ := e
      cases h3
      exact ⟨fs, h1, e, h4.symm⟩
    · cases h3
/-- a boolean field -/
def sZ (M : mM) (a ci k : Nat) (x : Int32) : Option mM := if x = 0 ∨ x = 1 then sV M a ci k (.int x) else none
/-- a byte field -/
def sB (M : mM) (a ci k : Nat) (x : Int32) : Option mM := if x.toInt8.toInt32 = x then sV M a ci k (.int x) else none
-- arrays
abbrev mOut (i : Int32) (n : Nat) : Prop := i < 0 ∨ n ≤ i.toNatClampNeg
def aI (t : Nat) (M : mM) (a : Nat) (i : Int32) : Option Int32 := match M[a]? with
  | some (.inl (t2, n, .inl f)) => if t2 = t then (if mOut i n then none else some (f i.toNatClampNeg)) else none
  | _ => none
def aL (M : mM) (a : Nat) (i : Int32) : Option Int64 := match M[a]? with
  | some (.inl (t2, n, .inr (.inl f))) => if t2 = 1 then (if mOut i n then none else some (f i.toNatClampNeg)) else none
  | _ => none
def aD (M : mM) (a : Nat) (i : Int32) : Option UInt64 := match M[a]? with
  | some (.inl (t2, n, .inr (.inr (.inr (.inl f))))) => if t2 = 2 then (if mOut i n then none else some (f i.toNatClampNeg)) else none
  | _ => none
def aQ (t : Nat) (M : mM) (a : Nat) (i : Int32) : Option (Option Nat) := match M[a]? with
  | some (.inl (t2, n, .inr (.inr (.inr (.inr f))))) => if t2 = t then (if mOut i n then none else some (f i.toNatClampNeg)) else none
  | _ => none
def aR (t : Nat) (M : mM) (a : Nat) (i : Int32) : Option Nat := (aQ t M a i).bind id
def aN (t : Nat) (M : mM) (a : Nat) : Option Int32 := match M[a]? with
  | some (.inl (t2, n, _)) => if t2 = t then some (Int32.ofNat n) else none
  | _ => none
def uI (t : Nat) (ty : FieldType) (M : mM) (a : Nat) (i x : Int32) : Option mM := match M[a]? with
  | some (.inl (t2, n, .inl f)) => if t2 = t then (if mOut i n then none else some (M.set a (.inl (t2, n, .inl (va_up f i.toNatClampNeg (vp_nar ty x)))))) else none
  | _ => none
def uL (M : mM) (a : Nat) (i : Int32) (x : Int64) : Option mM := match M[a]? with
  | some (.inl (t2, n, .inr (.inl f))) => if t2 = 1 then (if mOut i n then none else some (M.set a (.inl (t2, n, .inr (.inl (va_up f i.toNatClampNeg x)))))) else none
  | _ => none
def uD (M : mM) (a : Nat) (i : Int32) (x : UInt64) : Option mM := match M[a]? with
  | some (.inl (t2, n, .inr (.inr (.inr (.inl f))))) => if t2 = 2 then (if mOut i n then none else some (M.set a (.inl (t2, n, .inr (.inr (.inr (.inl (va_up f i.toNatClampNeg x)))))))) else none
  | _ => none
/-- a reference stored: null, or an object of the class that the array is over -/
def uQ (t ci : Nat) (M : mM) (a : Nat) (i : Int32) (x : Option Nat) : Option mM := match M[a]? with
  | some (.inl (t2, n, .inr (.inr (.inr (.inr f))))) => if t2 = t then (if mOut i n then none else match x with
      | none => some (M.set a (.inl (t2, n, .inr (.inr (.inr (.inr (va_up f i.toNatClampNeg none)))))))
      | some y => match M[y]? with
        | some (.inr (c, _)) => if c = ci then some (M.set a (.inl (t2, n, .inr (.inr (.inr (.inr (va_up f i.toNatClampNeg (some y)))))))) else none
        | _ => none) else none
  | _ => none
theorem aI_spec {t : Nat} {M : mM} {a : Nat} {i x : Int32} (h : aI t M a i = some x) : ∃ (n : Nat) (f : Nat → Int32), M[a]? = some (.inl (t, n, .inl f)) ∧ vp_in i n ∧ f i.toNatClampNeg = x := by
  unfold aI at h
  split at h
  · next t2 n f e =>
    split at h
    · next e2 =>
      subst e2
      split at h
      · cases h
      · next e3 => exact ⟨n, f, e, e3, Option.some.inj h⟩
    · cases h
  · cases h
theorem aL_spec {M : mM} {a : Nat} {i : Int32} {x : Int64} (h : aL M a i = some x) : ∃ (n : Nat) (f : Nat → Int64), M[a]? = some (.inl (1, n, .inr (.inl f))) ∧ vp_in i n ∧ f i.toNatClampNeg = x := by
  unfold aL at h
  split at h
  · next t2 n f e =>
    split at h
    · next e2 =>
      subst e2
      split at h
      · cases h
      · next e3 => exact ⟨n, f, e, e3, Option.some.inj h⟩
    · cases h
  · cases h
theorem aD_spec {M : mM} {a : Nat} {i : Int32} {x : UInt64} (h : aD M a i = some x) : ∃ (n : Nat) (f : Nat → UInt64), M[a]? = some (.inl (2, n, .inr (.inr (.inr (.inl f))))) ∧ vp_in i n ∧ f i.toNatClampNeg = x := by
  unfold aD at h
  split at h
  · next t2 n f e =>
    split at h
    · next e2 =>
      subst e2
      split at h
      · cases h
      · next e3 => exact ⟨n, f, e, e3, Option.some.inj h⟩
    · cases h
  · cases h
theorem aQ_spec {t : Nat} {M : mM} {a : Nat} {i : Int32} {x : Option Nat} (h : aQ t M a i = some x) : ∃ (n : Nat) (f : Nat → Option Nat), M[a]? = some (.inl (t, n, .inr (.inr (.inr (.inr f))))) ∧ vp_in i n ∧ f i.toNatClampNeg = x := by
  unfold aQ at h
  split at h
  · next t2 n f e =>
    split at h
    · next e2 =>
      subst e2
      split at h
      · cases h
      · next e3 => exact ⟨n, f, e, e3, Option.some.inj h⟩
    · cases h
  · cases h
theorem aR_Q {t : Nat} {M : mM} {a : Nat} {i : Int32} {x : Nat} (h : aR t M a i = some x) : aQ t M a i = some (some x) := by
  obtain ⟨v, h1, h2⟩ := Option.bind_eq_some_iff.mp h
  rw [h1]
  exact congrArg some h2
theorem aN_spec {t : Nat} {M : mM} {a : Nat} {x : Int32} (h : aN t M a = some x) : ∃ (n : Nat) (d : (Nat → Int32) ⊕ (Nat → Int64) ⊕ (Nat → UInt32) ⊕ (Nat → UInt64) ⊕ (Nat → Option Nat)), M[a]? = some (.inl (t, n, d)) ∧ Int32.ofNat n = x := by
  unfold aN at h
  split at h
  · next t2 n d e =>
    split at h
    · next e2 => subst e2; exact ⟨n, d, e, Option.some.inj h⟩
    · cases h
  · cases h
theorem uI_spec {t : Nat} {ty : FieldType} {M M2 : mM} {a : Nat} {i x : Int32} (h : uI t ty M a i x = some M2) : ∃ (n : Nat) (f : Nat → Int32), M[a]? = some (.inl (t, n, .inl f)) ∧ vp_in i n ∧ M2 = M.set a (.inl (t, n, .inl (va_up f i.toNatClampNeg (vp_nar ty x)))) := by
  unfold uI at h
  split at h
  · next t2 n f e =>
    split at h
    · next e2 =>
      subst e2
      split at h
      · cases h
      · next e3 => exact ⟨n, f, e, e3, (Option.some.inj h).symm⟩
    · cases h
  · cases h
theorem uL_spec {M M2 : mM} {a : Nat} {i : Int32} {x : Int64} (h : uL M a i x = some M2) : ∃ (n : Nat) (f : Nat → Int64), M[a]? = some (.inl (1, n, .inr (.inl f))) ∧ vp_in i n ∧ M2 = M.set a (.inl (1, n, .inr (.inl (va_up f i.toNatClampNeg x)))) := by
  unfold uL at h
  split at h
  · next t2 n f e =>
    split at h
    · next e2 =>
      subst e2
      split at h
      · cases h
      · next e3 => exact ⟨n, f, e, e3, (Option.some.inj h).symm⟩
    · cases h
  · cases h
theorem uD_spec {M M2 : mM} {a : Nat} {i : Int32} {x : UInt64} (h : uD M a i x = some M2) : ∃ (n : Nat) (f : Nat → UInt64), M[a]? = some (.inl (2, n, .inr (.inr (.inr (.inl f))))) ∧ vp_in i n ∧ M2 = M.set a (.inl (2, n, .inr (.inr (.inr (.inl (va_up f i.toNatClampNeg x)))))) := by
  unfold uD at h
  split at h
  · next t2 n f e =>
    split at h
    · next e2 =>
      subst e2
      split at h
      · cases h
      · next e3 => exact ⟨n, f, e, e3, (Option.some.inj h).symm⟩
    · cases h
  · cases h
theorem uQ_spec {t ci : Nat} {M M2 : mM} {a : Nat} {i : Int32} {x : Option Nat} (h : uQ t ci M a i x = some M2) : ∃ (n : Nat) (f : Nat → Option Nat), M[a]? = some (.inl (t, n, .inr (.inr (.inr (.inr f))))) ∧ vp_in i n ∧ M2 = M.set a (.inl (t, n, .inr (.inr (.inr (.inr (va_up f i.toNatClampNeg x)))))) ∧ (x = none ∨ ∃ (y : Nat) (fs : List Value), x = some y ∧ M[y]? = some (.inr (ci, fs))) := by
  unfold uQ at h
  split at h
  · next t2 n f e =>
    split at h
    · next e2 =>
      subst e2
      split at h
      · cases h
      · next e3 =>
        split at h
        · exact ⟨n, f, e, e3, (Option.some.inj h).symm, Or.inl rfl⟩
        · next y =>
          split at h
          · next c fs e4 =>
            split at h
            · next e5 => subst e5; exact ⟨n, f, e, e3, (Option.some.inj h).symm, Or.inr ⟨y, fs, rfl, e4⟩⟩
            · cases h
          · cases h
    · cases h
  · cases h
-- statics
def zKinds (i : Int32) : Option Nat := if mOut i 4 then none else some i.toNatClampNeg
def zMost (i : Int32) : Option Int32 := if mOut i 4 then none else some (mostF i.toNatClampNeg)
def zDgO (i : Int32) : Option Int32 := if mOut i 100 then none else some (dgO i.toNatClampNeg)
def zDgT (i : Int32) : Option Int32 := if mOut i 100 then none else some (dgT i.toNatClampNeg)
def zK (l : List Int32) (a : Nat) : Option Int32 := if a < 4 then some (l.getD a 0) else none
def zK0 : Nat → Option Int32 := zK [0, 1, 2, 3]
def zK1 : Nat → Option Int32 := zK [-1, 0, 0, 2]
def zK2 : Nat → Option Int32 := zK [2, 0, 4, 3]
