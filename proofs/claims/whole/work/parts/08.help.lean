theorem obnd {α β : Type} {x : Option α} {f : α → Option β} {r : β} (h : x.bind f = some r) : ∃ v, x = some v ∧ f v = some r := Option.bind_eq_some_iff.mp h
def oif (c : Prop) [Decidable c] : Option Unit := if c then some () else none
theorem oif_eq {c : Prop} [Decidable c] {u : Unit} (h : oif c = some u) : c := by
  unfold oif at h
  split at h
  · assumption
  · cases h
theorem oif_of {c : Prop} [Decidable c] (h : c) : oif c = some () := if_pos h
theorem oit {β : Type} {c : Prop} [Decidable c] {a b : Option β} {r : β} (h : (if c then a else b) = some r) (hc : c) : a = some r := by
  rw [if_pos hc] at h
  exact h
theorem oie {β : Type} {c : Prop} [Decidable c] {a b : Option β} {r : β} (h : (if c then a else b) = some r) (hc : ¬ c) : b = some r := by
  rw [if_neg hc] at h
  exact h
/-- a double, float that is no NaN -/
def oD (x : UInt64) : Option UInt64 := if x &&& 0x7fffffffffffffff ≤ 0x7ff0000000000000 then some x else none
def oF (x : UInt32) : Option UInt32 := if x &&& 0x7fffffff ≤ 0x7f800000 then some x else none
theorem oD_eq {x v : UInt64} (h : oD x = some v) : vf_n64 x ∧ v = x := by
  unfold oD at h
  split at h
  · next e => exact ⟨e, (Option.some.inj h).symm⟩
  · cases h
theorem oF_eq {x v : UInt32} (h : oF x = some v) : vf_n32 x ∧ v = x := by
  unfold oF at h
  split at h
  · next e => exact ⟨e, (Option.some.inj h).symm⟩
  · cases h
def oO (M : mM) (a ci : Nat) : Option Unit := match M[a]? with
  | some (.inr (c, _)) => if c = ci then some () else none
  | _ => none
theorem oO_eq {M : mM} {a ci : Nat} {u : Unit} (h : oO M a ci = some u) : ∃ fs : List Value, M[a]? = some (.inr (ci, fs)) := by
  unfold oO at h
  split at h
  · next c fs e =>
    split at h
    · next e2 => subst e2; exact ⟨fs, e⟩
    · cases h
  · cases h
theorem sZ_V {M M2 : mM} {a ci k : Nat} {x : Int32} (h : sZ M a ci k x = some M2) : sV M a ci k (.int x) = some M2 := by
  unfold sZ at h
  split at h
  · exact h
  · cases h
theorem sZ_fit {M M2 : mM} {a ci k : Nat} {x : Int32} (h : sZ M a ci k x = some M2) : narrow .boolean (.int x) = .int x ∧ fits .boolean (.int x) = true := by
  unfold sZ at h
  split at h
  · next e => rcases e with rfl | rfl <;> exact ⟨rfl, rfl⟩
  · cases h
theorem sB_V {M M2 : mM} {a ci k : Nat} {x : Int32} (h : sB M a ci k x = some M2) : sV M a ci k (.int x) = some M2 := by
  unfold sB at h
  split at h
  · exact h
  · cases h
theorem sB_fit {M M2 : mM} {a ci k : Nat} {x : Int32} (h : sB M a ci k x = some M2) : narrow .byte (.int x) = .int x ∧ fits .byte (.int x) = true := by
  unfold sB at h
  split at h
  · next e => rw [← e]; exact ⟨pk_nb x, pk_fb x⟩
  · cases h
theorem mcap {X : mX} {L0 : Launch} {fr lo mc ms a b : Nat} {r : Option Value} {M2 : mM} (E : EX X L0 fr lo mc ms r M2) (h : a ≤ mc ∧ b ≤ ms) : a ≤ (xR X).cells ∧ b ≤ (xR X).slots := by rw [E.2.1]; exact h
theorem mfr {X : mX} {L0 : Launch} {fr lo mc ms k : Nat} {r : Option Value} {M2 : mM} (E : EX X L0 fr lo mc ms r M2) (h : k ≤ fr) : k ≤ (xR X).frames := by rw [E.2.1]; exact h
theorem mlo {X : mX} {L0 : Launch} {fr lo mc ms k : Nat} {r : Option Value} {M2 : mM} (E : EX X L0 fr lo mc ms r M2) (h : k ≤ lo) : k ≤ (xR X).locals := by rw [E.2.1]; exact h
theorem tab_out {x : Int32} {lo n : Nat} (h : ∀ a, a < n → ¬ x = nI (lo + a)) (h1 : 0 < n) (hn : lo + n < 2 ^ 31) : x.toInt < (lo : Int) ∨ ((lo + n - 1 : Nat) : Int) < x.toInt := by
  rcases Int.lt_or_le x.toInt lo with q | q
  · exact Or.inl q
  · rcases Int.lt_or_le ((lo + n - 1 : Nat) : Int) x.toInt with q2 | q2
    · exact Or.inr q2
    · exfalso
      refine h (x.toInt.toNat - lo) (by omega) (Int32.toInt_inj.mp ?_)
      rw [nI_toInt (by omega)]
      omega
