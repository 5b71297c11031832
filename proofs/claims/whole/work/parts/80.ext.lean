-- more memory behind
def DX (D D2 : mM) : Prop := ∀ (j : Nat) (x : mC), D[j]? = some x → D2[j]? = some x
theorem DX.app {D E : mM} : DX D (D ++ E) := fun j x h => by
  have hj : j < D.length := by
    rcases Nat.lt_or_ge j D.length with q | q
    · exact q
    · rw [List.getElem?_eq_none q] at h
      cases h
  rw [List.getElem?_append_left hj]
  exact h
theorem DX.trans {A B C : mM} (h : DX A B) (h2 : DX B C) : DX A C := fun j x e => h2 j x (h j x e)
theorem RO.ext {P : PL} {now : Nat → Int32} {D D2 : mM} (h : RO P now D) (e : DX D D2) : RO P now D2 := by
  refine ⟨fun i hi => ?_, fun i hi => ?_, h.2.2⟩
  · rcases h.1 i hi with h | ⟨j, nm, lg, pr, wt, h1, h2⟩
    · exact Or.inl h
    · exact Or.inr ⟨j, nm, lg, pr, wt, h1, e _ _ h2⟩
  · obtain ⟨j, l0, l1, l2, lg, pr, wt, h1, h2, h3⟩ := h.2.1 i hi
    exact ⟨j, l0, l1, l2, lg, pr, wt, h1, e _ _ h2, h3⟩
theorem PG.ext {c : CS} {d : MS} {D D2 : mM} (h : PG c d D) (e : DX D D2) : PG c d D2 := by
  obtain ⟨a1, a2, a3, n, f, a4, a5⟩ := h
  refine ⟨a1, a2, a3, n, f, ?_, a5⟩
  rcases a4 with h | ⟨j, h1, h2⟩
  · exact Or.inl h
  · exact Or.inr ⟨j, h1, e _ _ h2⟩
theorem IM.ext {c : CS} {d : MS} {D D2 : mM} (h : IM c d D) (e : DX D D2) : IM c d D2 := by
  rcases h with h | ⟨h1, h2, h3, h4⟩
  · exact Or.inl h
  · exact Or.inr ⟨h1, h2, h3, h4.ext e⟩
theorem RR.ext {c : CS} {d : MS} {D D2 : mM} (h : RR c d D) (e : DX D D2) : RR c d D2 :=
  ⟨h.1, h.2.1.ext e, h.2.2.1.ext e, h.2.2.2.1, h.2.2.2.2.1, h.2.2.2.2.2.1.ext e, h.2.2.2.2.2.2.1, h.2.2.2.2.2.2.2⟩
theorem okR.ext {D D2 : mM} {x : Option Nat} (h : okR D x) (e : DX D D2) : okR D2 x := by
  rcases h with h | ⟨j, nm, lg, pr, wt, h1, h2⟩
  · exact Or.inl h
  · exact Or.inr ⟨j, nm, lg, pr, wt, h1, e _ _ h2⟩
-- one route more, in its place
section
variable {c : CS} {d : MS} {D : mM} {N k : Nat} {a : Int32} {P : PL}
/-- where a name goes: behind the last name that isn't above it -/
def posR (now : Nat → Int32) (nm : Nat) : Nat → Nat
  | 0 => 0
  | i + 1 => if nmR now i ≤ nm then i + 1 else posR now nm i
theorem posR_le {now : Nat → Int32} {nm : Nat} : ∀ i, posR now nm i ≤ i
  | 0 => Nat.le_refl 0
  | i + 1 => by
    have := posR_le (now := now) (nm := nm) i
    unfold posR
    split <;> omega
def insF {α : Type} (f : Nat → α) (p r : Nat) (x : α) (q : Nat) : α := if q < p then f q else if q = p then x else if q ≤ r then f (q - 1) else f q
theorem xadd_go {jn nm lg pr wt r : Nat} (hnm : nm < 2 ^ 24) (hr : r ≤ 11) (hN : D[jn]? = some (cRt nm lg pr wt)) : ∀ (n i : Nat) (c : CS), c.pl.rc = r → i ≤ r → i < n → (∀ q, q < 12 → okR D (c.pl.rts q)) → (∀ q, q < i → ∃ j l0 l1 l2 lg pr wt, c.pl.rts q = some (j + 120) ∧ D[j]? = some (cRt (nmR d.now q) lg pr wt) ∧ nmR d.now q < 2 ^ 24 ∧ RN d.now q l0 l1 l2 lg pr wt) → ∃ f : Nat → Option Nat, m_X4_add_L20 N n 14 (jn + 120) (nI i) (nI i) (mk c d D) = some (mk (c.s_pl ((c.pl.s_rts f).s_rc (r + 1))) d D) ∧ (∀ q, q < 12 → f q = if q < posR d.now nm i then c.pl.rts q else if q = posR d.now nm i then some (jn + 120) else if q ≤ i then c.pl.rts (q - 1) else c.pl.rts q) := by
  intro n
  induction n with
  | zero => intro i c _ _ h; omega
  | succ n ih =>
    intro i c hrc hi hn hok hg
    have ok1 : okR D (some (jn + 120)) := Or.inr ⟨jn, nm, lg, pr, wt, rfl, hN⟩
    have fin : ∃ f : Nat → Option Nat, m_X4_add_J66 N 14 (jn + 120) (nI i) (mk c d D) = some (mk (c.s_pl ((c.pl.s_rts f).s_rc (r + 1))) d D) ∧ (∀ q, q < 12 → f q = if q < i then c.pl.rts q else if q = i then some (jn + 120) else if q ≤ i then c.pl.rts (q - 1) else c.pl.rts q) := by
      refine ⟨va_up c.pl.rts i (some (jn + 120)), ?_, fun q hq => ?_⟩
      · unfold m_X4_add_J66
        rw [yr_14_2, Option.bind_some, yuQ_17 (by omega) ok1, Option.bind_some, yr_14_3, Option.bind_some, nI_1, yw_14_3, Option.bind_some]
        rw [show (c.s_pl (c.pl.s_rts (va_up c.pl.rts i (some (jn + 120))))).pl.rc = r from hrc]
        rfl
      · by_cases e : q = i
        · subst e
          rw [upe, if_neg (by omega), if_pos rfl]
        · rw [upn e, if_neg e]
          split
          · rfl
          · rw [if_neg (by omega)]
    unfold m_X4_add_L20
    by_cases e : i = 0
    · subst e
      rw [if_pos (by decide)]
      exact fin
    · obtain ⟨p, rfl⟩ : ∃ p, i = p + 1 := ⟨i - 1, by omega⟩
      obtain ⟨j, l0, l1, l2, lg2, pr2, wt2, g1, g2, g3, g4⟩ := hg p (by omega)
      have ar := ya_17r (d := d) (D := D) (by omega) g1
      rw [if_neg (nI_nle (by omega) (by omega)), yr_14_2, Option.bind_some, show (1 : Int32) = nI 1 from rfl, pk_sub (by omega), Nat.add_sub_cancel, ar, Option.bind_some, yd_0 g2, Option.bind_some, yd_0 hN, Option.bind_some]
      by_cases z : nmR d.now p ≤ nm
      · rw [if_pos ((nI_leI (by omega) (by omega)).mpr z), show posR d.now nm (p + 1) = p + 1 from if_pos z]
        exact fin
      · rw [if_neg (fun y => z ((nI_leI (by omega) (by omega)).mp y)), show posR d.now nm (p + 1) = posR d.now nm p from if_neg z]
        have pl := posR_le (now := d.now) (nm := nm) p
        have ok2 : ∀ q, q < 12 → okR D ((c.s_pl (c.pl.s_rts (va_up c.pl.rts (p + 1) (c.pl.rts p)))).pl.rts q) := fun q hq => by
          show okR D (va_up c.pl.rts (p + 1) (c.pl.rts p) q)
          by_cases e2 : q = p + 1
          · subst e2; rw [upe]; exact hok _ (by omega)
          · rw [upn e2]; exact hok q hq
        obtain ⟨f, f1, f2⟩ := ih p (c.s_pl (c.pl.s_rts (va_up c.pl.rts (p + 1) (c.pl.rts p)))) hrc (by omega) (by omega) ok2 (fun q hq => by
          obtain ⟨j, l0, l1, l2, lg3, pr3, wt3, g1, g2⟩ := hg q (by omega)
          refine ⟨j, l0, l1, l2, lg3, pr3, wt3, ?_, g2⟩
          show va_up c.pl.rts (p + 1) (c.pl.rts p) q = _
          rw [upn (by omega)]
          exact g1)
        have em : nI (p + 1) + -nI 1 = nI p := pk_m1 p
        refine ⟨f, ?_, fun q hq => ?_⟩
        · rw [Option.bind_some, Option.bind_some, ya_17 (by omega), Option.bind_some, yuQ_17 (by omega) (hok _ (by omega)), Option.bind_some, em]
          exact f1
        · rw [f2 q hq]
          show (if q < posR d.now nm p then va_up c.pl.rts (p + 1) (c.pl.rts p) q else if q = posR d.now nm p then some (jn + 120) else if q ≤ p then va_up c.pl.rts (p + 1) (c.pl.rts p) (q - 1) else va_up c.pl.rts (p + 1) (c.pl.rts p) q) = _
          by_cases h1 : q < posR d.now nm p
          · rw [if_pos h1, if_pos h1, upn (by omega)]
          · rw [if_neg h1, if_neg h1]
            by_cases h2 : q = posR d.now nm p
            · rw [if_pos h2, if_pos h2]
            · rw [if_neg h2, if_neg h2]
              by_cases h3 : q ≤ p
              · rw [if_pos h3, if_pos (by omega), upn (by omega)]
              · rw [if_neg h3]
                by_cases h4 : q = p + 1
                · subst h4
                  rw [upe, if_pos (Nat.le_refl _), Nat.add_sub_cancel]
                · rw [upn h4, if_neg (by omega)]
end
