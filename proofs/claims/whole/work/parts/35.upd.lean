-- one number of the plan changed, on both sides
theorem upe {α : Type} {f : Nat → α} {i : Nat} {x : α} : va_up f i x i = x := if_pos rfl
theorem upn {α : Type} {f : Nat → α} {i j : Nat} {x : α} (h : j ≠ i) : va_up f i x j = f j := if_neg h
theorem osum_up {o : Nat → Nat → Nat} {k j v : Nat} : ∀ n : Nat, k < n → osum (va_up o k (va_up (o k) j v)) j n + o k j = osum o j n + v
  | 0, h => by omega
  | n + 1, h => by
    unfold osum
    by_cases e : k = n
    · subst e
      rw [osum_congr (o2 := o) k (fun i hi => by rw [upn (by omega)]), upe, upe]
      omega
    · have := osum_up (o := o) (k := k) (j := j) (v := v) n (by omega)
      rw [upn (f := o) (i := k) (j := n) (by omega)]
      omega
theorem osum_up2 {o : Nat → Nat → Nat} {k j i v : Nat} (h : i ≠ j) (n : Nat) : osum (va_up o k (va_up (o k) j v)) i n = osum o i n :=
  osum_congr n fun z hz => by
    by_cases e : z = k
    · subst e; rw [upe, upn h]
    · rw [upn e]
section
variable {P : PL} {now : Nat → Int32}
theorem PR.u_rule (h : PR P now) {i v : Nat} (hi : i < 4) (hv : v ≤ bdR i) : PR (P.s_rules (va_up P.rules i v)) (va_up now (1 + i) (nI v)) := by
  unfold PR
  simp only [pPL_rules]
  refine ⟨⟨h.n, ?_⟩, fun j hj => ⟨?_, ?_⟩, ⟨h.rc, ?_⟩, fun j hj => ⟨h.k hj, ?_⟩, fun j hj => ⟨h.p hj, ?_⟩, fun j hj => ⟨h.h hj, ?_⟩, fun j hj q hq => ⟨h.o hj hq, ?_⟩, fun j hj => ⟨h.l hj, ?_⟩, fun j hj => ⟨h.f hj, ?_⟩, ?_, fun j hj => h.pp hj, fun j hj => h.os hj⟩
  all_goals (simp only [va_up]; repeat' split)
  all_goals first | rfl | omega | (next e => subst e; exact hv) | exact h.n_ | exact h.rc_ | exact h.s_ | exact h.r hj | exact h.r_ hj | exact h.k_ hj | exact h.p_ hj | exact h.h_ hj | exact h.o_ hj hq | exact h.l_ hj | exact h.f_ hj
theorem PR.u_hand (h : PR P now) {i v : Nat} (hi : i < 6) (hv : v ≤ 30) : PR (P.s_hand (va_up P.hand i v)) (va_up now (122 + i) (nI v)) := by
  unfold PR
  simp only [pPL_hand]
  refine ⟨⟨h.n, ?_⟩, fun j hj => ⟨h.r hj, ?_⟩, ⟨h.rc, ?_⟩, fun j hj => ⟨h.k hj, ?_⟩, fun j hj => ⟨h.p hj, ?_⟩, fun j hj => ⟨?_, ?_⟩, fun j hj q hq => ⟨h.o hj hq, ?_⟩, fun j hj => ⟨h.l hj, ?_⟩, fun j hj => ⟨h.f hj, ?_⟩, ?_, fun j hj => h.pp hj, fun j hj => h.os hj⟩
  all_goals (simp only [va_up]; repeat' split)
  all_goals first | rfl | omega | exact h.n_ | exact h.rc_ | exact h.s_ | exact h.r_ hj | exact h.k_ hj | exact h.p_ hj | exact h.h hj | exact h.h_ hj | exact h.o_ hj hq | exact h.l_ hj | exact h.f_ hj
theorem PR.u_len (h : PR P now) {i v : Nat} (hi : i < 4) (hv : 1 ≤ v ∧ v ≤ 9999) : PR (P.s_len (va_up P.len i v)) (va_up now (42 + i) (nI v)) := by
  unfold PR
  simp only [pPL_len]
  refine ⟨⟨h.n, ?_⟩, fun j hj => ⟨h.r hj, ?_⟩, ⟨h.rc, ?_⟩, fun j hj => ⟨h.k hj, ?_⟩, fun j hj => ⟨h.p hj, ?_⟩, fun j hj => ⟨h.h hj, ?_⟩, fun j hj q hq => ⟨h.o hj hq, ?_⟩, fun j hj => ⟨?_, ?_⟩, fun j hj => ⟨h.f hj, ?_⟩, ?_, fun j hj => h.pp hj, fun j hj => h.os hj⟩
  all_goals (simp only [va_up]; repeat' split)
  all_goals first | rfl | exact hv | omega | exact h.n_ | exact h.rc_ | exact h.s_ | exact h.r_ hj | exact h.k_ hj | exact h.p_ hj | exact h.h_ hj | exact h.o_ hj hq | exact h.l hj | exact h.l_ hj | exact h.f_ hj
theorem PR.u_free (h : PR P now) {i v : Nat} (hi : i < 4) (hv : v ≤ 99) : PR (P.s_free (va_up P.free i v)) (va_up now (46 + i) (nI v)) := by
  unfold PR
  simp only [pPL_free]
  refine ⟨⟨h.n, ?_⟩, fun j hj => ⟨h.r hj, ?_⟩, ⟨h.rc, ?_⟩, fun j hj => ⟨h.k hj, ?_⟩, fun j hj => ⟨h.p hj, ?_⟩, fun j hj => ⟨h.h hj, ?_⟩, fun j hj q hq => ⟨h.o hj hq, ?_⟩, fun j hj => ⟨h.l hj, ?_⟩, fun j hj => ⟨?_, ?_⟩, ?_, fun j hj => h.pp hj, fun j hj => h.os hj⟩
  all_goals (simp only [va_up]; repeat' split)
  all_goals first | rfl | omega | exact h.n_ | exact h.rc_ | exact h.s_ | exact h.r_ hj | exact h.k_ hj | exact h.p_ hj | exact h.h_ hj | exact h.o_ hj hq | exact h.l_ hj | exact h.f hj | exact h.f_ hj
theorem PR.u_seed (h : PR P now) (x : Int32) : PR (P.s_seed x) (va_up now 128 x) := by
  unfold PR
  simp only [pPL_seed]
  refine ⟨⟨h.n, ?_⟩, fun j hj => ⟨h.r hj, ?_⟩, ⟨h.rc, ?_⟩, fun j hj => ⟨h.k hj, ?_⟩, fun j hj => ⟨h.p hj, ?_⟩, fun j hj => ⟨h.h hj, ?_⟩, fun j hj q hq => ⟨h.o hj hq, ?_⟩, fun j hj => ⟨h.l hj, ?_⟩, fun j hj => ⟨h.f hj, ?_⟩, ?_, fun j hj => h.pp hj, fun j hj => h.os hj⟩
  all_goals (simp only [va_up]; repeat' split)
  all_goals first | rfl | omega | exact h.n_ | exact h.rc_ | exact h.s_ | exact h.r_ hj | exact h.k_ hj | exact h.p_ hj | exact h.h_ hj | exact h.o_ hj hq | exact h.l_ hj | exact h.f_ hj | (next e => exact absurd trivial e)
theorem osum_mono {o : Nat → Nat → Nat} {j : Nat} : ∀ {n m : Nat}, n ≤ m → osum o j n ≤ osum o j m
  | n, 0, h => by have : n = 0 := by omega
                  subst this; exact Nat.le_refl _
  | n, m + 1, h => by
    by_cases e : n = m + 1
    · subst e; exact Nat.le_refl _
    · exact Nat.le_trans (osum_mono (m := m) (by omega)) (Nat.le_add_right _ _)
theorem PR.u_drop (h : PR P now) {n : Nat} (hn : n ≤ P.n) : PR (P.s_n n) (va_up now 0 (nI n)) := by
  have := h.n
  unfold PR
  simp only [pPL_n]
  refine ⟨⟨by omega, ?_⟩, fun j hj => ⟨h.r hj, ?_⟩, ⟨h.rc, ?_⟩, fun j hj => ⟨h.k hj, ?_⟩, fun j hj => ⟨h.p hj, ?_⟩, fun j hj => ⟨h.h hj, ?_⟩, fun j hj q hq => ⟨h.o hj hq, ?_⟩, fun j hj => ⟨h.l hj, ?_⟩, fun j hj => ⟨h.f hj, ?_⟩, ?_, fun j hj => h.pp (by omega), fun j hj => Nat.le_trans (osum_mono hn) (h.os hj)⟩
  all_goals (simp only [va_up]; repeat' split)
  all_goals first | rfl | omega | exact h.n_ | exact h.rc_ | exact h.s_ | exact h.r_ hj | exact h.k_ hj | exact h.p_ hj | exact h.h_ hj | exact h.o_ hj hq | exact h.l_ hj | exact h.f_ hj | (next e => exact absurd trivial e)
theorem PR.u_odds (h : PR P now) {k i v : Nat} (hk : k < P.n) (hi : i < 4) (hv : v ≤ 100) (hs : osum P.odds i P.n + v ≤ 100 + P.odds k i) : PR (P.s_odds (va_up P.odds k (va_up (P.odds k) i v))) (va_up now (18 + 4 * k + i) (nI v)) := by
  have := h.n
  unfold PR
  simp only [pPL_odds]
  refine ⟨⟨h.n, ?_⟩, fun j hj => ⟨h.r hj, ?_⟩, ⟨h.rc, ?_⟩, fun j hj => ⟨h.k hj, ?_⟩, fun j hj => ⟨h.p hj, ?_⟩, fun j hj => ⟨h.h hj, ?_⟩, fun j hj q hq => ?_, fun j hj => ⟨h.l hj, ?_⟩, fun j hj => ⟨h.f hj, ?_⟩, ?_, fun j hj => h.pp hj, fun j hj => ?_⟩
  case refine_7 =>
    by_cases e : j = k
    · subst e
      rw [upe]
      by_cases e2 : q = i
      · subst e2; rw [upe, upe]; exact ⟨hv, rfl⟩
      · rw [upn e2, upn (by omega)]; exact ⟨h.o hj hq, h.o_ hj hq⟩
    · rw [upn e, upn (by omega)]; exact ⟨h.o hj hq, h.o_ hj hq⟩
  case refine_11 =>
    by_cases e : j = i
    · subst e
      have := osum_up (o := P.odds) (k := k) (j := j) (v := v) P.n hk
      omega
    · rw [osum_up2 e]; exact h.os hj
  all_goals (simp only [va_up]; repeat' split)
  all_goals first | rfl | omega | exact h.n_ | exact h.rc_ | exact h.s_ | exact h.r_ hj | exact h.k_ hj | exact h.p_ hj | exact h.h_ hj | exact h.l_ hj | exact h.f_ hj
end
