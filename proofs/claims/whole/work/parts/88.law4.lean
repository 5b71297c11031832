-- the law: what is left of it is book and spell
set_option maxRecDepth 100000 in
set_option maxHeartbeats 4000000 in
theorem p_init_len : (m_X11_init 20000 100 1800 M000.length (M000 ++ [.inr (11, [.null, .null, .int 0, .null, .null, .null, .null, .null, .null, .null, .null, .null])])).map (fun x => x.length) = some 100 := by
  rfl
set_option maxRecDepth 8192 in
theorem p_law_of (hB : BookOK) (hS : SpellOK) {xs : Nat → Int32} {L : Nat} (hL : L ≤ 2560) : m_L_law xs L 20000 600000 7302250 M000 = some () := by
  obtain ⟨x1, h1, h2⟩ := Option.bind_eq_some_iff.mp p_init
  have h3 := p_init_len
  rw [h1] at h3
  have h3 : x1.length = 100 := Option.some.inj h3
  have e10 : M000.length = 10 := by unfold M000; exact List.length_replicate
  have o1 : oif (0 + 1 ≤ 600000 ∧ 0 + 12 ≤ 7302250) = some () := if_pos (by decide)
  have o2 : oif ((0 + 1) + 100 ≤ 600000 ∧ (0 + 12) + 1800 ≤ 7302250) = some () := if_pos (by decide)
  have o3 : oif (((0 + 1) + 100) + 1 ≤ 600000 ∧ ((0 + 12) + 1800) + 29 ≤ 7302250) = some () := if_pos (by decide)
  have o4 : oif ((((0 + 1) + 100) + 1) + 30 ≤ 600000 ∧ (((0 + 12) + 1800) + 29) + 2000 ≤ 7302250) = some () := if_pos (by decide)
  unfold m_L_law
  rw [o1, Option.bind_some, o2, Option.bind_some, h1, Option.bind_some, o3, Option.bind_some, o4, Option.bind_some, h2, Option.bind_some, h3]
  have z := l18 (sc := xs) hB hS hL 20000 0 c0 d0 [] ((((0 + 1) + 100) + 1) + 30) ((((0 + 12) + 1800) + 29) + 2000) rr0 (by omega) (by omega) (by omega) (by omega)
  rw [e10]
  rw [show nI (5 * 0) = 0 from rfl] at z
  exact z
