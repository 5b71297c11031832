/-! FareLimitsModel writesNumber(I)V -/
theorem dX12_writesNumber_0 : decode prog_14_method_88_code 0 = .ok (.iload_n 1, 1) := by decide +kernel
theorem dX12_writesNumber_1 : decode prog_14_method_88_code 1 = .ok (.bipush 9, 2) := by decide +kernel
theorem dX12_writesNumber_3 : decode prog_14_method_88_code 3 = .ok (.if_icmp .le 11, 3) := by decide +kernel
theorem dX12_writesNumber_6 : decode prog_14_method_88_code 6 = .ok (.aload_n 0, 1) := by decide +kernel
theorem dX12_writesNumber_7 : decode prog_14_method_88_code 7 = .ok (.iload_n 1, 1) := by decide +kernel
theorem dX12_writesNumber_8 : decode prog_14_method_88_code 8 = .ok (.bipush 10, 2) := by decide +kernel
theorem dX12_writesNumber_10 : decode prog_14_method_88_code 10 = .ok (.idiv, 1) := by decide +kernel
theorem dX12_writesNumber_11 : decode prog_14_method_88_code 11 = .ok (.invokevirtual 318, 3) := by decide +kernel
theorem dX12_writesNumber_14 : decode prog_14_method_88_code 14 = .ok (.aload_n 0, 1) := by decide +kernel
theorem dX12_writesNumber_15 : decode prog_14_method_88_code 15 = .ok (.bipush 48, 2) := by decide +kernel
theorem dX12_writesNumber_17 : decode prog_14_method_88_code 17 = .ok (.iload_n 1, 1) := by decide +kernel
theorem dX12_writesNumber_18 : decode prog_14_method_88_code 18 = .ok (.bipush 10, 2) := by decide +kernel
theorem dX12_writesNumber_20 : decode prog_14_method_88_code 20 = .ok (.irem, 1) := by decide +kernel
theorem dX12_writesNumber_21 : decode prog_14_method_88_code 21 = .ok (.iadd, 1) := by decide +kernel
theorem dX12_writesNumber_22 : decode prog_14_method_88_code 22 = .ok (.invokevirtual 321, 3) := by decide +kernel
theorem dX12_writesNumber_25 : decode prog_14_method_88_code 25 = .ok (.return_, 1) := by decide +kernel
def m_X12_writesNumber_J14  (a0 : Nat) (i1 : Int32) (M : mM) : Option (mM) :=
  (oO M a0 12).bind fun _ =>
  (m_X12_writes a0 (48 + (i1 - i1 / 10 * 10)) M).bind fun x3 =>
  some x3
set_option maxHeartbeats 4000000 in
set_option maxRecDepth 100000 in
theorem t_X12_writesNumber_J14 {X : mX} {L0 : Launch} {res : mM} {r : Nat} (C : CX X RX12 "writesNumber" prog_14_method_88_code 2 none) (E : EX X L0 (r + 1) (40 * (r + 1)) 0 0 none res)   (a0 : Nat) (i1 : Int32) (M : mM) (hf : m_X12_writesNumber_J14  a0 i1 M = some res) : EV X 2 14 [(0, .ref a0), (1, .int i1)] [] 0 0 M := by
  unfold m_X12_writesNumber_J14 at hf
  refine ev_aload_n C dX12_writesNumber_14 rfl (q := 0) rfl ?_
  refine ev_bipush (v := 48) C dX12_writesNumber_15 (by decide) ?_
  refine ev_iload_n C dX12_writesNumber_17 rfl (q := 1) rfl ?_
  refine ev_bipush (v := 10) C dX12_writesNumber_18 (by decide) ?_
  refine ev_irem C dX12_writesNumber_20 (by decide) ?_
  refine ev_iadd C dX12_writesNumber_21 ?_
  obtain ⟨_, e1, hf⟩ := obnd hf
  obtain ⟨fs2, e1⟩ := oO_eq e1
  obtain ⟨x3, e4, hf⟩ := obnd hf
  refine ev_callV0 (As := [.int (48 + (i1 - i1 / 10 * 10))]) (st := []) C rfl e1 (t_X12_writes e4) rfl hd_X12_writes rfl kw_1624 kw_1626 kw_87 kw_64 kw_1627 (mRoom.of E (by omega) (by omega) (Nat.le_refl 0) (Nat.le_refl 0)) (Nat.le_of_ble_eq_true rfl) dX12_writesNumber_22 ?_
  obtain rfl := Option.some.inj hf
  exact ev_vret C E (Nat.le_refl 0) (Nat.le_refl 0) dX12_writesNumber_25
def m_X12_writesNumber : Nat → Nat → Int32 → mM → Option (mM)
  | 0, _, _, _ => none
  | r + 1, a0, i1, M =>
    if i1 ≤ 9 then (
      m_X12_writesNumber_J14  a0 i1 M) else (
      (oO M a0 12).bind fun _ =>
      (m_X12_writesNumber r a0 (i1 / 10) M).bind fun x3 =>
      m_X12_writesNumber_J14  a0 i1 x3)
set_option maxHeartbeats 4000000 in
set_option maxRecDepth 100000 in
theorem t_X12_writesNumber : ∀ (r : Nat) {L0 : Launch} {M : mM} {a0 : Nat} {i1 : Int32} {res : mM} (hf : m_X12_writesNumber r a0 i1 M = some res), CT L0 yX12_writesNumber prog_14_method_88_code 2 none r (40 * r) 0 0 [.ref a0, .int i1] M none res := by
  intro r
  induction r with
  | zero => intro L0 M a0 i1 res hf; cases (show (none : Option (mM)) = some res from hf)
  | succ r ih =>
    intro L0 M a0 i1 res hf
    rw [m_X12_writesNumber] at hf
    refine CT.of (by decide +kernel) (Nat.le_of_ble_eq_true rfl) fun X C E => ?_
    have C : CX X RX12 "writesNumber" prog_14_method_88_code 2 none := C
    show EV X 2 0 [(0, .ref a0), (1, .int i1)] [] 0 0 M
    refine ev_iload_n C dX12_writesNumber_0 rfl (q := 1) rfl ?_
    refine ev_bipush (v := 9) C dX12_writesNumber_1 (by decide) ?_
    refine ev_icmp_le (tgt := 14) C dX12_writesNumber_3 (by decide) (fun hc => ?_) (fun hc => ?_)
    · have hf := oit hf hc
      exact t_X12_writesNumber_J14 C E   a0 i1 M hf
    · have hf := oie hf hc
      refine ev_aload_n C dX12_writesNumber_6 rfl (q := 0) rfl ?_
      refine ev_iload_n C dX12_writesNumber_7 rfl (q := 1) rfl ?_
      refine ev_bipush (v := 10) C dX12_writesNumber_8 (by decide) ?_
      refine ev_idiv C dX12_writesNumber_10 (by decide) ?_
      obtain ⟨_, e1, hf⟩ := obnd hf
      obtain ⟨fs2, e1⟩ := oO_eq e1
      obtain ⟨x3, e4, hf⟩ := obnd hf
      refine ev_callV0 (As := [.int (i1 / 10)]) (st := []) C rfl e1 (ih e4) rfl hd_X12_writesNumber rfl kw_1628 kw_1630 kw_87 kw_65 kw_1631 (mRoom.of E (by omega) (by omega) (Nat.le_refl 0) (Nat.le_refl 0)) (Nat.le_of_ble_eq_true rfl) dX12_writesNumber_11 ?_
      exact t_X12_writesNumber_J14 C E   a0 i1 x3 hf
/-! FareLimitsModel spell()I -/
theorem dX12_spell_0 : decode prog_14_method_89_code 0 = .ok (.aload_n 0, 1) := by decide +kernel
theorem dX12_spell_1 : decode prog_14_method_89_code 1 = .ok (.iconst 0, 1) := by decide +kernel
theorem dX12_spell_2 : decode prog_14_method_89_code 2 = .ok (.putfield 315, 3) := by decide +kernel
theorem dX12_spell_5 : decode prog_14_method_89_code 5 = .ok (.iconst 0, 1) := by decide +kernel
theorem dX12_spell_6 : decode prog_14_method_89_code 6 = .ok (.istore_n 1, 1) := by decide +kernel
theorem dX12_spell_7 : decode prog_14_method_89_code 7 = .ok (.iload_n 1, 1) := by decide +kernel
theorem dX12_spell_8 : decode prog_14_method_89_code 8 = .ok (.aload_n 0, 1) := by decide +kernel
theorem dX12_spell_9 : decode prog_14_method_89_code 9 = .ok (.getfield 9, 3) := by decide +kernel
theorem dX12_spell_12 : decode prog_14_method_89_code 12 = .ok (.iconst 5, 1) := by decide +kernel
theorem dX12_spell_13 : decode prog_14_method_89_code 13 = .ok (.iaload, 1) := by decide +kernel
theorem dX12_spell_14 : decode prog_14_method_89_code 14 = .ok (.if_icmp .ge 131, 3) := by decide +kernel
theorem dX12_spell_17 : decode prog_14_method_89_code 17 = .ok (.iload_n 1, 1) := by decide +kernel
theorem dX12_spell_18 : decode prog_14_method_89_code 18 = .ok (.ifCond .le 9, 3) := by decide +kernel
theorem dX12_spell_21 : decode prog_14_method_89_code 21 = .ok (.aload_n 0, 1) := by decide +kernel
theorem dX12_spell_22 : decode prog_14_method_89_code 22 = .ok (.bipush 59, 2) := by decide +kernel
theorem dX12_spell_24 : decode prog_14_method_89_code 24 = .ok (.invokevirtual 321, 3) := by decide +kernel
theorem dX12_spell_27 : decode prog_14_method_89_code 27 = .ok (.iconst 0, 1) := by decide +kernel
theorem dX12_spell_28 : decode prog_14_method_89_code 28 = .ok (.istore_n 2, 1) := by decide +kernel
theorem dX12_spell_29 : decode prog_14_method_89_code 29 = .ok (.iload_n 2, 1) := by decide +kernel
theorem dX12_spell_30 : decode prog_14_method_89_code 30 = .ok (.aload_n 0, 1) := by decide +kernel
theorem dX12_spell_31 : decode prog_14_method_89_code 31 = .ok (.iload_n 1, 1) := by decide +kernel
theorem dX12_spell_32 : decode prog_14_method_89_code 32 = .ok (.invokevirtual 252, 3) := by decide +kernel
theorem dX12_spell_35 : decode prog_14_method_89_code 35 = .ok (.if_icmp .ge 27, 3) := by decide +kernel
theorem dX12_spell_38 : decode prog_14_method_89_code 38 = .ok (.aload_n 0, 1) := by decide +kernel
theorem dX12_spell_39 : decode prog_14_method_89_code 39 = .ok (.aload_n 0, 1) := by decide +kernel
theorem dX12_spell_40 : decode prog_14_method_89_code 40 = .ok (.getfield 9, 3) := by decide +kernel
theorem dX12_spell_43 : decode prog_14_method_89_code 43 = .ok (.bipush 50, 2) := by decide +kernel
theorem dX12_spell_45 : decode prog_14_method_89_code 45 = .ok (.bipush 6, 2) := by decide +kernel
theorem dX12_spell_47 : decode prog_14_method_89_code 47 = .ok (.iload_n 1, 1) := by decide +kernel
theorem dX12_spell_48 : decode prog_14_method_89_code 48 = .ok (.imul, 1) := by decide +kernel
theorem dX12_spell_49 : decode prog_14_method_89_code 49 = .ok (.iadd, 1) := by decide +kernel
theorem dX12_spell_50 : decode prog_14_method_89_code 50 = .ok (.iload_n 2, 1) := by decide +kernel
theorem dX12_spell_51 : decode prog_14_method_89_code 51 = .ok (.iadd, 1) := by decide +kernel
theorem dX12_spell_52 : decode prog_14_method_89_code 52 = .ok (.iaload, 1) := by decide +kernel
theorem dX12_spell_53 : decode prog_14_method_89_code 53 = .ok (.invokevirtual 321, 3) := by decide +kernel
theorem dX12_spell_56 : decode prog_14_method_89_code 56 = .ok (.iinc 2 1, 3) := by decide +kernel
theorem dX12_spell_59 : decode prog_14_method_89_code 59 = .ok (.goto (-30), 3) := by decide +kernel
theorem dX12_spell_62 : decode prog_14_method_89_code 62 = .ok (.aload_n 0, 1) := by decide +kernel
theorem dX12_spell_63 : decode prog_14_method_89_code 63 = .ok (.bipush 61, 2) := by decide +kernel
theorem dX12_spell_65 : decode prog_14_method_89_code 65 = .ok (.invokevirtual 321, 3) := by decide +kernel
theorem dX12_spell_68 : decode prog_14_method_89_code 68 = .ok (.iconst 0, 1) := by decide +kernel
theorem dX12_spell_69 : decode prog_14_method_89_code 69 = .ok (.istore_n 2, 1) := by decide +kernel
theorem dX12_spell_70 : decode prog_14_method_89_code 70 = .ok (.iload_n 2, 1) := by decide +kernel
theorem dX12_spell_71 : decode prog_14_method_89_code 71 = .ok (.iconst 4, 1) := by decide +kernel
theorem dX12_spell_72 : decode prog_14_method_89_code 72 = .ok (.if_icmp .ge 26, 3) := by decide +kernel
theorem dX12_spell_75 : decode prog_14_method_89_code 75 = .ok (.aload_n 0, 1) := by decide +kernel
theorem dX12_spell_76 : decode prog_14_method_89_code 76 = .ok (.iload_n 1, 1) := by decide +kernel
theorem dX12_spell_77 : decode prog_14_method_89_code 77 = .ok (.iload_n 2, 1) := by decide +kernel
theorem dX12_spell_78 : decode prog_14_method_89_code 78 = .ok (.invokevirtual 232, 3) := by decide +kernel
theorem dX12_spell_81 : decode prog_14_method_89_code 81 = .ok (.ifCond .eq 11, 3) := by decide +kernel
theorem dX12_spell_84 : decode prog_14_method_89_code 84 = .ok (.aload_n 0, 1) := by decide +kernel
theorem dX12_spell_85 : decode prog_14_method_89_code 85 = .ok (.bipush 48, 2) := by decide +kernel
theorem dX12_spell_87 : decode prog_14_method_89_code 87 = .ok (.iload_n 2, 1) := by decide +kernel
theorem dX12_spell_88 : decode prog_14_method_89_code 88 = .ok (.iadd, 1) := by decide +kernel
theorem dX12_spell_89 : decode prog_14_method_89_code 89 = .ok (.invokevirtual 321, 3) := by decide +kernel
theorem dX12_spell_92 : decode prog_14_method_89_code 92 = .ok (.iinc 2 1, 3) := by decide +kernel
theorem dX12_spell_95 : decode prog_14_method_89_code 95 = .ok (.goto (-25), 3) := by decide +kernel
theorem dX12_spell_98 : decode prog_14_method_89_code 98 = .ok (.aload_n 0, 1) := by decide +kernel
theorem dX12_spell_99 : decode prog_14_method_89_code 99 = .ok (.bipush 58, 2) := by decide +kernel
theorem dX12_spell_101 : decode prog_14_method_89_code 101 = .ok (.invokevirtual 321, 3) := by decide +kernel
theorem dX12_spell_104 : decode prog_14_method_89_code 104 = .ok (.aload_n 0, 1) := by decide +kernel
theorem dX12_spell_105 : decode prog_14_method_89_code 105 = .ok (.aload_n 0, 1) := by decide +kernel
theorem dX12_spell_106 : decode prog_14_method_89_code 106 = .ok (.iload_n 1, 1) := by decide +kernel
theorem dX12_spell_107 : decode prog_14_method_89_code 107 = .ok (.invokevirtual 235, 3) := by decide +kernel
theorem dX12_spell_110 : decode prog_14_method_89_code 110 = .ok (.invokevirtual 318, 3) := by decide +kernel
theorem dX12_spell_113 : decode prog_14_method_89_code 113 = .ok (.aload_n 0, 1) := by decide +kernel
theorem dX12_spell_114 : decode prog_14_method_89_code 114 = .ok (.iload_n 1, 1) := by decide +kernel
theorem dX12_spell_115 : decode prog_14_method_89_code 115 = .ok (.invokevirtual 242, 3) := by decide +kernel
theorem dX12_spell_118 : decode prog_14_method_89_code 118 = .ok (.ifCond .ne 6, 3) := by decide +kernel
theorem dX12_spell_121 : decode prog_14_method_89_code 121 = .ok (.goto 18, 3) := by decide +kernel
theorem dX12_spell_124 : decode prog_14_method_89_code 124 = .ok (.aload_n 0, 1) := by decide +kernel
theorem dX12_spell_125 : decode prog_14_method_89_code 125 = .ok (.bipush 42, 2) := by decide +kernel
theorem dX12_spell_127 : decode prog_14_method_89_code 127 = .ok (.invokevirtual 321, 3) := by decide +kernel
theorem dX12_spell_130 : decode prog_14_method_89_code 130 = .ok (.aload_n 0, 1) := by decide +kernel
theorem dX12_spell_131 : decode prog_14_method_89_code 131 = .ok (.aload_n 0, 1) := by decide +kernel
theorem dX12_spell_132 : decode prog_14_method_89_code 132 = .ok (.iload_n 1, 1) := by decide +kernel
theorem dX12_spell_133 : decode prog_14_method_89_code 133 = .ok (.invokevirtual 242, 3) := by decide +kernel
theorem dX12_spell_136 : decode prog_14_method_89_code 136 = .ok (.invokevirtual 318, 3) := by decide +kernel
theorem dX12_spell_139 : decode prog_14_method_89_code 139 = .ok (.iinc 1 1, 3) := by decide +kernel
theorem dX12_spell_142 : decode prog_14_method_89_code 142 = .ok (.goto (-135), 3) := by decide +kernel
theorem dX12_spell_145 : decode prog_14_method_89_code 145 = .ok (.aload_n 0, 1) := by decide +kernel
theorem dX12_spell_146 : decode prog_14_method_89_code 146 = .ok (.getfield 315, 3) := by decide +kernel
theorem dX12_spell_149 : decode prog_14_method_89_code 149 = .ok (.ireturn, 1) := by decide +kernel
def m_X12_spell_J139 (N : Nat) (k7 : Nat → Int32 → mM → Option (Int32 × mM)) (a0 : Nat) (i1 : Int32) (M : mM) : Option (Int32 × mM) :=
  k7 a0 (i1 + 1) M
set_option maxHeartbeats 4000000 in
set_option maxRecDepth 100000 in
theorem t_X12_spell_J139 {X : mX} {L0 : Launch} {res : Int32 × mM} {N : Nat} (C : CX X RX12 "spell" prog_14_method_89_code 3 (some .int)) (E : EX X L0 6 221 0 0 (some (.int res.1)) res.2) (k7 : Nat → Int32 → mM → Option (Int32 × mM)) (Hk7 : ∀ (a0 : Nat) (i1 : Int32) (M : mM), k7 a0 i1 M = some res → EV X 3 7 [(0, .ref a0), (1, .int i1)] [] 0 0 M) (a0 : Nat) (i1 : Int32) (M : mM) (hf : m_X12_spell_J139 N k7 a0 i1 M = some res) : EV X 3 139 [(0, .ref a0), (1, .int i1)] [] 0 0 M := by
  unfold m_X12_spell_J139 at hf
  refine ev_iinc (v := i1 + 1) (l' := [(1, .int (i1 + 1)), (0, .ref a0)]) C dX12_spell_139 (q := 1) rfl rfl (by decide) rfl ?_
  refine ev_goto (tgt := 7) C dX12_spell_142 (by decide) ?_
  refine ev_sub [1, 0] rfl ?_
  exact Hk7 a0 (i1 + 1) M hf
def m_X12_spell_J92 (N : Nat) (k70 : Nat → Int32 → Int32 → mM → Option (Int32 × mM)) (a0 : Nat) (i1 : Int32) (i2 : Int32) (M : mM) : Option (Int32 × mM) :=
  k70 a0 i1 (i2 + 1) M
set_option maxHeartbeats 4000000 in
set_option maxRecDepth 100000 in
theorem t_X12_spell_J92 {X : mX} {L0 : Launch} {res : Int32 × mM} {N : Nat} (C : CX X RX12 "spell" prog_14_method_89_code 3 (some .int)) (E : EX X L0 6 221 0 0 (some (.int res.1)) res.2) (k70 : Nat → Int32 → Int32 → mM → Option (Int32 × mM)) (Hk70 : ∀ (a0 : Nat) (i1 : Int32) (i2 : Int32) (M : mM), k70 a0 i1 i2 M = some res → EV X 3 70 [(0, .ref a0), (1, .int i1), (2, .int i2)] [] 0 0 M) (a0 : Nat) (i1 : Int32) (i2 : Int32) (M : mM) (hf : m_X12_spell_J92 N k70 a0 i1 i2 M = some res) : EV X 3 92 [(0, .ref a0), (1, .int i1), (2, .int i2)] [] 0 0 M := by
  unfold m_X12_spell_J92 at hf
  refine ev_iinc (v := i2 + 1) (l' := [(2, .int (i2 + 1)), (0, .ref a0), (1, .int i1)]) C dX12_spell_92 (q := 2) rfl rfl (by decide) rfl ?_
  refine ev_goto (tgt := 70) C dX12_spell_95 (by decide) ?_
  refine ev_sub [1, 2, 0] rfl ?_
  exact Hk70 a0 i1 (i2 + 1) M hf
def m_X12_spell_L70 (N : Nat) (k7 : Nat → Int32 → mM → Option (Int32 × mM)) : Nat → Nat → Int32 → Int32 → mM → Option (Int32 × mM)
  | 0, _, _, _, _ => none
  | n + 1, a0, i1, i2, M =>
    if 4 ≤ i2 then (
      (oO M a0 12).bind fun _ =>
      (m_X12_writes a0 58 M).bind fun x3 =>
      (oO x3 a0 12).bind fun _ =>
      (m_X12_fee a0 i1 x3).bind fun x7 =>
      (oO x3 a0 12).bind fun _ =>
      (m_X12_writesNumber 5 a0 x7 x3).bind fun x11 =>
      (oO x11 a0 12).bind fun _ =>
      (m_X12_wanted a0 i1 x11).bind fun x15 =>
      if x15 = 0 then (
        m_X12_spell_J139 N k7 a0 i1 x11) else (
        (oO x11 a0 12).bind fun _ =>
        (m_X12_writes a0 42 x11).bind fun x19 =>
        (oO x19 a0 12).bind fun _ =>
        (m_X12_wanted a0 i1 x19).bind fun x23 =>
        (oO x19 a0 12).bind fun _ =>
        (m_X12_writesNumber 5 a0 x23 x19).bind fun x27 =>
        m_X12_spell_J139 N k7 a0 i1 x27)) else (
      (oO M a0 12).bind fun _ =>
      (m_X12_isOver a0 i1 i2 M).bind fun x31 =>
      if x31 = 0 then (
        m_X12_spell_J92 N (m_X12_spell_L70 N k7  n) a0 i1 i2 M) else (
        (oO M a0 12).bind fun _ =>
        (m_X12_writes a0 (48 + i2) M).bind fun x35 =>
        m_X12_spell_J92 N (m_X12_spell_L70 N k7  n) a0 i1 i2 x35))
set_option maxHeartbeats 4000000 in
set_option maxRecDepth 100000 in
theorem t_X12_spell_L70 {X : mX} {L0 : Launch} {res : Int32 × mM} {N : Nat} (C : CX X RX12 "spell" prog_14_method_89_code 3 (some .int)) (E : EX X L0 6 221 0 0 (some (.int res.1)) res.2) (k7 : Nat → Int32 → mM → Option (Int32 × mM)) (Hk7 : ∀ (a0 : Nat) (i1 : Int32) (M : mM), k7 a0 i1 M = some res → EV X 3 7 [(0, .ref a0), (1, .int i1)] [] 0 0 M) : ∀ (n : Nat) (a0 : Nat) (i1 : Int32) (i2 : Int32) (M : mM), m_X12_spell_L70 N k7 n a0 i1 i2 M = some res → EV X 3 70 [(0, .ref a0), (1, .int i1), (2, .int i2)] [] 0 0 M := by
  intro n
  induction n with
  | zero => intro a0 i1 i2 M hf; cases (show (none : Option (Int32 × mM)) = some res from hf)
  | succ n ih =>
    intro a0 i1 i2 M hf
    rw [m_X12_spell_L70] at hf
    refine ev_iload_n C dX12_spell_70 rfl (q := 2) rfl ?_
    refine ev_iconst (v := 4) C dX12_spell_71 (by decide) ?_
    refine ev_icmp_ge (tgt := 98) C dX12_spell_72 (by decide) (fun hc => ?_) (fun hc => ?_)
    · have hf := oit hf hc
      refine ev_aload_n C dX12_spell_98 rfl (q := 0) rfl ?_
      refine ev_bipush (v := 58) C dX12_spell_99 (by decide) ?_
      obtain ⟨_, e1, hf⟩ := obnd hf
      obtain ⟨fs2, e1⟩ := oO_eq e1
      obtain ⟨x3, e4, hf⟩ := obnd hf
      refine ev_callV0 (As := [.int 58]) (st := []) C rfl e1 (t_X12_writes e4) rfl hd_X12_writes rfl kw_1624 kw_1626 kw_87 kw_64 kw_1627 (mRoom.of E (Nat.le_of_ble_eq_true rfl) (Nat.le_of_ble_eq_true rfl) (Nat.le_refl 0) (Nat.le_refl 0)) (Nat.le_of_ble_eq_true rfl) dX12_spell_101 ?_
      refine ev_aload_n C dX12_spell_104 rfl (q := 0) rfl ?_
      refine ev_aload_n C dX12_spell_105 rfl (q := 0) rfl ?_
      refine ev_iload_n C dX12_spell_106 rfl (q := 1) rfl ?_
      obtain ⟨_, e5, hf⟩ := obnd hf
      obtain ⟨fs6, e5⟩ := oO_eq e5
      obtain ⟨x7, e8, hf⟩ := obnd hf
      refine ev_callV0 (As := [.int i1]) (st := [.ref a0]) C rfl e5 (t_X12_fee e8) rfl hd_X12_fee rfl kw_1515 kw_1517 kw_87 kw_47 kw_1518 (mRoom.of E (Nat.le_of_ble_eq_true rfl) (Nat.le_of_ble_eq_true rfl) (Nat.le_refl 0) (Nat.le_refl 0)) (Nat.le_of_ble_eq_true rfl) dX12_spell_107 ?_
      obtain ⟨_, e9, hf⟩ := obnd hf
      obtain ⟨fs10, e9⟩ := oO_eq e9
      obtain ⟨x11, e12, hf⟩ := obnd hf
      refine ev_callV0 (As := [.int x7]) (st := []) C rfl e9 (t_X12_writesNumber 5 e12) rfl hd_X12_writesNumber rfl kw_1628 kw_1630 kw_87 kw_65 kw_1631 (mRoom.of E (Nat.le_of_ble_eq_true rfl) (Nat.le_of_ble_eq_true rfl) (Nat.le_refl 0) (Nat.le_refl 0)) (Nat.le_of_ble_eq_true rfl) dX12_spell_110 ?_
      refine ev_aload_n C dX12_spell_113 rfl (q := 0) rfl ?_
      refine ev_iload_n C dX12_spell_114 rfl (q := 1) rfl ?_
      obtain ⟨_, e13, hf⟩ := obnd hf
      obtain ⟨fs14, e13⟩ := oO_eq e13
      obtain ⟨x15, e16, hf⟩ := obnd hf
      refine ev_callV0 (As := [.int i1]) (st := []) C rfl e13 (t_X12_wanted e16) rfl hd_X12_wanted rfl kw_1527 kw_1529 kw_87 kw_49 kw_1530 (mRoom.of E (Nat.le_of_ble_eq_true rfl) (Nat.le_of_ble_eq_true rfl) (Nat.le_refl 0) (Nat.le_refl 0)) (Nat.le_of_ble_eq_true rfl) dX12_spell_115 ?_
      refine ev_if_ne (tgt := 124) C dX12_spell_118 (by decide) (fun hc => ?_) (fun hc => ?_)
      · have hf := oie hf hc
        refine ev_aload_n C dX12_spell_124 rfl (q := 0) rfl ?_
        refine ev_bipush (v := 42) C dX12_spell_125 (by decide) ?_
        obtain ⟨_, e17, hf⟩ := obnd hf
        obtain ⟨fs18, e17⟩ := oO_eq e17
        obtain ⟨x19, e20, hf⟩ := obnd hf
        refine ev_callV0 (As := [.int 42]) (st := []) C rfl e17 (t_X12_writes e20) rfl hd_X12_writes rfl kw_1624 kw_1626 kw_87 kw_64 kw_1627 (mRoom.of E (Nat.le_of_ble_eq_true rfl) (Nat.le_of_ble_eq_true rfl) (Nat.le_refl 0) (Nat.le_refl 0)) (Nat.le_of_ble_eq_true rfl) dX12_spell_127 ?_
        refine ev_aload_n C dX12_spell_130 rfl (q := 0) rfl ?_
        refine ev_aload_n C dX12_spell_131 rfl (q := 0) rfl ?_
        refine ev_iload_n C dX12_spell_132 rfl (q := 1) rfl ?_
        obtain ⟨_, e21, hf⟩ := obnd hf
        obtain ⟨fs22, e21⟩ := oO_eq e21
        obtain ⟨x23, e24, hf⟩ := obnd hf
        refine ev_callV0 (As := [.int i1]) (st := [.ref a0]) C rfl e21 (t_X12_wanted e24) rfl hd_X12_wanted rfl kw_1527 kw_1529 kw_87 kw_49 kw_1530 (mRoom.of E (Nat.le_of_ble_eq_true rfl) (Nat.le_of_ble_eq_true rfl) (Nat.le_refl 0) (Nat.le_refl 0)) (Nat.le_of_ble_eq_true rfl) dX12_spell_133 ?_
        obtain ⟨_, e25, hf⟩ := obnd hf
        obtain ⟨fs26, e25⟩ := oO_eq e25
        obtain ⟨x27, e28, hf⟩ := obnd hf
        refine ev_callV0 (As := [.int x23]) (st := []) C rfl e25 (t_X12_writesNumber 5 e28) rfl hd_X12_writesNumber rfl kw_1628 kw_1630 kw_87 kw_65 kw_1631 (mRoom.of E (Nat.le_of_ble_eq_true rfl) (Nat.le_of_ble_eq_true rfl) (Nat.le_refl 0) (Nat.le_refl 0)) (Nat.le_of_ble_eq_true rfl) dX12_spell_136 ?_
        refine ev_sub [0, 1] rfl ?_
        exact t_X12_spell_J139 C E k7 Hk7 a0 i1 x27 hf
      · have hf := oit hf hc
        refine ev_goto (tgt := 139) C dX12_spell_121 (by decide) ?_
        refine ev_sub [0, 1] rfl ?_
        exact t_X12_spell_J139 C E k7 Hk7 a0 i1 x11 hf
    · have hf := oie hf hc
      refine ev_aload_n C dX12_spell_75 rfl (q := 0) rfl ?_
      refine ev_iload_n C dX12_spell_76 rfl (q := 1) rfl ?_
      refine ev_iload_n C dX12_spell_77 rfl (q := 2) rfl ?_
      obtain ⟨_, e29, hf⟩ := obnd hf
      obtain ⟨fs30, e29⟩ := oO_eq e29
      obtain ⟨x31, e32, hf⟩ := obnd hf
      refine ev_callV0 (As := [.int i1, .int i2]) (st := []) C rfl e29 (t_X12_isOver e32) rfl hd_X12_isOver rfl kw_1503 kw_1505 kw_87 kw_44 kw_1506 (mRoom.of E (Nat.le_of_ble_eq_true rfl) (Nat.le_of_ble_eq_true rfl) (Nat.le_refl 0) (Nat.le_refl 0)) (Nat.le_of_ble_eq_true rfl) dX12_spell_78 ?_
      refine ev_if_eq (tgt := 92) C dX12_spell_81 (by decide) (fun hc => ?_) (fun hc => ?_)
      · have hf := oit hf hc
        exact t_X12_spell_J92 C E (m_X12_spell_L70 N k7  n) ih a0 i1 i2 M hf
      · have hf := oie hf hc
        refine ev_aload_n C dX12_spell_84 rfl (q := 0) rfl ?_
        refine ev_bipush (v := 48) C dX12_spell_85 (by decide) ?_
        refine ev_iload_n C dX12_spell_87 rfl (q := 2) rfl ?_
        refine ev_iadd C dX12_spell_88 ?_
        obtain ⟨_, e33, hf⟩ := obnd hf
        obtain ⟨fs34, e33⟩ := oO_eq e33
        obtain ⟨x35, e36, hf⟩ := obnd hf
        refine ev_callV0 (As := [.int (48 + i2)]) (st := []) C rfl e33 (t_X12_writes e36) rfl hd_X12_writes rfl kw_1624 kw_1626 kw_87 kw_64 kw_1627 (mRoom.of E (Nat.le_of_ble_eq_true rfl) (Nat.le_of_ble_eq_true rfl) (Nat.le_refl 0) (Nat.le_refl 0)) (Nat.le_of_ble_eq_true rfl) dX12_spell_89 ?_
        exact t_X12_spell_J92 C E (m_X12_spell_L70 N k7  n) ih a0 i1 i2 x35 hf
def m_X12_spell_L29 (N : Nat) (k7 : Nat → Int32 → mM → Option (Int32 × mM)) : Nat → Nat → Int32 → Int32 → mM → Option (Int32 × mM)
  | 0, _, _, _, _ => none
  | n + 1, a0, i1, i2, M =>
    (oO M a0 12).bind fun _ =>
    (m_X12_letters N a0 i1 M).bind fun x3 =>
    if x3 ≤ i2 then (
      (oO M a0 12).bind fun _ =>
      (m_X12_writes a0 61 M).bind fun x7 =>
      m_X12_spell_L70 N k7 N a0 i1 0 x7) else (
      (fR M a0 12 0).bind fun x9 =>
      (aI 0 M x9 ((50 + (6 * i1)) + i2)).bind fun x11 =>
      (oO M a0 12).bind fun _ =>
      (m_X12_writes a0 x11 M).bind fun x15 =>
      (m_X12_spell_L29 N k7  n) a0 i1 (i2 + 1) x15)
set_option maxHeartbeats 4000000 in
set_option maxRecDepth 100000 in
theorem t_X12_spell_L29 {X : mX} {L0 : Launch} {res : Int32 × mM} {N : Nat} (C : CX X RX12 "spell" prog_14_method_89_code 3 (some .int)) (E : EX X L0 6 221 0 0 (some (.int res.1)) res.2) (k7 : Nat → Int32 → mM → Option (Int32 × mM)) (Hk7 : ∀ (a0 : Nat) (i1 : Int32) (M : mM), k7 a0 i1 M = some res → EV X 3 7 [(0, .ref a0), (1, .int i1)] [] 0 0 M) : ∀ (n : Nat) (a0 : Nat) (i1 : Int32) (i2 : Int32) (M : mM), m_X12_spell_L29 N k7 n a0 i1 i2 M = some res → EV X 3 29 [(0, .ref a0), (1, .int i1), (2, .int i2)] [] 0 0 M := by
  intro n
  induction n with
  | zero => intro a0 i1 i2 M hf; cases (show (none : Option (Int32 × mM)) = some res from hf)
  | succ n ih =>
    intro a0 i1 i2 M hf
    rw [m_X12_spell_L29] at hf
    refine ev_iload_n C dX12_spell_29 rfl (q := 2) rfl ?_
    refine ev_aload_n C dX12_spell_30 rfl (q := 0) rfl ?_
    refine ev_iload_n C dX12_spell_31 rfl (q := 1) rfl ?_
    obtain ⟨_, e1, hf⟩ := obnd hf
    obtain ⟨fs2, e1⟩ := oO_eq e1
    obtain ⟨x3, e4, hf⟩ := obnd hf
    refine ev_callV0 (As := [.int i1]) (st := [.int i2]) C rfl e1 (t_X12_letters e4) rfl hd_X12_letters rfl kw_1535 kw_1537 kw_87 kw_50 kw_1538 (mRoom.of E (Nat.le_of_ble_eq_true rfl) (Nat.le_of_ble_eq_true rfl) (Nat.le_refl 0) (Nat.le_refl 0)) (Nat.le_of_ble_eq_true rfl) dX12_spell_32 ?_
    refine ev_icmp_ge (tgt := 62) C dX12_spell_35 (by decide) (fun hc => ?_) (fun hc => ?_)
    · have hf := oit hf hc
      refine ev_aload_n C dX12_spell_62 rfl (q := 0) rfl ?_
      refine ev_bipush (v := 61) C dX12_spell_63 (by decide) ?_
      obtain ⟨_, e5, hf⟩ := obnd hf
      obtain ⟨fs6, e5⟩ := oO_eq e5
      obtain ⟨x7, e8, hf⟩ := obnd hf
      refine ev_callV0 (As := [.int 61]) (st := []) C rfl e5 (t_X12_writes e8) rfl hd_X12_writes rfl kw_1624 kw_1626 kw_87 kw_64 kw_1627 (mRoom.of E (Nat.le_of_ble_eq_true rfl) (Nat.le_of_ble_eq_true rfl) (Nat.le_refl 0) (Nat.le_refl 0)) (Nat.le_of_ble_eq_true rfl) dX12_spell_65 ?_
      refine ev_iconst (v := 0) C dX12_spell_68 (by decide) ?_
      refine ev_istore_n (l' := [(2, .int 0), (0, .ref a0), (1, .int i1)]) C dX12_spell_69 rfl (by decide) rfl ?_
      refine ev_sub [1, 2, 0] rfl ?_
      exact t_X12_spell_L70 C E k7 Hk7 N a0 i1 0 x7 hf
    · have hf := oie hf hc
      refine ev_aload_n C dX12_spell_38 rfl (q := 0) rfl ?_
      refine ev_aload_n C dX12_spell_39 rfl (q := 0) rfl ?_
      obtain ⟨x9, e10, hf⟩ := obnd hf
      refine ev_get (k := 0) C ok_12 dX12_spell_40 (by decide) kw_1159 (fR_V e10) ?_
      refine ev_bipush (v := 50) C dX12_spell_43 (by decide) ?_
      refine ev_bipush (v := 6) C dX12_spell_45 (by decide) ?_
      refine ev_iload_n C dX12_spell_47 rfl (q := 1) rfl ?_
      refine ev_imul C dX12_spell_48 ?_
      refine ev_iadd C dX12_spell_49 ?_
      refine ev_iload_n C dX12_spell_50 rfl (q := 2) rfl ?_
      refine ev_iadd C dX12_spell_51 ?_
      obtain ⟨x11, e12, hf⟩ := obnd hf
      refine ev_iald C dX12_spell_52 e12 ?_
      obtain ⟨_, e13, hf⟩ := obnd hf
      obtain ⟨fs14, e13⟩ := oO_eq e13
      obtain ⟨x15, e16, hf⟩ := obnd hf
      refine ev_callV0 (As := [.int x11]) (st := []) C rfl e13 (t_X12_writes e16) rfl hd_X12_writes rfl kw_1624 kw_1626 kw_87 kw_64 kw_1627 (mRoom.of E (Nat.le_of_ble_eq_true rfl) (Nat.le_of_ble_eq_true rfl) (Nat.le_refl 0) (Nat.le_refl 0)) (Nat.le_of_ble_eq_true rfl) dX12_spell_53 ?_
      refine ev_iinc (v := i2 + 1) (l' := [(2, .int (i2 + 1)), (0, .ref a0), (1, .int i1)]) C dX12_spell_56 (q := 2) rfl rfl (by decide) rfl ?_
      refine ev_goto (tgt := 29) C dX12_spell_59 (by decide) ?_
      refine ev_sub [1, 2, 0] rfl ?_
      exact ih a0 i1 (i2 + 1) x15 hf
def m_X12_spell_J27 (N : Nat) (k7 : Nat → Int32 → mM → Option (Int32 × mM)) (a0 : Nat) (i1 : Int32) (M : mM) : Option (Int32 × mM) :=
  m_X12_spell_L29 N k7 N a0 i1 0 M
set_option maxHeartbeats 4000000 in
set_option maxRecDepth 100000 in
theorem t_X12_spell_J27 {X : mX} {L0 : Launch} {res : Int32 × mM} {N : Nat} (C : CX X RX12 "spell" prog_14_method_89_code 3 (some .int)) (E : EX X L0 6 221 0 0 (some (.int res.1)) res.2) (k7 : Nat → Int32 → mM → Option (Int32 × mM)) (Hk7 : ∀ (a0 : Nat) (i1 : Int32) (M : mM), k7 a0 i1 M = some res → EV X 3 7 [(0, .ref a0), (1, .int i1)] [] 0 0 M) (a0 : Nat) (i1 : Int32) (M : mM) (hf : m_X12_spell_J27 N k7 a0 i1 M = some res) : EV X 3 27 [(0, .ref a0), (1, .int i1)] [] 0 0 M := by
  unfold m_X12_spell_J27 at hf
  refine ev_iconst (v := 0) C dX12_spell_27 (by decide) ?_
  refine ev_istore_n (l' := [(2, .int 0), (0, .ref a0), (1, .int i1)]) C dX12_spell_28 rfl (by decide) rfl ?_
  refine ev_sub [1, 2, 0] rfl ?_
  exact t_X12_spell_L29 C E k7 Hk7 N a0 i1 0 M hf
def m_X12_spell_L7 (N : Nat)  : Nat → Nat → Int32 → mM → Option (Int32 × mM)
  | 0, _, _, _ => none
  | n + 1, a0, i1, M =>
    (fR M a0 12 0).bind fun x1 =>
    (aI 0 M x1 5).bind fun x3 =>
    if x3 ≤ i1 then (
      (fI M a0 12 5).bind fun x5 =>
      some (x5, M)) else (
      if i1 ≤ 0 then (
        m_X12_spell_J27 N (m_X12_spell_L7 N  n) a0 i1 M) else (
        (oO M a0 12).bind fun _ =>
        (m_X12_writes a0 59 M).bind fun x9 =>
        m_X12_spell_J27 N (m_X12_spell_L7 N  n) a0 i1 x9))
set_option maxHeartbeats 4000000 in
set_option maxRecDepth 100000 in
theorem t_X12_spell_L7 {X : mX} {L0 : Launch} {res : Int32 × mM} {N : Nat} (C : CX X RX12 "spell" prog_14_method_89_code 3 (some .int)) (E : EX X L0 6 221 0 0 (some (.int res.1)) res.2)   : ∀ (n : Nat) (a0 : Nat) (i1 : Int32) (M : mM), m_X12_spell_L7 N  n a0 i1 M = some res → EV X 3 7 [(0, .ref a0), (1, .int i1)] [] 0 0 M := by
  intro n
  induction n with
  | zero => intro a0 i1 M hf; cases (show (none : Option (Int32 × mM)) = some res from hf)
  | succ n ih =>
    intro a0 i1 M hf
    rw [m_X12_spell_L7] at hf
    refine ev_iload_n C dX12_spell_7 rfl (q := 1) rfl ?_
    refine ev_aload_n C dX12_spell_8 rfl (q := 0) rfl ?_
    obtain ⟨x1, e2, hf⟩ := obnd hf
    refine ev_get (k := 0) C ok_12 dX12_spell_9 (by decide) kw_1159 (fR_V e2) ?_
    refine ev_iconst (v := 5) C dX12_spell_12 (by decide) ?_
    obtain ⟨x3, e4, hf⟩ := obnd hf
    refine ev_iald C dX12_spell_13 e4 ?_
    refine ev_icmp_ge (tgt := 145) C dX12_spell_14 (by decide) (fun hc => ?_) (fun hc => ?_)
    · have hf := oit hf hc
      refine ev_aload_n C dX12_spell_145 rfl (q := 0) rfl ?_
      obtain ⟨x5, e6, hf⟩ := obnd hf
      refine ev_get (k := 5) C ok_12 dX12_spell_146 (by decide) kw_1164 (fI_V e6) ?_
      obtain rfl := Option.some.inj hf
      exact ev_iret C E (Nat.le_refl 0) (Nat.le_refl 0) dX12_spell_149
    · have hf := oie hf hc
      refine ev_iload_n C dX12_spell_17 rfl (q := 1) rfl ?_
      refine ev_if_le (tgt := 27) C dX12_spell_18 (by decide) (fun hc => ?_) (fun hc => ?_)
      · have hf := oit hf hc
        exact t_X12_spell_J27 C E (m_X12_spell_L7 N  n) ih a0 i1 M hf
      · have hf := oie hf hc
        refine ev_aload_n C dX12_spell_21 rfl (q := 0) rfl ?_
        refine ev_bipush (v := 59) C dX12_spell_22 (by decide) ?_
        obtain ⟨_, e7, hf⟩ := obnd hf
        obtain ⟨fs8, e7⟩ := oO_eq e7
        obtain ⟨x9, e10, hf⟩ := obnd hf
        refine ev_callV0 (As := [.int 59]) (st := []) C rfl e7 (t_X12_writes e10) rfl hd_X12_writes rfl kw_1624 kw_1626 kw_87 kw_64 kw_1627 (mRoom.of E (Nat.le_of_ble_eq_true rfl) (Nat.le_of_ble_eq_true rfl) (Nat.le_refl 0) (Nat.le_refl 0)) (Nat.le_of_ble_eq_true rfl) dX12_spell_24 ?_
        exact t_X12_spell_J27 C E (m_X12_spell_L7 N  n) ih a0 i1 x9 hf
def m_X12_spell (N : Nat) (a0 : Nat) (M : mM) : Option (Int32 × mM) :=
  (sV M a0 12 5 (.int 0)).bind fun M1 =>
  m_X12_spell_L7 N  N a0 0 M1
set_option maxHeartbeats 4000000 in
set_option maxRecDepth 100000 in
theorem t_X12_spell {L0 : Launch} {M : mM} {N : Nat} {a0 : Nat} {res : Int32 × mM} (hf : m_X12_spell N a0 M = some res) : CT L0 yX12_spell prog_14_method_89_code 3 (some .int) 6 221 0 0 [.ref a0] M (some (.int res.1)) res.2 := by
  refine CT.of (by decide +kernel) (Nat.le_of_ble_eq_true rfl) fun X C E => ?_
  have C : CX X RX12 "spell" prog_14_method_89_code 3 (some .int) := C
  show EV X 3 0 [(0, .ref a0)] [] 0 0 M
  unfold m_X12_spell at hf
  refine ev_aload_n C dX12_spell_0 rfl (q := 0) rfl ?_
  refine ev_iconst (v := 0) C dX12_spell_1 (by decide) ?_
  obtain ⟨M1, e2, hf⟩ := obnd hf
  refine ev_put (k := 5) C ok_12 dX12_spell_2 (by decide) kw_1164 rfl ⟨rfl, rfl⟩ e2 ?_
  refine ev_iconst (v := 0) C dX12_spell_5 (by decide) ?_
  refine ev_istore_n (l' := [(1, .int 0), (0, .ref a0)]) C dX12_spell_6 rfl (by decide) rfl ?_
  refine ev_sub [1, 0] rfl ?_
  exact t_X12_spell_L7 C E   N a0 0 M1 hf
