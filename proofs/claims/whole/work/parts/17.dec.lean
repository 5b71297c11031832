/-! FareLimitsModel gross(II)J -/
theorem dX12_gross_0 : decode prog_14_method_28_code 0 = .ok (.iload_n 1, 1) := by decide +kernel
theorem dX12_gross_1 : decode prog_14_method_28_code 1 = .ok (.invokestatic 111, 3) := by decide +kernel
theorem dX12_gross_4 : decode prog_14_method_28_code 4 = .ok (.ifCond .eq 11, 3) := by decide +kernel
theorem dX12_gross_7 : decode prog_14_method_28_code 7 = .ok (.aload_n 0, 1) := by decide +kernel
theorem dX12_gross_8 : decode prog_14_method_28_code 8 = .ok (.iload_n 2, 1) := by decide +kernel
theorem dX12_gross_9 : decode prog_14_method_28_code 9 = .ok (.invokevirtual 137, 3) := by decide +kernel
theorem dX12_gross_12 : decode prog_14_method_28_code 12 = .ok (.ifCond .ne 7, 3) := by decide +kernel
theorem dX12_gross_15 : decode prog_14_method_28_code 15 = .ok (.ldc2_w 120, 3) := by decide +kernel
theorem dX12_gross_18 : decode prog_14_method_28_code 18 = .ok (.lreturn, 1) := by decide +kernel
theorem dX12_gross_19 : decode prog_14_method_28_code 19 = .ok (.iconst 0, 1) := by decide +kernel
theorem dX12_gross_20 : decode prog_14_method_28_code 20 = .ok (.istore_n 3, 1) := by decide +kernel
theorem dX12_gross_21 : decode prog_14_method_28_code 21 = .ok (.iload_n 3, 1) := by decide +kernel
theorem dX12_gross_22 : decode prog_14_method_28_code 22 = .ok (.iload_n 2, 1) := by decide +kernel
theorem dX12_gross_23 : decode prog_14_method_28_code 23 = .ok (.if_icmp .gt 23, 3) := by decide +kernel
theorem dX12_gross_26 : decode prog_14_method_28_code 26 = .ok (.aload_n 0, 1) := by decide +kernel
theorem dX12_gross_27 : decode prog_14_method_28_code 27 = .ok (.getfield 50, 3) := by decide +kernel
theorem dX12_gross_30 : decode prog_14_method_28_code 30 = .ok (.iload_n 3, 1) := by decide +kernel
theorem dX12_gross_31 : decode prog_14_method_28_code 31 = .ok (.lconst 0, 1) := by decide +kernel
theorem dX12_gross_32 : decode prog_14_method_28_code 32 = .ok (.lastore, 1) := by decide +kernel
theorem dX12_gross_33 : decode prog_14_method_28_code 33 = .ok (.aload_n 0, 1) := by decide +kernel
theorem dX12_gross_34 : decode prog_14_method_28_code 34 = .ok (.getfield 53, 3) := by decide +kernel
theorem dX12_gross_37 : decode prog_14_method_28_code 37 = .ok (.iload_n 3, 1) := by decide +kernel
theorem dX12_gross_38 : decode prog_14_method_28_code 38 = .ok (.iconst 0, 1) := by decide +kernel
theorem dX12_gross_39 : decode prog_14_method_28_code 39 = .ok (.bastore, 1) := by decide +kernel
theorem dX12_gross_40 : decode prog_14_method_28_code 40 = .ok (.iinc 3 1, 3) := by decide +kernel
theorem dX12_gross_43 : decode prog_14_method_28_code 43 = .ok (.goto (-22), 3) := by decide +kernel
theorem dX12_gross_46 : decode prog_14_method_28_code 46 = .ok (.iconst 1, 1) := by decide +kernel
theorem dX12_gross_47 : decode prog_14_method_28_code 47 = .ok (.istore_n 3, 1) := by decide +kernel
theorem dX12_gross_48 : decode prog_14_method_28_code 48 = .ok (.iload_n 3, 1) := by decide +kernel
theorem dX12_gross_49 : decode prog_14_method_28_code 49 = .ok (.iload_n 1, 1) := by decide +kernel
theorem dX12_gross_50 : decode prog_14_method_28_code 50 = .ok (.if_icmp .gt 110, 3) := by decide +kernel
theorem dX12_gross_53 : decode prog_14_method_28_code 53 = .ok (.iload_n 2, 1) := by decide +kernel
theorem dX12_gross_54 : decode prog_14_method_28_code 54 = .ok (.istore 4, 2) := by decide +kernel
theorem dX12_gross_56 : decode prog_14_method_28_code 56 = .ok (.iload 4, 2) := by decide +kernel
theorem dX12_gross_58 : decode prog_14_method_28_code 58 = .ok (.ifCond .le 96, 3) := by decide +kernel
theorem dX12_gross_61 : decode prog_14_method_28_code 61 = .ok (.aload_n 0, 1) := by decide +kernel
theorem dX12_gross_62 : decode prog_14_method_28_code 62 = .ok (.iconst 0, 1) := by decide +kernel
theorem dX12_gross_63 : decode prog_14_method_28_code 63 = .ok (.putfield 152, 3) := by decide +kernel
theorem dX12_gross_66 : decode prog_14_method_28_code 66 = .ok (.aload_n 0, 1) := by decide +kernel
theorem dX12_gross_67 : decode prog_14_method_28_code 67 = .ok (.getfield 50, 3) := by decide +kernel
theorem dX12_gross_70 : decode prog_14_method_28_code 70 = .ok (.iload 4, 2) := by decide +kernel
theorem dX12_gross_72 : decode prog_14_method_28_code 72 = .ok (.aload_n 0, 1) := by decide +kernel
theorem dX12_gross_73 : decode prog_14_method_28_code 73 = .ok (.iload_n 3, 1) := by decide +kernel
theorem dX12_gross_74 : decode prog_14_method_28_code 74 = .ok (.iload 4, 2) := by decide +kernel
theorem dX12_gross_76 : decode prog_14_method_28_code 76 = .ok (.invokevirtual 167, 3) := by decide +kernel
theorem dX12_gross_79 : decode prog_14_method_28_code 79 = .ok (.lastore, 1) := by decide +kernel
theorem dX12_gross_80 : decode prog_14_method_28_code 80 = .ok (.aload_n 0, 1) := by decide +kernel
theorem dX12_gross_81 : decode prog_14_method_28_code 81 = .ok (.getfield 53, 3) := by decide +kernel
theorem dX12_gross_84 : decode prog_14_method_28_code 84 = .ok (.iload 4, 2) := by decide +kernel
theorem dX12_gross_86 : decode prog_14_method_28_code 86 = .ok (.aload_n 0, 1) := by decide +kernel
theorem dX12_gross_87 : decode prog_14_method_28_code 87 = .ok (.getfield 53, 3) := by decide +kernel
theorem dX12_gross_90 : decode prog_14_method_28_code 90 = .ok (.iload 4, 2) := by decide +kernel
theorem dX12_gross_92 : decode prog_14_method_28_code 92 = .ok (.baload, 1) := by decide +kernel
theorem dX12_gross_93 : decode prog_14_method_28_code 93 = .ok (.ifCond .ne 31, 3) := by decide +kernel
theorem dX12_gross_96 : decode prog_14_method_28_code 96 = .ok (.aload_n 0, 1) := by decide +kernel
theorem dX12_gross_97 : decode prog_14_method_28_code 97 = .ok (.getfield 152, 3) := by decide +kernel
theorem dX12_gross_100 : decode prog_14_method_28_code 100 = .ok (.ifCond .ne 24, 3) := by decide +kernel
theorem dX12_gross_103 : decode prog_14_method_28_code 103 = .ok (.aload_n 0, 1) := by decide +kernel
theorem dX12_gross_104 : decode prog_14_method_28_code 104 = .ok (.getfield 9, 3) := by decide +kernel
theorem dX12_gross_107 : decode prog_14_method_28_code 107 = .ok (.iconst 0, 1) := by decide +kernel
theorem dX12_gross_108 : decode prog_14_method_28_code 108 = .ok (.iaload, 1) := by decide +kernel
theorem dX12_gross_109 : decode prog_14_method_28_code 109 = .ok (.ifCond .le 19, 3) := by decide +kernel
theorem dX12_gross_112 : decode prog_14_method_28_code 112 = .ok (.aload_n 0, 1) := by decide +kernel
theorem dX12_gross_113 : decode prog_14_method_28_code 113 = .ok (.getfield 53, 3) := by decide +kernel
theorem dX12_gross_116 : decode prog_14_method_28_code 116 = .ok (.iload 4, 2) := by decide +kernel
theorem dX12_gross_118 : decode prog_14_method_28_code 118 = .ok (.iconst 1, 1) := by decide +kernel
theorem dX12_gross_119 : decode prog_14_method_28_code 119 = .ok (.isub, 1) := by decide +kernel
theorem dX12_gross_120 : decode prog_14_method_28_code 120 = .ok (.baload, 1) := by decide +kernel
theorem dX12_gross_121 : decode prog_14_method_28_code 121 = .ok (.ifCond .eq 7, 3) := by decide +kernel
theorem dX12_gross_124 : decode prog_14_method_28_code 124 = .ok (.iconst 1, 1) := by decide +kernel
theorem dX12_gross_125 : decode prog_14_method_28_code 125 = .ok (.goto 4, 3) := by decide +kernel
theorem dX12_gross_128 : decode prog_14_method_28_code 128 = .ok (.iconst 0, 1) := by decide +kernel
theorem dX12_gross_129 : decode prog_14_method_28_code 129 = .ok (.bastore, 1) := by decide +kernel
theorem dX12_gross_130 : decode prog_14_method_28_code 130 = .ok (.aload_n 0, 1) := by decide +kernel
theorem dX12_gross_131 : decode prog_14_method_28_code 131 = .ok (.getfield 53, 3) := by decide +kernel
theorem dX12_gross_134 : decode prog_14_method_28_code 134 = .ok (.iload 4, 2) := by decide +kernel
theorem dX12_gross_136 : decode prog_14_method_28_code 136 = .ok (.baload, 1) := by decide +kernel
theorem dX12_gross_137 : decode prog_14_method_28_code 137 = .ok (.ifCond .eq 11, 3) := by decide +kernel
theorem dX12_gross_140 : decode prog_14_method_28_code 140 = .ok (.aload_n 0, 1) := by decide +kernel
theorem dX12_gross_141 : decode prog_14_method_28_code 141 = .ok (.getfield 50, 3) := by decide +kernel
theorem dX12_gross_144 : decode prog_14_method_28_code 144 = .ok (.iload 4, 2) := by decide +kernel
theorem dX12_gross_146 : decode prog_14_method_28_code 146 = .ok (.lconst 0, 1) := by decide +kernel
theorem dX12_gross_147 : decode prog_14_method_28_code 147 = .ok (.lastore, 1) := by decide +kernel
theorem dX12_gross_148 : decode prog_14_method_28_code 148 = .ok (.iinc 4 (-1), 3) := by decide +kernel
theorem dX12_gross_151 : decode prog_14_method_28_code 151 = .ok (.goto (-95), 3) := by decide +kernel
theorem dX12_gross_154 : decode prog_14_method_28_code 154 = .ok (.iinc 3 1, 3) := by decide +kernel
theorem dX12_gross_157 : decode prog_14_method_28_code 157 = .ok (.goto (-109), 3) := by decide +kernel
theorem dX12_gross_160 : decode prog_14_method_28_code 160 = .ok (.aload_n 0, 1) := by decide +kernel
theorem dX12_gross_161 : decode prog_14_method_28_code 161 = .ok (.getfield 53, 3) := by decide +kernel
theorem dX12_gross_164 : decode prog_14_method_28_code 164 = .ok (.iload_n 2, 1) := by decide +kernel
theorem dX12_gross_165 : decode prog_14_method_28_code 165 = .ok (.baload, 1) := by decide +kernel
theorem dX12_gross_166 : decode prog_14_method_28_code 166 = .ok (.ifCond .eq 9, 3) := by decide +kernel
theorem dX12_gross_169 : decode prog_14_method_28_code 169 = .ok (.ldc2_w 170, 3) := by decide +kernel
theorem dX12_gross_172 : decode prog_14_method_28_code 172 = .ok (.goto 9, 3) := by decide +kernel
theorem dX12_gross_175 : decode prog_14_method_28_code 175 = .ok (.aload_n 0, 1) := by decide +kernel
theorem dX12_gross_176 : decode prog_14_method_28_code 176 = .ok (.getfield 50, 3) := by decide +kernel
theorem dX12_gross_179 : decode prog_14_method_28_code 179 = .ok (.iload_n 2, 1) := by decide +kernel
theorem dX12_gross_180 : decode prog_14_method_28_code 180 = .ok (.laload, 1) := by decide +kernel
theorem dX12_gross_181 : decode prog_14_method_28_code 181 = .ok (.lreturn, 1) := by decide +kernel
def m_X12_gross_J148 (N : Nat) (k56 : Nat → Int32 → Int32 → Int32 → Int32 → mM → Option (Int64 × mM)) (a0 : Nat) (i1 : Int32) (i2 : Int32) (i3 : Int32) (i4 : Int32) (M : mM) : Option (Int64 × mM) :=
  k56 a0 i1 i2 i3 (i4 + (-1)) M
set_option maxHeartbeats 4000000 in
set_option maxRecDepth 100000 in
theorem t_X12_gross_J148 {X : mX} {L0 : Launch} {res : Int64 × mM} {N : Nat} (C : CX X RX12 "gross" prog_14_method_28_code 5 (some .long)) (E : EX X L0 3 76 0 0 (some (.long res.1)) res.2) (k56 : Nat → Int32 → Int32 → Int32 → Int32 → mM → Option (Int64 × mM)) (Hk56 : ∀ (a0 : Nat) (i1 : Int32) (i2 : Int32) (i3 : Int32) (i4 : Int32) (M : mM), k56 a0 i1 i2 i3 i4 M = some res → EV X 5 56 [(0, .ref a0), (1, .int i1), (2, .int i2), (3, .int i3), (4, .int i4)] [] 0 0 M) (a0 : Nat) (i1 : Int32) (i2 : Int32) (i3 : Int32) (i4 : Int32) (M : mM) (hf : m_X12_gross_J148 N k56 a0 i1 i2 i3 i4 M = some res) : EV X 5 148 [(0, .ref a0), (1, .int i1), (2, .int i2), (3, .int i3), (4, .int i4)] [] 0 0 M := by
  unfold m_X12_gross_J148 at hf
  refine ev_iinc (v := i4 + (-1)) (l' := [(4, .int (i4 + (-1))), (0, .ref a0), (1, .int i1), (2, .int i2), (3, .int i3)]) C dX12_gross_148 (q := 4) rfl rfl (by decide) rfl ?_
  refine ev_goto (tgt := 56) C dX12_gross_151 (by decide) ?_
  refine ev_sub [1, 2, 3, 4, 0] rfl ?_
  exact Hk56 a0 i1 i2 i3 (i4 + (-1)) M hf
def m_X12_gross_J129 (N : Nat) (k56 : Nat → Int32 → Int32 → Int32 → Int32 → mM → Option (Int64 × mM)) (a0 : Nat) (i1 : Int32) (i2 : Int32) (i3 : Int32) (i4 : Int32) (sa0 : Nat) (si1 : Int32) (si2 : Int32) (M : mM) : Option (Int64 × mM) :=
  (uI 3 .boolean M sa0 si1 si2).bind fun M1 =>
  (fR M1 a0 12 17).bind fun x3 =>
  (aI 3 M1 x3 i4).bind fun x5 =>
  if x5 = 0 then (
    m_X12_gross_J148 N k56 a0 i1 i2 i3 i4 M1) else (
    (fR M1 a0 12 16).bind fun x7 =>
    (uL M1 x7 i4 0).bind fun M9 =>
    m_X12_gross_J148 N k56 a0 i1 i2 i3 i4 M9)
set_option maxHeartbeats 4000000 in
set_option maxRecDepth 100000 in
theorem t_X12_gross_J129 {X : mX} {L0 : Launch} {res : Int64 × mM} {N : Nat} (C : CX X RX12 "gross" prog_14_method_28_code 5 (some .long)) (E : EX X L0 3 76 0 0 (some (.long res.1)) res.2) (k56 : Nat → Int32 → Int32 → Int32 → Int32 → mM → Option (Int64 × mM)) (Hk56 : ∀ (a0 : Nat) (i1 : Int32) (i2 : Int32) (i3 : Int32) (i4 : Int32) (M : mM), k56 a0 i1 i2 i3 i4 M = some res → EV X 5 56 [(0, .ref a0), (1, .int i1), (2, .int i2), (3, .int i3), (4, .int i4)] [] 0 0 M) (a0 : Nat) (i1 : Int32) (i2 : Int32) (i3 : Int32) (i4 : Int32) (sa0 : Nat) (si1 : Int32) (si2 : Int32) (M : mM) (hf : m_X12_gross_J129 N k56 a0 i1 i2 i3 i4 sa0 si1 si2 M = some res) : EV X 5 129 [(0, .ref a0), (1, .int i1), (2, .int i2), (3, .int i3), (4, .int i4)] [.int si2, .int si1, .ref sa0] 0 0 M := by
  unfold m_X12_gross_J129 at hf
  obtain ⟨M1, e2, hf⟩ := obnd hf
  refine ev_zast C dX12_gross_129 e2 ?_
  refine ev_aload_n C dX12_gross_130 rfl (q := 0) rfl ?_
  obtain ⟨x3, e4, hf⟩ := obnd hf
  refine ev_get (k := 17) C ok_12 dX12_gross_131 (by decide) kw_1176 (fR_V e4) ?_
  refine ev_iload C dX12_gross_134 (q := 4) rfl ?_
  obtain ⟨x5, e6, hf⟩ := obnd hf
  refine ev_zald C dX12_gross_136 e6 ?_
  refine ev_if_eq (tgt := 148) C dX12_gross_137 (by decide) (fun hc => ?_) (fun hc => ?_)
  · have hf := oit hf hc
    exact t_X12_gross_J148 C E k56 Hk56 a0 i1 i2 i3 i4 M1 hf
  · have hf := oie hf hc
    refine ev_aload_n C dX12_gross_140 rfl (q := 0) rfl ?_
    obtain ⟨x7, e8, hf⟩ := obnd hf
    refine ev_get (k := 16) C ok_12 dX12_gross_141 (by decide) kw_1175 (fR_V e8) ?_
    refine ev_iload C dX12_gross_144 (q := 4) rfl ?_
    refine ev_lconst (v := 0) C dX12_gross_146 (by decide) ?_
    obtain ⟨M9, e10, hf⟩ := obnd hf
    refine ev_last C dX12_gross_147 e10 ?_
    exact t_X12_gross_J148 C E k56 Hk56 a0 i1 i2 i3 i4 M9 hf
def m_X12_gross_J124 (N : Nat) (k56 : Nat → Int32 → Int32 → Int32 → Int32 → mM → Option (Int64 × mM)) (a0 : Nat) (i1 : Int32) (i2 : Int32) (i3 : Int32) (i4 : Int32) (sa0 : Nat) (si1 : Int32) (M : mM) : Option (Int64 × mM) :=
  m_X12_gross_J129 N k56 a0 i1 i2 i3 i4 sa0 si1 1 M
set_option maxHeartbeats 4000000 in
set_option maxRecDepth 100000 in
theorem t_X12_gross_J124 {X : mX} {L0 : Launch} {res : Int64 × mM} {N : Nat} (C : CX X RX12 "gross" prog_14_method_28_code 5 (some .long)) (E : EX X L0 3 76 0 0 (some (.long res.1)) res.2) (k56 : Nat → Int32 → Int32 → Int32 → Int32 → mM → Option (Int64 × mM)) (Hk56 : ∀ (a0 : Nat) (i1 : Int32) (i2 : Int32) (i3 : Int32) (i4 : Int32) (M : mM), k56 a0 i1 i2 i3 i4 M = some res → EV X 5 56 [(0, .ref a0), (1, .int i1), (2, .int i2), (3, .int i3), (4, .int i4)] [] 0 0 M) (a0 : Nat) (i1 : Int32) (i2 : Int32) (i3 : Int32) (i4 : Int32) (sa0 : Nat) (si1 : Int32) (M : mM) (hf : m_X12_gross_J124 N k56 a0 i1 i2 i3 i4 sa0 si1 M = some res) : EV X 5 124 [(0, .ref a0), (1, .int i1), (2, .int i2), (3, .int i3), (4, .int i4)] [.int si1, .ref sa0] 0 0 M := by
  unfold m_X12_gross_J124 at hf
  refine ev_iconst (v := 1) C dX12_gross_124 (by decide) ?_
  refine ev_goto (tgt := 129) C dX12_gross_125 (by decide) ?_
  exact t_X12_gross_J129 C E k56 Hk56 a0 i1 i2 i3 i4 sa0 si1 1 M hf
def m_X12_gross_J128 (N : Nat) (k56 : Nat → Int32 → Int32 → Int32 → Int32 → mM → Option (Int64 × mM)) (a0 : Nat) (i1 : Int32) (i2 : Int32) (i3 : Int32) (i4 : Int32) (sa0 : Nat) (si1 : Int32) (M : mM) : Option (Int64 × mM) :=
  m_X12_gross_J129 N k56 a0 i1 i2 i3 i4 sa0 si1 0 M
set_option maxHeartbeats 4000000 in
set_option maxRecDepth 100000 in
theorem t_X12_gross_J128 {X : mX} {L0 : Launch} {res : Int64 × mM} {N : Nat} (C : CX X RX12 "gross" prog_14_method_28_code 5 (some .long)) (E : EX X L0 3 76 0 0 (some (.long res.1)) res.2) (k56 : Nat → Int32 → Int32 → Int32 → Int32 → mM → Option (Int64 × mM)) (Hk56 : ∀ (a0 : Nat) (i1 : Int32) (i2 : Int32) (i3 : Int32) (i4 : Int32) (M : mM), k56 a0 i1 i2 i3 i4 M = some res → EV X 5 56 [(0, .ref a0), (1, .int i1), (2, .int i2), (3, .int i3), (4, .int i4)] [] 0 0 M) (a0 : Nat) (i1 : Int32) (i2 : Int32) (i3 : Int32) (i4 : Int32) (sa0 : Nat) (si1 : Int32) (M : mM) (hf : m_X12_gross_J128 N k56 a0 i1 i2 i3 i4 sa0 si1 M = some res) : EV X 5 128 [(0, .ref a0), (1, .int i1), (2, .int i2), (3, .int i3), (4, .int i4)] [.int si1, .ref sa0] 0 0 M := by
  unfold m_X12_gross_J128 at hf
  refine ev_iconst (v := 0) C dX12_gross_128 (by decide) ?_
  exact t_X12_gross_J129 C E k56 Hk56 a0 i1 i2 i3 i4 sa0 si1 0 M hf
def m_X12_gross_L56 (N : Nat) (k48 : Nat → Int32 → Int32 → Int32 → mM → Option (Int64 × mM)) : Nat → Nat → Int32 → Int32 → Int32 → Int32 → mM → Option (Int64 × mM)
  | 0, _, _, _, _, _, _ => none
  | n + 1, a0, i1, i2, i3, i4, M =>
    if i4 ≤ 0 then (
      k48 a0 i1 i2 (i3 + 1) M) else (
      (sZ M a0 12 15 0).bind fun M1 =>
      (fR M1 a0 12 16).bind fun x3 =>
      (oO M1 a0 12).bind fun _ =>
      (m_X12_next N a0 i3 i4 M1).bind fun x7 =>
      (uL x7.2 x3 i4 x7.1).bind fun M9 =>
      (fR M9 a0 12 17).bind fun x11 =>
      (fR M9 a0 12 17).bind fun x13 =>
      (aI 3 M9 x13 i4).bind fun x15 =>
      if x15 = 0 then (
        (fI M9 a0 12 15).bind fun x17 =>
        if x17 = 0 then (
          (fR M9 a0 12 0).bind fun x19 =>
          (aI 0 M9 x19 0).bind fun x21 =>
          if x21 ≤ 0 then (
            m_X12_gross_J128 N (m_X12_gross_L56 N k48  n) a0 i1 i2 i3 i4 x11 i4 M9) else (
            (fR M9 a0 12 17).bind fun x23 =>
            (aI 3 M9 x23 (i4 - 1)).bind fun x25 =>
            if x25 = 0 then (
              m_X12_gross_J128 N (m_X12_gross_L56 N k48  n) a0 i1 i2 i3 i4 x11 i4 M9) else (
              m_X12_gross_J124 N (m_X12_gross_L56 N k48  n) a0 i1 i2 i3 i4 x11 i4 M9))) else (
          m_X12_gross_J124 N (m_X12_gross_L56 N k48  n) a0 i1 i2 i3 i4 x11 i4 M9)) else (
        m_X12_gross_J124 N (m_X12_gross_L56 N k48  n) a0 i1 i2 i3 i4 x11 i4 M9))
set_option maxHeartbeats 4000000 in
set_option maxRecDepth 100000 in
theorem t_X12_gross_L56 {X : mX} {L0 : Launch} {res : Int64 × mM} {N : Nat} (C : CX X RX12 "gross" prog_14_method_28_code 5 (some .long)) (E : EX X L0 3 76 0 0 (some (.long res.1)) res.2) (k48 : Nat → Int32 → Int32 → Int32 → mM → Option (Int64 × mM)) (Hk48 : ∀ (a0 : Nat) (i1 : Int32) (i2 : Int32) (i3 : Int32) (M : mM), k48 a0 i1 i2 i3 M = some res → EV X 5 48 [(0, .ref a0), (1, .int i1), (2, .int i2), (3, .int i3)] [] 0 0 M) : ∀ (n : Nat) (a0 : Nat) (i1 : Int32) (i2 : Int32) (i3 : Int32) (i4 : Int32) (M : mM), m_X12_gross_L56 N k48 n a0 i1 i2 i3 i4 M = some res → EV X 5 56 [(0, .ref a0), (1, .int i1), (2, .int i2), (3, .int i3), (4, .int i4)] [] 0 0 M := by
  intro n
  induction n with
  | zero => intro a0 i1 i2 i3 i4 M hf; cases (show (none : Option (Int64 × mM)) = some res from hf)
  | succ n ih =>
    intro a0 i1 i2 i3 i4 M hf
    rw [m_X12_gross_L56] at hf
    refine ev_iload C dX12_gross_56 (q := 4) rfl ?_
    refine ev_if_le (tgt := 154) C dX12_gross_58 (by decide) (fun hc => ?_) (fun hc => ?_)
    · have hf := oit hf hc
      refine ev_iinc (v := i3 + 1) (l' := [(3, .int (i3 + 1)), (0, .ref a0), (1, .int i1), (2, .int i2), (4, .int i4)]) C dX12_gross_154 (q := 3) rfl rfl (by decide) rfl ?_
      refine ev_goto (tgt := 48) C dX12_gross_157 (by decide) ?_
      refine ev_sub [1, 2, 3, 0] rfl ?_
      exact Hk48 a0 i1 i2 (i3 + 1) M hf
    · have hf := oie hf hc
      refine ev_aload_n C dX12_gross_61 rfl (q := 0) rfl ?_
      refine ev_iconst (v := 0) C dX12_gross_62 (by decide) ?_
      obtain ⟨M1, e2, hf⟩ := obnd hf
      refine ev_put (k := 15) C ok_12 dX12_gross_63 (by decide) kw_1174 rfl (sZ_fit e2) (sZ_V e2) ?_
      refine ev_aload_n C dX12_gross_66 rfl (q := 0) rfl ?_
      obtain ⟨x3, e4, hf⟩ := obnd hf
      refine ev_get (k := 16) C ok_12 dX12_gross_67 (by decide) kw_1175 (fR_V e4) ?_
      refine ev_iload C dX12_gross_70 (q := 4) rfl ?_
      refine ev_aload_n C dX12_gross_72 rfl (q := 0) rfl ?_
      refine ev_iload_n C dX12_gross_73 rfl (q := 3) rfl ?_
      refine ev_iload C dX12_gross_74 (q := 4) rfl ?_
      obtain ⟨_, e5, hf⟩ := obnd hf
      obtain ⟨fs6, e5⟩ := oO_eq e5
      obtain ⟨x7, e8, hf⟩ := obnd hf
      refine ev_callV0 (As := [.int i3, .int i4]) (st := [.int i4, .ref x3]) C rfl e5 (t_X12_next e8) rfl hd_X12_next rfl kw_1368 kw_1370 kw_87 kw_29 kw_1371 (mRoom.of E (Nat.le_of_ble_eq_true rfl) (Nat.le_of_ble_eq_true rfl) (Nat.le_refl 0) (Nat.le_refl 0)) (Nat.le_of_ble_eq_true rfl) dX12_gross_76 ?_
      obtain ⟨M9, e10, hf⟩ := obnd hf
      refine ev_last C dX12_gross_79 e10 ?_
      refine ev_aload_n C dX12_gross_80 rfl (q := 0) rfl ?_
      obtain ⟨x11, e12, hf⟩ := obnd hf
      refine ev_get (k := 17) C ok_12 dX12_gross_81 (by decide) kw_1176 (fR_V e12) ?_
      refine ev_iload C dX12_gross_84 (q := 4) rfl ?_
      refine ev_aload_n C dX12_gross_86 rfl (q := 0) rfl ?_
      obtain ⟨x13, e14, hf⟩ := obnd hf
      refine ev_get (k := 17) C ok_12 dX12_gross_87 (by decide) kw_1176 (fR_V e14) ?_
      refine ev_iload C dX12_gross_90 (q := 4) rfl ?_
      obtain ⟨x15, e16, hf⟩ := obnd hf
      refine ev_zald C dX12_gross_92 e16 ?_
      refine ev_if_ne (tgt := 124) C dX12_gross_93 (by decide) (fun hc => ?_) (fun hc => ?_)
      · have hf := oie hf hc
        exact t_X12_gross_J124 C E (m_X12_gross_L56 N k48  n) ih a0 i1 i2 i3 i4 x11 i4 M9 hf
      · have hf := oit hf hc
        refine ev_aload_n C dX12_gross_96 rfl (q := 0) rfl ?_
        obtain ⟨x17, e18, hf⟩ := obnd hf
        refine ev_get (k := 15) C ok_12 dX12_gross_97 (by decide) kw_1174 (fI_V e18) ?_
        refine ev_if_ne (tgt := 124) C dX12_gross_100 (by decide) (fun hc => ?_) (fun hc => ?_)
        · have hf := oie hf hc
          exact t_X12_gross_J124 C E (m_X12_gross_L56 N k48  n) ih a0 i1 i2 i3 i4 x11 i4 M9 hf
        · have hf := oit hf hc
          refine ev_aload_n C dX12_gross_103 rfl (q := 0) rfl ?_
          obtain ⟨x19, e20, hf⟩ := obnd hf
          refine ev_get (k := 0) C ok_12 dX12_gross_104 (by decide) kw_1159 (fR_V e20) ?_
          refine ev_iconst (v := 0) C dX12_gross_107 (by decide) ?_
          obtain ⟨x21, e22, hf⟩ := obnd hf
          refine ev_iald C dX12_gross_108 e22 ?_
          refine ev_if_le (tgt := 128) C dX12_gross_109 (by decide) (fun hc => ?_) (fun hc => ?_)
          · have hf := oit hf hc
            exact t_X12_gross_J128 C E (m_X12_gross_L56 N k48  n) ih a0 i1 i2 i3 i4 x11 i4 M9 hf
          · have hf := oie hf hc
            refine ev_aload_n C dX12_gross_112 rfl (q := 0) rfl ?_
            obtain ⟨x23, e24, hf⟩ := obnd hf
            refine ev_get (k := 17) C ok_12 dX12_gross_113 (by decide) kw_1176 (fR_V e24) ?_
            refine ev_iload C dX12_gross_116 (q := 4) rfl ?_
            refine ev_iconst (v := 1) C dX12_gross_118 (by decide) ?_
            refine ev_isub C dX12_gross_119 ?_
            obtain ⟨x25, e26, hf⟩ := obnd hf
            refine ev_zald C dX12_gross_120 e26 ?_
            refine ev_if_eq (tgt := 128) C dX12_gross_121 (by decide) (fun hc => ?_) (fun hc => ?_)
            · have hf := oit hf hc
              exact t_X12_gross_J128 C E (m_X12_gross_L56 N k48  n) ih a0 i1 i2 i3 i4 x11 i4 M9 hf
            · have hf := oie hf hc
              exact t_X12_gross_J124 C E (m_X12_gross_L56 N k48  n) ih a0 i1 i2 i3 i4 x11 i4 M9 hf
def m_X12_gross_L48 (N : Nat)  : Nat → Nat → Int32 → Int32 → Int32 → mM → Option (Int64 × mM)
  | 0, _, _, _, _, _ => none
  | n + 1, a0, i1, i2, i3, M =>
    if i1 < i3 then (
      (fR M a0 12 17).bind fun x1 =>
      (aI 3 M x1 i2).bind fun x3 =>
      if x3 = 0 then (
        (fR M a0 12 16).bind fun x5 =>
        (aL M x5 i2).bind fun x7 =>
        some (x7, M)) else (
        some ((-6), M))) else (
      m_X12_gross_L56 N (m_X12_gross_L48 N  n) N a0 i1 i2 i3 i2 M)
set_option maxHeartbeats 4000000 in
set_option maxRecDepth 100000 in
theorem t_X12_gross_L48 {X : mX} {L0 : Launch} {res : Int64 × mM} {N : Nat} (C : CX X RX12 "gross" prog_14_method_28_code 5 (some .long)) (E : EX X L0 3 76 0 0 (some (.long res.1)) res.2)   : ∀ (n : Nat) (a0 : Nat) (i1 : Int32) (i2 : Int32) (i3 : Int32) (M : mM), m_X12_gross_L48 N  n a0 i1 i2 i3 M = some res → EV X 5 48 [(0, .ref a0), (1, .int i1), (2, .int i2), (3, .int i3)] [] 0 0 M := by
  intro n
  induction n with
  | zero => intro a0 i1 i2 i3 M hf; cases (show (none : Option (Int64 × mM)) = some res from hf)
  | succ n ih =>
    intro a0 i1 i2 i3 M hf
    rw [m_X12_gross_L48] at hf
    refine ev_iload_n C dX12_gross_48 rfl (q := 3) rfl ?_
    refine ev_iload_n C dX12_gross_49 rfl (q := 1) rfl ?_
    refine ev_icmp_gt (tgt := 160) C dX12_gross_50 (by decide) (fun hc => ?_) (fun hc => ?_)
    · have hf := oit hf hc
      refine ev_aload_n C dX12_gross_160 rfl (q := 0) rfl ?_
      obtain ⟨x1, e2, hf⟩ := obnd hf
      refine ev_get (k := 17) C ok_12 dX12_gross_161 (by decide) kw_1176 (fR_V e2) ?_
      refine ev_iload_n C dX12_gross_164 rfl (q := 2) rfl ?_
      obtain ⟨x3, e4, hf⟩ := obnd hf
      refine ev_zald C dX12_gross_165 e4 ?_
      refine ev_if_eq (tgt := 175) C dX12_gross_166 (by decide) (fun hc => ?_) (fun hc => ?_)
      · have hf := oit hf hc
        refine ev_aload_n C dX12_gross_175 rfl (q := 0) rfl ?_
        obtain ⟨x5, e6, hf⟩ := obnd hf
        refine ev_get (k := 16) C ok_12 dX12_gross_176 (by decide) kw_1175 (fR_V e6) ?_
        refine ev_iload_n C dX12_gross_179 rfl (q := 2) rfl ?_
        obtain ⟨x7, e8, hf⟩ := obnd hf
        refine ev_lald C dX12_gross_180 e8 ?_
        obtain rfl := Option.some.inj hf
        exact ev_lret C E (Nat.le_refl 0) (Nat.le_refl 0) dX12_gross_181
      · have hf := oie hf hc
        refine ev_ldc2 (v := (-6)) C dX12_gross_169 kw_1385 ?_
        refine ev_goto (tgt := 181) C dX12_gross_172 (by decide) ?_
        obtain rfl := Option.some.inj hf
        exact ev_lret C E (Nat.le_refl 0) (Nat.le_refl 0) dX12_gross_181
    · have hf := oie hf hc
      refine ev_iload_n C dX12_gross_53 rfl (q := 2) rfl ?_
      refine ev_istore (l' := [(4, .int i2), (0, .ref a0), (1, .int i1), (2, .int i2), (3, .int i3)]) C dX12_gross_54 (by decide) rfl ?_
      refine ev_sub [1, 2, 3, 4, 0] rfl ?_
      exact t_X12_gross_L56 C E (m_X12_gross_L48 N  n) ih N a0 i1 i2 i3 i2 M hf
def m_X12_gross_L21 (N : Nat)  : Nat → Nat → Int32 → Int32 → Int32 → mM → Option (Int64 × mM)
  | 0, _, _, _, _, _ => none
  | n + 1, a0, i1, i2, i3, M =>
    if i2 < i3 then (
      m_X12_gross_L48 N  N a0 i1 i2 1 M) else (
      (fR M a0 12 16).bind fun x1 =>
      (uL M x1 i3 0).bind fun M3 =>
      (fR M3 a0 12 17).bind fun x5 =>
      (uI 3 .boolean M3 x5 i3 0).bind fun M7 =>
      (m_X12_gross_L21 N  n) a0 i1 i2 (i3 + 1) M7)
set_option maxHeartbeats 4000000 in
set_option maxRecDepth 100000 in
theorem t_X12_gross_L21 {X : mX} {L0 : Launch} {res : Int64 × mM} {N : Nat} (C : CX X RX12 "gross" prog_14_method_28_code 5 (some .long)) (E : EX X L0 3 76 0 0 (some (.long res.1)) res.2)   : ∀ (n : Nat) (a0 : Nat) (i1 : Int32) (i2 : Int32) (i3 : Int32) (M : mM), m_X12_gross_L21 N  n a0 i1 i2 i3 M = some res → EV X 5 21 [(0, .ref a0), (1, .int i1), (2, .int i2), (3, .int i3)] [] 0 0 M := by
  intro n
  induction n with
  | zero => intro a0 i1 i2 i3 M hf; cases (show (none : Option (Int64 × mM)) = some res from hf)
  | succ n ih =>
    intro a0 i1 i2 i3 M hf
    rw [m_X12_gross_L21] at hf
    refine ev_iload_n C dX12_gross_21 rfl (q := 3) rfl ?_
    refine ev_iload_n C dX12_gross_22 rfl (q := 2) rfl ?_
    refine ev_icmp_gt (tgt := 46) C dX12_gross_23 (by decide) (fun hc => ?_) (fun hc => ?_)
    · have hf := oit hf hc
      refine ev_iconst (v := 1) C dX12_gross_46 (by decide) ?_
      refine ev_istore_n (l' := [(3, .int 1), (0, .ref a0), (1, .int i1), (2, .int i2)]) C dX12_gross_47 rfl (by decide) rfl ?_
      refine ev_sub [1, 2, 3, 0] rfl ?_
      exact t_X12_gross_L48 C E   N a0 i1 i2 1 M hf
    · have hf := oie hf hc
      refine ev_aload_n C dX12_gross_26 rfl (q := 0) rfl ?_
      obtain ⟨x1, e2, hf⟩ := obnd hf
      refine ev_get (k := 16) C ok_12 dX12_gross_27 (by decide) kw_1175 (fR_V e2) ?_
      refine ev_iload_n C dX12_gross_30 rfl (q := 3) rfl ?_
      refine ev_lconst (v := 0) C dX12_gross_31 (by decide) ?_
      obtain ⟨M3, e4, hf⟩ := obnd hf
      refine ev_last C dX12_gross_32 e4 ?_
      refine ev_aload_n C dX12_gross_33 rfl (q := 0) rfl ?_
      obtain ⟨x5, e6, hf⟩ := obnd hf
      refine ev_get (k := 17) C ok_12 dX12_gross_34 (by decide) kw_1176 (fR_V e6) ?_
      refine ev_iload_n C dX12_gross_37 rfl (q := 3) rfl ?_
      refine ev_iconst (v := 0) C dX12_gross_38 (by decide) ?_
      obtain ⟨M7, e8, hf⟩ := obnd hf
      refine ev_zast C dX12_gross_39 e8 ?_
      refine ev_iinc (v := i3 + 1) (l' := [(3, .int (i3 + 1)), (0, .ref a0), (1, .int i1), (2, .int i2)]) C dX12_gross_40 (q := 3) rfl rfl (by decide) rfl ?_
      refine ev_goto (tgt := 21) C dX12_gross_43 (by decide) ?_
      refine ev_sub [1, 2, 3, 0] rfl ?_
      exact ih a0 i1 i2 (i3 + 1) M7 hf
def m_X12_gross (N : Nat) (a0 : Nat) (i1 : Int32) (i2 : Int32) (M : mM) : Option (Int64 × mM) :=
  (m_X12_isStage i1).bind fun x1 =>
  if x1 = 0 then (
    some ((-9223372036854775808), M)) else (
    (oO M a0 12).bind fun _ =>
    (m_X12_isSeat a0 i2 M).bind fun x5 =>
    if x5 = 0 then (
      some ((-9223372036854775808), M)) else (
      m_X12_gross_L21 N  N a0 i1 i2 0 M))
set_option maxHeartbeats 4000000 in
set_option maxRecDepth 100000 in
theorem t_X12_gross {L0 : Launch} {M : mM} {N : Nat} {a0 : Nat} {i1 : Int32} {i2 : Int32} {res : Int64 × mM} (hf : m_X12_gross N a0 i1 i2 M = some res) : CT L0 yX12_gross prog_14_method_28_code 5 (some .long) 3 76 0 0 [.ref a0, .int i1, .int i2] M (some (.long res.1)) res.2 := by
  refine CT.of (by decide +kernel) (Nat.le_of_ble_eq_true rfl) fun X C E => ?_
  have C : CX X RX12 "gross" prog_14_method_28_code 5 (some .long) := C
  show EV X 5 0 [(0, .ref a0), (1, .int i1), (2, .int i2)] [] 0 0 M
  unfold m_X12_gross at hf
  refine ev_iload_n C dX12_gross_0 rfl (q := 1) rfl ?_
  obtain ⟨x1, e2, hf⟩ := obnd hf
  refine ev_callS0 (As := [.int i1]) (st := []) C (t_X12_isStage e2) hd_X12_isStage rfl kw_1289 kw_1290 kw_87 kw_1291 (mRoom.of E (Nat.le_of_ble_eq_true rfl) (Nat.le_of_ble_eq_true rfl) (Nat.le_refl 0) (Nat.le_refl 0)) (Nat.le_of_ble_eq_true rfl) dX12_gross_1 ?_
  refine ev_if_eq (tgt := 15) C dX12_gross_4 (by decide) (fun hc => ?_) (fun hc => ?_)
  · have hf := oit hf hc
    refine ev_ldc2 (v := (-9223372036854775808)) C dX12_gross_15 kw_1308 ?_
    obtain rfl := Option.some.inj hf
    exact ev_lret C E (Nat.le_refl 0) (Nat.le_refl 0) dX12_gross_18
  · have hf := oie hf hc
    refine ev_aload_n C dX12_gross_7 rfl (q := 0) rfl ?_
    refine ev_iload_n C dX12_gross_8 rfl (q := 2) rfl ?_
    obtain ⟨_, e3, hf⟩ := obnd hf
    obtain ⟨fs4, e3⟩ := oO_eq e3
    obtain ⟨x5, e6, hf⟩ := obnd hf
    refine ev_callV0 (As := [.int i2]) (st := []) C rfl e3 (t_X12_isSeat e6) rfl hd_X12_isSeat rfl kw_1330 kw_1332 kw_87 kw_24 kw_1333 (mRoom.of E (Nat.le_of_ble_eq_true rfl) (Nat.le_of_ble_eq_true rfl) (Nat.le_refl 0) (Nat.le_refl 0)) (Nat.le_of_ble_eq_true rfl) dX12_gross_9 ?_
    refine ev_if_ne (tgt := 19) C dX12_gross_12 (by decide) (fun hc => ?_) (fun hc => ?_)
    · have hf := oie hf hc
      refine ev_iconst (v := 0) C dX12_gross_19 (by decide) ?_
      refine ev_istore_n (l' := [(3, .int 0), (0, .ref a0), (1, .int i1), (2, .int i2)]) C dX12_gross_20 rfl (by decide) rfl ?_
      refine ev_sub [1, 2, 3, 0] rfl ?_
      exact t_X12_gross_L21 C E   N a0 i1 i2 0 M hf
    · have hf := oit hf hc
      refine ev_ldc2 (v := (-9223372036854775808)) C dX12_gross_15 kw_1308 ?_
      obtain rfl := Option.some.inj hf
      exact ev_lret C E (Nat.le_refl 0) (Nat.le_refl 0) dX12_gross_18
/-! FareLimitsModel isTaken(III)Z -/
theorem dX12_isTaken_0 : decode prog_14_method_29_code 0 = .ok (.aload_n 0, 1) := by decide +kernel
theorem dX12_isTaken_1 : decode prog_14_method_29_code 1 = .ok (.iload_n 1, 1) := by decide +kernel
theorem dX12_isTaken_2 : decode prog_14_method_29_code 2 = .ok (.iload_n 2, 1) := by decide +kernel
theorem dX12_isTaken_3 : decode prog_14_method_29_code 3 = .ok (.iload_n 3, 1) := by decide +kernel
theorem dX12_isTaken_4 : decode prog_14_method_29_code 4 = .ok (.invokevirtual 129, 3) := by decide +kernel
theorem dX12_isTaken_7 : decode prog_14_method_29_code 7 = .ok (.dconst 0, 1) := by decide +kernel
theorem dX12_isTaken_8 : decode prog_14_method_29_code 8 = .ok (.dcmp .l, 1) := by decide +kernel
theorem dX12_isTaken_9 : decode prog_14_method_29_code 9 = .ok (.ifCond .le 7, 3) := by decide +kernel
theorem dX12_isTaken_12 : decode prog_14_method_29_code 12 = .ok (.iconst 1, 1) := by decide +kernel
theorem dX12_isTaken_13 : decode prog_14_method_29_code 13 = .ok (.goto 4, 3) := by decide +kernel
theorem dX12_isTaken_16 : decode prog_14_method_29_code 16 = .ok (.iconst 0, 1) := by decide +kernel
theorem dX12_isTaken_17 : decode prog_14_method_29_code 17 = .ok (.ireturn, 1) := by decide +kernel
def m_X12_isTaken (N : Nat) (a0 : Nat) (i1 : Int32) (i2 : Int32) (i3 : Int32) (M : mM) : Option (Int32) :=
  (oO M a0 12).bind fun _ =>
  (m_X12_gain N a0 i1 i2 i3 M).bind fun x3 =>
  if (Op.cmpValue (FP.dcmp x3 FP.dconst0) CmpOp.l) ≤ 0 then (
    some 0) else (
    some 1)
set_option maxHeartbeats 4000000 in
set_option maxRecDepth 100000 in
theorem t_X12_isTaken {L0 : Launch} {M : mM} {N : Nat} {a0 : Nat} {i1 : Int32} {i2 : Int32} {i3 : Int32} {res : Int32} (hf : m_X12_isTaken N a0 i1 i2 i3 M = some res) : CT L0 yX12_isTaken prog_14_method_29_code 4 (some .boolean) 3 75 0 0 [.ref a0, .int i1, .int i2, .int i3] M (some (.int res)) M := by
  refine CT.of (by decide +kernel) (Nat.le_of_ble_eq_true rfl) fun X C E => ?_
  have C : CX X RX12 "isTaken" prog_14_method_29_code 4 (some .boolean) := C
  show EV X 4 0 [(0, .ref a0), (1, .int i1), (2, .int i2), (3, .int i3)] [] 0 0 M
  unfold m_X12_isTaken at hf
  refine ev_aload_n C dX12_isTaken_0 rfl (q := 0) rfl ?_
  refine ev_iload_n C dX12_isTaken_1 rfl (q := 1) rfl ?_
  refine ev_iload_n C dX12_isTaken_2 rfl (q := 2) rfl ?_
  refine ev_iload_n C dX12_isTaken_3 rfl (q := 3) rfl ?_
  obtain ⟨_, e1, hf⟩ := obnd hf
  obtain ⟨fs2, e1⟩ := oO_eq e1
  obtain ⟨x3, e4, hf⟩ := obnd hf
  refine ev_callV0 (As := [.int i1, .int i2, .int i3]) (st := []) C rfl e1 (t_X12_gain e4) rfl hd_X12_gain rfl kw_1342 kw_1344 kw_87 kw_27 kw_1345 (mRoom.of E (Nat.le_of_ble_eq_true rfl) (Nat.le_of_ble_eq_true rfl) (Nat.le_refl 0) (Nat.le_refl 0)) (Nat.le_of_ble_eq_true rfl) dX12_isTaken_4 ?_
  refine ev_dconst0 C dX12_isTaken_7 ?_
  refine ev_dcmp C dX12_isTaken_8 ?_
  refine ev_if_le (tgt := 16) C dX12_isTaken_9 (by decide) (fun hc => ?_) (fun hc => ?_)
  · have hf := oit hf hc
    refine ev_iconst (v := 0) C dX12_isTaken_16 (by decide) ?_
    obtain rfl := Option.some.inj hf
    exact ev_zret C (by decide) E (Nat.le_refl 0) (Nat.le_refl 0) dX12_isTaken_17
  · have hf := oie hf hc
    refine ev_iconst (v := 1) C dX12_isTaken_12 (by decide) ?_
    refine ev_goto (tgt := 17) C dX12_isTaken_13 (by decide) ?_
    obtain rfl := Option.some.inj hf
    exact ev_zret C (by decide) E (Nat.le_refl 0) (Nat.le_refl 0) dX12_isTaken_17
/-! FareLimitsModel isToGo(I)Z -/
theorem dX12_isToGo_0 : decode prog_14_method_30_code 0 = .ok (.iload_n 0, 1) := by decide +kernel
theorem dX12_isToGo_1 : decode prog_14_method_30_code 1 = .ok (.i2l, 1) := by decide +kernel
theorem dX12_isToGo_2 : decode prog_14_method_30_code 2 = .ok (.lconst 1, 1) := by decide +kernel
theorem dX12_isToGo_3 : decode prog_14_method_30_code 3 = .ok (.ldc2_w 76, 3) := by decide +kernel
theorem dX12_isToGo_6 : decode prog_14_method_30_code 6 = .ok (.invokestatic 72, 3) := by decide +kernel
theorem dX12_isToGo_9 : decode prog_14_method_30_code 9 = .ok (.ireturn, 1) := by decide +kernel
def m_X12_isToGo (i0 : Int32) : Option (Int32) :=
  (m_X12_in i0.toInt64 1 20).bind fun x1 =>
  (oif (x1 = 0 ∨ x1 = 1)).bind fun _ =>
  some x1
set_option maxHeartbeats 4000000 in
set_option maxRecDepth 100000 in
theorem t_X12_isToGo {L0 : Launch} {M : mM} {i0 : Int32} {res : Int32} (hf : m_X12_isToGo i0 = some res) : CT L0 yX12_isToGo prog_14_method_30_code 1 (some .boolean) 1 25 0 0 [.int i0] M (some (.int res)) M := by
  refine CT.of (by decide +kernel) (Nat.le_of_ble_eq_true rfl) fun X C E => ?_
  have C : CX X RX12 "isToGo" prog_14_method_30_code 1 (some .boolean) := C
  show EV X 1 0 [(0, .int i0)] [] 0 0 M
  unfold m_X12_isToGo at hf
  refine ev_iload_n C dX12_isToGo_0 rfl (q := 0) rfl ?_
  refine ev_i2l C dX12_isToGo_1 ?_
  refine ev_lconst (v := 1) C dX12_isToGo_2 (by decide) ?_
  refine ev_ldc2 (v := 20) C dX12_isToGo_3 kw_1292 ?_
  obtain ⟨x1, e2, hf⟩ := obnd hf
  refine ev_callS0 (As := [.long i0.toInt64, .long 1, .long 20]) (st := []) C (t_X12_in e2) hd_X12_in rfl kw_1253 kw_1254 kw_87 kw_1255 (mRoom.of E (Nat.le_of_ble_eq_true rfl) (Nat.le_of_ble_eq_true rfl) (Nat.le_refl 0) (Nat.le_refl 0)) (Nat.le_of_ble_eq_true rfl) dX12_isToGo_6 ?_
  obtain ⟨_, e3, hf⟩ := obnd hf
  obtain rfl := Option.some.inj hf
  exact ev_zret C (oif_eq e3) E (Nat.le_refl 0) (Nat.le_refl 0) dX12_isToGo_9
/-! FareLimitsModel taken(III)I -/
theorem dX12_taken_0 : decode prog_14_method_31_code 0 = .ok (.aload_n 0, 1) := by decide +kernel
theorem dX12_taken_1 : decode prog_14_method_31_code 1 = .ok (.iload_n 1, 1) := by decide +kernel
theorem dX12_taken_2 : decode prog_14_method_31_code 2 = .ok (.invokevirtual 82, 3) := by decide +kernel
theorem dX12_taken_5 : decode prog_14_method_31_code 5 = .ok (.ifCond .eq 26, 3) := by decide +kernel
theorem dX12_taken_8 : decode prog_14_method_31_code 8 = .ok (.iload_n 2, 1) := by decide +kernel
theorem dX12_taken_9 : decode prog_14_method_31_code 9 = .ok (.invokestatic 172, 3) := by decide +kernel
theorem dX12_taken_12 : decode prog_14_method_31_code 12 = .ok (.ifCond .eq 19, 3) := by decide +kernel
theorem dX12_taken_15 : decode prog_14_method_31_code 15 = .ok (.iload_n 3, 1) := by decide +kernel
theorem dX12_taken_16 : decode prog_14_method_31_code 16 = .ok (.i2l, 1) := by decide +kernel
theorem dX12_taken_17 : decode prog_14_method_31_code 17 = .ok (.lconst 1, 1) := by decide +kernel
theorem dX12_taken_18 : decode prog_14_method_31_code 18 = .ok (.aload_n 0, 1) := by decide +kernel
theorem dX12_taken_19 : decode prog_14_method_31_code 19 = .ok (.getfield 9, 3) := by decide +kernel
theorem dX12_taken_22 : decode prog_14_method_31_code 22 = .ok (.iconst 1, 1) := by decide +kernel
theorem dX12_taken_23 : decode prog_14_method_31_code 23 = .ok (.iaload, 1) := by decide +kernel
theorem dX12_taken_24 : decode prog_14_method_31_code 24 = .ok (.i2l, 1) := by decide +kernel
theorem dX12_taken_25 : decode prog_14_method_31_code 25 = .ok (.invokestatic 72, 3) := by decide +kernel
theorem dX12_taken_28 : decode prog_14_method_31_code 28 = .ok (.ifCond .ne 5, 3) := by decide +kernel
theorem dX12_taken_31 : decode prog_14_method_31_code 31 = .ok (.iconst (-1), 1) := by decide +kernel
theorem dX12_taken_32 : decode prog_14_method_31_code 32 = .ok (.ireturn, 1) := by decide +kernel
theorem dX12_taken_33 : decode prog_14_method_31_code 33 = .ok (.aload_n 0, 1) := by decide +kernel
theorem dX12_taken_34 : decode prog_14_method_31_code 34 = .ok (.iload_n 2, 1) := by decide +kernel
theorem dX12_taken_35 : decode prog_14_method_31_code 35 = .ok (.invokevirtual 140, 3) := by decide +kernel
theorem dX12_taken_38 : decode prog_14_method_31_code 38 = .ok (.aload_n 0, 1) := by decide +kernel
theorem dX12_taken_39 : decode prog_14_method_31_code 39 = .ok (.iload_n 1, 1) := by decide +kernel
theorem dX12_taken_40 : decode prog_14_method_31_code 40 = .ok (.iload_n 2, 1) := by decide +kernel
theorem dX12_taken_41 : decode prog_14_method_31_code 41 = .ok (.iload_n 3, 1) := by decide +kernel
theorem dX12_taken_42 : decode prog_14_method_31_code 42 = .ok (.invokevirtual 175, 3) := by decide +kernel
theorem dX12_taken_45 : decode prog_14_method_31_code 45 = .ok (.ifCond .eq 7, 3) := by decide +kernel
theorem dX12_taken_48 : decode prog_14_method_31_code 48 = .ok (.iconst 1, 1) := by decide +kernel
theorem dX12_taken_49 : decode prog_14_method_31_code 49 = .ok (.goto 4, 3) := by decide +kernel
theorem dX12_taken_52 : decode prog_14_method_31_code 52 = .ok (.iconst 0, 1) := by decide +kernel
theorem dX12_taken_53 : decode prog_14_method_31_code 53 = .ok (.ireturn, 1) := by decide +kernel
def m_X12_taken (N : Nat) (a0 : Nat) (i1 : Int32) (i2 : Int32) (i3 : Int32) (M : mM) : Option (Int32 × mM) :=
  (oO M a0 12).bind fun _ =>
  (m_X12_isFare a0 i1 M).bind fun x3 =>
  if x3 = 0 then (
    some ((-1), M)) else (
    (m_X12_isToGo i2).bind fun x5 =>
    if x5 = 0 then (
      some ((-1), M)) else (
      (fR M a0 12 0).bind fun x7 =>
      (aI 0 M x7 1).bind fun x9 =>
      (m_X12_in i3.toInt64 1 x9.toInt64).bind fun x11 =>
      if x11 = 0 then (
        some ((-1), M)) else (
        (oO M a0 12).bind fun _ =>
        (m_X12_reckons N a0 i2 M).bind fun x15 =>
        (oO x15 a0 12).bind fun _ =>
        (m_X12_isTaken N a0 i1 i2 i3 x15).bind fun x19 =>
        if x19 = 0 then (
          some (0, x15)) else (
          some (1, x15)))))
set_option maxHeartbeats 4000000 in
set_option maxRecDepth 100000 in
theorem t_X12_taken {L0 : Launch} {M : mM} {N : Nat} {a0 : Nat} {i1 : Int32} {i2 : Int32} {i3 : Int32} {res : Int32 × mM} (hf : m_X12_taken N a0 i1 i2 i3 M = some res) : CT L0 yX12_taken prog_14_method_31_code 4 (some .int) 4 103 0 0 [.ref a0, .int i1, .int i2, .int i3] M (some (.int res.1)) res.2 := by
  refine CT.of (by decide +kernel) (Nat.le_of_ble_eq_true rfl) fun X C E => ?_
  have C : CX X RX12 "taken" prog_14_method_31_code 4 (some .int) := C
  show EV X 4 0 [(0, .ref a0), (1, .int i1), (2, .int i2), (3, .int i3)] [] 0 0 M
  unfold m_X12_taken at hf
  refine ev_aload_n C dX12_taken_0 rfl (q := 0) rfl ?_
  refine ev_iload_n C dX12_taken_1 rfl (q := 1) rfl ?_
  obtain ⟨_, e1, hf⟩ := obnd hf
  obtain ⟨fs2, e1⟩ := oO_eq e1
  obtain ⟨x3, e4, hf⟩ := obnd hf
  refine ev_callV0 (As := [.int i1]) (st := []) C rfl e1 (t_X12_isFare e4) rfl hd_X12_isFare rfl kw_1261 kw_1263 kw_87 kw_20 kw_1264 (mRoom.of E (Nat.le_of_ble_eq_true rfl) (Nat.le_of_ble_eq_true rfl) (Nat.le_refl 0) (Nat.le_refl 0)) (Nat.le_of_ble_eq_true rfl) dX12_taken_2 ?_
  refine ev_if_eq (tgt := 31) C dX12_taken_5 (by decide) (fun hc => ?_) (fun hc => ?_)
  · have hf := oit hf hc
    refine ev_iconst (v := (-1)) C dX12_taken_31 (by decide) ?_
    obtain rfl := Option.some.inj hf
    exact ev_iret C E (Nat.le_refl 0) (Nat.le_refl 0) dX12_taken_32
  · have hf := oie hf hc
    refine ev_iload_n C dX12_taken_8 rfl (q := 2) rfl ?_
    obtain ⟨x5, e6, hf⟩ := obnd hf
    refine ev_callS0 (As := [.int i2]) (st := []) C (t_X12_isToGo e6) hd_X12_isToGo rfl kw_1390 kw_1391 kw_87 kw_1392 (mRoom.of E (Nat.le_of_ble_eq_true rfl) (Nat.le_of_ble_eq_true rfl) (Nat.le_refl 0) (Nat.le_refl 0)) (Nat.le_of_ble_eq_true rfl) dX12_taken_9 ?_
    refine ev_if_eq (tgt := 31) C dX12_taken_12 (by decide) (fun hc => ?_) (fun hc => ?_)
    · have hf := oit hf hc
      refine ev_iconst (v := (-1)) C dX12_taken_31 (by decide) ?_
      obtain rfl := Option.some.inj hf
      exact ev_iret C E (Nat.le_refl 0) (Nat.le_refl 0) dX12_taken_32
    · have hf := oie hf hc
      refine ev_iload_n C dX12_taken_15 rfl (q := 3) rfl ?_
      refine ev_i2l C dX12_taken_16 ?_
      refine ev_lconst (v := 1) C dX12_taken_17 (by decide) ?_
      refine ev_aload_n C dX12_taken_18 rfl (q := 0) rfl ?_
      obtain ⟨x7, e8, hf⟩ := obnd hf
      refine ev_get (k := 0) C ok_12 dX12_taken_19 (by decide) kw_1159 (fR_V e8) ?_
      refine ev_iconst (v := 1) C dX12_taken_22 (by decide) ?_
      obtain ⟨x9, e10, hf⟩ := obnd hf
      refine ev_iald C dX12_taken_23 e10 ?_
      refine ev_i2l C dX12_taken_24 ?_
      obtain ⟨x11, e12, hf⟩ := obnd hf
      refine ev_callS0 (As := [.long i3.toInt64, .long 1, .long x9.toInt64]) (st := []) C (t_X12_in e12) hd_X12_in rfl kw_1253 kw_1254 kw_87 kw_1255 (mRoom.of E (Nat.le_of_ble_eq_true rfl) (Nat.le_of_ble_eq_true rfl) (Nat.le_refl 0) (Nat.le_refl 0)) (Nat.le_of_ble_eq_true rfl) dX12_taken_25 ?_
      refine ev_if_ne (tgt := 33) C dX12_taken_28 (by decide) (fun hc => ?_) (fun hc => ?_)
      · have hf := oie hf hc
        refine ev_aload_n C dX12_taken_33 rfl (q := 0) rfl ?_
        refine ev_iload_n C dX12_taken_34 rfl (q := 2) rfl ?_
        obtain ⟨_, e13, hf⟩ := obnd hf
        obtain ⟨fs14, e13⟩ := oO_eq e13
        obtain ⟨x15, e16, hf⟩ := obnd hf
        refine ev_callV0 (As := [.int i2]) (st := []) C rfl e13 (t_X12_reckons e16) rfl hd_X12_reckons rfl kw_1334 kw_1336 kw_87 kw_25 kw_1337 (mRoom.of E (Nat.le_of_ble_eq_true rfl) (Nat.le_of_ble_eq_true rfl) (Nat.le_refl 0) (Nat.le_refl 0)) (Nat.le_of_ble_eq_true rfl) dX12_taken_35 ?_
        refine ev_aload_n C dX12_taken_38 rfl (q := 0) rfl ?_
        refine ev_iload_n C dX12_taken_39 rfl (q := 1) rfl ?_
        refine ev_iload_n C dX12_taken_40 rfl (q := 2) rfl ?_
        refine ev_iload_n C dX12_taken_41 rfl (q := 3) rfl ?_
        obtain ⟨_, e17, hf⟩ := obnd hf
        obtain ⟨fs18, e17⟩ := oO_eq e17
        obtain ⟨x19, e20, hf⟩ := obnd hf
        refine ev_callV0 (As := [.int i1, .int i2, .int i3]) (st := []) C rfl e17 (t_X12_isTaken e20) rfl hd_X12_isTaken rfl kw_1393 kw_1395 kw_87 kw_33 kw_1396 (mRoom.of E (Nat.le_of_ble_eq_true rfl) (Nat.le_of_ble_eq_true rfl) (Nat.le_refl 0) (Nat.le_refl 0)) (Nat.le_of_ble_eq_true rfl) dX12_taken_42 ?_
        refine ev_if_eq (tgt := 52) C dX12_taken_45 (by decide) (fun hc => ?_) (fun hc => ?_)
        · have hf := oit hf hc
          refine ev_iconst (v := 0) C dX12_taken_52 (by decide) ?_
          obtain rfl := Option.some.inj hf
          exact ev_iret C E (Nat.le_refl 0) (Nat.le_refl 0) dX12_taken_53
        · have hf := oie hf hc
          refine ev_iconst (v := 1) C dX12_taken_48 (by decide) ?_
          refine ev_goto (tgt := 53) C dX12_taken_49 (by decide) ?_
          obtain rfl := Option.some.inj hf
          exact ev_iret C E (Nat.le_refl 0) (Nat.le_refl 0) dX12_taken_53
      · have hf := oit hf hc
        refine ev_iconst (v := (-1)) C dX12_taken_31 (by decide) ?_
        obtain rfl := Option.some.inj hf
        exact ev_iret C E (Nat.le_refl 0) (Nat.le_refl 0) dX12_taken_32
/-! FareLimitsModel kept(II)I -/
theorem dX12_kept_0 : decode prog_14_method_32_code 0 = .ok (.aload_n 0, 1) := by decide +kernel
theorem dX12_kept_1 : decode prog_14_method_32_code 1 = .ok (.iload_n 1, 1) := by decide +kernel
theorem dX12_kept_2 : decode prog_14_method_32_code 2 = .ok (.invokevirtual 82, 3) := by decide +kernel
theorem dX12_kept_5 : decode prog_14_method_32_code 5 = .ok (.ifCond .eq 10, 3) := by decide +kernel
theorem dX12_kept_8 : decode prog_14_method_32_code 8 = .ok (.iload_n 2, 1) := by decide +kernel
theorem dX12_kept_9 : decode prog_14_method_32_code 9 = .ok (.invokestatic 172, 3) := by decide +kernel
theorem dX12_kept_12 : decode prog_14_method_32_code 12 = .ok (.ifCond .ne 5, 3) := by decide +kernel
theorem dX12_kept_15 : decode prog_14_method_32_code 15 = .ok (.iconst (-1), 1) := by decide +kernel
theorem dX12_kept_16 : decode prog_14_method_32_code 16 = .ok (.ireturn, 1) := by decide +kernel
theorem dX12_kept_17 : decode prog_14_method_32_code 17 = .ok (.aload_n 0, 1) := by decide +kernel
theorem dX12_kept_18 : decode prog_14_method_32_code 18 = .ok (.iload_n 2, 1) := by decide +kernel
theorem dX12_kept_19 : decode prog_14_method_32_code 19 = .ok (.invokevirtual 140, 3) := by decide +kernel
theorem dX12_kept_22 : decode prog_14_method_32_code 22 = .ok (.iconst 0, 1) := by decide +kernel
theorem dX12_kept_23 : decode prog_14_method_32_code 23 = .ok (.istore_n 3, 1) := by decide +kernel
theorem dX12_kept_24 : decode prog_14_method_32_code 24 = .ok (.iconst 1, 1) := by decide +kernel
theorem dX12_kept_25 : decode prog_14_method_32_code 25 = .ok (.istore 4, 2) := by decide +kernel
theorem dX12_kept_27 : decode prog_14_method_32_code 27 = .ok (.iload 4, 2) := by decide +kernel
theorem dX12_kept_29 : decode prog_14_method_32_code 29 = .ok (.aload_n 0, 1) := by decide +kernel
theorem dX12_kept_30 : decode prog_14_method_32_code 30 = .ok (.getfield 9, 3) := by decide +kernel
theorem dX12_kept_33 : decode prog_14_method_32_code 33 = .ok (.iconst 1, 1) := by decide +kernel
theorem dX12_kept_34 : decode prog_14_method_32_code 34 = .ok (.iaload, 1) := by decide +kernel
theorem dX12_kept_35 : decode prog_14_method_32_code 35 = .ok (.if_icmp .gt 27, 3) := by decide +kernel
theorem dX12_kept_38 : decode prog_14_method_32_code 38 = .ok (.aload_n 0, 1) := by decide +kernel
theorem dX12_kept_39 : decode prog_14_method_32_code 39 = .ok (.iload_n 1, 1) := by decide +kernel
theorem dX12_kept_40 : decode prog_14_method_32_code 40 = .ok (.iload_n 2, 1) := by decide +kernel
theorem dX12_kept_41 : decode prog_14_method_32_code 41 = .ok (.iload 4, 2) := by decide +kernel
theorem dX12_kept_43 : decode prog_14_method_32_code 43 = .ok (.invokevirtual 175, 3) := by decide +kernel
theorem dX12_kept_46 : decode prog_14_method_32_code 46 = .ok (.ifCond .eq 7, 3) := by decide +kernel
theorem dX12_kept_49 : decode prog_14_method_32_code 49 = .ok (.iload_n 3, 1) := by decide +kernel
theorem dX12_kept_50 : decode prog_14_method_32_code 50 = .ok (.goto 5, 3) := by decide +kernel
theorem dX12_kept_53 : decode prog_14_method_32_code 53 = .ok (.iload 4, 2) := by decide +kernel
theorem dX12_kept_55 : decode prog_14_method_32_code 55 = .ok (.istore_n 3, 1) := by decide +kernel
theorem dX12_kept_56 : decode prog_14_method_32_code 56 = .ok (.iinc 4 1, 3) := by decide +kernel
theorem dX12_kept_59 : decode prog_14_method_32_code 59 = .ok (.goto (-32), 3) := by decide +kernel
theorem dX12_kept_62 : decode prog_14_method_32_code 62 = .ok (.iload_n 3, 1) := by decide +kernel
theorem dX12_kept_63 : decode prog_14_method_32_code 63 = .ok (.ireturn, 1) := by decide +kernel
def m_X12_kept_J55 (N : Nat) (k27 : Nat → Int32 → Int32 → Int32 → Int32 → mM → Option (Int32 × mM)) (a0 : Nat) (i1 : Int32) (i2 : Int32) (i4 : Int32) (si0 : Int32) (M : mM) : Option (Int32 × mM) :=
  k27 a0 i1 i2 si0 (i4 + 1) M
set_option maxHeartbeats 4000000 in
set_option maxRecDepth 100000 in
theorem t_X12_kept_J55 {X : mX} {L0 : Launch} {res : Int32 × mM} {N : Nat} (C : CX X RX12 "kept" prog_14_method_32_code 5 (some .int)) (E : EX X L0 4 103 0 0 (some (.int res.1)) res.2) (k27 : Nat → Int32 → Int32 → Int32 → Int32 → mM → Option (Int32 × mM)) (Hk27 : ∀ (a0 : Nat) (i1 : Int32) (i2 : Int32) (i3 : Int32) (i4 : Int32) (M : mM), k27 a0 i1 i2 i3 i4 M = some res → EV X 5 27 [(0, .ref a0), (1, .int i1), (2, .int i2), (3, .int i3), (4, .int i4)] [] 0 0 M) (a0 : Nat) (i1 : Int32) (i2 : Int32) (i4 : Int32) (si0 : Int32) (M : mM) (hf : m_X12_kept_J55 N k27 a0 i1 i2 i4 si0 M = some res) : EV X 5 55 [(0, .ref a0), (1, .int i1), (2, .int i2), (4, .int i4)] [.int si0] 0 0 M := by
  unfold m_X12_kept_J55 at hf
  refine ev_istore_n (l' := [(3, .int si0), (0, .ref a0), (1, .int i1), (2, .int i2), (4, .int i4)]) C dX12_kept_55 rfl (by decide) rfl ?_
  refine ev_iinc (v := i4 + 1) (l' := [(4, .int (i4 + 1)), (3, .int si0), (0, .ref a0), (1, .int i1), (2, .int i2)]) C dX12_kept_56 (q := 4) rfl rfl (by decide) rfl ?_
  refine ev_goto (tgt := 27) C dX12_kept_59 (by decide) ?_
  refine ev_sub [2, 3, 4, 1, 0] rfl ?_
  exact Hk27 a0 i1 i2 si0 (i4 + 1) M hf
def m_X12_kept_L27 (N : Nat)  : Nat → Nat → Int32 → Int32 → Int32 → Int32 → mM → Option (Int32 × mM)
  | 0, _, _, _, _, _, _ => none
  | n + 1, a0, i1, i2, i3, i4, M =>
    (fR M a0 12 0).bind fun x1 =>
    (aI 0 M x1 1).bind fun x3 =>
    if x3 < i4 then (
      some (i3, M)) else (
      (oO M a0 12).bind fun _ =>
      (m_X12_isTaken N a0 i1 i2 i4 M).bind fun x7 =>
      if x7 = 0 then (
        m_X12_kept_J55 N (m_X12_kept_L27 N  n) a0 i1 i2 i4 i4 M) else (
        m_X12_kept_J55 N (m_X12_kept_L27 N  n) a0 i1 i2 i4 i3 M))
set_option maxHeartbeats 4000000 in
set_option maxRecDepth 100000 in
theorem t_X12_kept_L27 {X : mX} {L0 : Launch} {res : Int32 × mM} {N : Nat} (C : CX X RX12 "kept" prog_14_method_32_code 5 (some .int)) (E : EX X L0 4 103 0 0 (some (.int res.1)) res.2)   : ∀ (n : Nat) (a0 : Nat) (i1 : Int32) (i2 : Int32) (i3 : Int32) (i4 : Int32) (M : mM), m_X12_kept_L27 N  n a0 i1 i2 i3 i4 M = some res → EV X 5 27 [(0, .ref a0), (1, .int i1), (2, .int i2), (3, .int i3), (4, .int i4)] [] 0 0 M := by
  intro n
  induction n with
  | zero => intro a0 i1 i2 i3 i4 M hf; cases (show (none : Option (Int32 × mM)) = some res from hf)
  | succ n ih =>
    intro a0 i1 i2 i3 i4 M hf
    rw [m_X12_kept_L27] at hf
    refine ev_iload C dX12_kept_27 (q := 4) rfl ?_
    refine ev_aload_n C dX12_kept_29 rfl (q := 0) rfl ?_
    obtain ⟨x1, e2, hf⟩ := obnd hf
    refine ev_get (k := 0) C ok_12 dX12_kept_30 (by decide) kw_1159 (fR_V e2) ?_
    refine ev_iconst (v := 1) C dX12_kept_33 (by decide) ?_
    obtain ⟨x3, e4, hf⟩ := obnd hf
    refine ev_iald C dX12_kept_34 e4 ?_
    refine ev_icmp_gt (tgt := 62) C dX12_kept_35 (by decide) (fun hc => ?_) (fun hc => ?_)
    · have hf := oit hf hc
      refine ev_iload_n C dX12_kept_62 rfl (q := 3) rfl ?_
      obtain rfl := Option.some.inj hf
      exact ev_iret C E (Nat.le_refl 0) (Nat.le_refl 0) dX12_kept_63
    · have hf := oie hf hc
      refine ev_aload_n C dX12_kept_38 rfl (q := 0) rfl ?_
      refine ev_iload_n C dX12_kept_39 rfl (q := 1) rfl ?_
      refine ev_iload_n C dX12_kept_40 rfl (q := 2) rfl ?_
      refine ev_iload C dX12_kept_41 (q := 4) rfl ?_
      obtain ⟨_, e5, hf⟩ := obnd hf
      obtain ⟨fs6, e5⟩ := oO_eq e5
      obtain ⟨x7, e8, hf⟩ := obnd hf
      refine ev_callV0 (As := [.int i1, .int i2, .int i4]) (st := []) C rfl e5 (t_X12_isTaken e8) rfl hd_X12_isTaken rfl kw_1393 kw_1395 kw_87 kw_33 kw_1396 (mRoom.of E (Nat.le_of_ble_eq_true rfl) (Nat.le_of_ble_eq_true rfl) (Nat.le_refl 0) (Nat.le_refl 0)) (Nat.le_of_ble_eq_true rfl) dX12_kept_43 ?_
      refine ev_if_eq (tgt := 53) C dX12_kept_46 (by decide) (fun hc => ?_) (fun hc => ?_)
      · have hf := oit hf hc
        refine ev_iload C dX12_kept_53 (q := 4) rfl ?_
        refine ev_sub [0, 1, 2, 4] rfl ?_
        exact t_X12_kept_J55 C E (m_X12_kept_L27 N  n) ih a0 i1 i2 i4 i4 M hf
      · have hf := oie hf hc
        refine ev_iload_n C dX12_kept_49 rfl (q := 3) rfl ?_
        refine ev_goto (tgt := 55) C dX12_kept_50 (by decide) ?_
        refine ev_sub [0, 1, 2, 4] rfl ?_
        exact t_X12_kept_J55 C E (m_X12_kept_L27 N  n) ih a0 i1 i2 i4 i3 M hf
def m_X12_kept (N : Nat) (a0 : Nat) (i1 : Int32) (i2 : Int32) (M : mM) : Option (Int32 × mM) :=
  (oO M a0 12).bind fun _ =>
  (m_X12_isFare a0 i1 M).bind fun x3 =>
  if x3 = 0 then (
    some ((-1), M)) else (
    (m_X12_isToGo i2).bind fun x5 =>
    if x5 = 0 then (
      some ((-1), M)) else (
      (oO M a0 12).bind fun _ =>
      (m_X12_reckons N a0 i2 M).bind fun x9 =>
      m_X12_kept_L27 N  N a0 i1 i2 0 1 x9))
set_option maxHeartbeats 4000000 in
set_option maxRecDepth 100000 in
theorem t_X12_kept {L0 : Launch} {M : mM} {N : Nat} {a0 : Nat} {i1 : Int32} {i2 : Int32} {res : Int32 × mM} (hf : m_X12_kept N a0 i1 i2 M = some res) : CT L0 yX12_kept prog_14_method_32_code 5 (some .int) 4 103 0 0 [.ref a0, .int i1, .int i2] M (some (.int res.1)) res.2 := by
  refine CT.of (by decide +kernel) (Nat.le_of_ble_eq_true rfl) fun X C E => ?_
  have C : CX X RX12 "kept" prog_14_method_32_code 5 (some .int) := C
  show EV X 5 0 [(0, .ref a0), (1, .int i1), (2, .int i2)] [] 0 0 M
  unfold m_X12_kept at hf
  refine ev_aload_n C dX12_kept_0 rfl (q := 0) rfl ?_
  refine ev_iload_n C dX12_kept_1 rfl (q := 1) rfl ?_
  obtain ⟨_, e1, hf⟩ := obnd hf
  obtain ⟨fs2, e1⟩ := oO_eq e1
  obtain ⟨x3, e4, hf⟩ := obnd hf
  refine ev_callV0 (As := [.int i1]) (st := []) C rfl e1 (t_X12_isFare e4) rfl hd_X12_isFare rfl kw_1261 kw_1263 kw_87 kw_20 kw_1264 (mRoom.of E (Nat.le_of_ble_eq_true rfl) (Nat.le_of_ble_eq_true rfl) (Nat.le_refl 0) (Nat.le_refl 0)) (Nat.le_of_ble_eq_true rfl) dX12_kept_2 ?_
  refine ev_if_eq (tgt := 15) C dX12_kept_5 (by decide) (fun hc => ?_) (fun hc => ?_)
  · have hf := oit hf hc
    refine ev_iconst (v := (-1)) C dX12_kept_15 (by decide) ?_
    obtain rfl := Option.some.inj hf
    exact ev_iret C E (Nat.le_refl 0) (Nat.le_refl 0) dX12_kept_16
  · have hf := oie hf hc
    refine ev_iload_n C dX12_kept_8 rfl (q := 2) rfl ?_
    obtain ⟨x5, e6, hf⟩ := obnd hf
    refine ev_callS0 (As := [.int i2]) (st := []) C (t_X12_isToGo e6) hd_X12_isToGo rfl kw_1390 kw_1391 kw_87 kw_1392 (mRoom.of E (Nat.le_of_ble_eq_true rfl) (Nat.le_of_ble_eq_true rfl) (Nat.le_refl 0) (Nat.le_refl 0)) (Nat.le_of_ble_eq_true rfl) dX12_kept_9 ?_
    refine ev_if_ne (tgt := 17) C dX12_kept_12 (by decide) (fun hc => ?_) (fun hc => ?_)
    · have hf := oie hf hc
      refine ev_aload_n C dX12_kept_17 rfl (q := 0) rfl ?_
      refine ev_iload_n C dX12_kept_18 rfl (q := 2) rfl ?_
      obtain ⟨_, e7, hf⟩ := obnd hf
      obtain ⟨fs8, e7⟩ := oO_eq e7
      obtain ⟨x9, e10, hf⟩ := obnd hf
      refine ev_callV0 (As := [.int i2]) (st := []) C rfl e7 (t_X12_reckons e10) rfl hd_X12_reckons rfl kw_1334 kw_1336 kw_87 kw_25 kw_1337 (mRoom.of E (Nat.le_of_ble_eq_true rfl) (Nat.le_of_ble_eq_true rfl) (Nat.le_refl 0) (Nat.le_refl 0)) (Nat.le_of_ble_eq_true rfl) dX12_kept_19 ?_
      refine ev_iconst (v := 0) C dX12_kept_22 (by decide) ?_
      refine ev_istore_n (l' := [(3, .int 0), (0, .ref a0), (1, .int i1), (2, .int i2)]) C dX12_kept_23 rfl (by decide) rfl ?_
      refine ev_iconst (v := 1) C dX12_kept_24 (by decide) ?_
      refine ev_istore (l' := [(4, .int 1), (3, .int 0), (0, .ref a0), (1, .int i1), (2, .int i2)]) C dX12_kept_25 (by decide) rfl ?_
      refine ev_sub [2, 3, 4, 1, 0] rfl ?_
      exact t_X12_kept_L27 C E   N a0 i1 i2 0 1 x9 hf
    · have hf := oit hf hc
      refine ev_iconst (v := (-1)) C dX12_kept_15 (by decide) ?_
      obtain rfl := Option.some.inj hf
      exact ev_iret C E (Nat.le_refl 0) (Nat.le_refl 0) dX12_kept_16
/-! FareLimitsModel limit(II)I -/
theorem dX12_limit_0 : decode prog_14_method_33_code 0 = .ok (.aload_n 0, 1) := by decide +kernel
theorem dX12_limit_1 : decode prog_14_method_33_code 1 = .ok (.iload_n 1, 1) := by decide +kernel
theorem dX12_limit_2 : decode prog_14_method_33_code 2 = .ok (.iload_n 2, 1) := by decide +kernel
theorem dX12_limit_3 : decode prog_14_method_33_code 3 = .ok (.invokevirtual 179, 3) := by decide +kernel
theorem dX12_limit_6 : decode prog_14_method_33_code 6 = .ok (.istore_n 3, 1) := by decide +kernel
theorem dX12_limit_7 : decode prog_14_method_33_code 7 = .ok (.iload_n 3, 1) := by decide +kernel
theorem dX12_limit_8 : decode prog_14_method_33_code 8 = .ok (.iconst (-1), 1) := by decide +kernel
theorem dX12_limit_9 : decode prog_14_method_33_code 9 = .ok (.if_icmp .ne 7, 3) := by decide +kernel
theorem dX12_limit_12 : decode prog_14_method_33_code 12 = .ok (.iconst (-1), 1) := by decide +kernel
theorem dX12_limit_13 : decode prog_14_method_33_code 13 = .ok (.goto 11, 3) := by decide +kernel
theorem dX12_limit_16 : decode prog_14_method_33_code 16 = .ok (.aload_n 0, 1) := by decide +kernel
theorem dX12_limit_17 : decode prog_14_method_33_code 17 = .ok (.getfield 9, 3) := by decide +kernel
theorem dX12_limit_20 : decode prog_14_method_33_code 20 = .ok (.iconst 1, 1) := by decide +kernel
theorem dX12_limit_21 : decode prog_14_method_33_code 21 = .ok (.iaload, 1) := by decide +kernel
theorem dX12_limit_22 : decode prog_14_method_33_code 22 = .ok (.iload_n 3, 1) := by decide +kernel
theorem dX12_limit_23 : decode prog_14_method_33_code 23 = .ok (.isub, 1) := by decide +kernel
theorem dX12_limit_24 : decode prog_14_method_33_code 24 = .ok (.ireturn, 1) := by decide +kernel
def m_X12_limit (N : Nat) (a0 : Nat) (i1 : Int32) (i2 : Int32) (M : mM) : Option (Int32 × mM) :=
  (oO M a0 12).bind fun _ =>
  (m_X12_kept N a0 i1 i2 M).bind fun x3 =>
  if x3.1 = (-1) then (
    some ((-1), x3.2)) else (
    (fR x3.2 a0 12 0).bind fun x5 =>
    (aI 0 x3.2 x5 1).bind fun x7 =>
    some (x7 - x3.1, x3.2))
set_option maxHeartbeats 4000000 in
set_option maxRecDepth 100000 in
theorem t_X12_limit {L0 : Launch} {M : mM} {N : Nat} {a0 : Nat} {i1 : Int32} {i2 : Int32} {res : Int32 × mM} (hf : m_X12_limit N a0 i1 i2 M = some res) : CT L0 yX12_limit prog_14_method_33_code 4 (some .int) 5 127 0 0 [.ref a0, .int i1, .int i2] M (some (.int res.1)) res.2 := by
  refine CT.of (by decide +kernel) (Nat.le_of_ble_eq_true rfl) fun X C E => ?_
  have C : CX X RX12 "limit" prog_14_method_33_code 4 (some .int) := C
  show EV X 4 0 [(0, .ref a0), (1, .int i1), (2, .int i2)] [] 0 0 M
  unfold m_X12_limit at hf
  refine ev_aload_n C dX12_limit_0 rfl (q := 0) rfl ?_
  refine ev_iload_n C dX12_limit_1 rfl (q := 1) rfl ?_
  refine ev_iload_n C dX12_limit_2 rfl (q := 2) rfl ?_
  obtain ⟨_, e1, hf⟩ := obnd hf
  obtain ⟨fs2, e1⟩ := oO_eq e1
  obtain ⟨x3, e4, hf⟩ := obnd hf
  refine ev_callV0 (As := [.int i1, .int i2]) (st := []) C rfl e1 (t_X12_kept e4) rfl hd_X12_kept rfl kw_1405 kw_1398 kw_87 kw_1399 kw_1400 (mRoom.of E (Nat.le_of_ble_eq_true rfl) (Nat.le_of_ble_eq_true rfl) (Nat.le_refl 0) (Nat.le_refl 0)) (Nat.le_of_ble_eq_true rfl) dX12_limit_3 ?_
  refine ev_istore_n (l' := [(3, .int x3.1), (0, .ref a0), (1, .int i1), (2, .int i2)]) C dX12_limit_6 rfl (by decide) rfl ?_
  refine ev_iload_n C dX12_limit_7 rfl (q := 0) rfl ?_
  refine ev_iconst (v := (-1)) C dX12_limit_8 (by decide) ?_
  refine ev_icmp_ne (tgt := 16) C dX12_limit_9 (by decide) (fun hc => ?_) (fun hc => ?_)
  · have hf := oie hf hc
    refine ev_aload_n C dX12_limit_16 rfl (q := 1) rfl ?_
    obtain ⟨x5, e6, hf⟩ := obnd hf
    refine ev_get (k := 0) C ok_12 dX12_limit_17 (by decide) kw_1159 (fR_V e6) ?_
    refine ev_iconst (v := 1) C dX12_limit_20 (by decide) ?_
    obtain ⟨x7, e8, hf⟩ := obnd hf
    refine ev_iald C dX12_limit_21 e8 ?_
    refine ev_iload_n C dX12_limit_22 rfl (q := 0) rfl ?_
    refine ev_isub C dX12_limit_23 ?_
    obtain rfl := Option.some.inj hf
    exact ev_iret C E (Nat.le_refl 0) (Nat.le_refl 0) dX12_limit_24
  · have hf := oit hf hc
    refine ev_iconst (v := (-1)) C dX12_limit_12 (by decide) ?_
    refine ev_goto (tgt := 24) C dX12_limit_13 (by decide) ?_
    obtain rfl := Option.some.inj hf
    exact ev_iret C E (Nat.le_refl 0) (Nat.le_refl 0) dX12_limit_24
/-! FareLimitsModel isBooked(I)Z -/
theorem dX12_isBooked_0 : decode prog_14_method_34_code 0 = .ok (.iload_n 0, 1) := by decide +kernel
theorem dX12_isBooked_1 : decode prog_14_method_34_code 1 = .ok (.i2l, 1) := by decide +kernel
theorem dX12_isBooked_2 : decode prog_14_method_34_code 2 = .ok (.lconst 0, 1) := by decide +kernel
theorem dX12_isBooked_3 : decode prog_14_method_34_code 3 = .ok (.ldc2_w 181, 3) := by decide +kernel
theorem dX12_isBooked_6 : decode prog_14_method_34_code 6 = .ok (.invokestatic 72, 3) := by decide +kernel
theorem dX12_isBooked_9 : decode prog_14_method_34_code 9 = .ok (.ireturn, 1) := by decide +kernel
def m_X12_isBooked (i0 : Int32) : Option (Int32) :=
  (m_X12_in i0.toInt64 0 40).bind fun x1 =>
  (oif (x1 = 0 ∨ x1 = 1)).bind fun _ =>
  some x1
set_option maxHeartbeats 4000000 in
set_option maxRecDepth 100000 in
theorem t_X12_isBooked {L0 : Launch} {M : mM} {i0 : Int32} {res : Int32} (hf : m_X12_isBooked i0 = some res) : CT L0 yX12_isBooked prog_14_method_34_code 1 (some .boolean) 1 25 0 0 [.int i0] M (some (.int res)) M := by
  refine CT.of (by decide +kernel) (Nat.le_of_ble_eq_true rfl) fun X C E => ?_
  have C : CX X RX12 "isBooked" prog_14_method_34_code 1 (some .boolean) := C
  show EV X 1 0 [(0, .int i0)] [] 0 0 M
  unfold m_X12_isBooked at hf
  refine ev_iload_n C dX12_isBooked_0 rfl (q := 0) rfl ?_
  refine ev_i2l C dX12_isBooked_1 ?_
  refine ev_lconst (v := 0) C dX12_isBooked_2 (by decide) ?_
  refine ev_ldc2 (v := 40) C dX12_isBooked_3 kw_1413 ?_
  obtain ⟨x1, e2, hf⟩ := obnd hf
  refine ev_callS0 (As := [.long i0.toInt64, .long 0, .long 40]) (st := []) C (t_X12_in e2) hd_X12_in rfl kw_1253 kw_1254 kw_87 kw_1255 (mRoom.of E (Nat.le_of_ble_eq_true rfl) (Nat.le_of_ble_eq_true rfl) (Nat.le_refl 0) (Nat.le_refl 0)) (Nat.le_of_ble_eq_true rfl) dX12_isBooked_6 ?_
  obtain ⟨_, e3, hf⟩ := obnd hf
  obtain rfl := Option.some.inj hf
  exact ev_zret C (oif_eq e3) E (Nat.le_refl 0) (Nat.le_refl 0) dX12_isBooked_9
/-! FareLimitsModel chances(II)V -/
theorem dX12_chances_0 : decode prog_14_method_35_code 0 = .ok (.aload_n 0, 1) := by decide +kernel
theorem dX12_chances_1 : decode prog_14_method_35_code 1 = .ok (.iload_n 1, 1) := by decide +kernel
theorem dX12_chances_2 : decode prog_14_method_35_code 2 = .ok (.invokevirtual 104, 3) := by decide +kernel
theorem dX12_chances_5 : decode prog_14_method_35_code 5 = .ok (.dstore_n 3, 1) := by decide +kernel
theorem dX12_chances_6 : decode prog_14_method_35_code 6 = .ok (.aload_n 0, 1) := by decide +kernel
theorem dX12_chances_7 : decode prog_14_method_35_code 7 = .ok (.getfield 44, 3) := by decide +kernel
theorem dX12_chances_10 : decode prog_14_method_35_code 10 = .ok (.iconst 0, 1) := by decide +kernel
theorem dX12_chances_11 : decode prog_14_method_35_code 11 = .ok (.dconst 1, 1) := by decide +kernel
theorem dX12_chances_12 : decode prog_14_method_35_code 12 = .ok (.dastore, 1) := by decide +kernel
theorem dX12_chances_13 : decode prog_14_method_35_code 13 = .ok (.iconst 1, 1) := by decide +kernel
theorem dX12_chances_14 : decode prog_14_method_35_code 14 = .ok (.istore 5, 2) := by decide +kernel
theorem dX12_chances_16 : decode prog_14_method_35_code 16 = .ok (.iload 5, 2) := by decide +kernel
theorem dX12_chances_18 : decode prog_14_method_35_code 18 = .ok (.iload_n 2, 1) := by decide +kernel
theorem dX12_chances_19 : decode prog_14_method_35_code 19 = .ok (.if_icmp .gt 119, 3) := by decide +kernel
theorem dX12_chances_22 : decode prog_14_method_35_code 22 = .ok (.iconst 0, 1) := by decide +kernel
theorem dX12_chances_23 : decode prog_14_method_35_code 23 = .ok (.istore 6, 2) := by decide +kernel
theorem dX12_chances_25 : decode prog_14_method_35_code 25 = .ok (.iload 6, 2) := by decide +kernel
theorem dX12_chances_27 : decode prog_14_method_35_code 27 = .ok (.iload 5, 2) := by decide +kernel
theorem dX12_chances_29 : decode prog_14_method_35_code 29 = .ok (.if_icmp .ge 23, 3) := by decide +kernel
theorem dX12_chances_32 : decode prog_14_method_35_code 32 = .ok (.aload_n 0, 1) := by decide +kernel
theorem dX12_chances_33 : decode prog_14_method_35_code 33 = .ok (.getfield 47, 3) := by decide +kernel
theorem dX12_chances_36 : decode prog_14_method_35_code 36 = .ok (.iload 6, 2) := by decide +kernel
theorem dX12_chances_38 : decode prog_14_method_35_code 38 = .ok (.aload_n 0, 1) := by decide +kernel
theorem dX12_chances_39 : decode prog_14_method_35_code 39 = .ok (.getfield 44, 3) := by decide +kernel
theorem dX12_chances_42 : decode prog_14_method_35_code 42 = .ok (.iload 6, 2) := by decide +kernel
theorem dX12_chances_44 : decode prog_14_method_35_code 44 = .ok (.daload, 1) := by decide +kernel
theorem dX12_chances_45 : decode prog_14_method_35_code 45 = .ok (.dastore, 1) := by decide +kernel
theorem dX12_chances_46 : decode prog_14_method_35_code 46 = .ok (.iinc 6 1, 3) := by decide +kernel
theorem dX12_chances_49 : decode prog_14_method_35_code 49 = .ok (.goto (-24), 3) := by decide +kernel
theorem dX12_chances_52 : decode prog_14_method_35_code 52 = .ok (.aload_n 0, 1) := by decide +kernel
theorem dX12_chances_53 : decode prog_14_method_35_code 53 = .ok (.getfield 44, 3) := by decide +kernel
theorem dX12_chances_56 : decode prog_14_method_35_code 56 = .ok (.iconst 0, 1) := by decide +kernel
theorem dX12_chances_57 : decode prog_14_method_35_code 57 = .ok (.aload_n 0, 1) := by decide +kernel
theorem dX12_chances_58 : decode prog_14_method_35_code 58 = .ok (.getfield 47, 3) := by decide +kernel
theorem dX12_chances_61 : decode prog_14_method_35_code 61 = .ok (.iconst 0, 1) := by decide +kernel
theorem dX12_chances_62 : decode prog_14_method_35_code 62 = .ok (.daload, 1) := by decide +kernel
theorem dX12_chances_63 : decode prog_14_method_35_code 63 = .ok (.dconst 1, 1) := by decide +kernel
theorem dX12_chances_64 : decode prog_14_method_35_code 64 = .ok (.dload_n 3, 1) := by decide +kernel
theorem dX12_chances_65 : decode prog_14_method_35_code 65 = .ok (.dsub, 1) := by decide +kernel
theorem dX12_chances_66 : decode prog_14_method_35_code 66 = .ok (.dmul, 1) := by decide +kernel
theorem dX12_chances_67 : decode prog_14_method_35_code 67 = .ok (.dastore, 1) := by decide +kernel
theorem dX12_chances_68 : decode prog_14_method_35_code 68 = .ok (.iconst 1, 1) := by decide +kernel
theorem dX12_chances_69 : decode prog_14_method_35_code 69 = .ok (.istore 6, 2) := by decide +kernel
theorem dX12_chances_71 : decode prog_14_method_35_code 71 = .ok (.iload 6, 2) := by decide +kernel
theorem dX12_chances_73 : decode prog_14_method_35_code 73 = .ok (.iload 5, 2) := by decide +kernel
theorem dX12_chances_75 : decode prog_14_method_35_code 75 = .ok (.if_icmp .ge 39, 3) := by decide +kernel
theorem dX12_chances_78 : decode prog_14_method_35_code 78 = .ok (.aload_n 0, 1) := by decide +kernel
theorem dX12_chances_79 : decode prog_14_method_35_code 79 = .ok (.getfield 44, 3) := by decide +kernel
theorem dX12_chances_82 : decode prog_14_method_35_code 82 = .ok (.iload 6, 2) := by decide +kernel
theorem dX12_chances_84 : decode prog_14_method_35_code 84 = .ok (.aload_n 0, 1) := by decide +kernel
theorem dX12_chances_85 : decode prog_14_method_35_code 85 = .ok (.getfield 47, 3) := by decide +kernel
theorem dX12_chances_88 : decode prog_14_method_35_code 88 = .ok (.iload 6, 2) := by decide +kernel
theorem dX12_chances_90 : decode prog_14_method_35_code 90 = .ok (.daload, 1) := by decide +kernel
theorem dX12_chances_91 : decode prog_14_method_35_code 91 = .ok (.dconst 1, 1) := by decide +kernel
theorem dX12_chances_92 : decode prog_14_method_35_code 92 = .ok (.dload_n 3, 1) := by decide +kernel
theorem dX12_chances_93 : decode prog_14_method_35_code 93 = .ok (.dsub, 1) := by decide +kernel
theorem dX12_chances_94 : decode prog_14_method_35_code 94 = .ok (.dmul, 1) := by decide +kernel
theorem dX12_chances_95 : decode prog_14_method_35_code 95 = .ok (.aload_n 0, 1) := by decide +kernel
theorem dX12_chances_96 : decode prog_14_method_35_code 96 = .ok (.getfield 47, 3) := by decide +kernel
theorem dX12_chances_99 : decode prog_14_method_35_code 99 = .ok (.iload 6, 2) := by decide +kernel
theorem dX12_chances_101 : decode prog_14_method_35_code 101 = .ok (.iconst 1, 1) := by decide +kernel
theorem dX12_chances_102 : decode prog_14_method_35_code 102 = .ok (.isub, 1) := by decide +kernel
theorem dX12_chances_103 : decode prog_14_method_35_code 103 = .ok (.daload, 1) := by decide +kernel
theorem dX12_chances_104 : decode prog_14_method_35_code 104 = .ok (.dload_n 3, 1) := by decide +kernel
theorem dX12_chances_105 : decode prog_14_method_35_code 105 = .ok (.dmul, 1) := by decide +kernel
theorem dX12_chances_106 : decode prog_14_method_35_code 106 = .ok (.dadd, 1) := by decide +kernel
theorem dX12_chances_107 : decode prog_14_method_35_code 107 = .ok (.dastore, 1) := by decide +kernel
theorem dX12_chances_108 : decode prog_14_method_35_code 108 = .ok (.iinc 6 1, 3) := by decide +kernel
theorem dX12_chances_111 : decode prog_14_method_35_code 111 = .ok (.goto (-40), 3) := by decide +kernel
theorem dX12_chances_114 : decode prog_14_method_35_code 114 = .ok (.aload_n 0, 1) := by decide +kernel
theorem dX12_chances_115 : decode prog_14_method_35_code 115 = .ok (.getfield 44, 3) := by decide +kernel
theorem dX12_chances_118 : decode prog_14_method_35_code 118 = .ok (.iload 5, 2) := by decide +kernel
theorem dX12_chances_120 : decode prog_14_method_35_code 120 = .ok (.aload_n 0, 1) := by decide +kernel
theorem dX12_chances_121 : decode prog_14_method_35_code 121 = .ok (.getfield 47, 3) := by decide +kernel
theorem dX12_chances_124 : decode prog_14_method_35_code 124 = .ok (.iload 5, 2) := by decide +kernel
theorem dX12_chances_126 : decode prog_14_method_35_code 126 = .ok (.iconst 1, 1) := by decide +kernel
theorem dX12_chances_127 : decode prog_14_method_35_code 127 = .ok (.isub, 1) := by decide +kernel
theorem dX12_chances_128 : decode prog_14_method_35_code 128 = .ok (.daload, 1) := by decide +kernel
theorem dX12_chances_129 : decode prog_14_method_35_code 129 = .ok (.dload_n 3, 1) := by decide +kernel
theorem dX12_chances_130 : decode prog_14_method_35_code 130 = .ok (.dmul, 1) := by decide +kernel
theorem dX12_chances_131 : decode prog_14_method_35_code 131 = .ok (.dastore, 1) := by decide +kernel
theorem dX12_chances_132 : decode prog_14_method_35_code 132 = .ok (.iinc 5 1, 3) := by decide +kernel
theorem dX12_chances_135 : decode prog_14_method_35_code 135 = .ok (.goto (-119), 3) := by decide +kernel
theorem dX12_chances_138 : decode prog_14_method_35_code 138 = .ok (.return_, 1) := by decide +kernel
def m_X12_chances_L71 (N : Nat) (k16 : Nat → Int32 → UInt64 → Int32 → mM → Option (mM)) : Nat → Nat → Int32 → UInt64 → Int32 → Int32 → mM → Option (mM)
  | 0, _, _, _, _, _, _ => none
  | n + 1, a0, i2, d3, i5, i6, M =>
    if i5 ≤ i6 then (
      (fR M a0 12 13).bind fun x1 =>
      (fR M a0 12 14).bind fun x3 =>
      (aD M x3 (i5 - 1)).bind fun x5 =>
      (oD (FP.dmul x5 d3)).bind fun x7 =>
      (uD M x1 i5 x7).bind fun M9 =>
      k16 a0 i2 d3 (i5 + 1) M9) else (
      (fR M a0 12 13).bind fun x11 =>
      (fR M a0 12 14).bind fun x13 =>
      (aD M x13 i6).bind fun x15 =>
      (oD (FP.dsub FP.dconst1 d3)).bind fun x17 =>
      (oD (FP.dmul x15 x17)).bind fun x19 =>
      (fR M a0 12 14).bind fun x21 =>
      (aD M x21 (i6 - 1)).bind fun x23 =>
      (oD (FP.dmul x23 d3)).bind fun x25 =>
      (oD (FP.dadd x19 x25)).bind fun x27 =>
      (uD M x11 i6 x27).bind fun M29 =>
      (m_X12_chances_L71 N k16  n) a0 i2 d3 i5 (i6 + 1) M29)
set_option maxHeartbeats 4000000 in
set_option maxRecDepth 100000 in
theorem t_X12_chances_L71 {X : mX} {L0 : Launch} {res : mM} {N : Nat} (C : CX X RX12 "chances" prog_14_method_35_code 7 none) (E : EX X L0 1 26 0 0 none res) (k16 : Nat → Int32 → UInt64 → Int32 → mM → Option (mM)) (Hk16 : ∀ (a0 : Nat) (i2 : Int32) (d3 : UInt64) (i5 : Int32) (M : mM), k16 a0 i2 d3 i5 M = some res → EV X 7 16 [(0, .ref a0), (2, .int i2), (3, .double d3), (5, .int i5)] [] 0 0 M) : ∀ (n : Nat) (a0 : Nat) (i2 : Int32) (d3 : UInt64) (i5 : Int32) (i6 : Int32) (M : mM), m_X12_chances_L71 N k16 n a0 i2 d3 i5 i6 M = some res → EV X 7 71 [(0, .ref a0), (2, .int i2), (3, .double d3), (5, .int i5), (6, .int i6)] [] 0 0 M := by
  intro n
  induction n with
  | zero => intro a0 i2 d3 i5 i6 M hf; cases (show (none : Option (mM)) = some res from hf)
  | succ n ih =>
    intro a0 i2 d3 i5 i6 M hf
    rw [m_X12_chances_L71] at hf
    refine ev_iload C dX12_chances_71 (q := 4) rfl ?_
    refine ev_iload C dX12_chances_73 (q := 3) rfl ?_
    refine ev_icmp_ge (tgt := 114) C dX12_chances_75 (by decide) (fun hc => ?_) (fun hc => ?_)
    · have hf := oit hf hc
      refine ev_aload_n C dX12_chances_114 rfl (q := 0) rfl ?_
      obtain ⟨x1, e2, hf⟩ := obnd hf
      refine ev_get (k := 13) C ok_12 dX12_chances_115 (by decide) kw_1172 (fR_V e2) ?_
      refine ev_iload C dX12_chances_118 (q := 3) rfl ?_
      refine ev_aload_n C dX12_chances_120 rfl (q := 0) rfl ?_
      obtain ⟨x3, e4, hf⟩ := obnd hf
      refine ev_get (k := 14) C ok_12 dX12_chances_121 (by decide) kw_1173 (fR_V e4) ?_
      refine ev_iload C dX12_chances_124 (q := 3) rfl ?_
      refine ev_iconst (v := 1) C dX12_chances_126 (by decide) ?_
      refine ev_isub C dX12_chances_127 ?_
      obtain ⟨x5, e6, hf⟩ := obnd hf
      refine ev_dald C dX12_chances_128 e6 ?_
      refine ev_dload_n C dX12_chances_129 rfl (q := 2) rfl ?_
      obtain ⟨x7, e8, hf⟩ := obnd hf
      obtain ⟨e8, e8q⟩ := oD_eq e8
      refine ev_dmul C dX12_chances_130 e8 ?_
      rw [← e8q]
      obtain ⟨M9, e10, hf⟩ := obnd hf
      refine ev_dast C dX12_chances_131 e10 ?_
      refine ev_iinc (v := i5 + 1) (l' := [(5, .int (i5 + 1)), (0, .ref a0), (2, .int i2), (3, .double d3), (6, .int i6)]) C dX12_chances_132 (q := 3) rfl rfl (by decide) rfl ?_
      refine ev_goto (tgt := 16) C dX12_chances_135 (by decide) ?_
      refine ev_sub [1, 2, 3, 0] rfl ?_
      exact Hk16 a0 i2 d3 (i5 + 1) M9 hf
    · have hf := oie hf hc
      refine ev_aload_n C dX12_chances_78 rfl (q := 0) rfl ?_
      obtain ⟨x11, e12, hf⟩ := obnd hf
      refine ev_get (k := 13) C ok_12 dX12_chances_79 (by decide) kw_1172 (fR_V e12) ?_
      refine ev_iload C dX12_chances_82 (q := 4) rfl ?_
      refine ev_aload_n C dX12_chances_84 rfl (q := 0) rfl ?_
      obtain ⟨x13, e14, hf⟩ := obnd hf
      refine ev_get (k := 14) C ok_12 dX12_chances_85 (by decide) kw_1173 (fR_V e14) ?_
      refine ev_iload C dX12_chances_88 (q := 4) rfl ?_
      obtain ⟨x15, e16, hf⟩ := obnd hf
      refine ev_dald C dX12_chances_90 e16 ?_
      refine ev_dconst1 C dX12_chances_91 ?_
      refine ev_dload_n C dX12_chances_92 rfl (q := 2) rfl ?_
      obtain ⟨x17, e18, hf⟩ := obnd hf
      obtain ⟨e18, e18q⟩ := oD_eq e18
      refine ev_dsub C dX12_chances_93 e18 ?_
      rw [← e18q]
      obtain ⟨x19, e20, hf⟩ := obnd hf
      obtain ⟨e20, e20q⟩ := oD_eq e20
      refine ev_dmul C dX12_chances_94 e20 ?_
      rw [← e20q]
      refine ev_aload_n C dX12_chances_95 rfl (q := 0) rfl ?_
      obtain ⟨x21, e22, hf⟩ := obnd hf
      refine ev_get (k := 14) C ok_12 dX12_chances_96 (by decide) kw_1173 (fR_V e22) ?_
      refine ev_iload C dX12_chances_99 (q := 4) rfl ?_
      refine ev_iconst (v := 1) C dX12_chances_101 (by decide) ?_
      refine ev_isub C dX12_chances_102 ?_
      obtain ⟨x23, e24, hf⟩ := obnd hf
      refine ev_dald C dX12_chances_103 e24 ?_
      refine ev_dload_n C dX12_chances_104 rfl (q := 2) rfl ?_
      obtain ⟨x25, e26, hf⟩ := obnd hf
      obtain ⟨e26, e26q⟩ := oD_eq e26
      refine ev_dmul C dX12_chances_105 e26 ?_
      rw [← e26q]
      obtain ⟨x27, e28, hf⟩ := obnd hf
      obtain ⟨e28, e28q⟩ := oD_eq e28
      refine ev_dadd C dX12_chances_106 e28 ?_
      rw [← e28q]
      obtain ⟨M29, e30, hf⟩ := obnd hf
      refine ev_dast C dX12_chances_107 e30 ?_
      refine ev_iinc (v := i6 + 1) (l' := [(6, .int (i6 + 1)), (0, .ref a0), (2, .int i2), (3, .double d3), (5, .int i5)]) C dX12_chances_108 (q := 4) rfl rfl (by decide) rfl ?_
      refine ev_goto (tgt := 71) C dX12_chances_111 (by decide) ?_
      refine ev_sub [1, 2, 3, 4, 0] rfl ?_
      exact ih a0 i2 d3 i5 (i6 + 1) M29 hf
def m_X12_chances_L25 (N : Nat) (k16 : Nat → Int32 → UInt64 → Int32 → mM → Option (mM)) : Nat → Nat → Int32 → UInt64 → Int32 → Int32 → mM → Option (mM)
  | 0, _, _, _, _, _, _ => none
  | n + 1, a0, i2, d3, i5, i6, M =>
    if i5 ≤ i6 then (
      (fR M a0 12 13).bind fun x1 =>
      (fR M a0 12 14).bind fun x3 =>
      (aD M x3 0).bind fun x5 =>
      (oD (FP.dsub FP.dconst1 d3)).bind fun x7 =>
      (oD (FP.dmul x5 x7)).bind fun x9 =>
      (uD M x1 0 x9).bind fun M11 =>
      m_X12_chances_L71 N k16 N a0 i2 d3 i5 1 M11) else (
      (fR M a0 12 14).bind fun x13 =>
      (fR M a0 12 13).bind fun x15 =>
      (aD M x15 i6).bind fun x17 =>
      (uD M x13 i6 x17).bind fun M19 =>
      (m_X12_chances_L25 N k16  n) a0 i2 d3 i5 (i6 + 1) M19)
set_option maxHeartbeats 4000000 in
set_option maxRecDepth 100000 in
theorem t_X12_chances_L25 {X : mX} {L0 : Launch} {res : mM} {N : Nat} (C : CX X RX12 "chances" prog_14_method_35_code 7 none) (E : EX X L0 1 26 0 0 none res) (k16 : Nat → Int32 → UInt64 → Int32 → mM → Option (mM)) (Hk16 : ∀ (a0 : Nat) (i2 : Int32) (d3 : UInt64) (i5 : Int32) (M : mM), k16 a0 i2 d3 i5 M = some res → EV X 7 16 [(0, .ref a0), (2, .int i2), (3, .double d3), (5, .int i5)] [] 0 0 M) : ∀ (n : Nat) (a0 : Nat) (i2 : Int32) (d3 : UInt64) (i5 : Int32) (i6 : Int32) (M : mM), m_X12_chances_L25 N k16 n a0 i2 d3 i5 i6 M = some res → EV X 7 25 [(0, .ref a0), (2, .int i2), (3, .double d3), (5, .int i5), (6, .int i6)] [] 0 0 M := by
  intro n
  induction n with
  | zero => intro a0 i2 d3 i5 i6 M hf; cases (show (none : Option (mM)) = some res from hf)
  | succ n ih =>
    intro a0 i2 d3 i5 i6 M hf
    rw [m_X12_chances_L25] at hf
    refine ev_iload C dX12_chances_25 (q := 4) rfl ?_
    refine ev_iload C dX12_chances_27 (q := 3) rfl ?_
    refine ev_icmp_ge (tgt := 52) C dX12_chances_29 (by decide) (fun hc => ?_) (fun hc => ?_)
    · have hf := oit hf hc
      refine ev_aload_n C dX12_chances_52 rfl (q := 0) rfl ?_
      obtain ⟨x1, e2, hf⟩ := obnd hf
      refine ev_get (k := 13) C ok_12 dX12_chances_53 (by decide) kw_1172 (fR_V e2) ?_
      refine ev_iconst (v := 0) C dX12_chances_56 (by decide) ?_
      refine ev_aload_n C dX12_chances_57 rfl (q := 0) rfl ?_
      obtain ⟨x3, e4, hf⟩ := obnd hf
      refine ev_get (k := 14) C ok_12 dX12_chances_58 (by decide) kw_1173 (fR_V e4) ?_
      refine ev_iconst (v := 0) C dX12_chances_61 (by decide) ?_
      obtain ⟨x5, e6, hf⟩ := obnd hf
      refine ev_dald C dX12_chances_62 e6 ?_
      refine ev_dconst1 C dX12_chances_63 ?_
      refine ev_dload_n C dX12_chances_64 rfl (q := 2) rfl ?_
      obtain ⟨x7, e8, hf⟩ := obnd hf
      obtain ⟨e8, e8q⟩ := oD_eq e8
      refine ev_dsub C dX12_chances_65 e8 ?_
      rw [← e8q]
      obtain ⟨x9, e10, hf⟩ := obnd hf
      obtain ⟨e10, e10q⟩ := oD_eq e10
      refine ev_dmul C dX12_chances_66 e10 ?_
      rw [← e10q]
      obtain ⟨M11, e12, hf⟩ := obnd hf
      refine ev_dast C dX12_chances_67 e12 ?_
      refine ev_iconst (v := 1) C dX12_chances_68 (by decide) ?_
      refine ev_istore (l' := [(6, .int 1), (0, .ref a0), (2, .int i2), (3, .double d3), (5, .int i5)]) C dX12_chances_69 (by decide) rfl ?_
      refine ev_sub [1, 2, 3, 4, 0] rfl ?_
      exact t_X12_chances_L71 C E k16 Hk16 N a0 i2 d3 i5 1 M11 hf
    · have hf := oie hf hc
      refine ev_aload_n C dX12_chances_32 rfl (q := 0) rfl ?_
      obtain ⟨x13, e14, hf⟩ := obnd hf
      refine ev_get (k := 14) C ok_12 dX12_chances_33 (by decide) kw_1173 (fR_V e14) ?_
      refine ev_iload C dX12_chances_36 (q := 4) rfl ?_
      refine ev_aload_n C dX12_chances_38 rfl (q := 0) rfl ?_
      obtain ⟨x15, e16, hf⟩ := obnd hf
      refine ev_get (k := 13) C ok_12 dX12_chances_39 (by decide) kw_1172 (fR_V e16) ?_
      refine ev_iload C dX12_chances_42 (q := 4) rfl ?_
      obtain ⟨x17, e18, hf⟩ := obnd hf
      refine ev_dald C dX12_chances_44 e18 ?_
      obtain ⟨M19, e20, hf⟩ := obnd hf
      refine ev_dast C dX12_chances_45 e20 ?_
      refine ev_iinc (v := i6 + 1) (l' := [(6, .int (i6 + 1)), (0, .ref a0), (2, .int i2), (3, .double d3), (5, .int i5)]) C dX12_chances_46 (q := 4) rfl rfl (by decide) rfl ?_
      refine ev_goto (tgt := 25) C dX12_chances_49 (by decide) ?_
      refine ev_sub [1, 2, 3, 4, 0] rfl ?_
      exact ih a0 i2 d3 i5 (i6 + 1) M19 hf
def m_X12_chances_L16 (N : Nat)  : Nat → Nat → Int32 → UInt64 → Int32 → mM → Option (mM)
  | 0, _, _, _, _, _ => none
  | n + 1, a0, i2, d3, i5, M =>
    if i2 < i5 then (
      some M) else (
      m_X12_chances_L25 N (m_X12_chances_L16 N  n) N a0 i2 d3 i5 0 M)
set_option maxHeartbeats 4000000 in
set_option maxRecDepth 100000 in
theorem t_X12_chances_L16 {X : mX} {L0 : Launch} {res : mM} {N : Nat} (C : CX X RX12 "chances" prog_14_method_35_code 7 none) (E : EX X L0 1 26 0 0 none res)   : ∀ (n : Nat) (a0 : Nat) (i2 : Int32) (d3 : UInt64) (i5 : Int32) (M : mM), m_X12_chances_L16 N  n a0 i2 d3 i5 M = some res → EV X 7 16 [(0, .ref a0), (2, .int i2), (3, .double d3), (5, .int i5)] [] 0 0 M := by
  intro n
  induction n with
  | zero => intro a0 i2 d3 i5 M hf; cases (show (none : Option (mM)) = some res from hf)
  | succ n ih =>
    intro a0 i2 d3 i5 M hf
    rw [m_X12_chances_L16] at hf
    refine ev_iload C dX12_chances_16 (q := 3) rfl ?_
    refine ev_iload_n C dX12_chances_18 rfl (q := 1) rfl ?_
    refine ev_icmp_gt (tgt := 138) C dX12_chances_19 (by decide) (fun hc => ?_) (fun hc => ?_)
    · have hf := oit hf hc
      obtain rfl := Option.some.inj hf
      exact ev_vret C E (Nat.le_refl 0) (Nat.le_refl 0) dX12_chances_138
    · have hf := oie hf hc
      refine ev_iconst (v := 0) C dX12_chances_22 (by decide) ?_
      refine ev_istore (l' := [(6, .int 0), (0, .ref a0), (2, .int i2), (3, .double d3), (5, .int i5)]) C dX12_chances_23 (by decide) rfl ?_
      refine ev_sub [1, 2, 3, 4, 0] rfl ?_
      exact t_X12_chances_L25 C E (m_X12_chances_L16 N  n) ih N a0 i2 d3 i5 0 M hf
def m_X12_chances (N : Nat) (a0 : Nat) (i1 : Int32) (i2 : Int32) (M : mM) : Option (mM) :=
  (oO M a0 12).bind fun _ =>
  (m_X12_showing N a0 i1 M).bind fun x3 =>
  (fR M a0 12 13).bind fun x5 =>
  (uD M x5 0 FP.dconst1).bind fun M7 =>
  m_X12_chances_L16 N  N a0 i2 x3 1 M7
set_option maxHeartbeats 4000000 in
set_option maxRecDepth 100000 in
theorem t_X12_chances {L0 : Launch} {M : mM} {N : Nat} {a0 : Nat} {i1 : Int32} {i2 : Int32} {res : mM} (hf : m_X12_chances N a0 i1 i2 M = some res) : CT L0 yX12_chances prog_14_method_35_code 7 none 1 26 0 0 [.ref a0, .int i1, .int i2] M none res := by
  refine CT.of (by decide +kernel) (Nat.le_of_ble_eq_true rfl) fun X C E => ?_
  have C : CX X RX12 "chances" prog_14_method_35_code 7 none := C
  show EV X 7 0 [(0, .ref a0), (1, .int i1), (2, .int i2)] [] 0 0 M
  unfold m_X12_chances at hf
  refine ev_aload_n C dX12_chances_0 rfl (q := 0) rfl ?_
  refine ev_iload_n C dX12_chances_1 rfl (q := 1) rfl ?_
  obtain ⟨_, e1, hf⟩ := obnd hf
  obtain ⟨fs2, e1⟩ := oO_eq e1
  obtain ⟨x3, e4, hf⟩ := obnd hf
  refine ev_callV0 (As := [.int i1]) (st := []) C rfl e1 (t_X12_showing e4) rfl hd_X12_showing rfl kw_1293 kw_1295 kw_87 kw_22 kw_1296 (mRoom.of E (Nat.le_of_ble_eq_true rfl) (Nat.le_of_ble_eq_true rfl) (Nat.le_refl 0) (Nat.le_refl 0)) (Nat.le_of_ble_eq_true rfl) dX12_chances_2 ?_
  refine ev_dstore_n (l' := [(3, .double x3), (0, .ref a0), (1, .int i1), (2, .int i2)]) C dX12_chances_5 rfl (by decide) rfl ?_
  refine ev_aload_n C dX12_chances_6 rfl (q := 1) rfl ?_
  obtain ⟨x5, e6, hf⟩ := obnd hf
  refine ev_get (k := 13) C ok_12 dX12_chances_7 (by decide) kw_1172 (fR_V e6) ?_
  refine ev_iconst (v := 0) C dX12_chances_10 (by decide) ?_
  refine ev_dconst1 C dX12_chances_11 ?_
  obtain ⟨M7, e8, hf⟩ := obnd hf
  refine ev_dast C dX12_chances_12 e8 ?_
  refine ev_iconst (v := 1) C dX12_chances_13 (by decide) ?_
  refine ev_istore (l' := [(5, .int 1), (3, .double x3), (0, .ref a0), (1, .int i1), (2, .int i2)]) C dX12_chances_14 (by decide) rfl ?_
  refine ev_sub [2, 4, 1, 0] rfl ?_
  exact t_X12_chances_L16 C E   N a0 i2 x3 1 M7 hf
/-! FareLimitsModel chance(III)J -/
theorem dX12_chance_0 : decode prog_14_method_36_code 0 = .ok (.iload_n 1, 1) := by decide +kernel
theorem dX12_chance_1 : decode prog_14_method_36_code 1 = .ok (.invokestatic 111, 3) := by decide +kernel
theorem dX12_chance_4 : decode prog_14_method_36_code 4 = .ok (.ifCond .eq 17, 3) := by decide +kernel
theorem dX12_chance_7 : decode prog_14_method_36_code 7 = .ok (.iload_n 2, 1) := by decide +kernel
theorem dX12_chance_8 : decode prog_14_method_36_code 8 = .ok (.invokestatic 183, 3) := by decide +kernel
theorem dX12_chance_11 : decode prog_14_method_36_code 11 = .ok (.ifCond .eq 10, 3) := by decide +kernel
theorem dX12_chance_14 : decode prog_14_method_36_code 14 = .ok (.iload_n 3, 1) := by decide +kernel
theorem dX12_chance_15 : decode prog_14_method_36_code 15 = .ok (.invokestatic 183, 3) := by decide +kernel
theorem dX12_chance_18 : decode prog_14_method_36_code 18 = .ok (.ifCond .ne 7, 3) := by decide +kernel
theorem dX12_chance_21 : decode prog_14_method_36_code 21 = .ok (.ldc2_w 120, 3) := by decide +kernel
theorem dX12_chance_24 : decode prog_14_method_36_code 24 = .ok (.lreturn, 1) := by decide +kernel
theorem dX12_chance_25 : decode prog_14_method_36_code 25 = .ok (.aload_n 0, 1) := by decide +kernel
theorem dX12_chance_26 : decode prog_14_method_36_code 26 = .ok (.iload_n 1, 1) := by decide +kernel
theorem dX12_chance_27 : decode prog_14_method_36_code 27 = .ok (.iload_n 2, 1) := by decide +kernel
theorem dX12_chance_28 : decode prog_14_method_36_code 28 = .ok (.invokevirtual 186, 3) := by decide +kernel
theorem dX12_chance_31 : decode prog_14_method_36_code 31 = .ok (.iload_n 3, 1) := by decide +kernel
theorem dX12_chance_32 : decode prog_14_method_36_code 32 = .ok (.iload_n 2, 1) := by decide +kernel
theorem dX12_chance_33 : decode prog_14_method_36_code 33 = .ok (.if_icmp .le 7, 3) := by decide +kernel
theorem dX12_chance_36 : decode prog_14_method_36_code 36 = .ok (.dconst 0, 1) := by decide +kernel
theorem dX12_chance_37 : decode prog_14_method_36_code 37 = .ok (.goto 9, 3) := by decide +kernel
theorem dX12_chance_40 : decode prog_14_method_36_code 40 = .ok (.aload_n 0, 1) := by decide +kernel
theorem dX12_chance_41 : decode prog_14_method_36_code 41 = .ok (.getfield 44, 3) := by decide +kernel
theorem dX12_chance_44 : decode prog_14_method_36_code 44 = .ok (.iload_n 3, 1) := by decide +kernel
theorem dX12_chance_45 : decode prog_14_method_36_code 45 = .ok (.daload, 1) := by decide +kernel
theorem dX12_chance_46 : decode prog_14_method_36_code 46 = .ok (.invokestatic 114, 3) := by decide +kernel
theorem dX12_chance_49 : decode prog_14_method_36_code 49 = .ok (.lreturn, 1) := by decide +kernel
def m_X12_chance (N : Nat) (a0 : Nat) (i1 : Int32) (i2 : Int32) (i3 : Int32) (M : mM) : Option (Int64 × mM) :=
  (m_X12_isStage i1).bind fun x1 =>
  if x1 = 0 then (
    some ((-9223372036854775808), M)) else (
    (m_X12_isBooked i2).bind fun x3 =>
    if x3 = 0 then (
      some ((-9223372036854775808), M)) else (
      (m_X12_isBooked i3).bind fun x5 =>
      if x5 = 0 then (
        some ((-9223372036854775808), M)) else (
        (oO M a0 12).bind fun _ =>
        (m_X12_chances N a0 i1 i2 M).bind fun x9 =>
        if i3 ≤ i2 then (
          (fR x9 a0 12 13).bind fun x11 =>
          (aD x9 x11 i3).bind fun x13 =>
          (m_Jxe99ae_doubleToLongBits_ccdee x13).bind fun x15 =>
          some (x15, x9)) else (
          (m_Jxe99ae_doubleToLongBits_ccdee FP.dconst0).bind fun x17 =>
          some (x17, x9)))))
set_option maxHeartbeats 4000000 in
set_option maxRecDepth 100000 in
theorem t_X12_chance {L0 : Launch} {M : mM} {N : Nat} {a0 : Nat} {i1 : Int32} {i2 : Int32} {i3 : Int32} {res : Int64 × mM} (hf : m_X12_chance N a0 i1 i2 i3 M = some res) : CT L0 yX12_chance prog_14_method_36_code 4 (some .long) 2 61 0 0 [.ref a0, .int i1, .int i2, .int i3] M (some (.long res.1)) res.2 := by
  refine CT.of (by decide +kernel) (Nat.le_of_ble_eq_true rfl) fun X C E => ?_
  have C : CX X RX12 "chance" prog_14_method_36_code 4 (some .long) := C
  show EV X 4 0 [(0, .ref a0), (1, .int i1), (2, .int i2), (3, .int i3)] [] 0 0 M
  unfold m_X12_chance at hf
  refine ev_iload_n C dX12_chance_0 rfl (q := 1) rfl ?_
  obtain ⟨x1, e2, hf⟩ := obnd hf
  refine ev_callS0 (As := [.int i1]) (st := []) C (t_X12_isStage e2) hd_X12_isStage rfl kw_1289 kw_1290 kw_87 kw_1291 (mRoom.of E (Nat.le_of_ble_eq_true rfl) (Nat.le_of_ble_eq_true rfl) (Nat.le_refl 0) (Nat.le_refl 0)) (Nat.le_of_ble_eq_true rfl) dX12_chance_1 ?_
  refine ev_if_eq (tgt := 21) C dX12_chance_4 (by decide) (fun hc => ?_) (fun hc => ?_)
  · have hf := oit hf hc
    refine ev_ldc2 (v := (-9223372036854775808)) C dX12_chance_21 kw_1308 ?_
    obtain rfl := Option.some.inj hf
    exact ev_lret C E (Nat.le_refl 0) (Nat.le_refl 0) dX12_chance_24
  · have hf := oie hf hc
    refine ev_iload_n C dX12_chance_7 rfl (q := 2) rfl ?_
    obtain ⟨x3, e4, hf⟩ := obnd hf
    refine ev_callS0 (As := [.int i2]) (st := []) C (t_X12_isBooked e4) hd_X12_isBooked rfl kw_1410 kw_1411 kw_87 kw_1412 (mRoom.of E (Nat.le_of_ble_eq_true rfl) (Nat.le_of_ble_eq_true rfl) (Nat.le_refl 0) (Nat.le_refl 0)) (Nat.le_of_ble_eq_true rfl) dX12_chance_8 ?_
    refine ev_if_eq (tgt := 21) C dX12_chance_11 (by decide) (fun hc => ?_) (fun hc => ?_)
    · have hf := oit hf hc
      refine ev_ldc2 (v := (-9223372036854775808)) C dX12_chance_21 kw_1308 ?_
      obtain rfl := Option.some.inj hf
      exact ev_lret C E (Nat.le_refl 0) (Nat.le_refl 0) dX12_chance_24
    · have hf := oie hf hc
      refine ev_iload_n C dX12_chance_14 rfl (q := 3) rfl ?_
      obtain ⟨x5, e6, hf⟩ := obnd hf
      refine ev_callS0 (As := [.int i3]) (st := []) C (t_X12_isBooked e6) hd_X12_isBooked rfl kw_1410 kw_1411 kw_87 kw_1412 (mRoom.of E (Nat.le_of_ble_eq_true rfl) (Nat.le_of_ble_eq_true rfl) (Nat.le_refl 0) (Nat.le_refl 0)) (Nat.le_of_ble_eq_true rfl) dX12_chance_15 ?_
      refine ev_if_ne (tgt := 25) C dX12_chance_18 (by decide) (fun hc => ?_) (fun hc => ?_)
      · have hf := oie hf hc
        refine ev_aload_n C dX12_chance_25 rfl (q := 0) rfl ?_
        refine ev_iload_n C dX12_chance_26 rfl (q := 1) rfl ?_
        refine ev_iload_n C dX12_chance_27 rfl (q := 2) rfl ?_
        obtain ⟨_, e7, hf⟩ := obnd hf
        obtain ⟨fs8, e7⟩ := oO_eq e7
        obtain ⟨x9, e10, hf⟩ := obnd hf
        refine ev_callV0 (As := [.int i1, .int i2]) (st := []) C rfl e7 (t_X12_chances e10) rfl hd_X12_chances rfl kw_1414 kw_1416 kw_87 kw_34 kw_1417 (mRoom.of E (Nat.le_of_ble_eq_true rfl) (Nat.le_of_ble_eq_true rfl) (Nat.le_refl 0) (Nat.le_refl 0)) (Nat.le_of_ble_eq_true rfl) dX12_chance_28 ?_
        refine ev_iload_n C dX12_chance_31 rfl (q := 3) rfl ?_
        refine ev_iload_n C dX12_chance_32 rfl (q := 2) rfl ?_
        refine ev_icmp_le (tgt := 40) C dX12_chance_33 (by decide) (fun hc => ?_) (fun hc => ?_)
        · have hf := oit hf hc
          refine ev_aload_n C dX12_chance_40 rfl (q := 0) rfl ?_
          obtain ⟨x11, e12, hf⟩ := obnd hf
          refine ev_get (k := 13) C ok_12 dX12_chance_41 (by decide) kw_1172 (fR_V e12) ?_
          refine ev_iload_n C dX12_chance_44 rfl (q := 3) rfl ?_
          obtain ⟨x13, e14, hf⟩ := obnd hf
          refine ev_dald C dX12_chance_45 e14 ?_
          obtain ⟨x15, e16, hf⟩ := obnd hf
          refine ev_callS0 (As := [.double x13]) (st := []) C (t_Jxe99ae_doubleToLongBits_ccdee e16) hd_Jxe99ae_doubleToLongBits_ccdee rfl kw_1298 kw_1299 kw_89 kw_1300 (mRoom.of E (Nat.le_of_ble_eq_true rfl) (Nat.le_of_ble_eq_true rfl) (Nat.le_refl 0) (Nat.le_refl 0)) (Nat.le_of_ble_eq_true rfl) dX12_chance_46 ?_
          obtain rfl := Option.some.inj hf
          exact ev_lret C E (Nat.le_refl 0) (Nat.le_refl 0) dX12_chance_49
        · have hf := oie hf hc
          refine ev_dconst0 C dX12_chance_36 ?_
          refine ev_goto (tgt := 46) C dX12_chance_37 (by decide) ?_
          obtain ⟨x17, e18, hf⟩ := obnd hf
          refine ev_callS0 (As := [.double FP.dconst0]) (st := []) C (t_Jxe99ae_doubleToLongBits_ccdee e18) hd_Jxe99ae_doubleToLongBits_ccdee rfl kw_1298 kw_1299 kw_89 kw_1300 (mRoom.of E (Nat.le_of_ble_eq_true rfl) (Nat.le_of_ble_eq_true rfl) (Nat.le_refl 0) (Nat.le_refl 0)) (Nat.le_of_ble_eq_true rfl) dX12_chance_46 ?_
          obtain rfl := Option.some.inj hf
          exact ev_lret C E (Nat.le_refl 0) (Nat.le_refl 0) dX12_chance_49
      · have hf := oit hf hc
        refine ev_ldc2 (v := (-9223372036854775808)) C dX12_chance_21 kw_1308 ?_
        obtain rfl := Option.some.inj hf
        exact ev_lret C E (Nat.le_refl 0) (Nat.le_refl 0) dX12_chance_24
/-! FareLimitsModel turnedOf(I)D -/
theorem dX12_turnedOf_0 : decode prog_14_method_37_code 0 = .ok (.dconst 0, 1) := by decide +kernel
theorem dX12_turnedOf_1 : decode prog_14_method_37_code 1 = .ok (.dstore_n 2, 1) := by decide +kernel
theorem dX12_turnedOf_2 : decode prog_14_method_37_code 2 = .ok (.aload_n 0, 1) := by decide +kernel
theorem dX12_turnedOf_3 : decode prog_14_method_37_code 3 = .ok (.getfield 9, 3) := by decide +kernel
theorem dX12_turnedOf_6 : decode prog_14_method_37_code 6 = .ok (.iconst 1, 1) := by decide +kernel
theorem dX12_turnedOf_7 : decode prog_14_method_37_code 7 = .ok (.iaload, 1) := by decide +kernel
theorem dX12_turnedOf_8 : decode prog_14_method_37_code 8 = .ok (.iconst 1, 1) := by decide +kernel
theorem dX12_turnedOf_9 : decode prog_14_method_37_code 9 = .ok (.iadd, 1) := by decide +kernel
theorem dX12_turnedOf_10 : decode prog_14_method_37_code 10 = .ok (.istore 4, 2) := by decide +kernel
theorem dX12_turnedOf_12 : decode prog_14_method_37_code 12 = .ok (.iload 4, 2) := by decide +kernel
theorem dX12_turnedOf_14 : decode prog_14_method_37_code 14 = .ok (.iload_n 1, 1) := by decide +kernel
theorem dX12_turnedOf_15 : decode prog_14_method_37_code 15 = .ok (.if_icmp .gt 30, 3) := by decide +kernel
theorem dX12_turnedOf_18 : decode prog_14_method_37_code 18 = .ok (.dload_n 2, 1) := by decide +kernel
theorem dX12_turnedOf_19 : decode prog_14_method_37_code 19 = .ok (.iload 4, 2) := by decide +kernel
theorem dX12_turnedOf_21 : decode prog_14_method_37_code 21 = .ok (.aload_n 0, 1) := by decide +kernel
theorem dX12_turnedOf_22 : decode prog_14_method_37_code 22 = .ok (.getfield 9, 3) := by decide +kernel
theorem dX12_turnedOf_25 : decode prog_14_method_37_code 25 = .ok (.iconst 1, 1) := by decide +kernel
theorem dX12_turnedOf_26 : decode prog_14_method_37_code 26 = .ok (.iaload, 1) := by decide +kernel
theorem dX12_turnedOf_27 : decode prog_14_method_37_code 27 = .ok (.isub, 1) := by decide +kernel
theorem dX12_turnedOf_28 : decode prog_14_method_37_code 28 = .ok (.i2d, 1) := by decide +kernel
theorem dX12_turnedOf_29 : decode prog_14_method_37_code 29 = .ok (.aload_n 0, 1) := by decide +kernel
theorem dX12_turnedOf_30 : decode prog_14_method_37_code 30 = .ok (.getfield 44, 3) := by decide +kernel
theorem dX12_turnedOf_33 : decode prog_14_method_37_code 33 = .ok (.iload 4, 2) := by decide +kernel
theorem dX12_turnedOf_35 : decode prog_14_method_37_code 35 = .ok (.daload, 1) := by decide +kernel
theorem dX12_turnedOf_36 : decode prog_14_method_37_code 36 = .ok (.dmul, 1) := by decide +kernel
theorem dX12_turnedOf_37 : decode prog_14_method_37_code 37 = .ok (.dadd, 1) := by decide +kernel
theorem dX12_turnedOf_38 : decode prog_14_method_37_code 38 = .ok (.dstore_n 2, 1) := by decide +kernel
theorem dX12_turnedOf_39 : decode prog_14_method_37_code 39 = .ok (.iinc 4 1, 3) := by decide +kernel
theorem dX12_turnedOf_42 : decode prog_14_method_37_code 42 = .ok (.goto (-30), 3) := by decide +kernel
theorem dX12_turnedOf_45 : decode prog_14_method_37_code 45 = .ok (.dload_n 2, 1) := by decide +kernel
theorem dX12_turnedOf_46 : decode prog_14_method_37_code 46 = .ok (.dreturn, 1) := by decide +kernel
def m_X12_turnedOf_L12 (N : Nat) (M : mM)  : Nat → Nat → Int32 → UInt64 → Int32 → Option (UInt64)
  | 0, _, _, _, _ => none
  | n + 1, a0, i1, d2, i4 =>
    if i1 < i4 then (
      some d2) else (
      (fR M a0 12 0).bind fun x1 =>
      (aI 0 M x1 1).bind fun x3 =>
      (fR M a0 12 13).bind fun x5 =>
      (aD M x5 i4).bind fun x7 =>
      (oD (FP.dmul (FP.i2d (i4 - x3)) x7)).bind fun x9 =>
      (oD (FP.dadd d2 x9)).bind fun x11 =>
      (m_X12_turnedOf_L12 N M  n) a0 i1 x11 (i4 + 1))
set_option maxHeartbeats 4000000 in
set_option maxRecDepth 100000 in
theorem t_X12_turnedOf_L12 {X : mX} {M : mM} {L0 : Launch} {res : UInt64} {N : Nat} (C : CX X RX12 "turnedOf" prog_14_method_37_code 5 (some .double)) (E : EX X L0 0 0 0 0 (some (.double res)) M)   : ∀ (n : Nat) (a0 : Nat) (i1 : Int32) (d2 : UInt64) (i4 : Int32), m_X12_turnedOf_L12 N M  n a0 i1 d2 i4 = some res → EV X 5 12 [(0, .ref a0), (1, .int i1), (2, .double d2), (4, .int i4)] [] 0 0 M := by
  intro n
  induction n with
  | zero => intro a0 i1 d2 i4 hf; cases (show (none : Option (UInt64)) = some res from hf)
  | succ n ih =>
    intro a0 i1 d2 i4 hf
    rw [m_X12_turnedOf_L12] at hf
    refine ev_iload C dX12_turnedOf_12 (q := 3) rfl ?_
    refine ev_iload_n C dX12_turnedOf_14 rfl (q := 1) rfl ?_
    refine ev_icmp_gt (tgt := 45) C dX12_turnedOf_15 (by decide) (fun hc => ?_) (fun hc => ?_)
    · have hf := oit hf hc
      refine ev_dload_n C dX12_turnedOf_45 rfl (q := 2) rfl ?_
      obtain rfl := Option.some.inj hf
      exact ev_dret C E (Nat.le_refl 0) (Nat.le_refl 0) dX12_turnedOf_46
    · have hf := oie hf hc
      refine ev_dload_n C dX12_turnedOf_18 rfl (q := 2) rfl ?_
      refine ev_iload C dX12_turnedOf_19 (q := 3) rfl ?_
      refine ev_aload_n C dX12_turnedOf_21 rfl (q := 0) rfl ?_
      obtain ⟨x1, e2, hf⟩ := obnd hf
      refine ev_get (k := 0) C ok_12 dX12_turnedOf_22 (by decide) kw_1159 (fR_V e2) ?_
      refine ev_iconst (v := 1) C dX12_turnedOf_25 (by decide) ?_
      obtain ⟨x3, e4, hf⟩ := obnd hf
      refine ev_iald C dX12_turnedOf_26 e4 ?_
      refine ev_isub C dX12_turnedOf_27 ?_
      refine ev_i2d C dX12_turnedOf_28 ?_
      refine ev_aload_n C dX12_turnedOf_29 rfl (q := 0) rfl ?_
      obtain ⟨x5, e6, hf⟩ := obnd hf
      refine ev_get (k := 13) C ok_12 dX12_turnedOf_30 (by decide) kw_1172 (fR_V e6) ?_
      refine ev_iload C dX12_turnedOf_33 (q := 3) rfl ?_
      obtain ⟨x7, e8, hf⟩ := obnd hf
      refine ev_dald C dX12_turnedOf_35 e8 ?_
      obtain ⟨x9, e10, hf⟩ := obnd hf
      obtain ⟨e10, e10q⟩ := oD_eq e10
      refine ev_dmul C dX12_turnedOf_36 e10 ?_
      rw [← e10q]
      obtain ⟨x11, e12, hf⟩ := obnd hf
      obtain ⟨e12, e12q⟩ := oD_eq e12
      refine ev_dadd C dX12_turnedOf_37 e12 ?_
      rw [← e12q]
      refine ev_dstore_n (l' := [(2, .double x11), (0, .ref a0), (1, .int i1), (4, .int i4)]) C dX12_turnedOf_38 rfl (by decide) rfl ?_
      refine ev_iinc (v := i4 + 1) (l' := [(4, .int (i4 + 1)), (2, .double x11), (0, .ref a0), (1, .int i1)]) C dX12_turnedOf_39 (q := 3) rfl rfl (by decide) rfl ?_
      refine ev_goto (tgt := 12) C dX12_turnedOf_42 (by decide) ?_
      refine ev_sub [2, 3, 1, 0] rfl ?_
      exact ih a0 i1 x11 (i4 + 1) hf
def m_X12_turnedOf (N : Nat) (a0 : Nat) (i1 : Int32) (M : mM) : Option (UInt64) :=
  (fR M a0 12 0).bind fun x1 =>
  (aI 0 M x1 1).bind fun x3 =>
  m_X12_turnedOf_L12 N M  N a0 i1 FP.dconst0 (x3 + 1)
set_option maxHeartbeats 4000000 in
set_option maxRecDepth 100000 in
theorem t_X12_turnedOf {L0 : Launch} {M : mM} {N : Nat} {a0 : Nat} {i1 : Int32} {res : UInt64} (hf : m_X12_turnedOf N a0 i1 M = some res) : CT L0 yX12_turnedOf prog_14_method_37_code 5 (some .double) 0 0 0 0 [.ref a0, .int i1] M (some (.double res)) M := by
  refine CT.of (by decide +kernel) (Nat.le_of_ble_eq_true rfl) fun X C E => ?_
  have C : CX X RX12 "turnedOf" prog_14_method_37_code 5 (some .double) := C
  show EV X 5 0 [(0, .ref a0), (1, .int i1)] [] 0 0 M
  unfold m_X12_turnedOf at hf
  refine ev_dconst0 C dX12_turnedOf_0 ?_
  refine ev_dstore_n (l' := [(2, .double FP.dconst0), (0, .ref a0), (1, .int i1)]) C dX12_turnedOf_1 rfl (by decide) rfl ?_
  refine ev_aload_n C dX12_turnedOf_2 rfl (q := 1) rfl ?_
  obtain ⟨x1, e2, hf⟩ := obnd hf
  refine ev_get (k := 0) C ok_12 dX12_turnedOf_3 (by decide) kw_1159 (fR_V e2) ?_
  refine ev_iconst (v := 1) C dX12_turnedOf_6 (by decide) ?_
  obtain ⟨x3, e4, hf⟩ := obnd hf
  refine ev_iald C dX12_turnedOf_7 e4 ?_
  refine ev_iconst (v := 1) C dX12_turnedOf_8 (by decide) ?_
  refine ev_iadd C dX12_turnedOf_9 ?_
  refine ev_istore (l' := [(4, .int (x3 + 1)), (2, .double FP.dconst0), (0, .ref a0), (1, .int i1)]) C dX12_turnedOf_10 (by decide) rfl ?_
  refine ev_sub [2, 3, 1, 0] rfl ?_
  exact t_X12_turnedOf_L12 C E   N a0 i1 FP.dconst0 (x3 + 1) hf
/-! FareLimitsModel hadOf(II)D -/
theorem dX12_hadOf_0 : decode prog_14_method_38_code 0 = .ok (.dconst 0, 1) := by decide +kernel
theorem dX12_hadOf_1 : decode prog_14_method_38_code 1 = .ok (.dstore_n 3, 1) := by decide +kernel
theorem dX12_hadOf_2 : decode prog_14_method_38_code 2 = .ok (.iconst 0, 1) := by decide +kernel
theorem dX12_hadOf_3 : decode prog_14_method_38_code 3 = .ok (.istore 5, 2) := by decide +kernel
theorem dX12_hadOf_5 : decode prog_14_method_38_code 5 = .ok (.iload 5, 2) := by decide +kernel
theorem dX12_hadOf_7 : decode prog_14_method_38_code 7 = .ok (.iload_n 2, 1) := by decide +kernel
theorem dX12_hadOf_8 : decode prog_14_method_38_code 8 = .ok (.if_icmp .gt 43, 3) := by decide +kernel
theorem dX12_hadOf_11 : decode prog_14_method_38_code 11 = .ok (.dload_n 3, 1) := by decide +kernel
theorem dX12_hadOf_12 : decode prog_14_method_38_code 12 = .ok (.iload 5, 2) := by decide +kernel
theorem dX12_hadOf_14 : decode prog_14_method_38_code 14 = .ok (.aload_n 0, 1) := by decide +kernel
theorem dX12_hadOf_15 : decode prog_14_method_38_code 15 = .ok (.getfield 9, 3) := by decide +kernel
theorem dX12_hadOf_18 : decode prog_14_method_38_code 18 = .ok (.iconst 1, 1) := by decide +kernel
theorem dX12_hadOf_19 : decode prog_14_method_38_code 19 = .ok (.iaload, 1) := by decide +kernel
theorem dX12_hadOf_20 : decode prog_14_method_38_code 20 = .ok (.if_icmp .ge 8, 3) := by decide +kernel
theorem dX12_hadOf_23 : decode prog_14_method_38_code 23 = .ok (.iload 5, 2) := by decide +kernel
theorem dX12_hadOf_25 : decode prog_14_method_38_code 25 = .ok (.goto 9, 3) := by decide +kernel
theorem dX12_hadOf_28 : decode prog_14_method_38_code 28 = .ok (.aload_n 0, 1) := by decide +kernel
theorem dX12_hadOf_29 : decode prog_14_method_38_code 29 = .ok (.getfield 9, 3) := by decide +kernel
theorem dX12_hadOf_32 : decode prog_14_method_38_code 32 = .ok (.iconst 1, 1) := by decide +kernel
theorem dX12_hadOf_33 : decode prog_14_method_38_code 33 = .ok (.iaload, 1) := by decide +kernel
theorem dX12_hadOf_34 : decode prog_14_method_38_code 34 = .ok (.i2d, 1) := by decide +kernel
theorem dX12_hadOf_35 : decode prog_14_method_38_code 35 = .ok (.aload_n 0, 1) := by decide +kernel
theorem dX12_hadOf_36 : decode prog_14_method_38_code 36 = .ok (.getfield 44, 3) := by decide +kernel
theorem dX12_hadOf_39 : decode prog_14_method_38_code 39 = .ok (.iload 5, 2) := by decide +kernel
theorem dX12_hadOf_41 : decode prog_14_method_38_code 41 = .ok (.daload, 1) := by decide +kernel
theorem dX12_hadOf_42 : decode prog_14_method_38_code 42 = .ok (.dmul, 1) := by decide +kernel
theorem dX12_hadOf_43 : decode prog_14_method_38_code 43 = .ok (.dadd, 1) := by decide +kernel
theorem dX12_hadOf_44 : decode prog_14_method_38_code 44 = .ok (.dstore_n 3, 1) := by decide +kernel
theorem dX12_hadOf_45 : decode prog_14_method_38_code 45 = .ok (.iinc 5 1, 3) := by decide +kernel
theorem dX12_hadOf_48 : decode prog_14_method_38_code 48 = .ok (.goto (-43), 3) := by decide +kernel
theorem dX12_hadOf_51 : decode prog_14_method_38_code 51 = .ok (.dload_n 3, 1) := by decide +kernel
theorem dX12_hadOf_52 : decode prog_14_method_38_code 52 = .ok (.aload_n 0, 1) := by decide +kernel
theorem dX12_hadOf_53 : decode prog_14_method_38_code 53 = .ok (.iload_n 1, 1) := by decide +kernel
theorem dX12_hadOf_54 : decode prog_14_method_38_code 54 = .ok (.invokevirtual 88, 3) := by decide +kernel
theorem dX12_hadOf_57 : decode prog_14_method_38_code 57 = .ok (.i2d, 1) := by decide +kernel
theorem dX12_hadOf_58 : decode prog_14_method_38_code 58 = .ok (.dmul, 1) := by decide +kernel
theorem dX12_hadOf_59 : decode prog_14_method_38_code 59 = .ok (.aload_n 0, 1) := by decide +kernel
theorem dX12_hadOf_60 : decode prog_14_method_38_code 60 = .ok (.iload_n 2, 1) := by decide +kernel
theorem dX12_hadOf_61 : decode prog_14_method_38_code 61 = .ok (.invokevirtual 189, 3) := by decide +kernel
theorem dX12_hadOf_64 : decode prog_14_method_38_code 64 = .ok (.aload_n 0, 1) := by decide +kernel
theorem dX12_hadOf_65 : decode prog_14_method_38_code 65 = .ok (.getfield 9, 3) := by decide +kernel
theorem dX12_hadOf_68 : decode prog_14_method_38_code 68 = .ok (.iconst 4, 1) := by decide +kernel
theorem dX12_hadOf_69 : decode prog_14_method_38_code 69 = .ok (.iaload, 1) := by decide +kernel
theorem dX12_hadOf_70 : decode prog_14_method_38_code 70 = .ok (.i2d, 1) := by decide +kernel
theorem dX12_hadOf_71 : decode prog_14_method_38_code 71 = .ok (.dmul, 1) := by decide +kernel
theorem dX12_hadOf_72 : decode prog_14_method_38_code 72 = .ok (.dsub, 1) := by decide +kernel
theorem dX12_hadOf_73 : decode prog_14_method_38_code 73 = .ok (.dreturn, 1) := by decide +kernel
def m_X12_hadOf_J34 (N : Nat) (M : mM) (k5 : Nat → Int32 → Int32 → UInt64 → Int32 → Option (UInt64)) (a0 : Nat) (i1 : Int32) (i2 : Int32) (i5 : Int32) (sd0 : UInt64) (si1 : Int32) : Option (UInt64) :=
  (fR M a0 12 13).bind fun x1 =>
  (aD M x1 i5).bind fun x3 =>
  (oD (FP.dmul (FP.i2d si1) x3)).bind fun x5 =>
  (oD (FP.dadd sd0 x5)).bind fun x7 =>
  k5 a0 i1 i2 x7 (i5 + 1)
set_option maxHeartbeats 4000000 in
set_option maxRecDepth 100000 in
theorem t_X12_hadOf_J34 {X : mX} {M : mM} {L0 : Launch} {res : UInt64} {N : Nat} (C : CX X RX12 "hadOf" prog_14_method_38_code 6 (some .double)) (E : EX X L0 1 24 0 0 (some (.double res)) M) (k5 : Nat → Int32 → Int32 → UInt64 → Int32 → Option (UInt64)) (Hk5 : ∀ (a0 : Nat) (i1 : Int32) (i2 : Int32) (d3 : UInt64) (i5 : Int32), k5 a0 i1 i2 d3 i5 = some res → EV X 6 5 [(0, .ref a0), (1, .int i1), (2, .int i2), (3, .double d3), (5, .int i5)] [] 0 0 M) (a0 : Nat) (i1 : Int32) (i2 : Int32) (i5 : Int32) (sd0 : UInt64) (si1 : Int32) (hf : m_X12_hadOf_J34 N M k5 a0 i1 i2 i5 sd0 si1 = some res) : EV X 6 34 [(0, .ref a0), (1, .int i1), (2, .int i2), (5, .int i5)] [.int si1, .double sd0] 0 0 M := by
  unfold m_X12_hadOf_J34 at hf
  refine ev_i2d C dX12_hadOf_34 ?_
  refine ev_aload_n C dX12_hadOf_35 rfl (q := 0) rfl ?_
  obtain ⟨x1, e2, hf⟩ := obnd hf
  refine ev_get (k := 13) C ok_12 dX12_hadOf_36 (by decide) kw_1172 (fR_V e2) ?_
  refine ev_iload C dX12_hadOf_39 (q := 3) rfl ?_
  obtain ⟨x3, e4, hf⟩ := obnd hf
  refine ev_dald C dX12_hadOf_41 e4 ?_
  obtain ⟨x5, e6, hf⟩ := obnd hf
  obtain ⟨e6, e6q⟩ := oD_eq e6
  refine ev_dmul C dX12_hadOf_42 e6 ?_
  rw [← e6q]
  obtain ⟨x7, e8, hf⟩ := obnd hf
  obtain ⟨e8, e8q⟩ := oD_eq e8
  refine ev_dadd C dX12_hadOf_43 e8 ?_
  rw [← e8q]
  refine ev_dstore_n (l' := [(3, .double x7), (0, .ref a0), (1, .int i1), (2, .int i2), (5, .int i5)]) C dX12_hadOf_44 rfl (by decide) rfl ?_
  refine ev_iinc (v := i5 + 1) (l' := [(5, .int (i5 + 1)), (3, .double x7), (0, .ref a0), (1, .int i1), (2, .int i2)]) C dX12_hadOf_45 (q := 4) rfl rfl (by decide) rfl ?_
  refine ev_goto (tgt := 5) C dX12_hadOf_48 (by decide) ?_
  refine ev_sub [2, 3, 4, 1, 0] rfl ?_
  exact Hk5 a0 i1 i2 x7 (i5 + 1) hf
def m_X12_hadOf_L5 (N : Nat) (M : mM)  : Nat → Nat → Int32 → Int32 → UInt64 → Int32 → Option (UInt64)
  | 0, _, _, _, _, _ => none
  | n + 1, a0, i1, i2, d3, i5 =>
    if i2 < i5 then (
      (oO M a0 12).bind fun _ =>
      (m_X12_price a0 i1 M).bind fun x3 =>
      (oD (FP.dmul d3 (FP.i2d x3))).bind fun x5 =>
      (oO M a0 12).bind fun _ =>
      (m_X12_turnedOf N a0 i2 M).bind fun x9 =>
      (fR M a0 12 0).bind fun x11 =>
      (aI 0 M x11 4).bind fun x13 =>
      (oD (FP.dmul x9 (FP.i2d x13))).bind fun x15 =>
      (oD (FP.dsub x5 x15)).bind fun x17 =>
      some x17) else (
      (fR M a0 12 0).bind fun x19 =>
      (aI 0 M x19 1).bind fun x21 =>
      if x21 ≤ i5 then (
        (fR M a0 12 0).bind fun x23 =>
        (aI 0 M x23 1).bind fun x25 =>
        m_X12_hadOf_J34 N M (m_X12_hadOf_L5 N M  n) a0 i1 i2 i5 d3 x25) else (
        m_X12_hadOf_J34 N M (m_X12_hadOf_L5 N M  n) a0 i1 i2 i5 d3 i5))
set_option maxHeartbeats 4000000 in
set_option maxRecDepth 100000 in
theorem t_X12_hadOf_L5 {X : mX} {M : mM} {L0 : Launch} {res : UInt64} {N : Nat} (C : CX X RX12 "hadOf" prog_14_method_38_code 6 (some .double)) (E : EX X L0 1 24 0 0 (some (.double res)) M)   : ∀ (n : Nat) (a0 : Nat) (i1 : Int32) (i2 : Int32) (d3 : UInt64) (i5 : Int32), m_X12_hadOf_L5 N M  n a0 i1 i2 d3 i5 = some res → EV X 6 5 [(0, .ref a0), (1, .int i1), (2, .int i2), (3, .double d3), (5, .int i5)] [] 0 0 M := by
  intro n
  induction n with
  | zero => intro a0 i1 i2 d3 i5 hf; cases (show (none : Option (UInt64)) = some res from hf)
  | succ n ih =>
    intro a0 i1 i2 d3 i5 hf
    rw [m_X12_hadOf_L5] at hf
    refine ev_iload C dX12_hadOf_5 (q := 4) rfl ?_
    refine ev_iload_n C dX12_hadOf_7 rfl (q := 2) rfl ?_
    refine ev_icmp_gt (tgt := 51) C dX12_hadOf_8 (by decide) (fun hc => ?_) (fun hc => ?_)
    · have hf := oit hf hc
      refine ev_dload_n C dX12_hadOf_51 rfl (q := 3) rfl ?_
      refine ev_aload_n C dX12_hadOf_52 rfl (q := 0) rfl ?_
      refine ev_iload_n C dX12_hadOf_53 rfl (q := 1) rfl ?_
      obtain ⟨_, e1, hf⟩ := obnd hf
      obtain ⟨fs2, e1⟩ := oO_eq e1
      obtain ⟨x3, e4, hf⟩ := obnd hf
      refine ev_callV0 (As := [.int i1]) (st := [.double d3]) C rfl e1 (t_X12_price e4) rfl hd_X12_price rfl kw_1266 kw_1268 kw_87 kw_21 kw_1269 (mRoom.of E (Nat.le_of_ble_eq_true rfl) (Nat.le_of_ble_eq_true rfl) (Nat.le_refl 0) (Nat.le_refl 0)) (Nat.le_of_ble_eq_true rfl) dX12_hadOf_54 ?_
      refine ev_i2d C dX12_hadOf_57 ?_
      obtain ⟨x5, e6, hf⟩ := obnd hf
      obtain ⟨e6, e6q⟩ := oD_eq e6
      refine ev_dmul C dX12_hadOf_58 e6 ?_
      rw [← e6q]
      refine ev_aload_n C dX12_hadOf_59 rfl (q := 0) rfl ?_
      refine ev_iload_n C dX12_hadOf_60 rfl (q := 2) rfl ?_
      obtain ⟨_, e7, hf⟩ := obnd hf
      obtain ⟨fs8, e7⟩ := oO_eq e7
      obtain ⟨x9, e10, hf⟩ := obnd hf
      refine ev_callV0 (As := [.int i2]) (st := [.double x5]) C rfl e7 (t_X12_turnedOf e10) rfl hd_X12_turnedOf rfl kw_1422 kw_1424 kw_87 kw_35 kw_1425 (mRoom.of E (Nat.le_of_ble_eq_true rfl) (Nat.le_of_ble_eq_true rfl) (Nat.le_refl 0) (Nat.le_refl 0)) (Nat.le_of_ble_eq_true rfl) dX12_hadOf_61 ?_
      refine ev_aload_n C dX12_hadOf_64 rfl (q := 0) rfl ?_
      obtain ⟨x11, e12, hf⟩ := obnd hf
      refine ev_get (k := 0) C ok_12 dX12_hadOf_65 (by decide) kw_1159 (fR_V e12) ?_
      refine ev_iconst (v := 4) C dX12_hadOf_68 (by decide) ?_
      obtain ⟨x13, e14, hf⟩ := obnd hf
      refine ev_iald C dX12_hadOf_69 e14 ?_
      refine ev_i2d C dX12_hadOf_70 ?_
      obtain ⟨x15, e16, hf⟩ := obnd hf
      obtain ⟨e16, e16q⟩ := oD_eq e16
      refine ev_dmul C dX12_hadOf_71 e16 ?_
      rw [← e16q]
      obtain ⟨x17, e18, hf⟩ := obnd hf
      obtain ⟨e18, e18q⟩ := oD_eq e18
      refine ev_dsub C dX12_hadOf_72 e18 ?_
      rw [← e18q]
      obtain rfl := Option.some.inj hf
      exact ev_dret C E (Nat.le_refl 0) (Nat.le_refl 0) dX12_hadOf_73
    · have hf := oie hf hc
      refine ev_dload_n C dX12_hadOf_11 rfl (q := 3) rfl ?_
      refine ev_iload C dX12_hadOf_12 (q := 4) rfl ?_
      refine ev_aload_n C dX12_hadOf_14 rfl (q := 0) rfl ?_
      obtain ⟨x19, e20, hf⟩ := obnd hf
      refine ev_get (k := 0) C ok_12 dX12_hadOf_15 (by decide) kw_1159 (fR_V e20) ?_
      refine ev_iconst (v := 1) C dX12_hadOf_18 (by decide) ?_
      obtain ⟨x21, e22, hf⟩ := obnd hf
      refine ev_iald C dX12_hadOf_19 e22 ?_
      refine ev_icmp_ge (tgt := 28) C dX12_hadOf_20 (by decide) (fun hc => ?_) (fun hc => ?_)
      · have hf := oit hf hc
        refine ev_aload_n C dX12_hadOf_28 rfl (q := 0) rfl ?_
        obtain ⟨x23, e24, hf⟩ := obnd hf
        refine ev_get (k := 0) C ok_12 dX12_hadOf_29 (by decide) kw_1159 (fR_V e24) ?_
        refine ev_iconst (v := 1) C dX12_hadOf_32 (by decide) ?_
        obtain ⟨x25, e26, hf⟩ := obnd hf
        refine ev_iald C dX12_hadOf_33 e26 ?_
        refine ev_sub [0, 1, 2, 4] rfl ?_
        exact t_X12_hadOf_J34 C E (m_X12_hadOf_L5 N M  n) ih a0 i1 i2 i5 d3 x25 hf
      · have hf := oie hf hc
        refine ev_iload C dX12_hadOf_23 (q := 4) rfl ?_
        refine ev_goto (tgt := 34) C dX12_hadOf_25 (by decide) ?_
        refine ev_sub [0, 1, 2, 4] rfl ?_
        exact t_X12_hadOf_J34 C E (m_X12_hadOf_L5 N M  n) ih a0 i1 i2 i5 d3 i5 hf
def m_X12_hadOf (N : Nat) (a0 : Nat) (i1 : Int32) (i2 : Int32) (M : mM) : Option (UInt64) :=
  m_X12_hadOf_L5 N M  N a0 i1 i2 FP.dconst0 0
set_option maxHeartbeats 4000000 in
set_option maxRecDepth 100000 in
theorem t_X12_hadOf {L0 : Launch} {M : mM} {N : Nat} {a0 : Nat} {i1 : Int32} {i2 : Int32} {res : UInt64} (hf : m_X12_hadOf N a0 i1 i2 M = some res) : CT L0 yX12_hadOf prog_14_method_38_code 6 (some .double) 1 24 0 0 [.ref a0, .int i1, .int i2] M (some (.double res)) M := by
  refine CT.of (by decide +kernel) (Nat.le_of_ble_eq_true rfl) fun X C E => ?_
  have C : CX X RX12 "hadOf" prog_14_method_38_code 6 (some .double) := C
  show EV X 6 0 [(0, .ref a0), (1, .int i1), (2, .int i2)] [] 0 0 M
  unfold m_X12_hadOf at hf
  refine ev_dconst0 C dX12_hadOf_0 ?_
  refine ev_dstore_n (l' := [(3, .double FP.dconst0), (0, .ref a0), (1, .int i1), (2, .int i2)]) C dX12_hadOf_1 rfl (by decide) rfl ?_
  refine ev_iconst (v := 0) C dX12_hadOf_2 (by decide) ?_
  refine ev_istore (l' := [(5, .int 0), (3, .double FP.dconst0), (0, .ref a0), (1, .int i1), (2, .int i2)]) C dX12_hadOf_3 (by decide) rfl ?_
  refine ev_sub [2, 3, 4, 1, 0] rfl ?_
  exact t_X12_hadOf_L5 C E   N a0 i1 i2 FP.dconst0 0 hf
/-! FareLimitsModel turned(II)J -/
theorem dX12_turned_0 : decode prog_14_method_39_code 0 = .ok (.iload_n 1, 1) := by decide +kernel
theorem dX12_turned_1 : decode prog_14_method_39_code 1 = .ok (.invokestatic 111, 3) := by decide +kernel
theorem dX12_turned_4 : decode prog_14_method_39_code 4 = .ok (.ifCond .eq 10, 3) := by decide +kernel
theorem dX12_turned_7 : decode prog_14_method_39_code 7 = .ok (.iload_n 2, 1) := by decide +kernel
theorem dX12_turned_8 : decode prog_14_method_39_code 8 = .ok (.invokestatic 183, 3) := by decide +kernel
theorem dX12_turned_11 : decode prog_14_method_39_code 11 = .ok (.ifCond .ne 7, 3) := by decide +kernel
theorem dX12_turned_14 : decode prog_14_method_39_code 14 = .ok (.ldc2_w 120, 3) := by decide +kernel
theorem dX12_turned_17 : decode prog_14_method_39_code 17 = .ok (.lreturn, 1) := by decide +kernel
theorem dX12_turned_18 : decode prog_14_method_39_code 18 = .ok (.aload_n 0, 1) := by decide +kernel
theorem dX12_turned_19 : decode prog_14_method_39_code 19 = .ok (.iload_n 1, 1) := by decide +kernel
theorem dX12_turned_20 : decode prog_14_method_39_code 20 = .ok (.iload_n 2, 1) := by decide +kernel
theorem dX12_turned_21 : decode prog_14_method_39_code 21 = .ok (.invokevirtual 186, 3) := by decide +kernel
theorem dX12_turned_24 : decode prog_14_method_39_code 24 = .ok (.aload_n 0, 1) := by decide +kernel
theorem dX12_turned_25 : decode prog_14_method_39_code 25 = .ok (.iload_n 2, 1) := by decide +kernel
theorem dX12_turned_26 : decode prog_14_method_39_code 26 = .ok (.invokevirtual 189, 3) := by decide +kernel
theorem dX12_turned_29 : decode prog_14_method_39_code 29 = .ok (.invokestatic 114, 3) := by decide +kernel
theorem dX12_turned_32 : decode prog_14_method_39_code 32 = .ok (.lreturn, 1) := by decide +kernel
def m_X12_turned (N : Nat) (a0 : Nat) (i1 : Int32) (i2 : Int32) (M : mM) : Option (Int64 × mM) :=
  (m_X12_isStage i1).bind fun x1 =>
  if x1 = 0 then (
    some ((-9223372036854775808), M)) else (
    (m_X12_isBooked i2).bind fun x3 =>
    if x3 = 0 then (
      some ((-9223372036854775808), M)) else (
      (oO M a0 12).bind fun _ =>
      (m_X12_chances N a0 i1 i2 M).bind fun x7 =>
      (oO x7 a0 12).bind fun _ =>
      (m_X12_turnedOf N a0 i2 x7).bind fun x11 =>
      (m_Jxe99ae_doubleToLongBits_ccdee x11).bind fun x13 =>
      some (x13, x7)))
set_option maxHeartbeats 4000000 in
set_option maxRecDepth 100000 in
theorem t_X12_turned {L0 : Launch} {M : mM} {N : Nat} {a0 : Nat} {i1 : Int32} {i2 : Int32} {res : Int64 × mM} (hf : m_X12_turned N a0 i1 i2 M = some res) : CT L0 yX12_turned prog_14_method_39_code 3 (some .long) 2 61 0 0 [.ref a0, .int i1, .int i2] M (some (.long res.1)) res.2 := by
  refine CT.of (by decide +kernel) (Nat.le_of_ble_eq_true rfl) fun X C E => ?_
  have C : CX X RX12 "turned" prog_14_method_39_code 3 (some .long) := C
  show EV X 3 0 [(0, .ref a0), (1, .int i1), (2, .int i2)] [] 0 0 M
  unfold m_X12_turned at hf
  refine ev_iload_n C dX12_turned_0 rfl (q := 1) rfl ?_
  obtain ⟨x1, e2, hf⟩ := obnd hf
  refine ev_callS0 (As := [.int i1]) (st := []) C (t_X12_isStage e2) hd_X12_isStage rfl kw_1289 kw_1290 kw_87 kw_1291 (mRoom.of E (Nat.le_of_ble_eq_true rfl) (Nat.le_of_ble_eq_true rfl) (Nat.le_refl 0) (Nat.le_refl 0)) (Nat.le_of_ble_eq_true rfl) dX12_turned_1 ?_
  refine ev_if_eq (tgt := 14) C dX12_turned_4 (by decide) (fun hc => ?_) (fun hc => ?_)
  · have hf := oit hf hc
    refine ev_ldc2 (v := (-9223372036854775808)) C dX12_turned_14 kw_1308 ?_
    obtain rfl := Option.some.inj hf
    exact ev_lret C E (Nat.le_refl 0) (Nat.le_refl 0) dX12_turned_17
  · have hf := oie hf hc
    refine ev_iload_n C dX12_turned_7 rfl (q := 2) rfl ?_
    obtain ⟨x3, e4, hf⟩ := obnd hf
    refine ev_callS0 (As := [.int i2]) (st := []) C (t_X12_isBooked e4) hd_X12_isBooked rfl kw_1410 kw_1411 kw_87 kw_1412 (mRoom.of E (Nat.le_of_ble_eq_true rfl) (Nat.le_of_ble_eq_true rfl) (Nat.le_refl 0) (Nat.le_refl 0)) (Nat.le_of_ble_eq_true rfl) dX12_turned_8 ?_
    refine ev_if_ne (tgt := 18) C dX12_turned_11 (by decide) (fun hc => ?_) (fun hc => ?_)
    · have hf := oie hf hc
      refine ev_aload_n C dX12_turned_18 rfl (q := 0) rfl ?_
      refine ev_iload_n C dX12_turned_19 rfl (q := 1) rfl ?_
      refine ev_iload_n C dX12_turned_20 rfl (q := 2) rfl ?_
      obtain ⟨_, e5, hf⟩ := obnd hf
      obtain ⟨fs6, e5⟩ := oO_eq e5
      obtain ⟨x7, e8, hf⟩ := obnd hf
      refine ev_callV0 (As := [.int i1, .int i2]) (st := []) C rfl e5 (t_X12_chances e8) rfl hd_X12_chances rfl kw_1414 kw_1416 kw_87 kw_34 kw_1417 (mRoom.of E (Nat.le_of_ble_eq_true rfl) (Nat.le_of_ble_eq_true rfl) (Nat.le_refl 0) (Nat.le_refl 0)) (Nat.le_of_ble_eq_true rfl) dX12_turned_21 ?_
      refine ev_aload_n C dX12_turned_24 rfl (q := 0) rfl ?_
      refine ev_iload_n C dX12_turned_25 rfl (q := 2) rfl ?_
      obtain ⟨_, e9, hf⟩ := obnd hf
      obtain ⟨fs10, e9⟩ := oO_eq e9
      obtain ⟨x11, e12, hf⟩ := obnd hf
      refine ev_callV0 (As := [.int i2]) (st := []) C rfl e9 (t_X12_turnedOf e12) rfl hd_X12_turnedOf rfl kw_1422 kw_1424 kw_87 kw_35 kw_1425 (mRoom.of E (Nat.le_of_ble_eq_true rfl) (Nat.le_of_ble_eq_true rfl) (Nat.le_refl 0) (Nat.le_refl 0)) (Nat.le_of_ble_eq_true rfl) dX12_turned_26 ?_
      obtain ⟨x13, e14, hf⟩ := obnd hf
      refine ev_callS0 (As := [.double x11]) (st := []) C (t_Jxe99ae_doubleToLongBits_ccdee e14) hd_Jxe99ae_doubleToLongBits_ccdee rfl kw_1298 kw_1299 kw_89 kw_1300 (mRoom.of E (Nat.le_of_ble_eq_true rfl) (Nat.le_of_ble_eq_true rfl) (Nat.le_refl 0) (Nat.le_refl 0)) (Nat.le_of_ble_eq_true rfl) dX12_turned_29 ?_
      obtain rfl := Option.some.inj hf
      exact ev_lret C E (Nat.le_refl 0) (Nat.le_refl 0) dX12_turned_32
    · have hf := oit hf hc
      refine ev_ldc2 (v := (-9223372036854775808)) C dX12_turned_14 kw_1308 ?_
      obtain rfl := Option.some.inj hf
      exact ev_lret C E (Nat.le_refl 0) (Nat.le_refl 0) dX12_turned_17
/-! FareLimitsModel had(III)J -/
theorem dX12_had_0 : decode prog_14_method_40_code 0 = .ok (.aload_n 0, 1) := by decide +kernel
theorem dX12_had_1 : decode prog_14_method_40_code 1 = .ok (.iload_n 1, 1) := by decide +kernel
theorem dX12_had_2 : decode prog_14_method_40_code 2 = .ok (.invokevirtual 82, 3) := by decide +kernel
theorem dX12_had_5 : decode prog_14_method_40_code 5 = .ok (.ifCond .eq 17, 3) := by decide +kernel
theorem dX12_had_8 : decode prog_14_method_40_code 8 = .ok (.iload_n 2, 1) := by decide +kernel
theorem dX12_had_9 : decode prog_14_method_40_code 9 = .ok (.invokestatic 111, 3) := by decide +kernel
theorem dX12_had_12 : decode prog_14_method_40_code 12 = .ok (.ifCond .eq 10, 3) := by decide +kernel
theorem dX12_had_15 : decode prog_14_method_40_code 15 = .ok (.iload_n 3, 1) := by decide +kernel
theorem dX12_had_16 : decode prog_14_method_40_code 16 = .ok (.invokestatic 183, 3) := by decide +kernel
theorem dX12_had_19 : decode prog_14_method_40_code 19 = .ok (.ifCond .ne 7, 3) := by decide +kernel
theorem dX12_had_22 : decode prog_14_method_40_code 22 = .ok (.ldc2_w 120, 3) := by decide +kernel
theorem dX12_had_25 : decode prog_14_method_40_code 25 = .ok (.lreturn, 1) := by decide +kernel
theorem dX12_had_26 : decode prog_14_method_40_code 26 = .ok (.aload_n 0, 1) := by decide +kernel
theorem dX12_had_27 : decode prog_14_method_40_code 27 = .ok (.iload_n 2, 1) := by decide +kernel
theorem dX12_had_28 : decode prog_14_method_40_code 28 = .ok (.iload_n 3, 1) := by decide +kernel
theorem dX12_had_29 : decode prog_14_method_40_code 29 = .ok (.invokevirtual 186, 3) := by decide +kernel
theorem dX12_had_32 : decode prog_14_method_40_code 32 = .ok (.aload_n 0, 1) := by decide +kernel
theorem dX12_had_33 : decode prog_14_method_40_code 33 = .ok (.iload_n 1, 1) := by decide +kernel
theorem dX12_had_34 : decode prog_14_method_40_code 34 = .ok (.iload_n 3, 1) := by decide +kernel
theorem dX12_had_35 : decode prog_14_method_40_code 35 = .ok (.invokevirtual 192, 3) := by decide +kernel
theorem dX12_had_38 : decode prog_14_method_40_code 38 = .ok (.invokestatic 114, 3) := by decide +kernel
theorem dX12_had_41 : decode prog_14_method_40_code 41 = .ok (.lreturn, 1) := by decide +kernel
def m_X12_had (N : Nat) (a0 : Nat) (i1 : Int32) (i2 : Int32) (i3 : Int32) (M : mM) : Option (Int64 × mM) :=
  (oO M a0 12).bind fun _ =>
  (m_X12_isFare a0 i1 M).bind fun x3 =>
  if x3 = 0 then (
    some ((-9223372036854775808), M)) else (
    (m_X12_isStage i2).bind fun x5 =>
    if x5 = 0 then (
      some ((-9223372036854775808), M)) else (
      (m_X12_isBooked i3).bind fun x7 =>
      if x7 = 0 then (
        some ((-9223372036854775808), M)) else (
        (oO M a0 12).bind fun _ =>
        (m_X12_chances N a0 i2 i3 M).bind fun x11 =>
        (oO x11 a0 12).bind fun _ =>
        (m_X12_hadOf N a0 i1 i3 x11).bind fun x15 =>
        (m_Jxe99ae_doubleToLongBits_ccdee x15).bind fun x17 =>
        some (x17, x11))))
set_option maxHeartbeats 4000000 in
set_option maxRecDepth 100000 in
theorem t_X12_had {L0 : Launch} {M : mM} {N : Nat} {a0 : Nat} {i1 : Int32} {i2 : Int32} {i3 : Int32} {res : Int64 × mM} (hf : m_X12_had N a0 i1 i2 i3 M = some res) : CT L0 yX12_had prog_14_method_40_code 4 (some .long) 2 61 0 0 [.ref a0, .int i1, .int i2, .int i3] M (some (.long res.1)) res.2 := by
  refine CT.of (by decide +kernel) (Nat.le_of_ble_eq_true rfl) fun X C E => ?_
  have C : CX X RX12 "had" prog_14_method_40_code 4 (some .long) := C
  show EV X 4 0 [(0, .ref a0), (1, .int i1), (2, .int i2), (3, .int i3)] [] 0 0 M
  unfold m_X12_had at hf
  refine ev_aload_n C dX12_had_0 rfl (q := 0) rfl ?_
  refine ev_iload_n C dX12_had_1 rfl (q := 1) rfl ?_
  obtain ⟨_, e1, hf⟩ := obnd hf
  obtain ⟨fs2, e1⟩ := oO_eq e1
  obtain ⟨x3, e4, hf⟩ := obnd hf
  refine ev_callV0 (As := [.int i1]) (st := []) C rfl e1 (t_X12_isFare e4) rfl hd_X12_isFare rfl kw_1261 kw_1263 kw_87 kw_20 kw_1264 (mRoom.of E (Nat.le_of_ble_eq_true rfl) (Nat.le_of_ble_eq_true rfl) (Nat.le_refl 0) (Nat.le_refl 0)) (Nat.le_of_ble_eq_true rfl) dX12_had_2 ?_
  refine ev_if_eq (tgt := 22) C dX12_had_5 (by decide) (fun hc => ?_) (fun hc => ?_)
  · have hf := oit hf hc
    refine ev_ldc2 (v := (-9223372036854775808)) C dX12_had_22 kw_1308 ?_
    obtain rfl := Option.some.inj hf
    exact ev_lret C E (Nat.le_refl 0) (Nat.le_refl 0) dX12_had_25
  · have hf := oie hf hc
    refine ev_iload_n C dX12_had_8 rfl (q := 2) rfl ?_
    obtain ⟨x5, e6, hf⟩ := obnd hf
    refine ev_callS0 (As := [.int i2]) (st := []) C (t_X12_isStage e6) hd_X12_isStage rfl kw_1289 kw_1290 kw_87 kw_1291 (mRoom.of E (Nat.le_of_ble_eq_true rfl) (Nat.le_of_ble_eq_true rfl) (Nat.le_refl 0) (Nat.le_refl 0)) (Nat.le_of_ble_eq_true rfl) dX12_had_9 ?_
    refine ev_if_eq (tgt := 22) C dX12_had_12 (by decide) (fun hc => ?_) (fun hc => ?_)
    · have hf := oit hf hc
      refine ev_ldc2 (v := (-9223372036854775808)) C dX12_had_22 kw_1308 ?_
      obtain rfl := Option.some.inj hf
      exact ev_lret C E (Nat.le_refl 0) (Nat.le_refl 0) dX12_had_25
    · have hf := oie hf hc
      refine ev_iload_n C dX12_had_15 rfl (q := 3) rfl ?_
      obtain ⟨x7, e8, hf⟩ := obnd hf
      refine ev_callS0 (As := [.int i3]) (st := []) C (t_X12_isBooked e8) hd_X12_isBooked rfl kw_1410 kw_1411 kw_87 kw_1412 (mRoom.of E (Nat.le_of_ble_eq_true rfl) (Nat.le_of_ble_eq_true rfl) (Nat.le_refl 0) (Nat.le_refl 0)) (Nat.le_of_ble_eq_true rfl) dX12_had_16 ?_
      refine ev_if_ne (tgt := 26) C dX12_had_19 (by decide) (fun hc => ?_) (fun hc => ?_)
      · have hf := oie hf hc
        refine ev_aload_n C dX12_had_26 rfl (q := 0) rfl ?_
        refine ev_iload_n C dX12_had_27 rfl (q := 2) rfl ?_
        refine ev_iload_n C dX12_had_28 rfl (q := 3) rfl ?_
        obtain ⟨_, e9, hf⟩ := obnd hf
        obtain ⟨fs10, e9⟩ := oO_eq e9
        obtain ⟨x11, e12, hf⟩ := obnd hf
        refine ev_callV0 (As := [.int i2, .int i3]) (st := []) C rfl e9 (t_X12_chances e12) rfl hd_X12_chances rfl kw_1414 kw_1416 kw_87 kw_34 kw_1417 (mRoom.of E (Nat.le_of_ble_eq_true rfl) (Nat.le_of_ble_eq_true rfl) (Nat.le_refl 0) (Nat.le_refl 0)) (Nat.le_of_ble_eq_true rfl) dX12_had_29 ?_
        refine ev_aload_n C dX12_had_32 rfl (q := 0) rfl ?_
        refine ev_iload_n C dX12_had_33 rfl (q := 1) rfl ?_
        refine ev_iload_n C dX12_had_34 rfl (q := 3) rfl ?_
        obtain ⟨_, e13, hf⟩ := obnd hf
        obtain ⟨fs14, e13⟩ := oO_eq e13
        obtain ⟨x15, e16, hf⟩ := obnd hf
        refine ev_callV0 (As := [.int i1, .int i3]) (st := []) C rfl e13 (t_X12_hadOf e16) rfl hd_X12_hadOf rfl kw_1430 kw_1432 kw_87 kw_36 kw_1433 (mRoom.of E (Nat.le_of_ble_eq_true rfl) (Nat.le_of_ble_eq_true rfl) (Nat.le_refl 0) (Nat.le_refl 0)) (Nat.le_of_ble_eq_true rfl) dX12_had_35 ?_
        obtain ⟨x17, e18, hf⟩ := obnd hf
        refine ev_callS0 (As := [.double x15]) (st := []) C (t_Jxe99ae_doubleToLongBits_ccdee e18) hd_Jxe99ae_doubleToLongBits_ccdee rfl kw_1298 kw_1299 kw_89 kw_1300 (mRoom.of E (Nat.le_of_ble_eq_true rfl) (Nat.le_of_ble_eq_true rfl) (Nat.le_refl 0) (Nat.le_refl 0)) (Nat.le_of_ble_eq_true rfl) dX12_had_38 ?_
        obtain rfl := Option.some.inj hf
        exact ev_lret C E (Nat.le_refl 0) (Nat.le_refl 0) dX12_had_41
      · have hf := oit hf hc
        refine ev_ldc2 (v := (-9223372036854775808)) C dX12_had_22 kw_1308 ?_
        obtain rfl := Option.some.inj hf
        exact ev_lret C E (Nat.le_refl 0) (Nat.le_refl 0) dX12_had_25
/-! FareLimitsModel booked(II)I -/
theorem dX12_booked_0 : decode prog_14_method_41_code 0 = .ok (.aload_n 0, 1) := by decide +kernel
theorem dX12_booked_1 : decode prog_14_method_41_code 1 = .ok (.iload_n 1, 1) := by decide +kernel
theorem dX12_booked_2 : decode prog_14_method_41_code 2 = .ok (.invokevirtual 82, 3) := by decide +kernel
theorem dX12_booked_5 : decode prog_14_method_41_code 5 = .ok (.ifCond .eq 10, 3) := by decide +kernel
theorem dX12_booked_8 : decode prog_14_method_41_code 8 = .ok (.iload_n 2, 1) := by decide +kernel
theorem dX12_booked_9 : decode prog_14_method_41_code 9 = .ok (.invokestatic 111, 3) := by decide +kernel
theorem dX12_booked_12 : decode prog_14_method_41_code 12 = .ok (.ifCond .ne 5, 3) := by decide +kernel
theorem dX12_booked_15 : decode prog_14_method_41_code 15 = .ok (.iconst (-1), 1) := by decide +kernel
theorem dX12_booked_16 : decode prog_14_method_41_code 16 = .ok (.ireturn, 1) := by decide +kernel
theorem dX12_booked_17 : decode prog_14_method_41_code 17 = .ok (.iconst 0, 1) := by decide +kernel
theorem dX12_booked_18 : decode prog_14_method_41_code 18 = .ok (.istore_n 3, 1) := by decide +kernel
theorem dX12_booked_19 : decode prog_14_method_41_code 19 = .ok (.dconst 0, 1) := by decide +kernel
theorem dX12_booked_20 : decode prog_14_method_41_code 20 = .ok (.dstore 4, 2) := by decide +kernel
theorem dX12_booked_22 : decode prog_14_method_41_code 22 = .ok (.iconst 0, 1) := by decide +kernel
theorem dX12_booked_23 : decode prog_14_method_41_code 23 = .ok (.istore 6, 2) := by decide +kernel
theorem dX12_booked_25 : decode prog_14_method_41_code 25 = .ok (.iload 6, 2) := by decide +kernel
theorem dX12_booked_27 : decode prog_14_method_41_code 27 = .ok (.bipush 40, 2) := by decide +kernel
theorem dX12_booked_29 : decode prog_14_method_41_code 29 = .ok (.if_icmp .gt 48, 3) := by decide +kernel
theorem dX12_booked_32 : decode prog_14_method_41_code 32 = .ok (.aload_n 0, 1) := by decide +kernel
theorem dX12_booked_33 : decode prog_14_method_41_code 33 = .ok (.iload_n 2, 1) := by decide +kernel
theorem dX12_booked_34 : decode prog_14_method_41_code 34 = .ok (.iload 6, 2) := by decide +kernel
theorem dX12_booked_36 : decode prog_14_method_41_code 36 = .ok (.invokevirtual 186, 3) := by decide +kernel
theorem dX12_booked_39 : decode prog_14_method_41_code 39 = .ok (.aload_n 0, 1) := by decide +kernel
theorem dX12_booked_40 : decode prog_14_method_41_code 40 = .ok (.iload_n 1, 1) := by decide +kernel
theorem dX12_booked_41 : decode prog_14_method_41_code 41 = .ok (.iload 6, 2) := by decide +kernel
theorem dX12_booked_43 : decode prog_14_method_41_code 43 = .ok (.invokevirtual 192, 3) := by decide +kernel
theorem dX12_booked_46 : decode prog_14_method_41_code 46 = .ok (.dstore 7, 2) := by decide +kernel
theorem dX12_booked_48 : decode prog_14_method_41_code 48 = .ok (.iload 6, 2) := by decide +kernel
theorem dX12_booked_50 : decode prog_14_method_41_code 50 = .ok (.ifCond .le 14, 3) := by decide +kernel
theorem dX12_booked_53 : decode prog_14_method_41_code 53 = .ok (.dload 7, 2) := by decide +kernel
theorem dX12_booked_55 : decode prog_14_method_41_code 55 = .ok (.dload 4, 2) := by decide +kernel
theorem dX12_booked_57 : decode prog_14_method_41_code 57 = .ok (.dcmp .g, 1) := by decide +kernel
theorem dX12_booked_58 : decode prog_14_method_41_code 58 = .ok (.ifCond .gt 6, 3) := by decide +kernel
theorem dX12_booked_61 : decode prog_14_method_41_code 61 = .ok (.goto 10, 3) := by decide +kernel
theorem dX12_booked_64 : decode prog_14_method_41_code 64 = .ok (.iload 6, 2) := by decide +kernel
theorem dX12_booked_66 : decode prog_14_method_41_code 66 = .ok (.istore_n 3, 1) := by decide +kernel
theorem dX12_booked_67 : decode prog_14_method_41_code 67 = .ok (.dload 7, 2) := by decide +kernel
theorem dX12_booked_69 : decode prog_14_method_41_code 69 = .ok (.dstore 4, 2) := by decide +kernel
theorem dX12_booked_71 : decode prog_14_method_41_code 71 = .ok (.iinc 6 1, 3) := by decide +kernel
theorem dX12_booked_74 : decode prog_14_method_41_code 74 = .ok (.goto (-49), 3) := by decide +kernel
theorem dX12_booked_77 : decode prog_14_method_41_code 77 = .ok (.iload_n 3, 1) := by decide +kernel
theorem dX12_booked_78 : decode prog_14_method_41_code 78 = .ok (.ireturn, 1) := by decide +kernel
def m_X12_booked_J71 (N : Nat) (k25 : Nat → Int32 → Int32 → Int32 → UInt64 → Int32 → mM → Option (Int32 × mM)) (a0 : Nat) (i1 : Int32) (i2 : Int32) (i3 : Int32) (d4 : UInt64) (i6 : Int32) (M : mM) : Option (Int32 × mM) :=
  k25 a0 i1 i2 i3 d4 (i6 + 1) M
set_option maxHeartbeats 4000000 in
set_option maxRecDepth 100000 in
theorem t_X12_booked_J71 {X : mX} {L0 : Launch} {res : Int32 × mM} {N : Nat} (C : CX X RX12 "booked" prog_14_method_41_code 9 (some .int)) (E : EX X L0 2 52 0 0 (some (.int res.1)) res.2) (k25 : Nat → Int32 → Int32 → Int32 → UInt64 → Int32 → mM → Option (Int32 × mM)) (Hk25 : ∀ (a0 : Nat) (i1 : Int32) (i2 : Int32) (i3 : Int32) (d4 : UInt64) (i6 : Int32) (M : mM), k25 a0 i1 i2 i3 d4 i6 M = some res → EV X 9 25 [(0, .ref a0), (1, .int i1), (2, .int i2), (3, .int i3), (4, .double d4), (6, .int i6)] [] 0 0 M) (a0 : Nat) (i1 : Int32) (i2 : Int32) (i3 : Int32) (d4 : UInt64) (i6 : Int32) (M : mM) (hf : m_X12_booked_J71 N k25 a0 i1 i2 i3 d4 i6 M = some res) : EV X 9 71 [(0, .ref a0), (1, .int i1), (2, .int i2), (3, .int i3), (4, .double d4), (6, .int i6)] [] 0 0 M := by
  unfold m_X12_booked_J71 at hf
  refine ev_iinc (v := i6 + 1) (l' := [(6, .int (i6 + 1)), (0, .ref a0), (1, .int i1), (2, .int i2), (3, .int i3), (4, .double d4)]) C dX12_booked_71 (q := 5) rfl rfl (by decide) rfl ?_
  refine ev_goto (tgt := 25) C dX12_booked_74 (by decide) ?_
  refine ev_sub [1, 2, 3, 4, 5, 0] rfl ?_
  exact Hk25 a0 i1 i2 i3 d4 (i6 + 1) M hf
def m_X12_booked_J64 (N : Nat) (k25 : Nat → Int32 → Int32 → Int32 → UInt64 → Int32 → mM → Option (Int32 × mM)) (a0 : Nat) (i1 : Int32) (i2 : Int32) (i6 : Int32) (d7 : UInt64) (M : mM) : Option (Int32 × mM) :=
  m_X12_booked_J71 N k25 a0 i1 i2 i6 d7 i6 M
set_option maxHeartbeats 4000000 in
set_option maxRecDepth 100000 in
theorem t_X12_booked_J64 {X : mX} {L0 : Launch} {res : Int32 × mM} {N : Nat} (C : CX X RX12 "booked" prog_14_method_41_code 9 (some .int)) (E : EX X L0 2 52 0 0 (some (.int res.1)) res.2) (k25 : Nat → Int32 → Int32 → Int32 → UInt64 → Int32 → mM → Option (Int32 × mM)) (Hk25 : ∀ (a0 : Nat) (i1 : Int32) (i2 : Int32) (i3 : Int32) (d4 : UInt64) (i6 : Int32) (M : mM), k25 a0 i1 i2 i3 d4 i6 M = some res → EV X 9 25 [(0, .ref a0), (1, .int i1), (2, .int i2), (3, .int i3), (4, .double d4), (6, .int i6)] [] 0 0 M) (a0 : Nat) (i1 : Int32) (i2 : Int32) (i6 : Int32) (d7 : UInt64) (M : mM) (hf : m_X12_booked_J64 N k25 a0 i1 i2 i6 d7 M = some res) : EV X 9 64 [(0, .ref a0), (1, .int i1), (2, .int i2), (6, .int i6), (7, .double d7)] [] 0 0 M := by
  unfold m_X12_booked_J64 at hf
  refine ev_iload C dX12_booked_64 (q := 3) rfl ?_
  refine ev_istore_n (l' := [(3, .int i6), (0, .ref a0), (1, .int i1), (2, .int i2), (6, .int i6), (7, .double d7)]) C dX12_booked_66 rfl (by decide) rfl ?_
  refine ev_dload C dX12_booked_67 (q := 5) rfl ?_
  refine ev_dstore (l' := [(4, .double d7), (3, .int i6), (0, .ref a0), (1, .int i1), (2, .int i2), (6, .int i6), (7, .double d7)]) C dX12_booked_69 (by decide) rfl ?_
  refine ev_sub [2, 3, 4, 1, 0, 5] rfl ?_
  exact t_X12_booked_J71 C E k25 Hk25 a0 i1 i2 i6 d7 i6 M hf
def m_X12_booked_L25 (N : Nat)  : Nat → Nat → Int32 → Int32 → Int32 → UInt64 → Int32 → mM → Option (Int32 × mM)
  | 0, _, _, _, _, _, _, _ => none
  | n + 1, a0, i1, i2, i3, d4, i6, M =>
    if 40 < i6 then (
      some (i3, M)) else (
      (oO M a0 12).bind fun _ =>
      (m_X12_chances N a0 i2 i6 M).bind fun x3 =>
      (oO x3 a0 12).bind fun _ =>
      (m_X12_hadOf N a0 i1 i6 x3).bind fun x7 =>
      if i6 ≤ 0 then (
        m_X12_booked_J64 N (m_X12_booked_L25 N  n) a0 i1 i2 i6 x7 x3) else (
        if 0 < (Op.cmpValue (FP.dcmp x7 d4) CmpOp.g) then (
          m_X12_booked_J64 N (m_X12_booked_L25 N  n) a0 i1 i2 i6 x7 x3) else (
          m_X12_booked_J71 N (m_X12_booked_L25 N  n) a0 i1 i2 i3 d4 i6 x3)))
set_option maxHeartbeats 4000000 in
set_option maxRecDepth 100000 in
theorem t_X12_booked_L25 {X : mX} {L0 : Launch} {res : Int32 × mM} {N : Nat} (C : CX X RX12 "booked" prog_14_method_41_code 9 (some .int)) (E : EX X L0 2 52 0 0 (some (.int res.1)) res.2)   : ∀ (n : Nat) (a0 : Nat) (i1 : Int32) (i2 : Int32) (i3 : Int32) (d4 : UInt64) (i6 : Int32) (M : mM), m_X12_booked_L25 N  n a0 i1 i2 i3 d4 i6 M = some res → EV X 9 25 [(0, .ref a0), (1, .int i1), (2, .int i2), (3, .int i3), (4, .double d4), (6, .int i6)] [] 0 0 M := by
  intro n
  induction n with
  | zero => intro a0 i1 i2 i3 d4 i6 M hf; cases (show (none : Option (Int32 × mM)) = some res from hf)
  | succ n ih =>
    intro a0 i1 i2 i3 d4 i6 M hf
    rw [m_X12_booked_L25] at hf
    refine ev_iload C dX12_booked_25 (q := 5) rfl ?_
    refine ev_bipush (v := 40) C dX12_booked_27 (by decide) ?_
    refine ev_icmp_gt (tgt := 77) C dX12_booked_29 (by decide) (fun hc => ?_) (fun hc => ?_)
    · have hf := oit hf hc
      refine ev_iload_n C dX12_booked_77 rfl (q := 3) rfl ?_
      obtain rfl := Option.some.inj hf
      exact ev_iret C E (Nat.le_refl 0) (Nat.le_refl 0) dX12_booked_78
    · have hf := oie hf hc
      refine ev_aload_n C dX12_booked_32 rfl (q := 0) rfl ?_
      refine ev_iload_n C dX12_booked_33 rfl (q := 2) rfl ?_
      refine ev_iload C dX12_booked_34 (q := 5) rfl ?_
      obtain ⟨_, e1, hf⟩ := obnd hf
      obtain ⟨fs2, e1⟩ := oO_eq e1
      obtain ⟨x3, e4, hf⟩ := obnd hf
      refine ev_callV0 (As := [.int i2, .int i6]) (st := []) C rfl e1 (t_X12_chances e4) rfl hd_X12_chances rfl kw_1414 kw_1416 kw_87 kw_34 kw_1417 (mRoom.of E (Nat.le_of_ble_eq_true rfl) (Nat.le_of_ble_eq_true rfl) (Nat.le_refl 0) (Nat.le_refl 0)) (Nat.le_of_ble_eq_true rfl) dX12_booked_36 ?_
      refine ev_aload_n C dX12_booked_39 rfl (q := 0) rfl ?_
      refine ev_iload_n C dX12_booked_40 rfl (q := 1) rfl ?_
      refine ev_iload C dX12_booked_41 (q := 5) rfl ?_
      obtain ⟨_, e5, hf⟩ := obnd hf
      obtain ⟨fs6, e5⟩ := oO_eq e5
      obtain ⟨x7, e8, hf⟩ := obnd hf
      refine ev_callV0 (As := [.int i1, .int i6]) (st := []) C rfl e5 (t_X12_hadOf e8) rfl hd_X12_hadOf rfl kw_1430 kw_1432 kw_87 kw_36 kw_1433 (mRoom.of E (Nat.le_of_ble_eq_true rfl) (Nat.le_of_ble_eq_true rfl) (Nat.le_refl 0) (Nat.le_refl 0)) (Nat.le_of_ble_eq_true rfl) dX12_booked_43 ?_
      refine ev_dstore (l' := [(7, .double x7), (0, .ref a0), (1, .int i1), (2, .int i2), (3, .int i3), (4, .double d4), (6, .int i6)]) C dX12_booked_46 (by decide) rfl ?_
      refine ev_iload C dX12_booked_48 (q := 6) rfl ?_
      refine ev_if_le (tgt := 64) C dX12_booked_50 (by decide) (fun hc => ?_) (fun hc => ?_)
      · have hf := oit hf hc
        refine ev_sub [1, 2, 3, 6, 0] rfl ?_
        exact t_X12_booked_J64 C E (m_X12_booked_L25 N  n) ih a0 i1 i2 i6 x7 x3 hf
      · have hf := oie hf hc
        refine ev_dload C dX12_booked_53 (q := 0) rfl ?_
        refine ev_dload C dX12_booked_55 (q := 5) rfl ?_
        refine ev_dcmp C dX12_booked_57 ?_
        refine ev_if_gt (tgt := 64) C dX12_booked_58 (by decide) (fun hc => ?_) (fun hc => ?_)
        · have hf := oit hf hc
          refine ev_sub [1, 2, 3, 6, 0] rfl ?_
          exact t_X12_booked_J64 C E (m_X12_booked_L25 N  n) ih a0 i1 i2 i6 x7 x3 hf
        · have hf := oie hf hc
          refine ev_goto (tgt := 71) C dX12_booked_61 (by decide) ?_
          refine ev_sub [1, 2, 3, 4, 5, 6] rfl ?_
          exact t_X12_booked_J71 C E (m_X12_booked_L25 N  n) ih a0 i1 i2 i3 d4 i6 x3 hf
def m_X12_booked (N : Nat) (a0 : Nat) (i1 : Int32) (i2 : Int32) (M : mM) : Option (Int32 × mM) :=
  (oO M a0 12).bind fun _ =>
  (m_X12_isFare a0 i1 M).bind fun x3 =>
  if x3 = 0 then (
    some ((-1), M)) else (
    (m_X12_isStage i2).bind fun x5 =>
    if x5 = 0 then (
      some ((-1), M)) else (
      m_X12_booked_L25 N  N a0 i1 i2 0 FP.dconst0 0 M))
set_option maxHeartbeats 4000000 in
set_option maxRecDepth 100000 in
theorem t_X12_booked {L0 : Launch} {M : mM} {N : Nat} {a0 : Nat} {i1 : Int32} {i2 : Int32} {res : Int32 × mM} (hf : m_X12_booked N a0 i1 i2 M = some res) : CT L0 yX12_booked prog_14_method_41_code 9 (some .int) 2 52 0 0 [.ref a0, .int i1, .int i2] M (some (.int res.1)) res.2 := by
  refine CT.of (by decide +kernel) (Nat.le_of_ble_eq_true rfl) fun X C E => ?_
  have C : CX X RX12 "booked" prog_14_method_41_code 9 (some .int) := C
  show EV X 9 0 [(0, .ref a0), (1, .int i1), (2, .int i2)] [] 0 0 M
  unfold m_X12_booked at hf
  refine ev_aload_n C dX12_booked_0 rfl (q := 0) rfl ?_
  refine ev_iload_n C dX12_booked_1 rfl (q := 1) rfl ?_
  obtain ⟨_, e1, hf⟩ := obnd hf
  obtain ⟨fs2, e1⟩ := oO_eq e1
  obtain ⟨x3, e4, hf⟩ := obnd hf
  refine ev_callV0 (As := [.int i1]) (st := []) C rfl e1 (t_X12_isFare e4) rfl hd_X12_isFare rfl kw_1261 kw_1263 kw_87 kw_20 kw_1264 (mRoom.of E (Nat.le_of_ble_eq_true rfl) (Nat.le_of_ble_eq_true rfl) (Nat.le_refl 0) (Nat.le_refl 0)) (Nat.le_of_ble_eq_true rfl) dX12_booked_2 ?_
  refine ev_if_eq (tgt := 15) C dX12_booked_5 (by decide) (fun hc => ?_) (fun hc => ?_)
  · have hf := oit hf hc
    refine ev_iconst (v := (-1)) C dX12_booked_15 (by decide) ?_
    obtain rfl := Option.some.inj hf
    exact ev_iret C E (Nat.le_refl 0) (Nat.le_refl 0) dX12_booked_16
  · have hf := oie hf hc
    refine ev_iload_n C dX12_booked_8 rfl (q := 2) rfl ?_
    obtain ⟨x5, e6, hf⟩ := obnd hf
    refine ev_callS0 (As := [.int i2]) (st := []) C (t_X12_isStage e6) hd_X12_isStage rfl kw_1289 kw_1290 kw_87 kw_1291 (mRoom.of E (Nat.le_of_ble_eq_true rfl) (Nat.le_of_ble_eq_true rfl) (Nat.le_refl 0) (Nat.le_refl 0)) (Nat.le_of_ble_eq_true rfl) dX12_booked_9 ?_
    refine ev_if_ne (tgt := 17) C dX12_booked_12 (by decide) (fun hc => ?_) (fun hc => ?_)
    · have hf := oie hf hc
      refine ev_iconst (v := 0) C dX12_booked_17 (by decide) ?_
      refine ev_istore_n (l' := [(3, .int 0), (0, .ref a0), (1, .int i1), (2, .int i2)]) C dX12_booked_18 rfl (by decide) rfl ?_
      refine ev_dconst0 C dX12_booked_19 ?_
      refine ev_dstore (l' := [(4, .double FP.dconst0), (3, .int 0), (0, .ref a0), (1, .int i1), (2, .int i2)]) C dX12_booked_20 (by decide) rfl ?_
      refine ev_iconst (v := 0) C dX12_booked_22 (by decide) ?_
      refine ev_istore (l' := [(6, .int 0), (4, .double FP.dconst0), (3, .int 0), (0, .ref a0), (1, .int i1), (2, .int i2)]) C dX12_booked_23 (by decide) rfl ?_
      refine ev_sub [3, 4, 5, 2, 1, 0] rfl ?_
      exact t_X12_booked_L25 C E   N a0 i1 i2 0 FP.dconst0 0 M hf
    · have hf := oit hf hc
      refine ev_iconst (v := (-1)) C dX12_booked_15 (by decide) ?_
      obtain rfl := Option.some.inj hf
      exact ev_iret C E (Nat.le_refl 0) (Nat.le_refl 0) dX12_booked_16
/-! FareLimitsModel setsOf(II)J -/
theorem dX12_setsOf_0 : decode prog_14_method_42_code 0 = .ok (.iconst 0, 1) := by decide +kernel
theorem dX12_setsOf_1 : decode prog_14_method_42_code 1 = .ok (.istore_n 3, 1) := by decide +kernel
theorem dX12_setsOf_2 : decode prog_14_method_42_code 2 = .ok (.iload_n 3, 1) := by decide +kernel
theorem dX12_setsOf_3 : decode prog_14_method_42_code 3 = .ok (.iload_n 1, 1) := by decide +kernel
theorem dX12_setsOf_4 : decode prog_14_method_42_code 4 = .ok (.if_icmp .gt 24, 3) := by decide +kernel
theorem dX12_setsOf_7 : decode prog_14_method_42_code 7 = .ok (.aload_n 0, 1) := by decide +kernel
theorem dX12_setsOf_8 : decode prog_14_method_42_code 8 = .ok (.getfield 57, 3) := by decide +kernel
theorem dX12_setsOf_11 : decode prog_14_method_42_code 11 = .ok (.iload_n 3, 1) := by decide +kernel
theorem dX12_setsOf_12 : decode prog_14_method_42_code 12 = .ok (.iload_n 3, 1) := by decide +kernel
theorem dX12_setsOf_13 : decode prog_14_method_42_code 13 = .ok (.ifCond .ne 7, 3) := by decide +kernel
theorem dX12_setsOf_16 : decode prog_14_method_42_code 16 = .ok (.lconst 1, 1) := by decide +kernel
theorem dX12_setsOf_17 : decode prog_14_method_42_code 17 = .ok (.goto 4, 3) := by decide +kernel
theorem dX12_setsOf_20 : decode prog_14_method_42_code 20 = .ok (.lconst 0, 1) := by decide +kernel
theorem dX12_setsOf_21 : decode prog_14_method_42_code 21 = .ok (.lastore, 1) := by decide +kernel
theorem dX12_setsOf_22 : decode prog_14_method_42_code 22 = .ok (.iinc 3 1, 3) := by decide +kernel
theorem dX12_setsOf_25 : decode prog_14_method_42_code 25 = .ok (.goto (-23), 3) := by decide +kernel
theorem dX12_setsOf_28 : decode prog_14_method_42_code 28 = .ok (.iconst 1, 1) := by decide +kernel
theorem dX12_setsOf_29 : decode prog_14_method_42_code 29 = .ok (.istore_n 3, 1) := by decide +kernel
theorem dX12_setsOf_30 : decode prog_14_method_42_code 30 = .ok (.iload_n 3, 1) := by decide +kernel
theorem dX12_setsOf_31 : decode prog_14_method_42_code 31 = .ok (.iload_n 1, 1) := by decide +kernel
theorem dX12_setsOf_32 : decode prog_14_method_42_code 32 = .ok (.if_icmp .gt 47, 3) := by decide +kernel
theorem dX12_setsOf_35 : decode prog_14_method_42_code 35 = .ok (.iload_n 3, 1) := by decide +kernel
theorem dX12_setsOf_36 : decode prog_14_method_42_code 36 = .ok (.istore 4, 2) := by decide +kernel
theorem dX12_setsOf_38 : decode prog_14_method_42_code 38 = .ok (.iload 4, 2) := by decide +kernel
theorem dX12_setsOf_40 : decode prog_14_method_42_code 40 = .ok (.ifCond .le 33, 3) := by decide +kernel
theorem dX12_setsOf_43 : decode prog_14_method_42_code 43 = .ok (.aload_n 0, 1) := by decide +kernel
theorem dX12_setsOf_44 : decode prog_14_method_42_code 44 = .ok (.getfield 57, 3) := by decide +kernel
theorem dX12_setsOf_47 : decode prog_14_method_42_code 47 = .ok (.iload 4, 2) := by decide +kernel
theorem dX12_setsOf_49 : decode prog_14_method_42_code 49 = .ok (.aload_n 0, 1) := by decide +kernel
theorem dX12_setsOf_50 : decode prog_14_method_42_code 50 = .ok (.getfield 57, 3) := by decide +kernel
theorem dX12_setsOf_53 : decode prog_14_method_42_code 53 = .ok (.iload 4, 2) := by decide +kernel
theorem dX12_setsOf_55 : decode prog_14_method_42_code 55 = .ok (.laload, 1) := by decide +kernel
theorem dX12_setsOf_56 : decode prog_14_method_42_code 56 = .ok (.aload_n 0, 1) := by decide +kernel
theorem dX12_setsOf_57 : decode prog_14_method_42_code 57 = .ok (.getfield 57, 3) := by decide +kernel
theorem dX12_setsOf_60 : decode prog_14_method_42_code 60 = .ok (.iload 4, 2) := by decide +kernel
theorem dX12_setsOf_62 : decode prog_14_method_42_code 62 = .ok (.iconst 1, 1) := by decide +kernel
theorem dX12_setsOf_63 : decode prog_14_method_42_code 63 = .ok (.isub, 1) := by decide +kernel
theorem dX12_setsOf_64 : decode prog_14_method_42_code 64 = .ok (.laload, 1) := by decide +kernel
theorem dX12_setsOf_65 : decode prog_14_method_42_code 65 = .ok (.ladd, 1) := by decide +kernel
theorem dX12_setsOf_66 : decode prog_14_method_42_code 66 = .ok (.lastore, 1) := by decide +kernel
theorem dX12_setsOf_67 : decode prog_14_method_42_code 67 = .ok (.iinc 4 (-1), 3) := by decide +kernel
theorem dX12_setsOf_70 : decode prog_14_method_42_code 70 = .ok (.goto (-32), 3) := by decide +kernel
theorem dX12_setsOf_73 : decode prog_14_method_42_code 73 = .ok (.iinc 3 1, 3) := by decide +kernel
theorem dX12_setsOf_76 : decode prog_14_method_42_code 76 = .ok (.goto (-46), 3) := by decide +kernel
theorem dX12_setsOf_79 : decode prog_14_method_42_code 79 = .ok (.aload_n 0, 1) := by decide +kernel
theorem dX12_setsOf_80 : decode prog_14_method_42_code 80 = .ok (.getfield 57, 3) := by decide +kernel
theorem dX12_setsOf_83 : decode prog_14_method_42_code 83 = .ok (.iload_n 2, 1) := by decide +kernel
theorem dX12_setsOf_84 : decode prog_14_method_42_code 84 = .ok (.laload, 1) := by decide +kernel
theorem dX12_setsOf_85 : decode prog_14_method_42_code 85 = .ok (.lreturn, 1) := by decide +kernel
def m_X12_setsOf_L38 (N : Nat) (k30 : Nat → Int32 → Int32 → Int32 → mM → Option (Int64 × mM)) : Nat → Nat → Int32 → Int32 → Int32 → Int32 → mM → Option (Int64 × mM)
  | 0, _, _, _, _, _, _ => none
  | n + 1, a0, i1, i2, i3, i4, M =>
    if i4 ≤ 0 then (
      k30 a0 i1 i2 (i3 + 1) M) else (
      (fR M a0 12 18).bind fun x1 =>
      (fR M a0 12 18).bind fun x3 =>
      (aL M x3 i4).bind fun x5 =>
      (fR M a0 12 18).bind fun x7 =>
      (aL M x7 (i4 - 1)).bind fun x9 =>
      (uL M x1 i4 (x5 + x9)).bind fun M11 =>
      (m_X12_setsOf_L38 N k30  n) a0 i1 i2 i3 (i4 + (-1)) M11)
set_option maxHeartbeats 4000000 in
set_option maxRecDepth 100000 in
theorem t_X12_setsOf_L38 {X : mX} {L0 : Launch} {res : Int64 × mM} {N : Nat} (C : CX X RX12 "setsOf" prog_14_method_42_code 5 (some .long)) (E : EX X L0 0 0 0 0 (some (.long res.1)) res.2) (k30 : Nat → Int32 → Int32 → Int32 → mM → Option (Int64 × mM)) (Hk30 : ∀ (a0 : Nat) (i1 : Int32) (i2 : Int32) (i3 : Int32) (M : mM), k30 a0 i1 i2 i3 M = some res → EV X 5 30 [(0, .ref a0), (1, .int i1), (2, .int i2), (3, .int i3)] [] 0 0 M) : ∀ (n : Nat) (a0 : Nat) (i1 : Int32) (i2 : Int32) (i3 : Int32) (i4 : Int32) (M : mM), m_X12_setsOf_L38 N k30 n a0 i1 i2 i3 i4 M = some res → EV X 5 38 [(0, .ref a0), (1, .int i1), (2, .int i2), (3, .int i3), (4, .int i4)] [] 0 0 M := by
  intro n
  induction n with
  | zero => intro a0 i1 i2 i3 i4 M hf; cases (show (none : Option (Int64 × mM)) = some res from hf)
  | succ n ih =>
    intro a0 i1 i2 i3 i4 M hf
    rw [m_X12_setsOf_L38] at hf
    refine ev_iload C dX12_setsOf_38 (q := 4) rfl ?_
    refine ev_if_le (tgt := 73) C dX12_setsOf_40 (by decide) (fun hc => ?_) (fun hc => ?_)
    · have hf := oit hf hc
      refine ev_iinc (v := i3 + 1) (l' := [(3, .int (i3 + 1)), (0, .ref a0), (1, .int i1), (2, .int i2), (4, .int i4)]) C dX12_setsOf_73 (q := 3) rfl rfl (by decide) rfl ?_
      refine ev_goto (tgt := 30) C dX12_setsOf_76 (by decide) ?_
      refine ev_sub [1, 2, 3, 0] rfl ?_
      exact Hk30 a0 i1 i2 (i3 + 1) M hf
    · have hf := oie hf hc
      refine ev_aload_n C dX12_setsOf_43 rfl (q := 0) rfl ?_
      obtain ⟨x1, e2, hf⟩ := obnd hf
      refine ev_get (k := 18) C ok_12 dX12_setsOf_44 (by decide) kw_1177 (fR_V e2) ?_
      refine ev_iload C dX12_setsOf_47 (q := 4) rfl ?_
      refine ev_aload_n C dX12_setsOf_49 rfl (q := 0) rfl ?_
      obtain ⟨x3, e4, hf⟩ := obnd hf
      refine ev_get (k := 18) C ok_12 dX12_setsOf_50 (by decide) kw_1177 (fR_V e4) ?_
      refine ev_iload C dX12_setsOf_53 (q := 4) rfl ?_
      obtain ⟨x5, e6, hf⟩ := obnd hf
      refine ev_lald C dX12_setsOf_55 e6 ?_
      refine ev_aload_n C dX12_setsOf_56 rfl (q := 0) rfl ?_
      obtain ⟨x7, e8, hf⟩ := obnd hf
      refine ev_get (k := 18) C ok_12 dX12_setsOf_57 (by decide) kw_1177 (fR_V e8) ?_
      refine ev_iload C dX12_setsOf_60 (q := 4) rfl ?_
      refine ev_iconst (v := 1) C dX12_setsOf_62 (by decide) ?_
      refine ev_isub C dX12_setsOf_63 ?_
      obtain ⟨x9, e10, hf⟩ := obnd hf
      refine ev_lald C dX12_setsOf_64 e10 ?_
      refine ev_ladd C dX12_setsOf_65 ?_
      obtain ⟨M11, e12, hf⟩ := obnd hf
      refine ev_last C dX12_setsOf_66 e12 ?_
      refine ev_iinc (v := i4 + (-1)) (l' := [(4, .int (i4 + (-1))), (0, .ref a0), (1, .int i1), (2, .int i2), (3, .int i3)]) C dX12_setsOf_67 (q := 4) rfl rfl (by decide) rfl ?_
      refine ev_goto (tgt := 38) C dX12_setsOf_70 (by decide) ?_
      refine ev_sub [1, 2, 3, 4, 0] rfl ?_
      exact ih a0 i1 i2 i3 (i4 + (-1)) M11 hf
def m_X12_setsOf_L30 (N : Nat)  : Nat → Nat → Int32 → Int32 → Int32 → mM → Option (Int64 × mM)
  | 0, _, _, _, _, _ => none
  | n + 1, a0, i1, i2, i3, M =>
    if i1 < i3 then (
      (fR M a0 12 18).bind fun x1 =>
      (aL M x1 i2).bind fun x3 =>
      some (x3, M)) else (
      m_X12_setsOf_L38 N (m_X12_setsOf_L30 N  n) N a0 i1 i2 i3 i3 M)
set_option maxHeartbeats 4000000 in
set_option maxRecDepth 100000 in
theorem t_X12_setsOf_L30 {X : mX} {L0 : Launch} {res : Int64 × mM} {N : Nat} (C : CX X RX12 "setsOf" prog_14_method_42_code 5 (some .long)) (E : EX X L0 0 0 0 0 (some (.long res.1)) res.2)   : ∀ (n : Nat) (a0 : Nat) (i1 : Int32) (i2 : Int32) (i3 : Int32) (M : mM), m_X12_setsOf_L30 N  n a0 i1 i2 i3 M = some res → EV X 5 30 [(0, .ref a0), (1, .int i1), (2, .int i2), (3, .int i3)] [] 0 0 M := by
  intro n
  induction n with
  | zero => intro a0 i1 i2 i3 M hf; cases (show (none : Option (Int64 × mM)) = some res from hf)
  | succ n ih =>
    intro a0 i1 i2 i3 M hf
    rw [m_X12_setsOf_L30] at hf
    refine ev_iload_n C dX12_setsOf_30 rfl (q := 3) rfl ?_
    refine ev_iload_n C dX12_setsOf_31 rfl (q := 1) rfl ?_
    refine ev_icmp_gt (tgt := 79) C dX12_setsOf_32 (by decide) (fun hc => ?_) (fun hc => ?_)
    · have hf := oit hf hc
      refine ev_aload_n C dX12_setsOf_79 rfl (q := 0) rfl ?_
      obtain ⟨x1, e2, hf⟩ := obnd hf
      refine ev_get (k := 18) C ok_12 dX12_setsOf_80 (by decide) kw_1177 (fR_V e2) ?_
      refine ev_iload_n C dX12_setsOf_83 rfl (q := 2) rfl ?_
      obtain ⟨x3, e4, hf⟩ := obnd hf
      refine ev_lald C dX12_setsOf_84 e4 ?_
      obtain rfl := Option.some.inj hf
      exact ev_lret C E (Nat.le_refl 0) (Nat.le_refl 0) dX12_setsOf_85
    · have hf := oie hf hc
      refine ev_iload_n C dX12_setsOf_35 rfl (q := 3) rfl ?_
      refine ev_istore (l' := [(4, .int i3), (0, .ref a0), (1, .int i1), (2, .int i2), (3, .int i3)]) C dX12_setsOf_36 (by decide) rfl ?_
      refine ev_sub [1, 2, 3, 4, 0] rfl ?_
      exact t_X12_setsOf_L38 C E (m_X12_setsOf_L30 N  n) ih N a0 i1 i2 i3 i3 M hf
def m_X12_setsOf_J21 (N : Nat) (k2 : Nat → Int32 → Int32 → Int32 → mM → Option (Int64 × mM)) (a0 : Nat) (i1 : Int32) (i2 : Int32) (i3 : Int32) (sa0 : Nat) (si1 : Int32) (sj2 : Int64) (M : mM) : Option (Int64 × mM) :=
  (uL M sa0 si1 sj2).bind fun M1 =>
  k2 a0 i1 i2 (i3 + 1) M1
set_option maxHeartbeats 4000000 in
set_option maxRecDepth 100000 in
theorem t_X12_setsOf_J21 {X : mX} {L0 : Launch} {res : Int64 × mM} {N : Nat} (C : CX X RX12 "setsOf" prog_14_method_42_code 5 (some .long)) (E : EX X L0 0 0 0 0 (some (.long res.1)) res.2) (k2 : Nat → Int32 → Int32 → Int32 → mM → Option (Int64 × mM)) (Hk2 : ∀ (a0 : Nat) (i1 : Int32) (i2 : Int32) (i3 : Int32) (M : mM), k2 a0 i1 i2 i3 M = some res → EV X 5 2 [(0, .ref a0), (1, .int i1), (2, .int i2), (3, .int i3)] [] 0 0 M) (a0 : Nat) (i1 : Int32) (i2 : Int32) (i3 : Int32) (sa0 : Nat) (si1 : Int32) (sj2 : Int64) (M : mM) (hf : m_X12_setsOf_J21 N k2 a0 i1 i2 i3 sa0 si1 sj2 M = some res) : EV X 5 21 [(0, .ref a0), (1, .int i1), (2, .int i2), (3, .int i3)] [.long sj2, .int si1, .ref sa0] 0 0 M := by
  unfold m_X12_setsOf_J21 at hf
  obtain ⟨M1, e2, hf⟩ := obnd hf
  refine ev_last C dX12_setsOf_21 e2 ?_
  refine ev_iinc (v := i3 + 1) (l' := [(3, .int (i3 + 1)), (0, .ref a0), (1, .int i1), (2, .int i2)]) C dX12_setsOf_22 (q := 3) rfl rfl (by decide) rfl ?_
  refine ev_goto (tgt := 2) C dX12_setsOf_25 (by decide) ?_
  refine ev_sub [1, 2, 3, 0] rfl ?_
  exact Hk2 a0 i1 i2 (i3 + 1) M1 hf
def m_X12_setsOf_L2 (N : Nat)  : Nat → Nat → Int32 → Int32 → Int32 → mM → Option (Int64 × mM)
  | 0, _, _, _, _, _ => none
  | n + 1, a0, i1, i2, i3, M =>
    if i1 < i3 then (
      m_X12_setsOf_L30 N  N a0 i1 i2 1 M) else (
      (fR M a0 12 18).bind fun x1 =>
      if i3 = 0 then (
        m_X12_setsOf_J21 N (m_X12_setsOf_L2 N  n) a0 i1 i2 i3 x1 i3 1 M) else (
        m_X12_setsOf_J21 N (m_X12_setsOf_L2 N  n) a0 i1 i2 i3 x1 i3 0 M))
set_option maxHeartbeats 4000000 in
set_option maxRecDepth 100000 in
theorem t_X12_setsOf_L2 {X : mX} {L0 : Launch} {res : Int64 × mM} {N : Nat} (C : CX X RX12 "setsOf" prog_14_method_42_code 5 (some .long)) (E : EX X L0 0 0 0 0 (some (.long res.1)) res.2)   : ∀ (n : Nat) (a0 : Nat) (i1 : Int32) (i2 : Int32) (i3 : Int32) (M : mM), m_X12_setsOf_L2 N  n a0 i1 i2 i3 M = some res → EV X 5 2 [(0, .ref a0), (1, .int i1), (2, .int i2), (3, .int i3)] [] 0 0 M := by
  intro n
  induction n with
  | zero => intro a0 i1 i2 i3 M hf; cases (show (none : Option (Int64 × mM)) = some res from hf)
  | succ n ih =>
    intro a0 i1 i2 i3 M hf
    rw [m_X12_setsOf_L2] at hf
    refine ev_iload_n C dX12_setsOf_2 rfl (q := 3) rfl ?_
    refine ev_iload_n C dX12_setsOf_3 rfl (q := 1) rfl ?_
    refine ev_icmp_gt (tgt := 28) C dX12_setsOf_4 (by decide) (fun hc => ?_) (fun hc => ?_)
    · have hf := oit hf hc
      refine ev_iconst (v := 1) C dX12_setsOf_28 (by decide) ?_
      refine ev_istore_n (l' := [(3, .int 1), (0, .ref a0), (1, .int i1), (2, .int i2)]) C dX12_setsOf_29 rfl (by decide) rfl ?_
      refine ev_sub [1, 2, 3, 0] rfl ?_
      exact t_X12_setsOf_L30 C E   N a0 i1 i2 1 M hf
    · have hf := oie hf hc
      refine ev_aload_n C dX12_setsOf_7 rfl (q := 0) rfl ?_
      obtain ⟨x1, e2, hf⟩ := obnd hf
      refine ev_get (k := 18) C ok_12 dX12_setsOf_8 (by decide) kw_1177 (fR_V e2) ?_
      refine ev_iload_n C dX12_setsOf_11 rfl (q := 3) rfl ?_
      refine ev_iload_n C dX12_setsOf_12 rfl (q := 3) rfl ?_
      refine ev_if_ne (tgt := 20) C dX12_setsOf_13 (by decide) (fun hc => ?_) (fun hc => ?_)
      · have hf := oie hf hc
        refine ev_lconst (v := 0) C dX12_setsOf_20 (by decide) ?_
        exact t_X12_setsOf_J21 C E (m_X12_setsOf_L2 N  n) ih a0 i1 i2 i3 x1 i3 0 M hf
      · have hf := oit hf hc
        refine ev_lconst (v := 1) C dX12_setsOf_16 (by decide) ?_
        refine ev_goto (tgt := 21) C dX12_setsOf_17 (by decide) ?_
        exact t_X12_setsOf_J21 C E (m_X12_setsOf_L2 N  n) ih a0 i1 i2 i3 x1 i3 1 M hf
def m_X12_setsOf (N : Nat) (a0 : Nat) (i1 : Int32) (i2 : Int32) (M : mM) : Option (Int64 × mM) :=
  m_X12_setsOf_L2 N  N a0 i1 i2 0 M
set_option maxHeartbeats 4000000 in
set_option maxRecDepth 100000 in
theorem t_X12_setsOf {L0 : Launch} {M : mM} {N : Nat} {a0 : Nat} {i1 : Int32} {i2 : Int32} {res : Int64 × mM} (hf : m_X12_setsOf N a0 i1 i2 M = some res) : CT L0 yX12_setsOf prog_14_method_42_code 5 (some .long) 0 0 0 0 [.ref a0, .int i1, .int i2] M (some (.long res.1)) res.2 := by
  refine CT.of (by decide +kernel) (Nat.le_of_ble_eq_true rfl) fun X C E => ?_
  have C : CX X RX12 "setsOf" prog_14_method_42_code 5 (some .long) := C
  show EV X 5 0 [(0, .ref a0), (1, .int i1), (2, .int i2)] [] 0 0 M
  unfold m_X12_setsOf at hf
  refine ev_iconst (v := 0) C dX12_setsOf_0 (by decide) ?_
  refine ev_istore_n (l' := [(3, .int 0), (0, .ref a0), (1, .int i1), (2, .int i2)]) C dX12_setsOf_1 rfl (by decide) rfl ?_
  refine ev_sub [1, 2, 3, 0] rfl ?_
  exact t_X12_setsOf_L2 C E   N a0 i1 i2 0 M hf
/-! FareLimitsModel ways(III)J -/
theorem dX12_ways_0 : decode prog_14_method_43_code 0 = .ok (.iload_n 1, 1) := by decide +kernel
theorem dX12_ways_1 : decode prog_14_method_43_code 1 = .ok (.invokestatic 183, 3) := by decide +kernel
theorem dX12_ways_4 : decode prog_14_method_43_code 4 = .ok (.ifCond .eq 26, 3) := by decide +kernel
theorem dX12_ways_7 : decode prog_14_method_43_code 7 = .ok (.iload_n 2, 1) := by decide +kernel
theorem dX12_ways_8 : decode prog_14_method_43_code 8 = .ok (.i2l, 1) := by decide +kernel
theorem dX12_ways_9 : decode prog_14_method_43_code 9 = .ok (.lconst 0, 1) := by decide +kernel
theorem dX12_ways_10 : decode prog_14_method_43_code 10 = .ok (.iload_n 1, 1) := by decide +kernel
theorem dX12_ways_11 : decode prog_14_method_43_code 11 = .ok (.i2l, 1) := by decide +kernel
theorem dX12_ways_12 : decode prog_14_method_43_code 12 = .ok (.invokestatic 72, 3) := by decide +kernel
theorem dX12_ways_15 : decode prog_14_method_43_code 15 = .ok (.ifCond .eq 15, 3) := by decide +kernel
theorem dX12_ways_18 : decode prog_14_method_43_code 18 = .ok (.iload_n 3, 1) := by decide +kernel
theorem dX12_ways_19 : decode prog_14_method_43_code 19 = .ok (.i2l, 1) := by decide +kernel
theorem dX12_ways_20 : decode prog_14_method_43_code 20 = .ok (.lconst 0, 1) := by decide +kernel
theorem dX12_ways_21 : decode prog_14_method_43_code 21 = .ok (.ldc2_w 92, 3) := by decide +kernel
theorem dX12_ways_24 : decode prog_14_method_43_code 24 = .ok (.invokestatic 72, 3) := by decide +kernel
theorem dX12_ways_27 : decode prog_14_method_43_code 27 = .ok (.ifCond .ne 7, 3) := by decide +kernel
theorem dX12_ways_30 : decode prog_14_method_43_code 30 = .ok (.ldc2_w 120, 3) := by decide +kernel
theorem dX12_ways_33 : decode prog_14_method_43_code 33 = .ok (.lreturn, 1) := by decide +kernel
theorem dX12_ways_34 : decode prog_14_method_43_code 34 = .ok (.aload_n 0, 1) := by decide +kernel
theorem dX12_ways_35 : decode prog_14_method_43_code 35 = .ok (.iconst 0, 1) := by decide +kernel
theorem dX12_ways_36 : decode prog_14_method_43_code 36 = .ok (.putfield 152, 3) := by decide +kernel
theorem dX12_ways_39 : decode prog_14_method_43_code 39 = .ok (.aload_n 0, 1) := by decide +kernel
theorem dX12_ways_40 : decode prog_14_method_43_code 40 = .ok (.iload_n 1, 1) := by decide +kernel
theorem dX12_ways_41 : decode prog_14_method_43_code 41 = .ok (.iload_n 2, 1) := by decide +kernel
theorem dX12_ways_42 : decode prog_14_method_43_code 42 = .ok (.invokevirtual 195, 3) := by decide +kernel
theorem dX12_ways_45 : decode prog_14_method_43_code 45 = .ok (.lstore 4, 2) := by decide +kernel
theorem dX12_ways_47 : decode prog_14_method_43_code 47 = .ok (.aload_n 0, 1) := by decide +kernel
theorem dX12_ways_48 : decode prog_14_method_43_code 48 = .ok (.iload_n 3, 1) := by decide +kernel
theorem dX12_ways_49 : decode prog_14_method_43_code 49 = .ok (.iload_n 2, 1) := by decide +kernel
theorem dX12_ways_50 : decode prog_14_method_43_code 50 = .ok (.invokevirtual 160, 3) := by decide +kernel
theorem dX12_ways_53 : decode prog_14_method_43_code 53 = .ok (.lstore 6, 2) := by decide +kernel
theorem dX12_ways_55 : decode prog_14_method_43_code 55 = .ok (.aload_n 0, 1) := by decide +kernel
theorem dX12_ways_56 : decode prog_14_method_43_code 56 = .ok (.getfield 152, 3) := by decide +kernel
theorem dX12_ways_59 : decode prog_14_method_43_code 59 = .ok (.ifCond .ne 13, 3) := by decide +kernel
theorem dX12_ways_62 : decode prog_14_method_43_code 62 = .ok (.aload_n 0, 1) := by decide +kernel
theorem dX12_ways_63 : decode prog_14_method_43_code 63 = .ok (.lload 4, 2) := by decide +kernel
theorem dX12_ways_65 : decode prog_14_method_43_code 65 = .ok (.lload 6, 2) := by decide +kernel
theorem dX12_ways_67 : decode prog_14_method_43_code 67 = .ok (.invokevirtual 156, 3) := by decide +kernel
theorem dX12_ways_70 : decode prog_14_method_43_code 70 = .ok (.lstore 4, 2) := by decide +kernel
theorem dX12_ways_72 : decode prog_14_method_43_code 72 = .ok (.aload_n 0, 1) := by decide +kernel
theorem dX12_ways_73 : decode prog_14_method_43_code 73 = .ok (.getfield 152, 3) := by decide +kernel
theorem dX12_ways_76 : decode prog_14_method_43_code 76 = .ok (.ifCond .eq 7, 3) := by decide +kernel
theorem dX12_ways_79 : decode prog_14_method_43_code 79 = .ok (.lconst 0, 1) := by decide +kernel
theorem dX12_ways_80 : decode prog_14_method_43_code 80 = .ok (.goto 14, 3) := by decide +kernel
theorem dX12_ways_83 : decode prog_14_method_43_code 83 = .ok (.aload_n 0, 1) := by decide +kernel
theorem dX12_ways_84 : decode prog_14_method_43_code 84 = .ok (.bipush 100, 2) := by decide +kernel
theorem dX12_ways_86 : decode prog_14_method_43_code 86 = .ok (.iload_n 3, 1) := by decide +kernel
theorem dX12_ways_87 : decode prog_14_method_43_code 87 = .ok (.isub, 1) := by decide +kernel
theorem dX12_ways_88 : decode prog_14_method_43_code 88 = .ok (.iload_n 1, 1) := by decide +kernel
theorem dX12_ways_89 : decode prog_14_method_43_code 89 = .ok (.iload_n 2, 1) := by decide +kernel
theorem dX12_ways_90 : decode prog_14_method_43_code 90 = .ok (.isub, 1) := by decide +kernel
theorem dX12_ways_91 : decode prog_14_method_43_code 91 = .ok (.invokevirtual 160, 3) := by decide +kernel
theorem dX12_ways_94 : decode prog_14_method_43_code 94 = .ok (.lstore 8, 2) := by decide +kernel
theorem dX12_ways_96 : decode prog_14_method_43_code 96 = .ok (.aload_n 0, 1) := by decide +kernel
theorem dX12_ways_97 : decode prog_14_method_43_code 97 = .ok (.getfield 152, 3) := by decide +kernel
theorem dX12_ways_100 : decode prog_14_method_43_code 100 = .ok (.ifCond .ne 13, 3) := by decide +kernel
theorem dX12_ways_103 : decode prog_14_method_43_code 103 = .ok (.aload_n 0, 1) := by decide +kernel
theorem dX12_ways_104 : decode prog_14_method_43_code 104 = .ok (.lload 4, 2) := by decide +kernel
theorem dX12_ways_106 : decode prog_14_method_43_code 106 = .ok (.lload 8, 2) := by decide +kernel
theorem dX12_ways_108 : decode prog_14_method_43_code 108 = .ok (.invokevirtual 156, 3) := by decide +kernel
theorem dX12_ways_111 : decode prog_14_method_43_code 111 = .ok (.lstore 4, 2) := by decide +kernel
theorem dX12_ways_113 : decode prog_14_method_43_code 113 = .ok (.aload_n 0, 1) := by decide +kernel
theorem dX12_ways_114 : decode prog_14_method_43_code 114 = .ok (.getfield 152, 3) := by decide +kernel
theorem dX12_ways_117 : decode prog_14_method_43_code 117 = .ok (.ifCond .eq 9, 3) := by decide +kernel
theorem dX12_ways_120 : decode prog_14_method_43_code 120 = .ok (.ldc2_w 170, 3) := by decide +kernel
theorem dX12_ways_123 : decode prog_14_method_43_code 123 = .ok (.goto 5, 3) := by decide +kernel
theorem dX12_ways_126 : decode prog_14_method_43_code 126 = .ok (.lload 4, 2) := by decide +kernel
theorem dX12_ways_128 : decode prog_14_method_43_code 128 = .ok (.lreturn, 1) := by decide +kernel
def m_X12_ways_J113 (N : Nat)  (a0 : Nat) (j4 : Int64) (M : mM) : Option (Int64 × mM) :=
  (fI M a0 12 15).bind fun x1 =>
  if x1 = 0 then (
    some (j4, M)) else (
    some ((-6), M))
set_option maxHeartbeats 4000000 in
set_option maxRecDepth 100000 in
theorem t_X12_ways_J113 {X : mX} {L0 : Launch} {res : Int64 × mM} {N : Nat} (C : CX X RX12 "ways" prog_14_method_43_code 10 (some .long)) (E : EX X L0 2 49 0 0 (some (.long res.1)) res.2)   (a0 : Nat) (j4 : Int64) (M : mM) (hf : m_X12_ways_J113 N  a0 j4 M = some res) : EV X 10 113 [(0, .ref a0), (4, .long j4)] [] 0 0 M := by
  unfold m_X12_ways_J113 at hf
  refine ev_aload_n C dX12_ways_113 rfl (q := 0) rfl ?_
  obtain ⟨x1, e2, hf⟩ := obnd hf
  refine ev_get (k := 15) C ok_12 dX12_ways_114 (by decide) kw_1174 (fI_V e2) ?_
  refine ev_if_eq (tgt := 126) C dX12_ways_117 (by decide) (fun hc => ?_) (fun hc => ?_)
  · have hf := oit hf hc
    refine ev_lload C dX12_ways_126 (q := 1) rfl ?_
    obtain rfl := Option.some.inj hf
    exact ev_lret C E (Nat.le_refl 0) (Nat.le_refl 0) dX12_ways_128
  · have hf := oie hf hc
    refine ev_ldc2 (v := (-6)) C dX12_ways_120 kw_1385 ?_
    refine ev_goto (tgt := 128) C dX12_ways_123 (by decide) ?_
    obtain rfl := Option.some.inj hf
    exact ev_lret C E (Nat.le_refl 0) (Nat.le_refl 0) dX12_ways_128
def m_X12_ways_J94 (N : Nat)  (a0 : Nat) (j4 : Int64) (sj0 : Int64) (M : mM) : Option (Int64 × mM) :=
  (fI M a0 12 15).bind fun x1 =>
  if x1 = 0 then (
    (oO M a0 12).bind fun _ =>
    (m_X12_times a0 j4 sj0 M).bind fun x5 =>
    m_X12_ways_J113 N  a0 x5.1 x5.2) else (
    m_X12_ways_J113 N  a0 j4 M)
set_option maxHeartbeats 4000000 in
set_option maxRecDepth 100000 in
theorem t_X12_ways_J94 {X : mX} {L0 : Launch} {res : Int64 × mM} {N : Nat} (C : CX X RX12 "ways" prog_14_method_43_code 10 (some .long)) (E : EX X L0 2 49 0 0 (some (.long res.1)) res.2)   (a0 : Nat) (j4 : Int64) (sj0 : Int64) (M : mM) (hf : m_X12_ways_J94 N  a0 j4 sj0 M = some res) : EV X 10 94 [(0, .ref a0), (4, .long j4)] [.long sj0] 0 0 M := by
  unfold m_X12_ways_J94 at hf
  refine ev_lstore (l' := [(8, .long sj0), (0, .ref a0), (4, .long j4)]) C dX12_ways_94 (by decide) rfl ?_
  refine ev_aload_n C dX12_ways_96 rfl (q := 1) rfl ?_
  obtain ⟨x1, e2, hf⟩ := obnd hf
  refine ev_get (k := 15) C ok_12 dX12_ways_97 (by decide) kw_1174 (fI_V e2) ?_
  refine ev_if_ne (tgt := 113) C dX12_ways_100 (by decide) (fun hc => ?_) (fun hc => ?_)
  · have hf := oie hf hc
    refine ev_sub [1, 2] rfl ?_
    exact t_X12_ways_J113 C E   a0 j4 M hf
  · have hf := oit hf hc
    refine ev_aload_n C dX12_ways_103 rfl (q := 1) rfl ?_
    refine ev_lload C dX12_ways_104 (q := 2) rfl ?_
    refine ev_lload C dX12_ways_106 (q := 0) rfl ?_
    obtain ⟨_, e3, hf⟩ := obnd hf
    obtain ⟨fs4, e3⟩ := oO_eq e3
    obtain ⟨x5, e6, hf⟩ := obnd hf
    refine ev_callV0 (As := [.long j4, .long sj0]) (st := []) C rfl e3 (t_X12_times e6) rfl hd_X12_times rfl kw_1372 kw_1374 kw_87 kw_30 kw_1375 (mRoom.of E (Nat.le_of_ble_eq_true rfl) (Nat.le_of_ble_eq_true rfl) (Nat.le_refl 0) (Nat.le_refl 0)) (Nat.le_of_ble_eq_true rfl) dX12_ways_108 ?_
    refine ev_lstore (l' := [(4, .long x5.1), (8, .long sj0), (0, .ref a0)]) C dX12_ways_111 (by decide) rfl ?_
    refine ev_sub [2, 0] rfl ?_
    exact t_X12_ways_J113 C E   a0 x5.1 x5.2 hf
def m_X12_ways_J72 (N : Nat)  (a0 : Nat) (i1 : Int32) (i2 : Int32) (i3 : Int32) (j4 : Int64) (M : mM) : Option (Int64 × mM) :=
  (fI M a0 12 15).bind fun x1 =>
  if x1 = 0 then (
    (oO M a0 12).bind fun _ =>
    (m_X12_power N a0 (100 - i3) (i1 - i2) M).bind fun x5 =>
    m_X12_ways_J94 N  a0 j4 x5.1 x5.2) else (
    m_X12_ways_J94 N  a0 j4 0 M)
set_option maxHeartbeats 4000000 in
set_option maxRecDepth 100000 in
theorem t_X12_ways_J72 {X : mX} {L0 : Launch} {res : Int64 × mM} {N : Nat} (C : CX X RX12 "ways" prog_14_method_43_code 10 (some .long)) (E : EX X L0 2 49 0 0 (some (.long res.1)) res.2)   (a0 : Nat) (i1 : Int32) (i2 : Int32) (i3 : Int32) (j4 : Int64) (M : mM) (hf : m_X12_ways_J72 N  a0 i1 i2 i3 j4 M = some res) : EV X 10 72 [(0, .ref a0), (1, .int i1), (2, .int i2), (3, .int i3), (4, .long j4)] [] 0 0 M := by
  unfold m_X12_ways_J72 at hf
  refine ev_aload_n C dX12_ways_72 rfl (q := 0) rfl ?_
  obtain ⟨x1, e2, hf⟩ := obnd hf
  refine ev_get (k := 15) C ok_12 dX12_ways_73 (by decide) kw_1174 (fI_V e2) ?_
  refine ev_if_eq (tgt := 83) C dX12_ways_76 (by decide) (fun hc => ?_) (fun hc => ?_)
  · have hf := oit hf hc
    refine ev_aload_n C dX12_ways_83 rfl (q := 0) rfl ?_
    refine ev_bipush (v := 100) C dX12_ways_84 (by decide) ?_
    refine ev_iload_n C dX12_ways_86 rfl (q := 3) rfl ?_
    refine ev_isub C dX12_ways_87 ?_
    refine ev_iload_n C dX12_ways_88 rfl (q := 1) rfl ?_
    refine ev_iload_n C dX12_ways_89 rfl (q := 2) rfl ?_
    refine ev_isub C dX12_ways_90 ?_
    obtain ⟨_, e3, hf⟩ := obnd hf
    obtain ⟨fs4, e3⟩ := oO_eq e3
    obtain ⟨x5, e6, hf⟩ := obnd hf
    refine ev_callV0 (As := [.int (100 - i3), .int (i1 - i2)]) (st := []) C rfl e3 (t_X12_power e6) rfl hd_X12_power rfl kw_1377 kw_1379 kw_87 kw_31 kw_1380 (mRoom.of E (Nat.le_of_ble_eq_true rfl) (Nat.le_of_ble_eq_true rfl) (Nat.le_refl 0) (Nat.le_refl 0)) (Nat.le_of_ble_eq_true rfl) dX12_ways_91 ?_
    refine ev_sub [0, 4] rfl ?_
    exact t_X12_ways_J94 C E   a0 j4 x5.1 x5.2 hf
  · have hf := oie hf hc
    refine ev_lconst (v := 0) C dX12_ways_79 (by decide) ?_
    refine ev_goto (tgt := 94) C dX12_ways_80 (by decide) ?_
    refine ev_sub [0, 4] rfl ?_
    exact t_X12_ways_J94 C E   a0 j4 0 M hf
def m_X12_ways (N : Nat) (a0 : Nat) (i1 : Int32) (i2 : Int32) (i3 : Int32) (M : mM) : Option (Int64 × mM) :=
  (m_X12_isBooked i1).bind fun x1 =>
  if x1 = 0 then (
    some ((-9223372036854775808), M)) else (
    (m_X12_in i2.toInt64 0 i1.toInt64).bind fun x3 =>
    if x3 = 0 then (
      some ((-9223372036854775808), M)) else (
      (m_X12_in i3.toInt64 0 100).bind fun x5 =>
      if x5 = 0 then (
        some ((-9223372036854775808), M)) else (
        (sZ M a0 12 15 0).bind fun M7 =>
        (oO M7 a0 12).bind fun _ =>
        (m_X12_setsOf N a0 i1 i2 M7).bind fun x11 =>
        (oO x11.2 a0 12).bind fun _ =>
        (m_X12_power N a0 i3 i2 x11.2).bind fun x15 =>
        (fI x15.2 a0 12 15).bind fun x17 =>
        if x17 = 0 then (
          (oO x15.2 a0 12).bind fun _ =>
          (m_X12_times a0 x11.1 x15.1 x15.2).bind fun x21 =>
          m_X12_ways_J72 N  a0 i1 i2 i3 x21.1 x21.2) else (
          m_X12_ways_J72 N  a0 i1 i2 i3 x11.1 x15.2))))
set_option maxHeartbeats 4000000 in
set_option maxRecDepth 100000 in
theorem t_X12_ways {L0 : Launch} {M : mM} {N : Nat} {a0 : Nat} {i1 : Int32} {i2 : Int32} {i3 : Int32} {res : Int64 × mM} (hf : m_X12_ways N a0 i1 i2 i3 M = some res) : CT L0 yX12_ways prog_14_method_43_code 10 (some .long) 2 49 0 0 [.ref a0, .int i1, .int i2, .int i3] M (some (.long res.1)) res.2 := by
  refine CT.of (by decide +kernel) (Nat.le_of_ble_eq_true rfl) fun X C E => ?_
  have C : CX X RX12 "ways" prog_14_method_43_code 10 (some .long) := C
  show EV X 10 0 [(0, .ref a0), (1, .int i1), (2, .int i2), (3, .int i3)] [] 0 0 M
  unfold m_X12_ways at hf
  refine ev_iload_n C dX12_ways_0 rfl (q := 1) rfl ?_
  obtain ⟨x1, e2, hf⟩ := obnd hf
  refine ev_callS0 (As := [.int i1]) (st := []) C (t_X12_isBooked e2) hd_X12_isBooked rfl kw_1410 kw_1411 kw_87 kw_1412 (mRoom.of E (Nat.le_of_ble_eq_true rfl) (Nat.le_of_ble_eq_true rfl) (Nat.le_refl 0) (Nat.le_refl 0)) (Nat.le_of_ble_eq_true rfl) dX12_ways_1 ?_
  refine ev_if_eq (tgt := 30) C dX12_ways_4 (by decide) (fun hc => ?_) (fun hc => ?_)
  · have hf := oit hf hc
    refine ev_ldc2 (v := (-9223372036854775808)) C dX12_ways_30 kw_1308 ?_
    obtain rfl := Option.some.inj hf
    exact ev_lret C E (Nat.le_refl 0) (Nat.le_refl 0) dX12_ways_33
  · have hf := oie hf hc
    refine ev_iload_n C dX12_ways_7 rfl (q := 2) rfl ?_
    refine ev_i2l C dX12_ways_8 ?_
    refine ev_lconst (v := 0) C dX12_ways_9 (by decide) ?_
    refine ev_iload_n C dX12_ways_10 rfl (q := 1) rfl ?_
    refine ev_i2l C dX12_ways_11 ?_
    obtain ⟨x3, e4, hf⟩ := obnd hf
    refine ev_callS0 (As := [.long i2.toInt64, .long 0, .long i1.toInt64]) (st := []) C (t_X12_in e4) hd_X12_in rfl kw_1253 kw_1254 kw_87 kw_1255 (mRoom.of E (Nat.le_of_ble_eq_true rfl) (Nat.le_of_ble_eq_true rfl) (Nat.le_refl 0) (Nat.le_refl 0)) (Nat.le_of_ble_eq_true rfl) dX12_ways_12 ?_
    refine ev_if_eq (tgt := 30) C dX12_ways_15 (by decide) (fun hc => ?_) (fun hc => ?_)
    · have hf := oit hf hc
      refine ev_ldc2 (v := (-9223372036854775808)) C dX12_ways_30 kw_1308 ?_
      obtain rfl := Option.some.inj hf
      exact ev_lret C E (Nat.le_refl 0) (Nat.le_refl 0) dX12_ways_33
    · have hf := oie hf hc
      refine ev_iload_n C dX12_ways_18 rfl (q := 3) rfl ?_
      refine ev_i2l C dX12_ways_19 ?_
      refine ev_lconst (v := 0) C dX12_ways_20 (by decide) ?_
      refine ev_ldc2 (v := 100) C dX12_ways_21 kw_1274 ?_
      obtain ⟨x5, e6, hf⟩ := obnd hf
      refine ev_callS0 (As := [.long i3.toInt64, .long 0, .long 100]) (st := []) C (t_X12_in e6) hd_X12_in rfl kw_1253 kw_1254 kw_87 kw_1255 (mRoom.of E (Nat.le_of_ble_eq_true rfl) (Nat.le_of_ble_eq_true rfl) (Nat.le_refl 0) (Nat.le_refl 0)) (Nat.le_of_ble_eq_true rfl) dX12_ways_24 ?_
      refine ev_if_ne (tgt := 34) C dX12_ways_27 (by decide) (fun hc => ?_) (fun hc => ?_)
      · have hf := oie hf hc
        refine ev_aload_n C dX12_ways_34 rfl (q := 0) rfl ?_
        refine ev_iconst (v := 0) C dX12_ways_35 (by decide) ?_
        obtain ⟨M7, e8, hf⟩ := obnd hf
        refine ev_put (k := 15) C ok_12 dX12_ways_36 (by decide) kw_1174 rfl (sZ_fit e8) (sZ_V e8) ?_
        refine ev_aload_n C dX12_ways_39 rfl (q := 0) rfl ?_
        refine ev_iload_n C dX12_ways_40 rfl (q := 1) rfl ?_
        refine ev_iload_n C dX12_ways_41 rfl (q := 2) rfl ?_
        obtain ⟨_, e9, hf⟩ := obnd hf
        obtain ⟨fs10, e9⟩ := oO_eq e9
        obtain ⟨x11, e12, hf⟩ := obnd hf
        refine ev_callV0 (As := [.int i1, .int i2]) (st := []) C rfl e9 (t_X12_setsOf e12) rfl hd_X12_setsOf rfl kw_1442 kw_1444 kw_87 kw_37 kw_1445 (mRoom.of E (Nat.le_of_ble_eq_true rfl) (Nat.le_of_ble_eq_true rfl) (Nat.le_refl 0) (Nat.le_refl 0)) (Nat.le_of_ble_eq_true rfl) dX12_ways_42 ?_
        refine ev_lstore (l' := [(4, .long x11.1), (0, .ref a0), (1, .int i1), (2, .int i2), (3, .int i3)]) C dX12_ways_45 (by decide) rfl ?_
        refine ev_aload_n C dX12_ways_47 rfl (q := 1) rfl ?_
        refine ev_iload_n C dX12_ways_48 rfl (q := 4) rfl ?_
        refine ev_iload_n C dX12_ways_49 rfl (q := 3) rfl ?_
        obtain ⟨_, e13, hf⟩ := obnd hf
        obtain ⟨fs14, e13⟩ := oO_eq e13
        obtain ⟨x15, e16, hf⟩ := obnd hf
        refine ev_callV0 (As := [.int i3, .int i2]) (st := []) C rfl e13 (t_X12_power e16) rfl hd_X12_power rfl kw_1377 kw_1379 kw_87 kw_31 kw_1380 (mRoom.of E (Nat.le_of_ble_eq_true rfl) (Nat.le_of_ble_eq_true rfl) (Nat.le_refl 0) (Nat.le_refl 0)) (Nat.le_of_ble_eq_true rfl) dX12_ways_50 ?_
        refine ev_lstore (l' := [(6, .long x15.1), (4, .long x11.1), (0, .ref a0), (1, .int i1), (2, .int i2), (3, .int i3)]) C dX12_ways_53 (by decide) rfl ?_
        refine ev_aload_n C dX12_ways_55 rfl (q := 2) rfl ?_
        obtain ⟨x17, e18, hf⟩ := obnd hf
        refine ev_get (k := 15) C ok_12 dX12_ways_56 (by decide) kw_1174 (fI_V e18) ?_
        refine ev_if_ne (tgt := 72) C dX12_ways_59 (by decide) (fun hc => ?_) (fun hc => ?_)
        · have hf := oie hf hc
          refine ev_sub [2, 3, 4, 5, 1] rfl ?_
          exact t_X12_ways_J72 C E   a0 i1 i2 i3 x11.1 x15.2 hf
        · have hf := oit hf hc
          refine ev_aload_n C dX12_ways_62 rfl (q := 2) rfl ?_
          refine ev_lload C dX12_ways_63 (q := 1) rfl ?_
          refine ev_lload C dX12_ways_65 (q := 0) rfl ?_
          obtain ⟨_, e19, hf⟩ := obnd hf
          obtain ⟨fs20, e19⟩ := oO_eq e19
          obtain ⟨x21, e22, hf⟩ := obnd hf
          refine ev_callV0 (As := [.long x11.1, .long x15.1]) (st := []) C rfl e19 (t_X12_times e22) rfl hd_X12_times rfl kw_1372 kw_1374 kw_87 kw_30 kw_1375 (mRoom.of E (Nat.le_of_ble_eq_true rfl) (Nat.le_of_ble_eq_true rfl) (Nat.le_refl 0) (Nat.le_refl 0)) (Nat.le_of_ble_eq_true rfl) dX12_ways_67 ?_
          refine ev_lstore (l' := [(4, .long x21.1), (6, .long x15.1), (0, .ref a0), (1, .int i1), (2, .int i2), (3, .int i3)]) C dX12_ways_70 (by decide) rfl ?_
          refine ev_sub [2, 3, 4, 5, 0] rfl ?_
          exact t_X12_ways_J72 C E   a0 i1 i2 i3 x21.1 x21.2 hf
      · have hf := oit hf hc
        refine ev_ldc2 (v := (-9223372036854775808)) C dX12_ways_30 kw_1308 ?_
        obtain rfl := Option.some.inj hf
        exact ev_lret C E (Nat.le_refl 0) (Nat.le_refl 0) dX12_ways_33
/-! FareLimitsModel asks(II)V -/
theorem dX12_asks_0 : decode prog_14_method_44_code 0 = .ok (.aload_n 0, 1) := by decide +kernel
theorem dX12_asks_1 : decode prog_14_method_44_code 1 = .ok (.getfield 44, 3) := by decide +kernel
theorem dX12_asks_4 : decode prog_14_method_44_code 4 = .ok (.iconst 0, 1) := by decide +kernel
theorem dX12_asks_5 : decode prog_14_method_44_code 5 = .ok (.dconst 1, 1) := by decide +kernel
theorem dX12_asks_6 : decode prog_14_method_44_code 6 = .ok (.dastore, 1) := by decide +kernel
theorem dX12_asks_7 : decode prog_14_method_44_code 7 = .ok (.iconst 1, 1) := by decide +kernel
theorem dX12_asks_8 : decode prog_14_method_44_code 8 = .ok (.istore_n 3, 1) := by decide +kernel
theorem dX12_asks_9 : decode prog_14_method_44_code 9 = .ok (.iload_n 3, 1) := by decide +kernel
theorem dX12_asks_10 : decode prog_14_method_44_code 10 = .ok (.iload_n 2, 1) := by decide +kernel
theorem dX12_asks_11 : decode prog_14_method_44_code 11 = .ok (.if_icmp .gt 132, 3) := by decide +kernel
theorem dX12_asks_14 : decode prog_14_method_44_code 14 = .ok (.aload_n 0, 1) := by decide +kernel
theorem dX12_asks_15 : decode prog_14_method_44_code 15 = .ok (.iload_n 1, 1) := by decide +kernel
theorem dX12_asks_16 : decode prog_14_method_44_code 16 = .ok (.iload_n 3, 1) := by decide +kernel
theorem dX12_asks_17 : decode prog_14_method_44_code 17 = .ok (.invokevirtual 133, 3) := by decide +kernel
theorem dX12_asks_20 : decode prog_14_method_44_code 20 = .ok (.i2d, 1) := by decide +kernel
theorem dX12_asks_21 : decode prog_14_method_44_code 21 = .ok (.ldc2_w 98, 3) := by decide +kernel
theorem dX12_asks_24 : decode prog_14_method_44_code 24 = .ok (.ddiv, 1) := by decide +kernel
theorem dX12_asks_25 : decode prog_14_method_44_code 25 = .ok (.dstore 4, 2) := by decide +kernel
theorem dX12_asks_27 : decode prog_14_method_44_code 27 = .ok (.iconst 0, 1) := by decide +kernel
theorem dX12_asks_28 : decode prog_14_method_44_code 28 = .ok (.istore 6, 2) := by decide +kernel
theorem dX12_asks_30 : decode prog_14_method_44_code 30 = .ok (.iload 6, 2) := by decide +kernel
theorem dX12_asks_32 : decode prog_14_method_44_code 32 = .ok (.iload_n 3, 1) := by decide +kernel
theorem dX12_asks_33 : decode prog_14_method_44_code 33 = .ok (.if_icmp .ge 23, 3) := by decide +kernel
theorem dX12_asks_36 : decode prog_14_method_44_code 36 = .ok (.aload_n 0, 1) := by decide +kernel
theorem dX12_asks_37 : decode prog_14_method_44_code 37 = .ok (.getfield 47, 3) := by decide +kernel
theorem dX12_asks_40 : decode prog_14_method_44_code 40 = .ok (.iload 6, 2) := by decide +kernel
theorem dX12_asks_42 : decode prog_14_method_44_code 42 = .ok (.aload_n 0, 1) := by decide +kernel
theorem dX12_asks_43 : decode prog_14_method_44_code 43 = .ok (.getfield 44, 3) := by decide +kernel
theorem dX12_asks_46 : decode prog_14_method_44_code 46 = .ok (.iload 6, 2) := by decide +kernel
theorem dX12_asks_48 : decode prog_14_method_44_code 48 = .ok (.daload, 1) := by decide +kernel
theorem dX12_asks_49 : decode prog_14_method_44_code 49 = .ok (.dastore, 1) := by decide +kernel
theorem dX12_asks_50 : decode prog_14_method_44_code 50 = .ok (.iinc 6 1, 3) := by decide +kernel
theorem dX12_asks_53 : decode prog_14_method_44_code 53 = .ok (.goto (-23), 3) := by decide +kernel
theorem dX12_asks_56 : decode prog_14_method_44_code 56 = .ok (.aload_n 0, 1) := by decide +kernel
theorem dX12_asks_57 : decode prog_14_method_44_code 57 = .ok (.getfield 44, 3) := by decide +kernel
theorem dX12_asks_60 : decode prog_14_method_44_code 60 = .ok (.iconst 0, 1) := by decide +kernel
theorem dX12_asks_61 : decode prog_14_method_44_code 61 = .ok (.aload_n 0, 1) := by decide +kernel
theorem dX12_asks_62 : decode prog_14_method_44_code 62 = .ok (.getfield 47, 3) := by decide +kernel
theorem dX12_asks_65 : decode prog_14_method_44_code 65 = .ok (.iconst 0, 1) := by decide +kernel
theorem dX12_asks_66 : decode prog_14_method_44_code 66 = .ok (.daload, 1) := by decide +kernel
theorem dX12_asks_67 : decode prog_14_method_44_code 67 = .ok (.dconst 1, 1) := by decide +kernel
theorem dX12_asks_68 : decode prog_14_method_44_code 68 = .ok (.dload 4, 2) := by decide +kernel
theorem dX12_asks_70 : decode prog_14_method_44_code 70 = .ok (.dsub, 1) := by decide +kernel
theorem dX12_asks_71 : decode prog_14_method_44_code 71 = .ok (.dmul, 1) := by decide +kernel
theorem dX12_asks_72 : decode prog_14_method_44_code 72 = .ok (.dastore, 1) := by decide +kernel
theorem dX12_asks_73 : decode prog_14_method_44_code 73 = .ok (.iconst 1, 1) := by decide +kernel
theorem dX12_asks_74 : decode prog_14_method_44_code 74 = .ok (.istore 6, 2) := by decide +kernel
theorem dX12_asks_76 : decode prog_14_method_44_code 76 = .ok (.iload 6, 2) := by decide +kernel
theorem dX12_asks_78 : decode prog_14_method_44_code 78 = .ok (.iload_n 3, 1) := by decide +kernel
theorem dX12_asks_79 : decode prog_14_method_44_code 79 = .ok (.if_icmp .ge 41, 3) := by decide +kernel
theorem dX12_asks_82 : decode prog_14_method_44_code 82 = .ok (.aload_n 0, 1) := by decide +kernel
theorem dX12_asks_83 : decode prog_14_method_44_code 83 = .ok (.getfield 44, 3) := by decide +kernel
theorem dX12_asks_86 : decode prog_14_method_44_code 86 = .ok (.iload 6, 2) := by decide +kernel
theorem dX12_asks_88 : decode prog_14_method_44_code 88 = .ok (.aload_n 0, 1) := by decide +kernel
theorem dX12_asks_89 : decode prog_14_method_44_code 89 = .ok (.getfield 47, 3) := by decide +kernel
theorem dX12_asks_92 : decode prog_14_method_44_code 92 = .ok (.iload 6, 2) := by decide +kernel
theorem dX12_asks_94 : decode prog_14_method_44_code 94 = .ok (.daload, 1) := by decide +kernel
theorem dX12_asks_95 : decode prog_14_method_44_code 95 = .ok (.dconst 1, 1) := by decide +kernel
theorem dX12_asks_96 : decode prog_14_method_44_code 96 = .ok (.dload 4, 2) := by decide +kernel
theorem dX12_asks_98 : decode prog_14_method_44_code 98 = .ok (.dsub, 1) := by decide +kernel
theorem dX12_asks_99 : decode prog_14_method_44_code 99 = .ok (.dmul, 1) := by decide +kernel
theorem dX12_asks_100 : decode prog_14_method_44_code 100 = .ok (.aload_n 0, 1) := by decide +kernel
theorem dX12_asks_101 : decode prog_14_method_44_code 101 = .ok (.getfield 47, 3) := by decide +kernel
theorem dX12_asks_104 : decode prog_14_method_44_code 104 = .ok (.iload 6, 2) := by decide +kernel
theorem dX12_asks_106 : decode prog_14_method_44_code 106 = .ok (.iconst 1, 1) := by decide +kernel
theorem dX12_asks_107 : decode prog_14_method_44_code 107 = .ok (.isub, 1) := by decide +kernel
theorem dX12_asks_108 : decode prog_14_method_44_code 108 = .ok (.daload, 1) := by decide +kernel
theorem dX12_asks_109 : decode prog_14_method_44_code 109 = .ok (.dload 4, 2) := by decide +kernel
theorem dX12_asks_111 : decode prog_14_method_44_code 111 = .ok (.dmul, 1) := by decide +kernel
theorem dX12_asks_112 : decode prog_14_method_44_code 112 = .ok (.dadd, 1) := by decide +kernel
theorem dX12_asks_113 : decode prog_14_method_44_code 113 = .ok (.dastore, 1) := by decide +kernel
theorem dX12_asks_114 : decode prog_14_method_44_code 114 = .ok (.iinc 6 1, 3) := by decide +kernel
theorem dX12_asks_117 : decode prog_14_method_44_code 117 = .ok (.goto (-41), 3) := by decide +kernel
theorem dX12_asks_120 : decode prog_14_method_44_code 120 = .ok (.aload_n 0, 1) := by decide +kernel
theorem dX12_asks_121 : decode prog_14_method_44_code 121 = .ok (.getfield 44, 3) := by decide +kernel
theorem dX12_asks_124 : decode prog_14_method_44_code 124 = .ok (.iload_n 3, 1) := by decide +kernel
theorem dX12_asks_125 : decode prog_14_method_44_code 125 = .ok (.aload_n 0, 1) := by decide +kernel
theorem dX12_asks_126 : decode prog_14_method_44_code 126 = .ok (.getfield 47, 3) := by decide +kernel
theorem dX12_asks_129 : decode prog_14_method_44_code 129 = .ok (.iload_n 3, 1) := by decide +kernel
theorem dX12_asks_130 : decode prog_14_method_44_code 130 = .ok (.iconst 1, 1) := by decide +kernel
theorem dX12_asks_131 : decode prog_14_method_44_code 131 = .ok (.isub, 1) := by decide +kernel
theorem dX12_asks_132 : decode prog_14_method_44_code 132 = .ok (.daload, 1) := by decide +kernel
theorem dX12_asks_133 : decode prog_14_method_44_code 133 = .ok (.dload 4, 2) := by decide +kernel
theorem dX12_asks_135 : decode prog_14_method_44_code 135 = .ok (.dmul, 1) := by decide +kernel
theorem dX12_asks_136 : decode prog_14_method_44_code 136 = .ok (.dastore, 1) := by decide +kernel
theorem dX12_asks_137 : decode prog_14_method_44_code 137 = .ok (.iinc 3 1, 3) := by decide +kernel
theorem dX12_asks_140 : decode prog_14_method_44_code 140 = .ok (.goto (-131), 3) := by decide +kernel
theorem dX12_asks_143 : decode prog_14_method_44_code 143 = .ok (.return_, 1) := by decide +kernel
def m_X12_asks_L76 (N : Nat) (k9 : Nat → Int32 → Int32 → Int32 → mM → Option (mM)) : Nat → Nat → Int32 → Int32 → Int32 → UInt64 → Int32 → mM → Option (mM)
  | 0, _, _, _, _, _, _, _ => none
  | n + 1, a0, i1, i2, i3, d4, i6, M =>
    if i3 ≤ i6 then (
      (fR M a0 12 13).bind fun x1 =>
      (fR M a0 12 14).bind fun x3 =>
      (aD M x3 (i3 - 1)).bind fun x5 =>
      (oD (FP.dmul x5 d4)).bind fun x7 =>
      (uD M x1 i3 x7).bind fun M9 =>
      k9 a0 i1 i2 (i3 + 1) M9) else (
      (fR M a0 12 13).bind fun x11 =>
      (fR M a0 12 14).bind fun x13 =>
      (aD M x13 i6).bind fun x15 =>
      (oD (FP.dsub FP.dconst1 d4)).bind fun x17 =>
      (oD (FP.dmul x15 x17)).bind fun x19 =>
      (fR M a0 12 14).bind fun x21 =>
      (aD M x21 (i6 - 1)).bind fun x23 =>
      (oD (FP.dmul x23 d4)).bind fun x25 =>
      (oD (FP.dadd x19 x25)).bind fun x27 =>
      (uD M x11 i6 x27).bind fun M29 =>
      (m_X12_asks_L76 N k9  n) a0 i1 i2 i3 d4 (i6 + 1) M29)
set_option maxHeartbeats 4000000 in
set_option maxRecDepth 100000 in
theorem t_X12_asks_L76 {X : mX} {L0 : Launch} {res : mM} {N : Nat} (C : CX X RX12 "asks" prog_14_method_44_code 7 none) (E : EX X L0 1 22 0 0 none res) (k9 : Nat → Int32 → Int32 → Int32 → mM → Option (mM)) (Hk9 : ∀ (a0 : Nat) (i1 : Int32) (i2 : Int32) (i3 : Int32) (M : mM), k9 a0 i1 i2 i3 M = some res → EV X 7 9 [(0, .ref a0), (1, .int i1), (2, .int i2), (3, .int i3)] [] 0 0 M) : ∀ (n : Nat) (a0 : Nat) (i1 : Int32) (i2 : Int32) (i3 : Int32) (d4 : UInt64) (i6 : Int32) (M : mM), m_X12_asks_L76 N k9 n a0 i1 i2 i3 d4 i6 M = some res → EV X 7 76 [(0, .ref a0), (1, .int i1), (2, .int i2), (3, .int i3), (4, .double d4), (6, .int i6)] [] 0 0 M := by
  intro n
  induction n with
  | zero => intro a0 i1 i2 i3 d4 i6 M hf; cases (show (none : Option (mM)) = some res from hf)
  | succ n ih =>
    intro a0 i1 i2 i3 d4 i6 M hf
    rw [m_X12_asks_L76] at hf
    refine ev_iload C dX12_asks_76 (q := 5) rfl ?_
    refine ev_iload_n C dX12_asks_78 rfl (q := 3) rfl ?_
    refine ev_icmp_ge (tgt := 120) C dX12_asks_79 (by decide) (fun hc => ?_) (fun hc => ?_)
    · have hf := oit hf hc
      refine ev_aload_n C dX12_asks_120 rfl (q := 0) rfl ?_
      obtain ⟨x1, e2, hf⟩ := obnd hf
      refine ev_get (k := 13) C ok_12 dX12_asks_121 (by decide) kw_1172 (fR_V e2) ?_
      refine ev_iload_n C dX12_asks_124 rfl (q := 3) rfl ?_
      refine ev_aload_n C dX12_asks_125 rfl (q := 0) rfl ?_
      obtain ⟨x3, e4, hf⟩ := obnd hf
      refine ev_get (k := 14) C ok_12 dX12_asks_126 (by decide) kw_1173 (fR_V e4) ?_
      refine ev_iload_n C dX12_asks_129 rfl (q := 3) rfl ?_
      refine ev_iconst (v := 1) C dX12_asks_130 (by decide) ?_
      refine ev_isub C dX12_asks_131 ?_
      obtain ⟨x5, e6, hf⟩ := obnd hf
      refine ev_dald C dX12_asks_132 e6 ?_
      refine ev_dload C dX12_asks_133 (q := 4) rfl ?_
      obtain ⟨x7, e8, hf⟩ := obnd hf
      obtain ⟨e8, e8q⟩ := oD_eq e8
      refine ev_dmul C dX12_asks_135 e8 ?_
      rw [← e8q]
      obtain ⟨M9, e10, hf⟩ := obnd hf
      refine ev_dast C dX12_asks_136 e10 ?_
      refine ev_iinc (v := i3 + 1) (l' := [(3, .int (i3 + 1)), (0, .ref a0), (1, .int i1), (2, .int i2), (4, .double d4), (6, .int i6)]) C dX12_asks_137 (q := 3) rfl rfl (by decide) rfl ?_
      refine ev_goto (tgt := 9) C dX12_asks_140 (by decide) ?_
      refine ev_sub [1, 2, 3, 0] rfl ?_
      exact Hk9 a0 i1 i2 (i3 + 1) M9 hf
    · have hf := oie hf hc
      refine ev_aload_n C dX12_asks_82 rfl (q := 0) rfl ?_
      obtain ⟨x11, e12, hf⟩ := obnd hf
      refine ev_get (k := 13) C ok_12 dX12_asks_83 (by decide) kw_1172 (fR_V e12) ?_
      refine ev_iload C dX12_asks_86 (q := 5) rfl ?_
      refine ev_aload_n C dX12_asks_88 rfl (q := 0) rfl ?_
      obtain ⟨x13, e14, hf⟩ := obnd hf
      refine ev_get (k := 14) C ok_12 dX12_asks_89 (by decide) kw_1173 (fR_V e14) ?_
      refine ev_iload C dX12_asks_92 (q := 5) rfl ?_
      obtain ⟨x15, e16, hf⟩ := obnd hf
      refine ev_dald C dX12_asks_94 e16 ?_
      refine ev_dconst1 C dX12_asks_95 ?_
      refine ev_dload C dX12_asks_96 (q := 4) rfl ?_
      obtain ⟨x17, e18, hf⟩ := obnd hf
      obtain ⟨e18, e18q⟩ := oD_eq e18
      refine ev_dsub C dX12_asks_98 e18 ?_
      rw [← e18q]
      obtain ⟨x19, e20, hf⟩ := obnd hf
      obtain ⟨e20, e20q⟩ := oD_eq e20
      refine ev_dmul C dX12_asks_99 e20 ?_
      rw [← e20q]
      refine ev_aload_n C dX12_asks_100 rfl (q := 0) rfl ?_
      obtain ⟨x21, e22, hf⟩ := obnd hf
      refine ev_get (k := 14) C ok_12 dX12_asks_101 (by decide) kw_1173 (fR_V e22) ?_
      refine ev_iload C dX12_asks_104 (q := 5) rfl ?_
      refine ev_iconst (v := 1) C dX12_asks_106 (by decide) ?_
      refine ev_isub C dX12_asks_107 ?_
      obtain ⟨x23, e24, hf⟩ := obnd hf
      refine ev_dald C dX12_asks_108 e24 ?_
      refine ev_dload C dX12_asks_109 (q := 4) rfl ?_
      obtain ⟨x25, e26, hf⟩ := obnd hf
      obtain ⟨e26, e26q⟩ := oD_eq e26
      refine ev_dmul C dX12_asks_111 e26 ?_
      rw [← e26q]
      obtain ⟨x27, e28, hf⟩ := obnd hf
      obtain ⟨e28, e28q⟩ := oD_eq e28
      refine ev_dadd C dX12_asks_112 e28 ?_
      rw [← e28q]
      obtain ⟨M29, e30, hf⟩ := obnd hf
      refine ev_dast C dX12_asks_113 e30 ?_
      refine ev_iinc (v := i6 + 1) (l' := [(6, .int (i6 + 1)), (0, .ref a0), (1, .int i1), (2, .int i2), (3, .int i3), (4, .double d4)]) C dX12_asks_114 (q := 5) rfl rfl (by decide) rfl ?_
      refine ev_goto (tgt := 76) C dX12_asks_117 (by decide) ?_
      refine ev_sub [1, 2, 3, 4, 5, 0] rfl ?_
      exact ih a0 i1 i2 i3 d4 (i6 + 1) M29 hf
def m_X12_asks_L30 (N : Nat) (k9 : Nat → Int32 → Int32 → Int32 → mM → Option (mM)) : Nat → Nat → Int32 → Int32 → Int32 → UInt64 → Int32 → mM → Option (mM)
  | 0, _, _, _, _, _, _, _ => none
  | n + 1, a0, i1, i2, i3, d4, i6, M =>
    if i3 ≤ i6 then (
      (fR M a0 12 13).bind fun x1 =>
      (fR M a0 12 14).bind fun x3 =>
      (aD M x3 0).bind fun x5 =>
      (oD (FP.dsub FP.dconst1 d4)).bind fun x7 =>
      (oD (FP.dmul x5 x7)).bind fun x9 =>
      (uD M x1 0 x9).bind fun M11 =>
      m_X12_asks_L76 N k9 N a0 i1 i2 i3 d4 1 M11) else (
      (fR M a0 12 14).bind fun x13 =>
      (fR M a0 12 13).bind fun x15 =>
      (aD M x15 i6).bind fun x17 =>
      (uD M x13 i6 x17).bind fun M19 =>
      (m_X12_asks_L30 N k9  n) a0 i1 i2 i3 d4 (i6 + 1) M19)
set_option maxHeartbeats 4000000 in
set_option maxRecDepth 100000 in
theorem t_X12_asks_L30 {X : mX} {L0 : Launch} {res : mM} {N : Nat} (C : CX X RX12 "asks" prog_14_method_44_code 7 none) (E : EX X L0 1 22 0 0 none res) (k9 : Nat → Int32 → Int32 → Int32 → mM → Option (mM)) (Hk9 : ∀ (a0 : Nat) (i1 : Int32) (i2 : Int32) (i3 : Int32) (M : mM), k9 a0 i1 i2 i3 M = some res → EV X 7 9 [(0, .ref a0), (1, .int i1), (2, .int i2), (3, .int i3)] [] 0 0 M) : ∀ (n : Nat) (a0 : Nat) (i1 : Int32) (i2 : Int32) (i3 : Int32) (d4 : UInt64) (i6 : Int32) (M : mM), m_X12_asks_L30 N k9 n a0 i1 i2 i3 d4 i6 M = some res → EV X 7 30 [(0, .ref a0), (1, .int i1), (2, .int i2), (3, .int i3), (4, .double d4), (6, .int i6)] [] 0 0 M := by
  intro n
  induction n with
  | zero => intro a0 i1 i2 i3 d4 i6 M hf; cases (show (none : Option (mM)) = some res from hf)
  | succ n ih =>
    intro a0 i1 i2 i3 d4 i6 M hf
    rw [m_X12_asks_L30] at hf
    refine ev_iload C dX12_asks_30 (q := 5) rfl ?_
    refine ev_iload_n C dX12_asks_32 rfl (q := 3) rfl ?_
    refine ev_icmp_ge (tgt := 56) C dX12_asks_33 (by decide) (fun hc => ?_) (fun hc => ?_)
    · have hf := oit hf hc
      refine ev_aload_n C dX12_asks_56 rfl (q := 0) rfl ?_
      obtain ⟨x1, e2, hf⟩ := obnd hf
      refine ev_get (k := 13) C ok_12 dX12_asks_57 (by decide) kw_1172 (fR_V e2) ?_
      refine ev_iconst (v := 0) C dX12_asks_60 (by decide) ?_
      refine ev_aload_n C dX12_asks_61 rfl (q := 0) rfl ?_
      obtain ⟨x3, e4, hf⟩ := obnd hf
      refine ev_get (k := 14) C ok_12 dX12_asks_62 (by decide) kw_1173 (fR_V e4) ?_
      refine ev_iconst (v := 0) C dX12_asks_65 (by decide) ?_
      obtain ⟨x5, e6, hf⟩ := obnd hf
      refine ev_dald C dX12_asks_66 e6 ?_
      refine ev_dconst1 C dX12_asks_67 ?_
      refine ev_dload C dX12_asks_68 (q := 4) rfl ?_
      obtain ⟨x7, e8, hf⟩ := obnd hf
      obtain ⟨e8, e8q⟩ := oD_eq e8
      refine ev_dsub C dX12_asks_70 e8 ?_
      rw [← e8q]
      obtain ⟨x9, e10, hf⟩ := obnd hf
      obtain ⟨e10, e10q⟩ := oD_eq e10
      refine ev_dmul C dX12_asks_71 e10 ?_
      rw [← e10q]
      obtain ⟨M11, e12, hf⟩ := obnd hf
      refine ev_dast C dX12_asks_72 e12 ?_
      refine ev_iconst (v := 1) C dX12_asks_73 (by decide) ?_
      refine ev_istore (l' := [(6, .int 1), (0, .ref a0), (1, .int i1), (2, .int i2), (3, .int i3), (4, .double d4)]) C dX12_asks_74 (by decide) rfl ?_
      refine ev_sub [1, 2, 3, 4, 5, 0] rfl ?_
      exact t_X12_asks_L76 C E k9 Hk9 N a0 i1 i2 i3 d4 1 M11 hf
    · have hf := oie hf hc
      refine ev_aload_n C dX12_asks_36 rfl (q := 0) rfl ?_
      obtain ⟨x13, e14, hf⟩ := obnd hf
      refine ev_get (k := 14) C ok_12 dX12_asks_37 (by decide) kw_1173 (fR_V e14) ?_
      refine ev_iload C dX12_asks_40 (q := 5) rfl ?_
      refine ev_aload_n C dX12_asks_42 rfl (q := 0) rfl ?_
      obtain ⟨x15, e16, hf⟩ := obnd hf
      refine ev_get (k := 13) C ok_12 dX12_asks_43 (by decide) kw_1172 (fR_V e16) ?_
      refine ev_iload C dX12_asks_46 (q := 5) rfl ?_
      obtain ⟨x17, e18, hf⟩ := obnd hf
      refine ev_dald C dX12_asks_48 e18 ?_
      obtain ⟨M19, e20, hf⟩ := obnd hf
      refine ev_dast C dX12_asks_49 e20 ?_
      refine ev_iinc (v := i6 + 1) (l' := [(6, .int (i6 + 1)), (0, .ref a0), (1, .int i1), (2, .int i2), (3, .int i3), (4, .double d4)]) C dX12_asks_50 (q := 5) rfl rfl (by decide) rfl ?_
      refine ev_goto (tgt := 30) C dX12_asks_53 (by decide) ?_
      refine ev_sub [1, 2, 3, 4, 5, 0] rfl ?_
      exact ih a0 i1 i2 i3 d4 (i6 + 1) M19 hf
def m_X12_asks_L9 (N : Nat)  : Nat → Nat → Int32 → Int32 → Int32 → mM → Option (mM)
  | 0, _, _, _, _, _ => none
  | n + 1, a0, i1, i2, i3, M =>
    if i2 < i3 then (
      some M) else (
      (oO M a0 12).bind fun _ =>
      (m_X12_odds a0 i1 i3 M).bind fun x3 =>
      (oD (FP.ddiv (FP.i2d x3) 4636737291354636288)).bind fun x5 =>
      m_X12_asks_L30 N (m_X12_asks_L9 N  n) N a0 i1 i2 i3 x5 0 M)
set_option maxHeartbeats 4000000 in
set_option maxRecDepth 100000 in
theorem t_X12_asks_L9 {X : mX} {L0 : Launch} {res : mM} {N : Nat} (C : CX X RX12 "asks" prog_14_method_44_code 7 none) (E : EX X L0 1 22 0 0 none res)   : ∀ (n : Nat) (a0 : Nat) (i1 : Int32) (i2 : Int32) (i3 : Int32) (M : mM), m_X12_asks_L9 N  n a0 i1 i2 i3 M = some res → EV X 7 9 [(0, .ref a0), (1, .int i1), (2, .int i2), (3, .int i3)] [] 0 0 M := by
  intro n
  induction n with
  | zero => intro a0 i1 i2 i3 M hf; cases (show (none : Option (mM)) = some res from hf)
  | succ n ih =>
    intro a0 i1 i2 i3 M hf
    rw [m_X12_asks_L9] at hf
    refine ev_iload_n C dX12_asks_9 rfl (q := 3) rfl ?_
    refine ev_iload_n C dX12_asks_10 rfl (q := 2) rfl ?_
    refine ev_icmp_gt (tgt := 143) C dX12_asks_11 (by decide) (fun hc => ?_) (fun hc => ?_)
    · have hf := oit hf hc
      obtain rfl := Option.some.inj hf
      exact ev_vret C E (Nat.le_refl 0) (Nat.le_refl 0) dX12_asks_143
    · have hf := oie hf hc
      refine ev_aload_n C dX12_asks_14 rfl (q := 0) rfl ?_
      refine ev_iload_n C dX12_asks_15 rfl (q := 1) rfl ?_
      refine ev_iload_n C dX12_asks_16 rfl (q := 3) rfl ?_
      obtain ⟨_, e1, hf⟩ := obnd hf
      obtain ⟨fs2, e1⟩ := oO_eq e1
      obtain ⟨x3, e4, hf⟩ := obnd hf
      refine ev_callV0 (As := [.int i1, .int i3]) (st := []) C rfl e1 (t_X12_odds e4) rfl hd_X12_odds rfl kw_1346 kw_1348 kw_87 kw_28 kw_1349 (mRoom.of E (Nat.le_of_ble_eq_true rfl) (Nat.le_of_ble_eq_true rfl) (Nat.le_refl 0) (Nat.le_refl 0)) (Nat.le_of_ble_eq_true rfl) dX12_asks_17 ?_
      refine ev_i2d C dX12_asks_20 ?_
      refine ev_ldc2d (v := 4636737291354636288) C dX12_asks_21 kw_1297 ?_
      obtain ⟨x5, e6, hf⟩ := obnd hf
      obtain ⟨e6, e6q⟩ := oD_eq e6
      refine ev_ddiv C dX12_asks_24 e6 ?_
      rw [← e6q]
      refine ev_dstore (l' := [(4, .double x5), (0, .ref a0), (1, .int i1), (2, .int i2), (3, .int i3)]) C dX12_asks_25 (by decide) rfl ?_
      refine ev_iconst (v := 0) C dX12_asks_27 (by decide) ?_
      refine ev_istore (l' := [(6, .int 0), (4, .double x5), (0, .ref a0), (1, .int i1), (2, .int i2), (3, .int i3)]) C dX12_asks_28 (by decide) rfl ?_
      refine ev_sub [2, 3, 4, 5, 1, 0] rfl ?_
      exact t_X12_asks_L30 C E (m_X12_asks_L9 N  n) ih N a0 i1 i2 i3 x5 0 M hf
def m_X12_asks (N : Nat) (a0 : Nat) (i1 : Int32) (i2 : Int32) (M : mM) : Option (mM) :=
  (fR M a0 12 13).bind fun x1 =>
  (uD M x1 0 FP.dconst1).bind fun M3 =>
  m_X12_asks_L9 N  N a0 i1 i2 1 M3
set_option maxHeartbeats 4000000 in
set_option maxRecDepth 100000 in
theorem t_X12_asks {L0 : Launch} {M : mM} {N : Nat} {a0 : Nat} {i1 : Int32} {i2 : Int32} {res : mM} (hf : m_X12_asks N a0 i1 i2 M = some res) : CT L0 yX12_asks prog_14_method_44_code 7 none 1 22 0 0 [.ref a0, .int i1, .int i2] M none res := by
  refine CT.of (by decide +kernel) (Nat.le_of_ble_eq_true rfl) fun X C E => ?_
  have C : CX X RX12 "asks" prog_14_method_44_code 7 none := C
  show EV X 7 0 [(0, .ref a0), (1, .int i1), (2, .int i2)] [] 0 0 M
  unfold m_X12_asks at hf
  refine ev_aload_n C dX12_asks_0 rfl (q := 0) rfl ?_
  obtain ⟨x1, e2, hf⟩ := obnd hf
  refine ev_get (k := 13) C ok_12 dX12_asks_1 (by decide) kw_1172 (fR_V e2) ?_
  refine ev_iconst (v := 0) C dX12_asks_4 (by decide) ?_
  refine ev_dconst1 C dX12_asks_5 ?_
  obtain ⟨M3, e4, hf⟩ := obnd hf
  refine ev_dast C dX12_asks_6 e4 ?_
  refine ev_iconst (v := 1) C dX12_asks_7 (by decide) ?_
  refine ev_istore_n (l' := [(3, .int 1), (0, .ref a0), (1, .int i1), (2, .int i2)]) C dX12_asks_8 rfl (by decide) rfl ?_
  refine ev_sub [1, 2, 3, 0] rfl ?_
  exact t_X12_asks_L9 C E   N a0 i1 i2 1 M3 hf
/-! FareLimitsModel demand(III)J -/
theorem dX12_demand_0 : decode prog_14_method_45_code 0 = .ok (.aload_n 0, 1) := by decide +kernel
theorem dX12_demand_1 : decode prog_14_method_45_code 1 = .ok (.iload_n 1, 1) := by decide +kernel
theorem dX12_demand_2 : decode prog_14_method_45_code 2 = .ok (.invokevirtual 82, 3) := by decide +kernel
theorem dX12_demand_5 : decode prog_14_method_45_code 5 = .ok (.ifCond .eq 17, 3) := by decide +kernel
theorem dX12_demand_8 : decode prog_14_method_45_code 8 = .ok (.iload_n 2, 1) := by decide +kernel
theorem dX12_demand_9 : decode prog_14_method_45_code 9 = .ok (.invokestatic 111, 3) := by decide +kernel
theorem dX12_demand_12 : decode prog_14_method_45_code 12 = .ok (.ifCond .eq 10, 3) := by decide +kernel
theorem dX12_demand_15 : decode prog_14_method_45_code 15 = .ok (.iload_n 3, 1) := by decide +kernel
theorem dX12_demand_16 : decode prog_14_method_45_code 16 = .ok (.invokestatic 111, 3) := by decide +kernel
theorem dX12_demand_19 : decode prog_14_method_45_code 19 = .ok (.ifCond .ne 7, 3) := by decide +kernel
theorem dX12_demand_22 : decode prog_14_method_45_code 22 = .ok (.ldc2_w 120, 3) := by decide +kernel
theorem dX12_demand_25 : decode prog_14_method_45_code 25 = .ok (.lreturn, 1) := by decide +kernel
theorem dX12_demand_26 : decode prog_14_method_45_code 26 = .ok (.aload_n 0, 1) := by decide +kernel
theorem dX12_demand_27 : decode prog_14_method_45_code 27 = .ok (.iload_n 1, 1) := by decide +kernel
theorem dX12_demand_28 : decode prog_14_method_45_code 28 = .ok (.iload_n 2, 1) := by decide +kernel
theorem dX12_demand_29 : decode prog_14_method_45_code 29 = .ok (.invokevirtual 198, 3) := by decide +kernel
theorem dX12_demand_32 : decode prog_14_method_45_code 32 = .ok (.iload_n 3, 1) := by decide +kernel
theorem dX12_demand_33 : decode prog_14_method_45_code 33 = .ok (.iload_n 2, 1) := by decide +kernel
theorem dX12_demand_34 : decode prog_14_method_45_code 34 = .ok (.if_icmp .le 7, 3) := by decide +kernel
theorem dX12_demand_37 : decode prog_14_method_45_code 37 = .ok (.dconst 0, 1) := by decide +kernel
theorem dX12_demand_38 : decode prog_14_method_45_code 38 = .ok (.goto 9, 3) := by decide +kernel
theorem dX12_demand_41 : decode prog_14_method_45_code 41 = .ok (.aload_n 0, 1) := by decide +kernel
theorem dX12_demand_42 : decode prog_14_method_45_code 42 = .ok (.getfield 44, 3) := by decide +kernel
theorem dX12_demand_45 : decode prog_14_method_45_code 45 = .ok (.iload_n 3, 1) := by decide +kernel
theorem dX12_demand_46 : decode prog_14_method_45_code 46 = .ok (.daload, 1) := by decide +kernel
theorem dX12_demand_47 : decode prog_14_method_45_code 47 = .ok (.invokestatic 114, 3) := by decide +kernel
theorem dX12_demand_50 : decode prog_14_method_45_code 50 = .ok (.lreturn, 1) := by decide +kernel
def m_X12_demand (N : Nat) (a0 : Nat) (i1 : Int32) (i2 : Int32) (i3 : Int32) (M : mM) : Option (Int64 × mM) :=
  (oO M a0 12).bind fun _ =>
  (m_X12_isFare a0 i1 M).bind fun x3 =>
  if x3 = 0 then (
    some ((-9223372036854775808), M)) else (
    (m_X12_isStage i2).bind fun x5 =>
    if x5 = 0 then (
      some ((-9223372036854775808), M)) else (
      (m_X12_isStage i3).bind fun x7 =>
      if x7 = 0 then (
        some ((-9223372036854775808), M)) else (
        (oO M a0 12).bind fun _ =>
        (m_X12_asks N a0 i1 i2 M).bind fun x11 =>
        if i3 ≤ i2 then (
          (fR x11 a0 12 13).bind fun x13 =>
          (aD x11 x13 i3).bind fun x15 =>
          (m_Jxe99ae_doubleToLongBits_ccdee x15).bind fun x17 =>
          some (x17, x11)) else (
          (m_Jxe99ae_doubleToLongBits_ccdee FP.dconst0).bind fun x19 =>
          some (x19, x11)))))
set_option maxHeartbeats 4000000 in
set_option maxRecDepth 100000 in
theorem t_X12_demand {L0 : Launch} {M : mM} {N : Nat} {a0 : Nat} {i1 : Int32} {i2 : Int32} {i3 : Int32} {res : Int64 × mM} (hf : m_X12_demand N a0 i1 i2 i3 M = some res) : CT L0 yX12_demand prog_14_method_45_code 4 (some .long) 2 61 0 0 [.ref a0, .int i1, .int i2, .int i3] M (some (.long res.1)) res.2 := by
  refine CT.of (by decide +kernel) (Nat.le_of_ble_eq_true rfl) fun X C E => ?_
  have C : CX X RX12 "demand" prog_14_method_45_code 4 (some .long) := C
  show EV X 4 0 [(0, .ref a0), (1, .int i1), (2, .int i2), (3, .int i3)] [] 0 0 M
  unfold m_X12_demand at hf
  refine ev_aload_n C dX12_demand_0 rfl (q := 0) rfl ?_
  refine ev_iload_n C dX12_demand_1 rfl (q := 1) rfl ?_
  obtain ⟨_, e1, hf⟩ := obnd hf
  obtain ⟨fs2, e1⟩ := oO_eq e1
  obtain ⟨x3, e4, hf⟩ := obnd hf
  refine ev_callV0 (As := [.int i1]) (st := []) C rfl e1 (t_X12_isFare e4) rfl hd_X12_isFare rfl kw_1261 kw_1263 kw_87 kw_20 kw_1264 (mRoom.of E (Nat.le_of_ble_eq_true rfl) (Nat.le_of_ble_eq_true rfl) (Nat.le_refl 0) (Nat.le_refl 0)) (Nat.le_of_ble_eq_true rfl) dX12_demand_2 ?_
  refine ev_if_eq (tgt := 22) C dX12_demand_5 (by decide) (fun hc => ?_) (fun hc => ?_)
  · have hf := oit hf hc
    refine ev_ldc2 (v := (-9223372036854775808)) C dX12_demand_22 kw_1308 ?_
    obtain rfl := Option.some.inj hf
    exact ev_lret C E (Nat.le_refl 0) (Nat.le_refl 0) dX12_demand_25
  · have hf := oie hf hc
    refine ev_iload_n C dX12_demand_8 rfl (q := 2) rfl ?_
    obtain ⟨x5, e6, hf⟩ := obnd hf
    refine ev_callS0 (As := [.int i2]) (st := []) C (t_X12_isStage e6) hd_X12_isStage rfl kw_1289 kw_1290 kw_87 kw_1291 (mRoom.of E (Nat.le_of_ble_eq_true rfl) (Nat.le_of_ble_eq_true rfl) (Nat.le_refl 0) (Nat.le_refl 0)) (Nat.le_of_ble_eq_true rfl) dX12_demand_9 ?_
    refine ev_if_eq (tgt := 22) C dX12_demand_12 (by decide) (fun hc => ?_) (fun hc => ?_)
    · have hf := oit hf hc
      refine ev_ldc2 (v := (-9223372036854775808)) C dX12_demand_22 kw_1308 ?_
      obtain rfl := Option.some.inj hf
      exact ev_lret C E (Nat.le_refl 0) (Nat.le_refl 0) dX12_demand_25
    · have hf := oie hf hc
      refine ev_iload_n C dX12_demand_15 rfl (q := 3) rfl ?_
      obtain ⟨x7, e8, hf⟩ := obnd hf
      refine ev_callS0 (As := [.int i3]) (st := []) C (t_X12_isStage e8) hd_X12_isStage rfl kw_1289 kw_1290 kw_87 kw_1291 (mRoom.of E (Nat.le_of_ble_eq_true rfl) (Nat.le_of_ble_eq_true rfl) (Nat.le_refl 0) (Nat.le_refl 0)) (Nat.le_of_ble_eq_true rfl) dX12_demand_16 ?_
      refine ev_if_ne (tgt := 26) C dX12_demand_19 (by decide) (fun hc => ?_) (fun hc => ?_)
      · have hf := oie hf hc
        refine ev_aload_n C dX12_demand_26 rfl (q := 0) rfl ?_
        refine ev_iload_n C dX12_demand_27 rfl (q := 1) rfl ?_
        refine ev_iload_n C dX12_demand_28 rfl (q := 2) rfl ?_
        obtain ⟨_, e9, hf⟩ := obnd hf
        obtain ⟨fs10, e9⟩ := oO_eq e9
        obtain ⟨x11, e12, hf⟩ := obnd hf
        refine ev_callV0 (As := [.int i1, .int i2]) (st := []) C rfl e9 (t_X12_asks e12) rfl hd_X12_asks rfl kw_1450 kw_1452 kw_87 kw_38 kw_1453 (mRoom.of E (Nat.le_of_ble_eq_true rfl) (Nat.le_of_ble_eq_true rfl) (Nat.le_refl 0) (Nat.le_refl 0)) (Nat.le_of_ble_eq_true rfl) dX12_demand_29 ?_
        refine ev_iload_n C dX12_demand_32 rfl (q := 3) rfl ?_
        refine ev_iload_n C dX12_demand_33 rfl (q := 2) rfl ?_
        refine ev_icmp_le (tgt := 41) C dX12_demand_34 (by decide) (fun hc => ?_) (fun hc => ?_)
        · have hf := oit hf hc
          refine ev_aload_n C dX12_demand_41 rfl (q := 0) rfl ?_
          obtain ⟨x13, e14, hf⟩ := obnd hf
          refine ev_get (k := 13) C ok_12 dX12_demand_42 (by decide) kw_1172 (fR_V e14) ?_
          refine ev_iload_n C dX12_demand_45 rfl (q := 3) rfl ?_
          obtain ⟨x15, e16, hf⟩ := obnd hf
          refine ev_dald C dX12_demand_46 e16 ?_
          obtain ⟨x17, e18, hf⟩ := obnd hf
          refine ev_callS0 (As := [.double x15]) (st := []) C (t_Jxe99ae_doubleToLongBits_ccdee e18) hd_Jxe99ae_doubleToLongBits_ccdee rfl kw_1298 kw_1299 kw_89 kw_1300 (mRoom.of E (Nat.le_of_ble_eq_true rfl) (Nat.le_of_ble_eq_true rfl) (Nat.le_refl 0) (Nat.le_refl 0)) (Nat.le_of_ble_eq_true rfl) dX12_demand_47 ?_
          obtain rfl := Option.some.inj hf
          exact ev_lret C E (Nat.le_refl 0) (Nat.le_refl 0) dX12_demand_50
        · have hf := oie hf hc
          refine ev_dconst0 C dX12_demand_37 ?_
          refine ev_goto (tgt := 47) C dX12_demand_38 (by decide) ?_
          obtain ⟨x19, e20, hf⟩ := obnd hf
          refine ev_callS0 (As := [.double FP.dconst0]) (st := []) C (t_Jxe99ae_doubleToLongBits_ccdee e20) hd_Jxe99ae_doubleToLongBits_ccdee rfl kw_1298 kw_1299 kw_89 kw_1300 (mRoom.of E (Nat.le_of_ble_eq_true rfl) (Nat.le_of_ble_eq_true rfl) (Nat.le_refl 0) (Nat.le_refl 0)) (Nat.le_of_ble_eq_true rfl) dX12_demand_47 ?_
          obtain rfl := Option.some.inj hf
          exact ev_lret C E (Nat.le_refl 0) (Nat.le_refl 0) dX12_demand_50
      · have hf := oit hf hc
        refine ev_ldc2 (v := (-9223372036854775808)) C dX12_demand_22 kw_1308 ?_
        obtain rfl := Option.some.inj hf
        exact ev_lret C E (Nat.le_refl 0) (Nat.le_refl 0) dX12_demand_25
