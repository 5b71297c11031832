/-! FareLimits$Worths make(I)V -/
theorem dX10_make_0 : decode prog_12_method_4_code 0 = .ok (.aload_n 0, 1) := by decide +kernel
theorem dX10_make_1 : decode prog_12_method_4_code 1 = .ok (.getfield 20, 3) := by decide +kernel
theorem dX10_make_4 : decode prog_12_method_4_code 4 = .ok (.iload_n 1, 1) := by decide +kernel
theorem dX10_make_5 : decode prog_12_method_4_code 5 = .ok (.iconst 1, 1) := by decide +kernel
theorem dX10_make_6 : decode prog_12_method_4_code 6 = .ok (.isub, 1) := by decide +kernel
theorem dX10_make_7 : decode prog_12_method_4_code 7 = .ok (.invokevirtual 38, 3) := by decide +kernel
theorem dX10_make_10 : decode prog_12_method_4_code 10 = .ok (.dstore_n 2, 1) := by decide +kernel
theorem dX10_make_11 : decode prog_12_method_4_code 11 = .ok (.iconst 0, 1) := by decide +kernel
theorem dX10_make_12 : decode prog_12_method_4_code 12 = .ok (.istore 4, 2) := by decide +kernel
theorem dX10_make_14 : decode prog_12_method_4_code 14 = .ok (.iload 4, 2) := by decide +kernel
theorem dX10_make_16 : decode prog_12_method_4_code 16 = .ok (.aload_n 0, 1) := by decide +kernel
theorem dX10_make_17 : decode prog_12_method_4_code 17 = .ok (.getfield 20, 3) := by decide +kernel
theorem dX10_make_20 : decode prog_12_method_4_code 20 = .ok (.getfield 44, 3) := by decide +kernel
theorem dX10_make_23 : decode prog_12_method_4_code 23 = .ok (.if_icmp .ge 26, 3) := by decide +kernel
theorem dX10_make_26 : decode prog_12_method_4_code 26 = .ok (.aload_n 0, 1) := by decide +kernel
theorem dX10_make_27 : decode prog_12_method_4_code 27 = .ok (.getfield 16, 3) := by decide +kernel
theorem dX10_make_30 : decode prog_12_method_4_code 30 = .ok (.iload 4, 2) := by decide +kernel
theorem dX10_make_32 : decode prog_12_method_4_code 32 = .ok (.aload_n 0, 1) := by decide +kernel
theorem dX10_make_33 : decode prog_12_method_4_code 33 = .ok (.getfield 20, 3) := by decide +kernel
theorem dX10_make_36 : decode prog_12_method_4_code 36 = .ok (.iload 4, 2) := by decide +kernel
theorem dX10_make_38 : decode prog_12_method_4_code 38 = .ok (.dload_n 2, 1) := by decide +kernel
theorem dX10_make_39 : decode prog_12_method_4_code 39 = .ok (.invokevirtual 47, 3) := by decide +kernel
theorem dX10_make_42 : decode prog_12_method_4_code 42 = .ok (.dastore, 1) := by decide +kernel
theorem dX10_make_43 : decode prog_12_method_4_code 43 = .ok (.iinc 4 1, 3) := by decide +kernel
theorem dX10_make_46 : decode prog_12_method_4_code 46 = .ok (.goto (-32), 3) := by decide +kernel
theorem dX10_make_49 : decode prog_12_method_4_code 49 = .ok (.iconst 1, 1) := by decide +kernel
theorem dX10_make_50 : decode prog_12_method_4_code 50 = .ok (.istore 4, 2) := by decide +kernel
theorem dX10_make_52 : decode prog_12_method_4_code 52 = .ok (.iload 4, 2) := by decide +kernel
theorem dX10_make_54 : decode prog_12_method_4_code 54 = .ok (.aload_n 0, 1) := by decide +kernel
theorem dX10_make_55 : decode prog_12_method_4_code 55 = .ok (.getfield 20, 3) := by decide +kernel
theorem dX10_make_58 : decode prog_12_method_4_code 58 = .ok (.getfield 51, 3) := by decide +kernel
theorem dX10_make_61 : decode prog_12_method_4_code 61 = .ok (.iconst 0, 1) := by decide +kernel
theorem dX10_make_62 : decode prog_12_method_4_code 62 = .ok (.iaload, 1) := by decide +kernel
theorem dX10_make_63 : decode prog_12_method_4_code 63 = .ok (.if_icmp .gt 36, 3) := by decide +kernel
theorem dX10_make_66 : decode prog_12_method_4_code 66 = .ok (.aload_n 0, 1) := by decide +kernel
theorem dX10_make_67 : decode prog_12_method_4_code 67 = .ok (.getfield 11, 3) := by decide +kernel
theorem dX10_make_70 : decode prog_12_method_4_code 70 = .ok (.iload_n 1, 1) := by decide +kernel
theorem dX10_make_71 : decode prog_12_method_4_code 71 = .ok (.aaload, 1) := by decide +kernel
theorem dX10_make_72 : decode prog_12_method_4_code 72 = .ok (.iload 4, 2) := by decide +kernel
theorem dX10_make_74 : decode prog_12_method_4_code 74 = .ok (.aload_n 0, 1) := by decide +kernel
theorem dX10_make_75 : decode prog_12_method_4_code 75 = .ok (.aload_n 0, 1) := by decide +kernel
theorem dX10_make_76 : decode prog_12_method_4_code 76 = .ok (.getfield 11, 3) := by decide +kernel
theorem dX10_make_79 : decode prog_12_method_4_code 79 = .ok (.iload_n 1, 1) := by decide +kernel
theorem dX10_make_80 : decode prog_12_method_4_code 80 = .ok (.iconst 1, 1) := by decide +kernel
theorem dX10_make_81 : decode prog_12_method_4_code 81 = .ok (.isub, 1) := by decide +kernel
theorem dX10_make_82 : decode prog_12_method_4_code 82 = .ok (.aaload, 1) := by decide +kernel
theorem dX10_make_83 : decode prog_12_method_4_code 83 = .ok (.iload 4, 2) := by decide +kernel
theorem dX10_make_85 : decode prog_12_method_4_code 85 = .ok (.iload_n 1, 1) := by decide +kernel
theorem dX10_make_86 : decode prog_12_method_4_code 86 = .ok (.invokestatic 55, 3) := by decide +kernel
theorem dX10_make_89 : decode prog_12_method_4_code 89 = .ok (.invokevirtual 59, 3) := by decide +kernel
theorem dX10_make_92 : decode prog_12_method_4_code 92 = .ok (.dastore, 1) := by decide +kernel
theorem dX10_make_93 : decode prog_12_method_4_code 93 = .ok (.iinc 4 1, 3) := by decide +kernel
theorem dX10_make_96 : decode prog_12_method_4_code 96 = .ok (.goto (-44), 3) := by decide +kernel
theorem dX10_make_99 : decode prog_12_method_4_code 99 = .ok (.return_, 1) := by decide +kernel
def m_X10_make_L52 (N : Nat)  : Nat → Nat → Int32 → Int32 → mM → Option (mM)
  | 0, _, _, _, _ => none
  | n + 1, a0, i1, i4, M =>
    (fR M a0 10 0).bind fun x1 =>
    (fR M x1 5 2).bind fun x3 =>
    (aI 0 M x3 0).bind fun x5 =>
    if x5 < i4 then (
      some M) else (
      (fR M a0 10 1).bind fun x7 =>
      (aR 8 M x7 i1).bind fun x9 =>
      (fR M a0 10 1).bind fun x11 =>
      (aR 8 M x11 (i1 - 1)).bind fun x13 =>
      (m_X11_phaseOf i1).bind fun x15 =>
      (oO M a0 10).bind fun _ =>
      (m_X10_worthOf N a0 x13 i4 x15 M).bind fun x19 =>
      (uD M x9 i4 x19).bind fun M21 =>
      (m_X10_make_L52 N  n) a0 i1 (i4 + 1) M21)
set_option maxHeartbeats 4000000 in
set_option maxRecDepth 100000 in
theorem t_X10_make_L52 {X : mX} {L0 : Launch} {res : mM} {N : Nat} (C : CX X RX10 "make" prog_12_method_4_code 5 none) (E : EX X L0 1 30 0 0 none res)   : ∀ (n : Nat) (a0 : Nat) (i1 : Int32) (i4 : Int32) (M : mM), m_X10_make_L52 N  n a0 i1 i4 M = some res → EV X 5 52 [(0, .ref a0), (1, .int i1), (4, .int i4)] [] 0 0 M := by
  intro n
  induction n with
  | zero => intro a0 i1 i4 M hf; cases (show (none : Option (mM)) = some res from hf)
  | succ n ih =>
    intro a0 i1 i4 M hf
    rw [m_X10_make_L52] at hf
    refine ev_iload C dX10_make_52 (q := 2) rfl ?_
    refine ev_aload_n C dX10_make_54 rfl (q := 0) rfl ?_
    obtain ⟨x1, e2, hf⟩ := obnd hf
    refine ev_get (k := 0) C ok_10 dX10_make_55 (by decide) kw_216 (fR_V e2) ?_
    obtain ⟨x3, e4, hf⟩ := obnd hf
    refine ev_get (k := 2) C ok_5 dX10_make_58 (by decide) kw_189 (fR_V e4) ?_
    refine ev_iconst (v := 0) C dX10_make_61 (by decide) ?_
    obtain ⟨x5, e6, hf⟩ := obnd hf
    refine ev_iald C dX10_make_62 e6 ?_
    refine ev_icmp_gt (tgt := 99) C dX10_make_63 (by decide) (fun hc => ?_) (fun hc => ?_)
    · have hf := oit hf hc
      obtain rfl := Option.some.inj hf
      exact ev_vret C E (Nat.le_refl 0) (Nat.le_refl 0) dX10_make_99
    · have hf := oie hf hc
      refine ev_aload_n C dX10_make_66 rfl (q := 0) rfl ?_
      obtain ⟨x7, e8, hf⟩ := obnd hf
      refine ev_get (k := 1) C ok_10 dX10_make_67 (by decide) kw_217 (fR_V e8) ?_
      refine ev_iload_n C dX10_make_70 rfl (q := 1) rfl ?_
      obtain ⟨x9, e10, hf⟩ := obnd hf
      refine ev_aldr C (t := 8) rfl rfl dX10_make_71 e10 ?_
      refine ev_iload C dX10_make_72 (q := 2) rfl ?_
      refine ev_aload_n C dX10_make_74 rfl (q := 0) rfl ?_
      refine ev_aload_n C dX10_make_75 rfl (q := 0) rfl ?_
      obtain ⟨x11, e12, hf⟩ := obnd hf
      refine ev_get (k := 1) C ok_10 dX10_make_76 (by decide) kw_217 (fR_V e12) ?_
      refine ev_iload_n C dX10_make_79 rfl (q := 1) rfl ?_
      refine ev_iconst (v := 1) C dX10_make_80 (by decide) ?_
      refine ev_isub C dX10_make_81 ?_
      obtain ⟨x13, e14, hf⟩ := obnd hf
      refine ev_aldr C (t := 8) rfl rfl dX10_make_82 e14 ?_
      refine ev_iload C dX10_make_83 (q := 2) rfl ?_
      refine ev_iload_n C dX10_make_85 rfl (q := 1) rfl ?_
      obtain ⟨x15, e16, hf⟩ := obnd hf
      refine ev_callSN0 (As := [.int i1]) (st := [.int i4, .ref x13, .ref a0, .int i4, .ref x9]) C (t_X11_phaseOf e16) hd_X11_phaseOf rfl C.K.2.2.1.2.2.2.2.1 kw_522 kw_70 kw_523 (mRoom.of E (Nat.le_of_ble_eq_true rfl) (Nat.le_of_ble_eq_true rfl) (Nat.le_refl 0) (Nat.le_refl 0)) (Nat.le_of_ble_eq_true rfl) dX10_make_86 ?_
      obtain ⟨_, e17, hf⟩ := obnd hf
      obtain ⟨fs18, e17⟩ := oO_eq e17
      obtain ⟨x19, e20, hf⟩ := obnd hf
      refine ev_callV0 (As := [.ref x13, .int i4, .int x15]) (st := [.int i4, .ref x9]) C rfl e17 (t_X10_worthOf e20) rfl hd_X10_worthOf rfl kw_524 kw_526 kw_76 kw_1 kw_527 (mRoom.of E (Nat.le_of_ble_eq_true rfl) (Nat.le_of_ble_eq_true rfl) (Nat.le_refl 0) (Nat.le_refl 0)) (Nat.le_of_ble_eq_true rfl) dX10_make_89 ?_
      obtain ⟨M21, e22, hf⟩ := obnd hf
      refine ev_dast C dX10_make_92 e22 ?_
      refine ev_iinc (v := i4 + 1) (l' := [(4, .int (i4 + 1)), (0, .ref a0), (1, .int i1)]) C dX10_make_93 (q := 2) rfl rfl (by decide) rfl ?_
      refine ev_goto (tgt := 52) C dX10_make_96 (by decide) ?_
      refine ev_sub [1, 2, 0] rfl ?_
      exact ih a0 i1 (i4 + 1) M21 hf
def m_X10_make_L14 (N : Nat)  : Nat → Nat → Int32 → UInt64 → Int32 → mM → Option (mM)
  | 0, _, _, _, _, _ => none
  | n + 1, a0, i1, d2, i4, M =>
    (fR M a0 10 0).bind fun x1 =>
    (fI M x1 5 1).bind fun x3 =>
    if x3 ≤ i4 then (
      m_X10_make_L52 N  N a0 i1 1 M) else (
      (fR M a0 10 2).bind fun x5 =>
      (fR M a0 10 0).bind fun x7 =>
      (oO M x7 5).bind fun _ =>
      (m_X5_netBy x7 i4 d2 M).bind fun x11 =>
      (uD M x5 i4 x11).bind fun M13 =>
      (m_X10_make_L14 N  n) a0 i1 d2 (i4 + 1) M13)
set_option maxHeartbeats 4000000 in
set_option maxRecDepth 100000 in
theorem t_X10_make_L14 {X : mX} {L0 : Launch} {res : mM} {N : Nat} (C : CX X RX10 "make" prog_12_method_4_code 5 none) (E : EX X L0 1 30 0 0 none res)   : ∀ (n : Nat) (a0 : Nat) (i1 : Int32) (d2 : UInt64) (i4 : Int32) (M : mM), m_X10_make_L14 N  n a0 i1 d2 i4 M = some res → EV X 5 14 [(0, .ref a0), (1, .int i1), (2, .double d2), (4, .int i4)] [] 0 0 M := by
  intro n
  induction n with
  | zero => intro a0 i1 d2 i4 M hf; cases (show (none : Option (mM)) = some res from hf)
  | succ n ih =>
    intro a0 i1 d2 i4 M hf
    rw [m_X10_make_L14] at hf
    refine ev_iload C dX10_make_14 (q := 3) rfl ?_
    refine ev_aload_n C dX10_make_16 rfl (q := 0) rfl ?_
    obtain ⟨x1, e2, hf⟩ := obnd hf
    refine ev_get (k := 0) C ok_10 dX10_make_17 (by decide) kw_216 (fR_V e2) ?_
    obtain ⟨x3, e4, hf⟩ := obnd hf
    refine ev_get (k := 1) C ok_5 dX10_make_20 (by decide) kw_184 (fI_V e4) ?_
    refine ev_icmp_ge (tgt := 49) C dX10_make_23 (by decide) (fun hc => ?_) (fun hc => ?_)
    · have hf := oit hf hc
      refine ev_iconst (v := 1) C dX10_make_49 (by decide) ?_
      refine ev_istore (l' := [(4, .int 1), (0, .ref a0), (1, .int i1), (2, .double d2)]) C dX10_make_50 (by decide) rfl ?_
      refine ev_sub [1, 2, 0] rfl ?_
      exact t_X10_make_L52 C E   N a0 i1 1 M hf
    · have hf := oie hf hc
      refine ev_aload_n C dX10_make_26 rfl (q := 0) rfl ?_
      obtain ⟨x5, e6, hf⟩ := obnd hf
      refine ev_get (k := 2) C ok_10 dX10_make_27 (by decide) kw_218 (fR_V e6) ?_
      refine ev_iload C dX10_make_30 (q := 3) rfl ?_
      refine ev_aload_n C dX10_make_32 rfl (q := 0) rfl ?_
      obtain ⟨x7, e8, hf⟩ := obnd hf
      refine ev_get (k := 0) C ok_10 dX10_make_33 (by decide) kw_216 (fR_V e8) ?_
      refine ev_iload C dX10_make_36 (q := 3) rfl ?_
      refine ev_dload_n C dX10_make_38 rfl (q := 2) rfl ?_
      obtain ⟨_, e9, hf⟩ := obnd hf
      obtain ⟨fs10, e9⟩ := oO_eq e9
      obtain ⟨x11, e12, hf⟩ := obnd hf
      refine ev_callV0 (As := [.int i4, .double d2]) (st := [.int i4, .ref x5]) C rfl e9 (t_X5_netBy e12) rfl hd_X5_netBy rfl kw_520 kw_499 kw_71 kw_500 kw_501 (mRoom.of E (Nat.le_of_ble_eq_true rfl) (Nat.le_of_ble_eq_true rfl) (Nat.le_refl 0) (Nat.le_refl 0)) (Nat.le_of_ble_eq_true rfl) dX10_make_39 ?_
      obtain ⟨M13, e14, hf⟩ := obnd hf
      refine ev_dast C dX10_make_42 e14 ?_
      refine ev_iinc (v := i4 + 1) (l' := [(4, .int (i4 + 1)), (0, .ref a0), (1, .int i1), (2, .double d2)]) C dX10_make_43 (q := 3) rfl rfl (by decide) rfl ?_
      refine ev_goto (tgt := 14) C dX10_make_46 (by decide) ?_
      refine ev_sub [1, 2, 3, 0] rfl ?_
      exact ih a0 i1 d2 (i4 + 1) M13 hf
def m_X10_make (N : Nat) (a0 : Nat) (i1 : Int32) (M : mM) : Option (mM) :=
  (fR M a0 10 0).bind fun x1 =>
  (oO M x1 5).bind fun _ =>
  (m_X5_showing N x1 (i1 - 1) M).bind fun x5 =>
  m_X10_make_L14 N  N a0 i1 x5 0 M
set_option maxHeartbeats 4000000 in
set_option maxRecDepth 100000 in
theorem t_X10_make {L0 : Launch} {M : mM} {N : Nat} {a0 : Nat} {i1 : Int32} {res : mM} (hf : m_X10_make N a0 i1 M = some res) : CT L0 yX10_make prog_12_method_4_code 5 none 1 30 0 0 [.ref a0, .int i1] M none res := by
  refine CT.of (by decide +kernel) (Nat.le_of_ble_eq_true rfl) fun X C E => ?_
  have C : CX X RX10 "make" prog_12_method_4_code 5 none := C
  show EV X 5 0 [(0, .ref a0), (1, .int i1)] [] 0 0 M
  unfold m_X10_make at hf
  refine ev_aload_n C dX10_make_0 rfl (q := 0) rfl ?_
  obtain ⟨x1, e2, hf⟩ := obnd hf
  refine ev_get (k := 0) C ok_10 dX10_make_1 (by decide) kw_216 (fR_V e2) ?_
  refine ev_iload_n C dX10_make_4 rfl (q := 1) rfl ?_
  refine ev_iconst (v := 1) C dX10_make_5 (by decide) ?_
  refine ev_isub C dX10_make_6 ?_
  obtain ⟨_, e3, hf⟩ := obnd hf
  obtain ⟨fs4, e3⟩ := oO_eq e3
  obtain ⟨x5, e6, hf⟩ := obnd hf
  refine ev_callV0 (As := [.int (i1 - 1)]) (st := []) C rfl e3 (t_X5_showing e6) rfl hd_X5_showing rfl kw_519 kw_482 kw_71 kw_483 kw_484 (mRoom.of E (Nat.le_of_ble_eq_true rfl) (Nat.le_of_ble_eq_true rfl) (Nat.le_refl 0) (Nat.le_refl 0)) (Nat.le_of_ble_eq_true rfl) dX10_make_7 ?_
  refine ev_dstore_n (l' := [(2, .double x5), (0, .ref a0), (1, .int i1)]) C dX10_make_10 rfl (by decide) rfl ?_
  refine ev_iconst (v := 0) C dX10_make_11 (by decide) ?_
  refine ev_istore (l' := [(4, .int 0), (2, .double x5), (0, .ref a0), (1, .int i1)]) C dX10_make_12 (by decide) rfl ?_
  refine ev_sub [2, 3, 1, 0] rfl ?_
  exact t_X10_make_L14 C E   N a0 i1 x5 0 M hf
/-! FareLimits$Worths row(I)[D -/
theorem dX10_row_0 : decode prog_12_method_3_code 0 = .ok (.aload_n 0, 1) := by decide +kernel
theorem dX10_row_1 : decode prog_12_method_3_code 1 = .ok (.getfield 24, 3) := by decide +kernel
theorem dX10_row_4 : decode prog_12_method_3_code 4 = .ok (.iconst 1, 1) := by decide +kernel
theorem dX10_row_5 : decode prog_12_method_3_code 5 = .ok (.iadd, 1) := by decide +kernel
theorem dX10_row_6 : decode prog_12_method_3_code 6 = .ok (.istore_n 2, 1) := by decide +kernel
theorem dX10_row_7 : decode prog_12_method_3_code 7 = .ok (.iload_n 2, 1) := by decide +kernel
theorem dX10_row_8 : decode prog_12_method_3_code 8 = .ok (.iload_n 1, 1) := by decide +kernel
theorem dX10_row_9 : decode prog_12_method_3_code 9 = .ok (.if_icmp .gt 14, 3) := by decide +kernel
theorem dX10_row_12 : decode prog_12_method_3_code 12 = .ok (.aload_n 0, 1) := by decide +kernel
theorem dX10_row_13 : decode prog_12_method_3_code 13 = .ok (.iload_n 2, 1) := by decide +kernel
theorem dX10_row_14 : decode prog_12_method_3_code 14 = .ok (.invokevirtual 28, 3) := by decide +kernel
theorem dX10_row_17 : decode prog_12_method_3_code 17 = .ok (.iinc 2 1, 3) := by decide +kernel
theorem dX10_row_20 : decode prog_12_method_3_code 20 = .ok (.goto (-13), 3) := by decide +kernel
theorem dX10_row_23 : decode prog_12_method_3_code 23 = .ok (.aload_n 0, 1) := by decide +kernel
theorem dX10_row_24 : decode prog_12_method_3_code 24 = .ok (.aload_n 0, 1) := by decide +kernel
theorem dX10_row_25 : decode prog_12_method_3_code 25 = .ok (.getfield 24, 3) := by decide +kernel
theorem dX10_row_28 : decode prog_12_method_3_code 28 = .ok (.iload_n 1, 1) := by decide +kernel
theorem dX10_row_29 : decode prog_12_method_3_code 29 = .ok (.invokestatic 32, 3) := by decide +kernel
theorem dX10_row_32 : decode prog_12_method_3_code 32 = .ok (.putfield 24, 3) := by decide +kernel
theorem dX10_row_35 : decode prog_12_method_3_code 35 = .ok (.aload_n 0, 1) := by decide +kernel
theorem dX10_row_36 : decode prog_12_method_3_code 36 = .ok (.getfield 11, 3) := by decide +kernel
theorem dX10_row_39 : decode prog_12_method_3_code 39 = .ok (.iload_n 1, 1) := by decide +kernel
theorem dX10_row_40 : decode prog_12_method_3_code 40 = .ok (.aaload, 1) := by decide +kernel
theorem dX10_row_41 : decode prog_12_method_3_code 41 = .ok (.areturn, 1) := by decide +kernel
def m_X10_row_L7 (N : Nat)  : Nat → Nat → Int32 → Int32 → mM → Option (Nat × mM)
  | 0, _, _, _, _ => none
  | n + 1, a0, i1, i2, M =>
    if i1 < i2 then (
      (fI M a0 10 3).bind fun x1 =>
      (sV M a0 10 3 (.int (iMax x1 i1))).bind fun M3 =>
      (fR M3 a0 10 1).bind fun x5 =>
      (aR 8 M3 x5 i1).bind fun x7 =>
      some (x7, M3)) else (
      (oO M a0 10).bind fun _ =>
      (m_X10_make N a0 i2 M).bind fun x11 =>
      (m_X10_row_L7 N  n) a0 i1 (i2 + 1) x11)
set_option maxHeartbeats 4000000 in
set_option maxRecDepth 100000 in
theorem t_X10_row_L7 {X : mX} {L0 : Launch} {res : Nat × mM} {N : Nat} (C : CX X RX10 "row" prog_12_method_3_code 3 (some (.array .double))) (E : EX X L0 2 54 0 0 (some (.ref res.1)) res.2)   : ∀ (n : Nat) (a0 : Nat) (i1 : Int32) (i2 : Int32) (M : mM), m_X10_row_L7 N  n a0 i1 i2 M = some res → EV X 3 7 [(0, .ref a0), (1, .int i1), (2, .int i2)] [] 0 0 M := by
  intro n
  induction n with
  | zero => intro a0 i1 i2 M hf; cases (show (none : Option (Nat × mM)) = some res from hf)
  | succ n ih =>
    intro a0 i1 i2 M hf
    rw [m_X10_row_L7] at hf
    refine ev_iload_n C dX10_row_7 rfl (q := 2) rfl ?_
    refine ev_iload_n C dX10_row_8 rfl (q := 1) rfl ?_
    refine ev_icmp_gt (tgt := 23) C dX10_row_9 (by decide) (fun hc => ?_) (fun hc => ?_)
    · have hf := oit hf hc
      refine ev_aload_n C dX10_row_23 rfl (q := 0) rfl ?_
      refine ev_aload_n C dX10_row_24 rfl (q := 0) rfl ?_
      obtain ⟨x1, e2, hf⟩ := obnd hf
      refine ev_get (k := 3) C ok_10 dX10_row_25 (by decide) kw_219 (fI_V e2) ?_
      refine ev_iload_n C dX10_row_28 rfl (q := 1) rfl ?_
      refine ev_mmax C kw_529 kw_530 kw_90 kw_531 (mfr E (by decide)) (mlo E (by decide)) (Nat.zero_le _) (Nat.zero_le _) (Nat.le_of_ble_eq_true rfl) dX10_row_29 ?_
      obtain ⟨M3, e4, hf⟩ := obnd hf
      refine ev_put (k := 3) C ok_10 dX10_row_32 (by decide) kw_219 rfl ⟨rfl, rfl⟩ e4 ?_
      refine ev_aload_n C dX10_row_35 rfl (q := 0) rfl ?_
      obtain ⟨x5, e6, hf⟩ := obnd hf
      refine ev_get (k := 1) C ok_10 dX10_row_36 (by decide) kw_217 (fR_V e6) ?_
      refine ev_iload_n C dX10_row_39 rfl (q := 1) rfl ?_
      obtain ⟨x7, e8, hf⟩ := obnd hf
      refine ev_aldr C (t := 8) rfl rfl dX10_row_40 e8 ?_
      obtain rfl := Option.some.inj hf
      exact ev_aret C (by first | exact Or.inl ⟨_, rfl⟩ | exact Or.inr ⟨_, rfl⟩) E (Nat.le_refl 0) (Nat.le_refl 0) dX10_row_41
    · have hf := oie hf hc
      refine ev_aload_n C dX10_row_12 rfl (q := 0) rfl ?_
      refine ev_iload_n C dX10_row_13 rfl (q := 2) rfl ?_
      obtain ⟨_, e9, hf⟩ := obnd hf
      obtain ⟨fs10, e9⟩ := oO_eq e9
      obtain ⟨x11, e12, hf⟩ := obnd hf
      refine ev_callV0 (As := [.int i2]) (st := []) C rfl e9 (t_X10_make e12) rfl hd_X10_make rfl kw_515 kw_517 kw_76 kw_0 kw_518 (mRoom.of E (Nat.le_of_ble_eq_true rfl) (Nat.le_of_ble_eq_true rfl) (Nat.le_refl 0) (Nat.le_refl 0)) (Nat.le_of_ble_eq_true rfl) dX10_row_14 ?_
      refine ev_iinc (v := i2 + 1) (l' := [(2, .int (i2 + 1)), (0, .ref a0), (1, .int i1)]) C dX10_row_17 (q := 2) rfl rfl (by decide) rfl ?_
      refine ev_goto (tgt := 7) C dX10_row_20 (by decide) ?_
      refine ev_sub [1, 2, 0] rfl ?_
      exact ih a0 i1 (i2 + 1) x11 hf
def m_X10_row (N : Nat) (a0 : Nat) (i1 : Int32) (M : mM) : Option (Nat × mM) :=
  (fI M a0 10 3).bind fun x1 =>
  m_X10_row_L7 N  N a0 i1 (x1 + 1) M
set_option maxHeartbeats 4000000 in
set_option maxRecDepth 100000 in
theorem t_X10_row {L0 : Launch} {M : mM} {N : Nat} {a0 : Nat} {i1 : Int32} {res : Nat × mM} (hf : m_X10_row N a0 i1 M = some res) : CT L0 yX10_row prog_12_method_3_code 3 (some (.array .double)) 2 54 0 0 [.ref a0, .int i1] M (some (.ref res.1)) res.2 := by
  refine CT.of (by decide +kernel) (Nat.le_of_ble_eq_true rfl) fun X C E => ?_
  have C : CX X RX10 "row" prog_12_method_3_code 3 (some (.array .double)) := C
  show EV X 3 0 [(0, .ref a0), (1, .int i1)] [] 0 0 M
  unfold m_X10_row at hf
  refine ev_aload_n C dX10_row_0 rfl (q := 0) rfl ?_
  obtain ⟨x1, e2, hf⟩ := obnd hf
  refine ev_get (k := 3) C ok_10 dX10_row_1 (by decide) kw_219 (fI_V e2) ?_
  refine ev_iconst (v := 1) C dX10_row_4 (by decide) ?_
  refine ev_iadd C dX10_row_5 ?_
  refine ev_istore_n (l' := [(2, .int (x1 + 1)), (0, .ref a0), (1, .int i1)]) C dX10_row_6 rfl (by decide) rfl ?_
  refine ev_sub [1, 2, 0] rfl ?_
  exact t_X10_row_L7 C E   N a0 i1 (x1 + 1) M hf
/-! FareLimits worth(II)J -/
theorem dX11_worth_0 : decode prog_1_method_11_code 0 = .ok (.iload_n 1, 1) := by decide +kernel
theorem dX11_worth_1 : decode prog_1_method_11_code 1 = .ok (.bipush 20, 2) := by decide +kernel
theorem dX11_worth_3 : decode prog_1_method_11_code 3 = .ok (.invokestatic 91, 3) := by decide +kernel
theorem dX11_worth_6 : decode prog_1_method_11_code 6 = .ok (.ifCond .eq 35, 3) := by decide +kernel
theorem dX11_worth_9 : decode prog_1_method_11_code 9 = .ok (.iload_n 2, 1) := by decide +kernel
theorem dX11_worth_10 : decode prog_1_method_11_code 10 = .ok (.aload_n 0, 1) := by decide +kernel
theorem dX11_worth_11 : decode prog_1_method_11_code 11 = .ok (.getfield 12, 3) := by decide +kernel
theorem dX11_worth_14 : decode prog_1_method_11_code 14 = .ok (.getfield 138, 3) := by decide +kernel
theorem dX11_worth_17 : decode prog_1_method_11_code 17 = .ok (.iconst 0, 1) := by decide +kernel
theorem dX11_worth_18 : decode prog_1_method_11_code 18 = .ok (.iaload, 1) := by decide +kernel
theorem dX11_worth_19 : decode prog_1_method_11_code 19 = .ok (.invokestatic 91, 3) := by decide +kernel
theorem dX11_worth_22 : decode prog_1_method_11_code 22 = .ok (.ifCond .eq 19, 3) := by decide +kernel
theorem dX11_worth_25 : decode prog_1_method_11_code 25 = .ok (.aload_n 0, 1) := by decide +kernel
theorem dX11_worth_26 : decode prog_1_method_11_code 26 = .ok (.getfield 24, 3) := by decide +kernel
theorem dX11_worth_29 : decode prog_1_method_11_code 29 = .ok (.iload_n 1, 1) := by decide +kernel
theorem dX11_worth_30 : decode prog_1_method_11_code 30 = .ok (.invokevirtual 158, 3) := by decide +kernel
theorem dX11_worth_33 : decode prog_1_method_11_code 33 = .ok (.iload_n 2, 1) := by decide +kernel
theorem dX11_worth_34 : decode prog_1_method_11_code 34 = .ok (.daload, 1) := by decide +kernel
theorem dX11_worth_35 : decode prog_1_method_11_code 35 = .ok (.invokestatic 148, 3) := by decide +kernel
theorem dX11_worth_38 : decode prog_1_method_11_code 38 = .ok (.goto 6, 3) := by decide +kernel
theorem dX11_worth_41 : decode prog_1_method_11_code 41 = .ok (.ldc2_w 152, 3) := by decide +kernel
theorem dX11_worth_44 : decode prog_1_method_11_code 44 = .ok (.lreturn, 1) := by decide +kernel
def m_X11_worth (N : Nat) (a0 : Nat) (i1 : Int32) (i2 : Int32) (M : mM) : Option (Int64 × mM) :=
  (m_X11_within i1 20).bind fun x1 =>
  if x1 = 0 then (
    some ((-9223372036854775808), M)) else (
    (fR M a0 11 0).bind fun x3 =>
    (fR M x3 5 2).bind fun x5 =>
    (aI 0 M x5 0).bind fun x7 =>
    (m_X11_within i2 x7).bind fun x9 =>
    if x9 = 0 then (
      some ((-9223372036854775808), M)) else (
      (fR M a0 11 3).bind fun x11 =>
      (oO M x11 10).bind fun _ =>
      (m_X10_row N x11 i1 M).bind fun x15 =>
      (aD x15.2 x15.1 i2).bind fun x17 =>
      (m_X9_bitsOfDouble N x17).bind fun x19 =>
      some (x19, x15.2)))
set_option maxHeartbeats 4000000 in
set_option maxRecDepth 100000 in
theorem t_X11_worth {L0 : Launch} {M : mM} {N : Nat} {a0 : Nat} {i1 : Int32} {i2 : Int32} {res : Int64 × mM} (hf : m_X11_worth N a0 i1 i2 M = some res) : CT L0 yX11_worth prog_1_method_11_code 3 (some .long) 3 76 0 0 [.ref a0, .int i1, .int i2] M (some (.long res.1)) res.2 := by
  refine CT.of (by decide +kernel) (Nat.le_of_ble_eq_true rfl) fun X C E => ?_
  have C : CX X RX11 "worth" prog_1_method_11_code 3 (some .long) := C
  show EV X 3 0 [(0, .ref a0), (1, .int i1), (2, .int i2)] [] 0 0 M
  unfold m_X11_worth at hf
  refine ev_iload_n C dX11_worth_0 rfl (q := 1) rfl ?_
  refine ev_bipush (v := 20) C dX11_worth_1 (by decide) ?_
  obtain ⟨x1, e2, hf⟩ := obnd hf
  refine ev_callS0 (As := [.int i1, .int 20]) (st := []) C (t_X11_within e2) hd_X11_within rfl kw_435 kw_436 kw_70 kw_437 (mRoom.of E (Nat.le_of_ble_eq_true rfl) (Nat.le_of_ble_eq_true rfl) (Nat.le_refl 0) (Nat.le_refl 0)) (Nat.le_of_ble_eq_true rfl) dX11_worth_3 ?_
  refine ev_if_eq (tgt := 41) C dX11_worth_6 (by decide) (fun hc => ?_) (fun hc => ?_)
  · have hf := oit hf hc
    refine ev_ldc2 (v := (-9223372036854775808)) C dX11_worth_41 kw_493 ?_
    obtain rfl := Option.some.inj hf
    exact ev_lret C E (Nat.le_refl 0) (Nat.le_refl 0) dX11_worth_44
  · have hf := oie hf hc
    refine ev_iload_n C dX11_worth_9 rfl (q := 2) rfl ?_
    refine ev_aload_n C dX11_worth_10 rfl (q := 0) rfl ?_
    obtain ⟨x3, e4, hf⟩ := obnd hf
    refine ev_get (k := 0) C ok_11 dX11_worth_11 (by decide) kw_392 (fR_V e4) ?_
    obtain ⟨x5, e6, hf⟩ := obnd hf
    refine ev_get (k := 2) C ok_5 dX11_worth_14 (by decide) kw_190 (fR_V e6) ?_
    refine ev_iconst (v := 0) C dX11_worth_17 (by decide) ?_
    obtain ⟨x7, e8, hf⟩ := obnd hf
    refine ev_iald C dX11_worth_18 e8 ?_
    obtain ⟨x9, e10, hf⟩ := obnd hf
    refine ev_callS0 (As := [.int i2, .int x7]) (st := []) C (t_X11_within e10) hd_X11_within rfl kw_435 kw_436 kw_70 kw_437 (mRoom.of E (Nat.le_of_ble_eq_true rfl) (Nat.le_of_ble_eq_true rfl) (Nat.le_refl 0) (Nat.le_refl 0)) (Nat.le_of_ble_eq_true rfl) dX11_worth_19 ?_
    refine ev_if_eq (tgt := 41) C dX11_worth_22 (by decide) (fun hc => ?_) (fun hc => ?_)
    · have hf := oit hf hc
      refine ev_ldc2 (v := (-9223372036854775808)) C dX11_worth_41 kw_493 ?_
      obtain rfl := Option.some.inj hf
      exact ev_lret C E (Nat.le_refl 0) (Nat.le_refl 0) dX11_worth_44
    · have hf := oie hf hc
      refine ev_aload_n C dX11_worth_25 rfl (q := 0) rfl ?_
      obtain ⟨x11, e12, hf⟩ := obnd hf
      refine ev_get (k := 3) C ok_11 dX11_worth_26 (by decide) kw_395 (fR_V e12) ?_
      refine ev_iload_n C dX11_worth_29 rfl (q := 1) rfl ?_
      obtain ⟨_, e13, hf⟩ := obnd hf
      obtain ⟨fs14, e13⟩ := oO_eq e13
      obtain ⟨x15, e16, hf⟩ := obnd hf
      refine ev_callV0 (As := [.int i1]) (st := []) C rfl e13 (t_X10_row e16) rfl hd_X10_row rfl kw_511 kw_512 kw_76 kw_513 kw_514 (mRoom.of E (Nat.le_of_ble_eq_true rfl) (Nat.le_of_ble_eq_true rfl) (Nat.le_refl 0) (Nat.le_refl 0)) (Nat.le_of_ble_eq_true rfl) dX11_worth_30 ?_
      refine ev_iload_n C dX11_worth_33 rfl (q := 2) rfl ?_
      obtain ⟨x17, e18, hf⟩ := obnd hf
      refine ev_dald C dX11_worth_34 e18 ?_
      obtain ⟨x19, e20, hf⟩ := obnd hf
      refine ev_callS0 (As := [.double x17]) (st := []) C (t_X9_bitsOfDouble e20) hd_X9_bitsOfDouble rfl kw_486 kw_487 kw_77 kw_488 (mRoom.of E (Nat.le_of_ble_eq_true rfl) (Nat.le_of_ble_eq_true rfl) (Nat.le_refl 0) (Nat.le_refl 0)) (Nat.le_of_ble_eq_true rfl) dX11_worth_35 ?_
      refine ev_goto (tgt := 44) C dX11_worth_38 (by decide) ?_
      obtain rfl := Option.some.inj hf
      exact ev_lret C E (Nat.le_refl 0) (Nat.le_refl 0) dX11_worth_44
/-! FareLimits$Whole bitsOfFloat(F)I -/
theorem dX9_bitsOfFloat_0 : decode prog_11_method_10_code 0 = .ok (.fload_n 0, 1) := by decide +kernel
theorem dX9_bitsOfFloat_1 : decode prog_11_method_10_code 1 = .ok (.f2d, 1) := by decide +kernel
theorem dX9_bitsOfFloat_2 : decode prog_11_method_10_code 2 = .ok (.invokestatic 81, 3) := by decide +kernel
theorem dX9_bitsOfFloat_5 : decode prog_11_method_10_code 5 = .ok (.lstore_n 1, 1) := by decide +kernel
theorem dX9_bitsOfFloat_6 : decode prog_11_method_10_code 6 = .ok (.lload_n 1, 1) := by decide +kernel
theorem dX9_bitsOfFloat_7 : decode prog_11_method_10_code 7 = .ok (.lconst 0, 1) := by decide +kernel
theorem dX9_bitsOfFloat_8 : decode prog_11_method_10_code 8 = .ok (.lcmp, 1) := by decide +kernel
theorem dX9_bitsOfFloat_9 : decode prog_11_method_10_code 9 = .ok (.ifCond .ne 5, 3) := by decide +kernel
theorem dX9_bitsOfFloat_12 : decode prog_11_method_10_code 12 = .ok (.iconst 0, 1) := by decide +kernel
theorem dX9_bitsOfFloat_13 : decode prog_11_method_10_code 13 = .ok (.ireturn, 1) := by decide +kernel
theorem dX9_bitsOfFloat_14 : decode prog_11_method_10_code 14 = .ok (.lload_n 1, 1) := by decide +kernel
theorem dX9_bitsOfFloat_15 : decode prog_11_method_10_code 15 = .ok (.lconst 0, 1) := by decide +kernel
theorem dX9_bitsOfFloat_16 : decode prog_11_method_10_code 16 = .ok (.lcmp, 1) := by decide +kernel
theorem dX9_bitsOfFloat_17 : decode prog_11_method_10_code 17 = .ok (.ifCond .ge 8, 3) := by decide +kernel
theorem dX9_bitsOfFloat_20 : decode prog_11_method_10_code 20 = .ok (.ldc 85, 2) := by decide +kernel
theorem dX9_bitsOfFloat_22 : decode prog_11_method_10_code 22 = .ok (.goto 4, 3) := by decide +kernel
theorem dX9_bitsOfFloat_25 : decode prog_11_method_10_code 25 = .ok (.iconst 0, 1) := by decide +kernel
theorem dX9_bitsOfFloat_26 : decode prog_11_method_10_code 26 = .ok (.istore_n 3, 1) := by decide +kernel
theorem dX9_bitsOfFloat_27 : decode prog_11_method_10_code 27 = .ok (.lload_n 1, 1) := by decide +kernel
theorem dX9_bitsOfFloat_28 : decode prog_11_method_10_code 28 = .ok (.bipush 52, 2) := by decide +kernel
theorem dX9_bitsOfFloat_30 : decode prog_11_method_10_code 30 = .ok (.lshr, 1) := by decide +kernel
theorem dX9_bitsOfFloat_31 : decode prog_11_method_10_code 31 = .ok (.ldc2_w 86, 3) := by decide +kernel
theorem dX9_bitsOfFloat_34 : decode prog_11_method_10_code 34 = .ok (.land, 1) := by decide +kernel
theorem dX9_bitsOfFloat_35 : decode prog_11_method_10_code 35 = .ok (.l2i, 1) := by decide +kernel
theorem dX9_bitsOfFloat_36 : decode prog_11_method_10_code 36 = .ok (.sipush 1023, 3) := by decide +kernel
theorem dX9_bitsOfFloat_39 : decode prog_11_method_10_code 39 = .ok (.isub, 1) := by decide +kernel
theorem dX9_bitsOfFloat_40 : decode prog_11_method_10_code 40 = .ok (.bipush 127, 2) := by decide +kernel
theorem dX9_bitsOfFloat_42 : decode prog_11_method_10_code 42 = .ok (.iadd, 1) := by decide +kernel
theorem dX9_bitsOfFloat_43 : decode prog_11_method_10_code 43 = .ok (.istore 4, 2) := by decide +kernel
theorem dX9_bitsOfFloat_45 : decode prog_11_method_10_code 45 = .ok (.iload_n 3, 1) := by decide +kernel
theorem dX9_bitsOfFloat_46 : decode prog_11_method_10_code 46 = .ok (.iload 4, 2) := by decide +kernel
theorem dX9_bitsOfFloat_48 : decode prog_11_method_10_code 48 = .ok (.bipush 23, 2) := by decide +kernel
theorem dX9_bitsOfFloat_50 : decode prog_11_method_10_code 50 = .ok (.ishl, 1) := by decide +kernel
theorem dX9_bitsOfFloat_51 : decode prog_11_method_10_code 51 = .ok (.ior, 1) := by decide +kernel
theorem dX9_bitsOfFloat_52 : decode prog_11_method_10_code 52 = .ok (.lload_n 1, 1) := by decide +kernel
theorem dX9_bitsOfFloat_53 : decode prog_11_method_10_code 53 = .ok (.bipush 29, 2) := by decide +kernel
theorem dX9_bitsOfFloat_55 : decode prog_11_method_10_code 55 = .ok (.lshr, 1) := by decide +kernel
theorem dX9_bitsOfFloat_56 : decode prog_11_method_10_code 56 = .ok (.ldc2_w 88, 3) := by decide +kernel
theorem dX9_bitsOfFloat_59 : decode prog_11_method_10_code 59 = .ok (.land, 1) := by decide +kernel
theorem dX9_bitsOfFloat_60 : decode prog_11_method_10_code 60 = .ok (.l2i, 1) := by decide +kernel
theorem dX9_bitsOfFloat_61 : decode prog_11_method_10_code 61 = .ok (.ior, 1) := by decide +kernel
theorem dX9_bitsOfFloat_62 : decode prog_11_method_10_code 62 = .ok (.ireturn, 1) := by decide +kernel
def m_X9_bitsOfFloat_J26 (N : Nat)  (j1 : Int64) (si0 : Int32) : Option (Int32) :=
  some ((si0 ||| ((((((j1 >>> ((52 : Int32).toInt64 &&& 63)) &&& 2047).toInt32) - 1023) + 127) <<< (23 &&& 31))) ||| (((j1 >>> ((29 : Int32).toInt64 &&& 63)) &&& 8388607).toInt32))
set_option maxHeartbeats 4000000 in
set_option maxRecDepth 100000 in
theorem t_X9_bitsOfFloat_J26 {X : mX} {M : mM} {L0 : Launch} {res : Int32} {N : Nat} (C : CX X RX9 "bitsOfFloat" prog_11_method_10_code 5 (some .int)) (E : EX X L0 1 26 0 0 (some (.int res)) M)   (j1 : Int64) (si0 : Int32) (hf : m_X9_bitsOfFloat_J26 N  j1 si0 = some res) : EV X 5 26 [(1, .long j1)] [.int si0] 0 0 M := by
  unfold m_X9_bitsOfFloat_J26 at hf
  refine ev_istore_n (l' := [(3, .int si0), (1, .long j1)]) C dX9_bitsOfFloat_26 rfl (by decide) rfl ?_
  refine ev_lload_n C dX9_bitsOfFloat_27 rfl (q := 1) rfl ?_
  refine ev_bipush (v := 52) C dX9_bitsOfFloat_28 (by decide) ?_
  refine ev_lshr C dX9_bitsOfFloat_30 ?_
  refine ev_ldc2 (v := 2047) C dX9_bitsOfFloat_31 kw_541 ?_
  refine ev_land C dX9_bitsOfFloat_34 ?_
  refine ev_l2i C dX9_bitsOfFloat_35 ?_
  refine ev_sipush (v := 1023) C dX9_bitsOfFloat_36 (by decide) ?_
  refine ev_isub C dX9_bitsOfFloat_39 ?_
  refine ev_bipush (v := 127) C dX9_bitsOfFloat_40 (by decide) ?_
  refine ev_iadd C dX9_bitsOfFloat_42 ?_
  refine ev_istore (l' := [(4, .int (((((j1 >>> ((52 : Int32).toInt64 &&& 63)) &&& 2047).toInt32) - 1023) + 127)), (3, .int si0), (1, .long j1)]) C dX9_bitsOfFloat_43 (by decide) rfl ?_
  refine ev_iload_n C dX9_bitsOfFloat_45 rfl (q := 1) rfl ?_
  refine ev_iload C dX9_bitsOfFloat_46 (q := 0) rfl ?_
  refine ev_bipush (v := 23) C dX9_bitsOfFloat_48 (by decide) ?_
  refine ev_ishl C dX9_bitsOfFloat_50 ?_
  refine ev_ior C dX9_bitsOfFloat_51 ?_
  refine ev_lload_n C dX9_bitsOfFloat_52 rfl (q := 2) rfl ?_
  refine ev_bipush (v := 29) C dX9_bitsOfFloat_53 (by decide) ?_
  refine ev_lshr C dX9_bitsOfFloat_55 ?_
  refine ev_ldc2 (v := 8388607) C dX9_bitsOfFloat_56 kw_542 ?_
  refine ev_land C dX9_bitsOfFloat_59 ?_
  refine ev_l2i C dX9_bitsOfFloat_60 ?_
  refine ev_ior C dX9_bitsOfFloat_61 ?_
  obtain rfl := Option.some.inj hf
  exact ev_iret C E (Nat.le_refl 0) (Nat.le_refl 0) dX9_bitsOfFloat_62
def m_X9_bitsOfFloat (N : Nat) (f0 : UInt32) : Option (Int32) :=
  (oD (FP.f2d f0)).bind fun x1 =>
  (m_X9_bitsOfDouble N x1).bind fun x3 =>
  if (lg_cmp x3 0) = 0 then (
    some 0) else (
    if 0 ≤ (lg_cmp x3 0) then (
      m_X9_bitsOfFloat_J26 N  x3 0) else (
      m_X9_bitsOfFloat_J26 N  x3 (-2147483648)))
set_option maxHeartbeats 4000000 in
set_option maxRecDepth 100000 in
theorem t_X9_bitsOfFloat {L0 : Launch} {M : mM} {N : Nat} {f0 : UInt32} {res : Int32} (hf : m_X9_bitsOfFloat N f0 = some res) : CT L0 yX9_bitsOfFloat prog_11_method_10_code 5 (some .int) 1 26 0 0 [.float f0] M (some (.int res)) M := by
  refine CT.of (by decide +kernel) (Nat.le_of_ble_eq_true rfl) fun X C E => ?_
  have C : CX X RX9 "bitsOfFloat" prog_11_method_10_code 5 (some .int) := C
  show EV X 5 0 [(0, .float f0)] [] 0 0 M
  unfold m_X9_bitsOfFloat at hf
  refine ev_fload_n C dX9_bitsOfFloat_0 rfl (q := 0) rfl ?_
  obtain ⟨x1, e2, hf⟩ := obnd hf
  obtain ⟨e2, e2q⟩ := oD_eq e2
  refine ev_f2d C dX9_bitsOfFloat_1 e2 ?_
  rw [← e2q]
  obtain ⟨x3, e4, hf⟩ := obnd hf
  refine ev_callS0 (As := [.double x1]) (st := []) C (t_X9_bitsOfDouble e4) hd_X9_bitsOfDouble rfl kw_539 kw_487 kw_77 kw_488 (mRoom.of E (Nat.le_of_ble_eq_true rfl) (Nat.le_of_ble_eq_true rfl) (Nat.le_refl 0) (Nat.le_refl 0)) (Nat.le_of_ble_eq_true rfl) dX9_bitsOfFloat_2 ?_
  refine ev_lstore_n (l' := [(1, .long x3), (0, .float f0)]) C dX9_bitsOfFloat_5 rfl (by decide) rfl ?_
  refine ev_lload_n C dX9_bitsOfFloat_6 rfl (q := 0) rfl ?_
  refine ev_lconst (v := 0) C dX9_bitsOfFloat_7 (by decide) ?_
  refine ev_lcmp C dX9_bitsOfFloat_8 ?_
  refine ev_if_ne (tgt := 14) C dX9_bitsOfFloat_9 (by decide) (fun hc => ?_) (fun hc => ?_)
  · have hf := oie hf hc
    refine ev_lload_n C dX9_bitsOfFloat_14 rfl (q := 0) rfl ?_
    refine ev_lconst (v := 0) C dX9_bitsOfFloat_15 (by decide) ?_
    refine ev_lcmp C dX9_bitsOfFloat_16 ?_
    refine ev_if_ge (tgt := 25) C dX9_bitsOfFloat_17 (by decide) (fun hc => ?_) (fun hc => ?_)
    · have hf := oit hf hc
      refine ev_iconst (v := 0) C dX9_bitsOfFloat_25 (by decide) ?_
      refine ev_sub [0] rfl ?_
      exact t_X9_bitsOfFloat_J26 C E   x3 0 hf
    · have hf := oie hf hc
      refine ev_ldc (v := (-2147483648)) C dX9_bitsOfFloat_20 kw_540 ?_
      refine ev_goto (tgt := 26) C dX9_bitsOfFloat_22 (by decide) ?_
      refine ev_sub [0] rfl ?_
      exact t_X9_bitsOfFloat_J26 C E   x3 (-2147483648) hf
  · have hf := oit hf hc
    refine ev_iconst (v := 0) C dX9_bitsOfFloat_12 (by decide) ?_
    obtain rfl := Option.some.inj hf
    exact ev_iret C E (Nat.le_refl 0) (Nat.le_refl 0) dX9_bitsOfFloat_13
/-! FareLimits worthShort(II)I -/
theorem dX11_worthShort_0 : decode prog_1_method_12_code 0 = .ok (.iload_n 1, 1) := by decide +kernel
theorem dX11_worthShort_1 : decode prog_1_method_12_code 1 = .ok (.bipush 20, 2) := by decide +kernel
theorem dX11_worthShort_3 : decode prog_1_method_12_code 3 = .ok (.invokestatic 91, 3) := by decide +kernel
theorem dX11_worthShort_6 : decode prog_1_method_12_code 6 = .ok (.ifCond .eq 36, 3) := by decide +kernel
theorem dX11_worthShort_9 : decode prog_1_method_12_code 9 = .ok (.iload_n 2, 1) := by decide +kernel
theorem dX11_worthShort_10 : decode prog_1_method_12_code 10 = .ok (.aload_n 0, 1) := by decide +kernel
theorem dX11_worthShort_11 : decode prog_1_method_12_code 11 = .ok (.getfield 12, 3) := by decide +kernel
theorem dX11_worthShort_14 : decode prog_1_method_12_code 14 = .ok (.getfield 138, 3) := by decide +kernel
theorem dX11_worthShort_17 : decode prog_1_method_12_code 17 = .ok (.iconst 0, 1) := by decide +kernel
theorem dX11_worthShort_18 : decode prog_1_method_12_code 18 = .ok (.iaload, 1) := by decide +kernel
theorem dX11_worthShort_19 : decode prog_1_method_12_code 19 = .ok (.invokestatic 91, 3) := by decide +kernel
theorem dX11_worthShort_22 : decode prog_1_method_12_code 22 = .ok (.ifCond .eq 20, 3) := by decide +kernel
theorem dX11_worthShort_25 : decode prog_1_method_12_code 25 = .ok (.aload_n 0, 1) := by decide +kernel
theorem dX11_worthShort_26 : decode prog_1_method_12_code 26 = .ok (.getfield 24, 3) := by decide +kernel
theorem dX11_worthShort_29 : decode prog_1_method_12_code 29 = .ok (.iload_n 1, 1) := by decide +kernel
theorem dX11_worthShort_30 : decode prog_1_method_12_code 30 = .ok (.invokevirtual 158, 3) := by decide +kernel
theorem dX11_worthShort_33 : decode prog_1_method_12_code 33 = .ok (.iload_n 2, 1) := by decide +kernel
theorem dX11_worthShort_34 : decode prog_1_method_12_code 34 = .ok (.daload, 1) := by decide +kernel
theorem dX11_worthShort_35 : decode prog_1_method_12_code 35 = .ok (.d2f, 1) := by decide +kernel
theorem dX11_worthShort_36 : decode prog_1_method_12_code 36 = .ok (.invokestatic 162, 3) := by decide +kernel
theorem dX11_worthShort_39 : decode prog_1_method_12_code 39 = .ok (.goto 4, 3) := by decide +kernel
theorem dX11_worthShort_42 : decode prog_1_method_12_code 42 = .ok (.iconst (-1), 1) := by decide +kernel
theorem dX11_worthShort_43 : decode prog_1_method_12_code 43 = .ok (.ireturn, 1) := by decide +kernel
def m_X11_worthShort (N : Nat) (a0 : Nat) (i1 : Int32) (i2 : Int32) (M : mM) : Option (Int32 × mM) :=
  (m_X11_within i1 20).bind fun x1 =>
  if x1 = 0 then (
    some ((-1), M)) else (
    (fR M a0 11 0).bind fun x3 =>
    (fR M x3 5 2).bind fun x5 =>
    (aI 0 M x5 0).bind fun x7 =>
    (m_X11_within i2 x7).bind fun x9 =>
    if x9 = 0 then (
      some ((-1), M)) else (
      (fR M a0 11 3).bind fun x11 =>
      (oO M x11 10).bind fun _ =>
      (m_X10_row N x11 i1 M).bind fun x15 =>
      (aD x15.2 x15.1 i2).bind fun x17 =>
      (oF (FP.d2f x17)).bind fun x19 =>
      (m_X9_bitsOfFloat N x19).bind fun x21 =>
      some (x21, x15.2)))
set_option maxHeartbeats 4000000 in
set_option maxRecDepth 100000 in
theorem t_X11_worthShort {L0 : Launch} {M : mM} {N : Nat} {a0 : Nat} {i1 : Int32} {i2 : Int32} {res : Int32 × mM} (hf : m_X11_worthShort N a0 i1 i2 M = some res) : CT L0 yX11_worthShort prog_1_method_12_code 3 (some .int) 3 76 0 0 [.ref a0, .int i1, .int i2] M (some (.int res.1)) res.2 := by
  refine CT.of (by decide +kernel) (Nat.le_of_ble_eq_true rfl) fun X C E => ?_
  have C : CX X RX11 "worthShort" prog_1_method_12_code 3 (some .int) := C
  show EV X 3 0 [(0, .ref a0), (1, .int i1), (2, .int i2)] [] 0 0 M
  unfold m_X11_worthShort at hf
  refine ev_iload_n C dX11_worthShort_0 rfl (q := 1) rfl ?_
  refine ev_bipush (v := 20) C dX11_worthShort_1 (by decide) ?_
  obtain ⟨x1, e2, hf⟩ := obnd hf
  refine ev_callS0 (As := [.int i1, .int 20]) (st := []) C (t_X11_within e2) hd_X11_within rfl kw_435 kw_436 kw_70 kw_437 (mRoom.of E (Nat.le_of_ble_eq_true rfl) (Nat.le_of_ble_eq_true rfl) (Nat.le_refl 0) (Nat.le_refl 0)) (Nat.le_of_ble_eq_true rfl) dX11_worthShort_3 ?_
  refine ev_if_eq (tgt := 42) C dX11_worthShort_6 (by decide) (fun hc => ?_) (fun hc => ?_)
  · have hf := oit hf hc
    refine ev_iconst (v := (-1)) C dX11_worthShort_42 (by decide) ?_
    obtain rfl := Option.some.inj hf
    exact ev_iret C E (Nat.le_refl 0) (Nat.le_refl 0) dX11_worthShort_43
  · have hf := oie hf hc
    refine ev_iload_n C dX11_worthShort_9 rfl (q := 2) rfl ?_
    refine ev_aload_n C dX11_worthShort_10 rfl (q := 0) rfl ?_
    obtain ⟨x3, e4, hf⟩ := obnd hf
    refine ev_get (k := 0) C ok_11 dX11_worthShort_11 (by decide) kw_392 (fR_V e4) ?_
    obtain ⟨x5, e6, hf⟩ := obnd hf
    refine ev_get (k := 2) C ok_5 dX11_worthShort_14 (by decide) kw_190 (fR_V e6) ?_
    refine ev_iconst (v := 0) C dX11_worthShort_17 (by decide) ?_
    obtain ⟨x7, e8, hf⟩ := obnd hf
    refine ev_iald C dX11_worthShort_18 e8 ?_
    obtain ⟨x9, e10, hf⟩ := obnd hf
    refine ev_callS0 (As := [.int i2, .int x7]) (st := []) C (t_X11_within e10) hd_X11_within rfl kw_435 kw_436 kw_70 kw_437 (mRoom.of E (Nat.le_of_ble_eq_true rfl) (Nat.le_of_ble_eq_true rfl) (Nat.le_refl 0) (Nat.le_refl 0)) (Nat.le_of_ble_eq_true rfl) dX11_worthShort_19 ?_
    refine ev_if_eq (tgt := 42) C dX11_worthShort_22 (by decide) (fun hc => ?_) (fun hc => ?_)
    · have hf := oit hf hc
      refine ev_iconst (v := (-1)) C dX11_worthShort_42 (by decide) ?_
      obtain rfl := Option.some.inj hf
      exact ev_iret C E (Nat.le_refl 0) (Nat.le_refl 0) dX11_worthShort_43
    · have hf := oie hf hc
      refine ev_aload_n C dX11_worthShort_25 rfl (q := 0) rfl ?_
      obtain ⟨x11, e12, hf⟩ := obnd hf
      refine ev_get (k := 3) C ok_11 dX11_worthShort_26 (by decide) kw_395 (fR_V e12) ?_
      refine ev_iload_n C dX11_worthShort_29 rfl (q := 1) rfl ?_
      obtain ⟨_, e13, hf⟩ := obnd hf
      obtain ⟨fs14, e13⟩ := oO_eq e13
      obtain ⟨x15, e16, hf⟩ := obnd hf
      refine ev_callV0 (As := [.int i1]) (st := []) C rfl e13 (t_X10_row e16) rfl hd_X10_row rfl kw_511 kw_512 kw_76 kw_513 kw_514 (mRoom.of E (Nat.le_of_ble_eq_true rfl) (Nat.le_of_ble_eq_true rfl) (Nat.le_refl 0) (Nat.le_refl 0)) (Nat.le_of_ble_eq_true rfl) dX11_worthShort_30 ?_
      refine ev_iload_n C dX11_worthShort_33 rfl (q := 2) rfl ?_
      obtain ⟨x17, e18, hf⟩ := obnd hf
      refine ev_dald C dX11_worthShort_34 e18 ?_
      obtain ⟨x19, e20, hf⟩ := obnd hf
      obtain ⟨e20, e20q⟩ := oF_eq e20
      refine ev_d2f C dX11_worthShort_35 e20 ?_
      rw [← e20q]
      obtain ⟨x21, e22, hf⟩ := obnd hf
      refine ev_callS0 (As := [.float x19]) (st := []) C (t_X9_bitsOfFloat e22) hd_X9_bitsOfFloat rfl kw_536 kw_537 kw_77 kw_538 (mRoom.of E (Nat.le_of_ble_eq_true rfl) (Nat.le_of_ble_eq_true rfl) (Nat.le_refl 0) (Nat.le_refl 0)) (Nat.le_of_ble_eq_true rfl) dX11_worthShort_36 ?_
      refine ev_goto (tgt := 43) C dX11_worthShort_39 (by decide) ?_
      obtain rfl := Option.some.inj hf
      exact ev_iret C E (Nat.le_refl 0) (Nat.le_refl 0) dX11_worthShort_43
/-! java/util/Arrays fill([JJ)V -/
theorem dJ7_fill_d0a16_0 : decode prog_28_method_101_code 0 = .ok (.iconst 0, 1) := by decide +kernel
theorem dJ7_fill_d0a16_1 : decode prog_28_method_101_code 1 = .ok (.istore_n 3, 1) := by decide +kernel
theorem dJ7_fill_d0a16_2 : decode prog_28_method_101_code 2 = .ok (.aload_n 0, 1) := by decide +kernel
theorem dJ7_fill_d0a16_3 : decode prog_28_method_101_code 3 = .ok (.arraylength, 1) := by decide +kernel
theorem dJ7_fill_d0a16_4 : decode prog_28_method_101_code 4 = .ok (.istore 4, 2) := by decide +kernel
theorem dJ7_fill_d0a16_6 : decode prog_28_method_101_code 6 = .ok (.iload_n 3, 1) := by decide +kernel
theorem dJ7_fill_d0a16_7 : decode prog_28_method_101_code 7 = .ok (.iload 4, 2) := by decide +kernel
theorem dJ7_fill_d0a16_9 : decode prog_28_method_101_code 9 = .ok (.if_icmp .ge 13, 3) := by decide +kernel
theorem dJ7_fill_d0a16_12 : decode prog_28_method_101_code 12 = .ok (.aload_n 0, 1) := by decide +kernel
theorem dJ7_fill_d0a16_13 : decode prog_28_method_101_code 13 = .ok (.iload_n 3, 1) := by decide +kernel
theorem dJ7_fill_d0a16_14 : decode prog_28_method_101_code 14 = .ok (.lload_n 1, 1) := by decide +kernel
theorem dJ7_fill_d0a16_15 : decode prog_28_method_101_code 15 = .ok (.lastore, 1) := by decide +kernel
theorem dJ7_fill_d0a16_16 : decode prog_28_method_101_code 16 = .ok (.iinc 3 1, 3) := by decide +kernel
theorem dJ7_fill_d0a16_19 : decode prog_28_method_101_code 19 = .ok (.goto (-13), 3) := by decide +kernel
theorem dJ7_fill_d0a16_22 : decode prog_28_method_101_code 22 = .ok (.return_, 1) := by decide +kernel
def m_J7_fill_d0a16_L6 (N : Nat)  : Nat → Nat → Int64 → Int32 → Int32 → mM → Option (mM)
  | 0, _, _, _, _, _ => none
  | n + 1, a0, j1, i3, i4, M =>
    if i4 ≤ i3 then (
      some M) else (
      (uL M a0 i3 j1).bind fun M1 =>
      (m_J7_fill_d0a16_L6 N  n) a0 j1 (i3 + 1) i4 M1)
set_option maxHeartbeats 4000000 in
set_option maxRecDepth 100000 in
theorem t_J7_fill_d0a16_L6 {X : mX} {L0 : Launch} {res : mM} {N : Nat} (C : CX X RJ7 "fill" prog_28_method_101_code 5 none) (E : EX X L0 0 0 0 0 none res)   : ∀ (n : Nat) (a0 : Nat) (j1 : Int64) (i3 : Int32) (i4 : Int32) (M : mM), m_J7_fill_d0a16_L6 N  n a0 j1 i3 i4 M = some res → EV X 5 6 [(0, .ref a0), (1, .long j1), (3, .int i3), (4, .int i4)] [] 0 0 M := by
  intro n
  induction n with
  | zero => intro a0 j1 i3 i4 M hf; cases (show (none : Option (mM)) = some res from hf)
  | succ n ih =>
    intro a0 j1 i3 i4 M hf
    rw [m_J7_fill_d0a16_L6] at hf
    refine ev_iload_n C dJ7_fill_d0a16_6 rfl (q := 2) rfl ?_
    refine ev_iload C dJ7_fill_d0a16_7 (q := 3) rfl ?_
    refine ev_icmp_ge (tgt := 22) C dJ7_fill_d0a16_9 (by decide) (fun hc => ?_) (fun hc => ?_)
    · have hf := oit hf hc
      obtain rfl := Option.some.inj hf
      exact ev_vret C E (Nat.le_refl 0) (Nat.le_refl 0) dJ7_fill_d0a16_22
    · have hf := oie hf hc
      refine ev_aload_n C dJ7_fill_d0a16_12 rfl (q := 0) rfl ?_
      refine ev_iload_n C dJ7_fill_d0a16_13 rfl (q := 2) rfl ?_
      refine ev_lload_n C dJ7_fill_d0a16_14 rfl (q := 1) rfl ?_
      obtain ⟨M1, e2, hf⟩ := obnd hf
      refine ev_last C dJ7_fill_d0a16_15 e2 ?_
      refine ev_iinc (v := i3 + 1) (l' := [(3, .int (i3 + 1)), (0, .ref a0), (1, .long j1), (4, .int i4)]) C dJ7_fill_d0a16_16 (q := 2) rfl rfl (by decide) rfl ?_
      refine ev_goto (tgt := 6) C dJ7_fill_d0a16_19 (by decide) ?_
      refine ev_sub [1, 2, 0, 3] rfl ?_
      exact ih a0 j1 (i3 + 1) i4 M1 hf
def m_J7_fill_d0a16 (N : Nat) (a0 : Nat) (j1 : Int64) (M : mM) : Option (mM) :=
  (aN 1 M a0).bind fun x1 =>
  m_J7_fill_d0a16_L6 N  N a0 j1 0 x1 M
set_option maxHeartbeats 4000000 in
set_option maxRecDepth 100000 in
theorem t_J7_fill_d0a16 {L0 : Launch} {M : mM} {N : Nat} {a0 : Nat} {j1 : Int64} {res : mM} (hf : m_J7_fill_d0a16 N a0 j1 M = some res) : CT L0 yJ7_fill_d0a16 prog_28_method_101_code 5 none 0 0 0 0 [.ref a0, .long j1] M none res := by
  refine CT.of (by decide +kernel) (Nat.le_of_ble_eq_true rfl) fun X C E => ?_
  have C : CX X RJ7 "fill" prog_28_method_101_code 5 none := C
  show EV X 5 0 [(0, .ref a0), (1, .long j1)] [] 0 0 M
  unfold m_J7_fill_d0a16 at hf
  refine ev_iconst (v := 0) C dJ7_fill_d0a16_0 (by decide) ?_
  refine ev_istore_n (l' := [(3, .int 0), (0, .ref a0), (1, .long j1)]) C dJ7_fill_d0a16_1 rfl (by decide) rfl ?_
  refine ev_aload_n C dJ7_fill_d0a16_2 rfl (q := 1) rfl ?_
  obtain ⟨x1, e2, hf⟩ := obnd hf
  refine ev_alen (t := 1) C rfl dJ7_fill_d0a16_3 e2 ?_
  refine ev_istore (l' := [(4, .int x1), (3, .int 0), (0, .ref a0), (1, .long j1)]) C dJ7_fill_d0a16_4 (by decide) rfl ?_
  refine ev_sub [2, 3, 1, 0] rfl ?_
  exact t_J7_fill_d0a16_L6 C E   N a0 j1 0 x1 M hf
/-! FareLimits$Whole times(JJ)J -/
theorem dX9_times_0 : decode prog_11_method_2_code 0 = .ok (.lload_n 0, 1) := by decide +kernel
theorem dX9_times_1 : decode prog_11_method_2_code 1 = .ok (.lconst 0, 1) := by decide +kernel
theorem dX9_times_2 : decode prog_11_method_2_code 2 = .ok (.lcmp, 1) := by decide +kernel
theorem dX9_times_3 : decode prog_11_method_2_code 3 = .ok (.ifCond .lt 25, 3) := by decide +kernel
theorem dX9_times_6 : decode prog_11_method_2_code 6 = .ok (.lload_n 2, 1) := by decide +kernel
theorem dX9_times_7 : decode prog_11_method_2_code 7 = .ok (.lconst 0, 1) := by decide +kernel
theorem dX9_times_8 : decode prog_11_method_2_code 8 = .ok (.lcmp, 1) := by decide +kernel
theorem dX9_times_9 : decode prog_11_method_2_code 9 = .ok (.ifCond .lt 19, 3) := by decide +kernel
theorem dX9_times_12 : decode prog_11_method_2_code 12 = .ok (.lload_n 2, 1) := by decide +kernel
theorem dX9_times_13 : decode prog_11_method_2_code 13 = .ok (.lconst 0, 1) := by decide +kernel
theorem dX9_times_14 : decode prog_11_method_2_code 14 = .ok (.lcmp, 1) := by decide +kernel
theorem dX9_times_15 : decode prog_11_method_2_code 15 = .ok (.ifCond .eq 17, 3) := by decide +kernel
theorem dX9_times_18 : decode prog_11_method_2_code 18 = .ok (.lload_n 0, 1) := by decide +kernel
theorem dX9_times_19 : decode prog_11_method_2_code 19 = .ok (.ldc2_w 19, 3) := by decide +kernel
theorem dX9_times_22 : decode prog_11_method_2_code 22 = .ok (.lload_n 2, 1) := by decide +kernel
theorem dX9_times_23 : decode prog_11_method_2_code 23 = .ok (.ldiv, 1) := by decide +kernel
theorem dX9_times_24 : decode prog_11_method_2_code 24 = .ok (.lcmp, 1) := by decide +kernel
theorem dX9_times_25 : decode prog_11_method_2_code 25 = .ok (.ifCond .le 7, 3) := by decide +kernel
theorem dX9_times_28 : decode prog_11_method_2_code 28 = .ok (.ldc2_w 21, 3) := by decide +kernel
theorem dX9_times_31 : decode prog_11_method_2_code 31 = .ok (.lreturn, 1) := by decide +kernel
theorem dX9_times_32 : decode prog_11_method_2_code 32 = .ok (.lload_n 0, 1) := by decide +kernel
theorem dX9_times_33 : decode prog_11_method_2_code 33 = .ok (.lload_n 2, 1) := by decide +kernel
theorem dX9_times_34 : decode prog_11_method_2_code 34 = .ok (.lmul, 1) := by decide +kernel
theorem dX9_times_35 : decode prog_11_method_2_code 35 = .ok (.lreturn, 1) := by decide +kernel
def m_X9_times (j0 : Int64) (j2 : Int64) : Option (Int64) :=
  if (lg_cmp j0 0) < 0 then (
    some (-6)) else (
    if (lg_cmp j2 0) < 0 then (
      some (-6)) else (
      if (lg_cmp j2 0) = 0 then (
        some (j0 * j2)) else (
        (oif (¬ j2 = 0)).bind fun _ =>
        if (lg_cmp j0 (9223372036854775807 / j2)) ≤ 0 then (
          some (j0 * j2)) else (
          some (-6)))))
set_option maxHeartbeats 4000000 in
set_option maxRecDepth 100000 in
theorem t_X9_times {L0 : Launch} {M : mM} {j0 : Int64} {j2 : Int64} {res : Int64} (hf : m_X9_times j0 j2 = some res) : CT L0 yX9_times prog_11_method_2_code 4 (some .long) 0 0 0 0 [.long j0, .long j2] M (some (.long res)) M := by
  refine CT.of (by decide +kernel) (Nat.le_of_ble_eq_true rfl) fun X C E => ?_
  have C : CX X RX9 "times" prog_11_method_2_code 4 (some .long) := C
  show EV X 4 0 [(0, .long j0), (2, .long j2)] [] 0 0 M
  unfold m_X9_times at hf
  refine ev_lload_n C dX9_times_0 rfl (q := 0) rfl ?_
  refine ev_lconst (v := 0) C dX9_times_1 (by decide) ?_
  refine ev_lcmp C dX9_times_2 ?_
  refine ev_if_lt (tgt := 28) C dX9_times_3 (by decide) (fun hc => ?_) (fun hc => ?_)
  · have hf := oit hf hc
    refine ev_ldc2 (v := (-6)) C dX9_times_28 kw_564 ?_
    obtain rfl := Option.some.inj hf
    exact ev_lret C E (Nat.le_refl 0) (Nat.le_refl 0) dX9_times_31
  · have hf := oie hf hc
    refine ev_lload_n C dX9_times_6 rfl (q := 1) rfl ?_
    refine ev_lconst (v := 0) C dX9_times_7 (by decide) ?_
    refine ev_lcmp C dX9_times_8 ?_
    refine ev_if_lt (tgt := 28) C dX9_times_9 (by decide) (fun hc => ?_) (fun hc => ?_)
    · have hf := oit hf hc
      refine ev_ldc2 (v := (-6)) C dX9_times_28 kw_564 ?_
      obtain rfl := Option.some.inj hf
      exact ev_lret C E (Nat.le_refl 0) (Nat.le_refl 0) dX9_times_31
    · have hf := oie hf hc
      refine ev_lload_n C dX9_times_12 rfl (q := 1) rfl ?_
      refine ev_lconst (v := 0) C dX9_times_13 (by decide) ?_
      refine ev_lcmp C dX9_times_14 ?_
      refine ev_if_eq (tgt := 32) C dX9_times_15 (by decide) (fun hc => ?_) (fun hc => ?_)
      · have hf := oit hf hc
        refine ev_lload_n C dX9_times_32 rfl (q := 0) rfl ?_
        refine ev_lload_n C dX9_times_33 rfl (q := 1) rfl ?_
        refine ev_lmul C dX9_times_34 ?_
        obtain rfl := Option.some.inj hf
        exact ev_lret C E (Nat.le_refl 0) (Nat.le_refl 0) dX9_times_35
      · have hf := oie hf hc
        refine ev_lload_n C dX9_times_18 rfl (q := 0) rfl ?_
        refine ev_ldc2 (v := 9223372036854775807) C dX9_times_19 kw_563 ?_
        refine ev_lload_n C dX9_times_22 rfl (q := 1) rfl ?_
        obtain ⟨_, e1, hf⟩ := obnd hf
        refine ev_ldiv C dX9_times_23 (oif_eq e1) ?_
        refine ev_lcmp C dX9_times_24 ?_
        refine ev_if_le (tgt := 32) C dX9_times_25 (by decide) (fun hc => ?_) (fun hc => ?_)
        · have hf := oit hf hc
          refine ev_lload_n C dX9_times_32 rfl (q := 0) rfl ?_
          refine ev_lload_n C dX9_times_33 rfl (q := 1) rfl ?_
          refine ev_lmul C dX9_times_34 ?_
          obtain rfl := Option.some.inj hf
          exact ev_lret C E (Nat.le_refl 0) (Nat.le_refl 0) dX9_times_35
        · have hf := oie hf hc
          refine ev_ldc2 (v := (-6)) C dX9_times_28 kw_564 ?_
          obtain rfl := Option.some.inj hf
          exact ev_lret C E (Nat.le_refl 0) (Nat.le_refl 0) dX9_times_31
/-! FareLimits$Whole plus(JJ)J -/
theorem dX9_plus_0 : decode prog_11_method_3_code 0 = .ok (.lload_n 0, 1) := by decide +kernel
theorem dX9_plus_1 : decode prog_11_method_3_code 1 = .ok (.lconst 0, 1) := by decide +kernel
theorem dX9_plus_2 : decode prog_11_method_3_code 2 = .ok (.lcmp, 1) := by decide +kernel
theorem dX9_plus_3 : decode prog_11_method_3_code 3 = .ok (.ifCond .lt 19, 3) := by decide +kernel
theorem dX9_plus_6 : decode prog_11_method_3_code 6 = .ok (.lload_n 2, 1) := by decide +kernel
theorem dX9_plus_7 : decode prog_11_method_3_code 7 = .ok (.lconst 0, 1) := by decide +kernel
theorem dX9_plus_8 : decode prog_11_method_3_code 8 = .ok (.lcmp, 1) := by decide +kernel
theorem dX9_plus_9 : decode prog_11_method_3_code 9 = .ok (.ifCond .lt 13, 3) := by decide +kernel
theorem dX9_plus_12 : decode prog_11_method_3_code 12 = .ok (.lload_n 0, 1) := by decide +kernel
theorem dX9_plus_13 : decode prog_11_method_3_code 13 = .ok (.ldc2_w 19, 3) := by decide +kernel
theorem dX9_plus_16 : decode prog_11_method_3_code 16 = .ok (.lload_n 2, 1) := by decide +kernel
theorem dX9_plus_17 : decode prog_11_method_3_code 17 = .ok (.lsub, 1) := by decide +kernel
theorem dX9_plus_18 : decode prog_11_method_3_code 18 = .ok (.lcmp, 1) := by decide +kernel
theorem dX9_plus_19 : decode prog_11_method_3_code 19 = .ok (.ifCond .le 9, 3) := by decide +kernel
theorem dX9_plus_22 : decode prog_11_method_3_code 22 = .ok (.ldc2_w 21, 3) := by decide +kernel
theorem dX9_plus_25 : decode prog_11_method_3_code 25 = .ok (.goto 6, 3) := by decide +kernel
theorem dX9_plus_28 : decode prog_11_method_3_code 28 = .ok (.lload_n 0, 1) := by decide +kernel
theorem dX9_plus_29 : decode prog_11_method_3_code 29 = .ok (.lload_n 2, 1) := by decide +kernel
theorem dX9_plus_30 : decode prog_11_method_3_code 30 = .ok (.ladd, 1) := by decide +kernel
theorem dX9_plus_31 : decode prog_11_method_3_code 31 = .ok (.lreturn, 1) := by decide +kernel
def m_X9_plus (j0 : Int64) (j2 : Int64) : Option (Int64) :=
  if (lg_cmp j0 0) < 0 then (
    some (-6)) else (
    if (lg_cmp j2 0) < 0 then (
      some (-6)) else (
      if (lg_cmp j0 (9223372036854775807 - j2)) ≤ 0 then (
        some (j0 + j2)) else (
        some (-6))))
set_option maxHeartbeats 4000000 in
set_option maxRecDepth 100000 in
theorem t_X9_plus {L0 : Launch} {M : mM} {j0 : Int64} {j2 : Int64} {res : Int64} (hf : m_X9_plus j0 j2 = some res) : CT L0 yX9_plus prog_11_method_3_code 4 (some .long) 0 0 0 0 [.long j0, .long j2] M (some (.long res)) M := by
  refine CT.of (by decide +kernel) (Nat.le_of_ble_eq_true rfl) fun X C E => ?_
  have C : CX X RX9 "plus" prog_11_method_3_code 4 (some .long) := C
  show EV X 4 0 [(0, .long j0), (2, .long j2)] [] 0 0 M
  unfold m_X9_plus at hf
  refine ev_lload_n C dX9_plus_0 rfl (q := 0) rfl ?_
  refine ev_lconst (v := 0) C dX9_plus_1 (by decide) ?_
  refine ev_lcmp C dX9_plus_2 ?_
  refine ev_if_lt (tgt := 22) C dX9_plus_3 (by decide) (fun hc => ?_) (fun hc => ?_)
  · have hf := oit hf hc
    refine ev_ldc2 (v := (-6)) C dX9_plus_22 kw_564 ?_
    refine ev_goto (tgt := 31) C dX9_plus_25 (by decide) ?_
    obtain rfl := Option.some.inj hf
    exact ev_lret C E (Nat.le_refl 0) (Nat.le_refl 0) dX9_plus_31
  · have hf := oie hf hc
    refine ev_lload_n C dX9_plus_6 rfl (q := 1) rfl ?_
    refine ev_lconst (v := 0) C dX9_plus_7 (by decide) ?_
    refine ev_lcmp C dX9_plus_8 ?_
    refine ev_if_lt (tgt := 22) C dX9_plus_9 (by decide) (fun hc => ?_) (fun hc => ?_)
    · have hf := oit hf hc
      refine ev_ldc2 (v := (-6)) C dX9_plus_22 kw_564 ?_
      refine ev_goto (tgt := 31) C dX9_plus_25 (by decide) ?_
      obtain rfl := Option.some.inj hf
      exact ev_lret C E (Nat.le_refl 0) (Nat.le_refl 0) dX9_plus_31
    · have hf := oie hf hc
      refine ev_lload_n C dX9_plus_12 rfl (q := 0) rfl ?_
      refine ev_ldc2 (v := 9223372036854775807) C dX9_plus_13 kw_563 ?_
      refine ev_lload_n C dX9_plus_16 rfl (q := 1) rfl ?_
      refine ev_lsub C dX9_plus_17 ?_
      refine ev_lcmp C dX9_plus_18 ?_
      refine ev_if_le (tgt := 28) C dX9_plus_19 (by decide) (fun hc => ?_) (fun hc => ?_)
      · have hf := oit hf hc
        refine ev_lload_n C dX9_plus_28 rfl (q := 0) rfl ?_
        refine ev_lload_n C dX9_plus_29 rfl (q := 1) rfl ?_
        refine ev_ladd C dX9_plus_30 ?_
        obtain rfl := Option.some.inj hf
        exact ev_lret C E (Nat.le_refl 0) (Nat.le_refl 0) dX9_plus_31
      · have hf := oie hf hc
        refine ev_ldc2 (v := (-6)) C dX9_plus_22 kw_564 ?_
        refine ev_goto (tgt := 31) C dX9_plus_25 (by decide) ?_
        obtain rfl := Option.some.inj hf
        exact ev_lret C E (Nat.le_refl 0) (Nat.le_refl 0) dX9_plus_31
/-! FareLimits$Whole nextGross(IIJ)J -/
theorem dX9_nextGross_0 : decode prog_11_method_6_code 0 = .ok (.ldc2_w 41, 3) := by decide +kernel
theorem dX9_nextGross_3 : decode prog_11_method_6_code 3 = .ok (.aload_n 0, 1) := by decide +kernel
theorem dX9_nextGross_4 : decode prog_11_method_6_code 4 = .ok (.getfield 9, 3) := by decide +kernel
theorem dX9_nextGross_7 : decode prog_11_method_6_code 7 = .ok (.iload_n 1, 1) := by decide +kernel
theorem dX9_nextGross_8 : decode prog_11_method_6_code 8 = .ok (.laload, 1) := by decide +kernel
theorem dX9_nextGross_9 : decode prog_11_method_6_code 9 = .ok (.invokestatic 23, 3) := by decide +kernel
theorem dX9_nextGross_12 : decode prog_11_method_6_code 12 = .ok (.lstore 5, 2) := by decide +kernel
theorem dX9_nextGross_14 : decode prog_11_method_6_code 14 = .ok (.iconst 0, 1) := by decide +kernel
theorem dX9_nextGross_15 : decode prog_11_method_6_code 15 = .ok (.istore 7, 2) := by decide +kernel
theorem dX9_nextGross_17 : decode prog_11_method_6_code 17 = .ok (.iload 7, 2) := by decide +kernel
theorem dX9_nextGross_19 : decode prog_11_method_6_code 19 = .ok (.aload_n 0, 1) := by decide +kernel
theorem dX9_nextGross_20 : decode prog_11_method_6_code 20 = .ok (.getfield 15, 3) := by decide +kernel
theorem dX9_nextGross_23 : decode prog_11_method_6_code 23 = .ok (.getfield 43, 3) := by decide +kernel
theorem dX9_nextGross_26 : decode prog_11_method_6_code 26 = .ok (.if_icmp .ge 125, 3) := by decide +kernel
theorem dX9_nextGross_29 : decode prog_11_method_6_code 29 = .ok (.aload_n 0, 1) := by decide +kernel
theorem dX9_nextGross_30 : decode prog_11_method_6_code 30 = .ok (.getfield 15, 3) := by decide +kernel
theorem dX9_nextGross_33 : decode prog_11_method_6_code 33 = .ok (.getfield 49, 3) := by decide +kernel
theorem dX9_nextGross_36 : decode prog_11_method_6_code 36 = .ok (.iload 7, 2) := by decide +kernel
theorem dX9_nextGross_38 : decode prog_11_method_6_code 38 = .ok (.aaload, 1) := by decide +kernel
theorem dX9_nextGross_39 : decode prog_11_method_6_code 39 = .ok (.getfield 53, 3) := by decide +kernel
theorem dX9_nextGross_42 : decode prog_11_method_6_code 42 = .ok (.i2l, 1) := by decide +kernel
theorem dX9_nextGross_43 : decode prog_11_method_6_code 43 = .ok (.lload_n 3, 1) := by decide +kernel
theorem dX9_nextGross_44 : decode prog_11_method_6_code 44 = .ok (.invokestatic 23, 3) := by decide +kernel
theorem dX9_nextGross_47 : decode prog_11_method_6_code 47 = .ok (.lstore 8, 2) := by decide +kernel
theorem dX9_nextGross_49 : decode prog_11_method_6_code 49 = .ok (.lload 8, 2) := by decide +kernel
theorem dX9_nextGross_51 : decode prog_11_method_6_code 51 = .ok (.ldc2_w 21, 3) := by decide +kernel
theorem dX9_nextGross_54 : decode prog_11_method_6_code 54 = .ok (.lcmp, 1) := by decide +kernel
theorem dX9_nextGross_55 : decode prog_11_method_6_code 55 = .ok (.ifCond .eq 31, 3) := by decide +kernel
theorem dX9_nextGross_58 : decode prog_11_method_6_code 58 = .ok (.aload_n 0, 1) := by decide +kernel
theorem dX9_nextGross_59 : decode prog_11_method_6_code 59 = .ok (.getfield 9, 3) := by decide +kernel
theorem dX9_nextGross_62 : decode prog_11_method_6_code 62 = .ok (.iload_n 1, 1) := by decide +kernel
theorem dX9_nextGross_63 : decode prog_11_method_6_code 63 = .ok (.laload, 1) := by decide +kernel
theorem dX9_nextGross_64 : decode prog_11_method_6_code 64 = .ok (.ldc2_w 21, 3) := by decide +kernel
theorem dX9_nextGross_67 : decode prog_11_method_6_code 67 = .ok (.lcmp, 1) := by decide +kernel
theorem dX9_nextGross_68 : decode prog_11_method_6_code 68 = .ok (.ifCond .eq 18, 3) := by decide +kernel
theorem dX9_nextGross_71 : decode prog_11_method_6_code 71 = .ok (.aload_n 0, 1) := by decide +kernel
theorem dX9_nextGross_72 : decode prog_11_method_6_code 72 = .ok (.getfield 9, 3) := by decide +kernel
theorem dX9_nextGross_75 : decode prog_11_method_6_code 75 = .ok (.iload_n 1, 1) := by decide +kernel
theorem dX9_nextGross_76 : decode prog_11_method_6_code 76 = .ok (.iconst 1, 1) := by decide +kernel
theorem dX9_nextGross_77 : decode prog_11_method_6_code 77 = .ok (.isub, 1) := by decide +kernel
theorem dX9_nextGross_78 : decode prog_11_method_6_code 78 = .ok (.laload, 1) := by decide +kernel
theorem dX9_nextGross_79 : decode prog_11_method_6_code 79 = .ok (.ldc2_w 21, 3) := by decide +kernel
theorem dX9_nextGross_82 : decode prog_11_method_6_code 82 = .ok (.lcmp, 1) := by decide +kernel
theorem dX9_nextGross_83 : decode prog_11_method_6_code 83 = .ok (.ifCond .ne 7, 3) := by decide +kernel
theorem dX9_nextGross_86 : decode prog_11_method_6_code 86 = .ok (.ldc2_w 21, 3) := by decide +kernel
theorem dX9_nextGross_89 : decode prog_11_method_6_code 89 = .ok (.lreturn, 1) := by decide +kernel
theorem dX9_nextGross_90 : decode prog_11_method_6_code 90 = .ok (.lload 8, 2) := by decide +kernel
theorem dX9_nextGross_92 : decode prog_11_method_6_code 92 = .ok (.aload_n 0, 1) := by decide +kernel
theorem dX9_nextGross_93 : decode prog_11_method_6_code 93 = .ok (.getfield 9, 3) := by decide +kernel
theorem dX9_nextGross_96 : decode prog_11_method_6_code 96 = .ok (.iload_n 1, 1) := by decide +kernel
theorem dX9_nextGross_97 : decode prog_11_method_6_code 97 = .ok (.laload, 1) := by decide +kernel
theorem dX9_nextGross_98 : decode prog_11_method_6_code 98 = .ok (.aload_n 0, 1) := by decide +kernel
theorem dX9_nextGross_99 : decode prog_11_method_6_code 99 = .ok (.getfield 9, 3) := by decide +kernel
theorem dX9_nextGross_102 : decode prog_11_method_6_code 102 = .ok (.iload_n 1, 1) := by decide +kernel
theorem dX9_nextGross_103 : decode prog_11_method_6_code 103 = .ok (.iconst 1, 1) := by decide +kernel
theorem dX9_nextGross_104 : decode prog_11_method_6_code 104 = .ok (.isub, 1) := by decide +kernel
theorem dX9_nextGross_105 : decode prog_11_method_6_code 105 = .ok (.laload, 1) := by decide +kernel
theorem dX9_nextGross_106 : decode prog_11_method_6_code 106 = .ok (.lsub, 1) := by decide +kernel
theorem dX9_nextGross_107 : decode prog_11_method_6_code 107 = .ok (.lsub, 1) := by decide +kernel
theorem dX9_nextGross_108 : decode prog_11_method_6_code 108 = .ok (.lstore 10, 2) := by decide +kernel
theorem dX9_nextGross_110 : decode prog_11_method_6_code 110 = .ok (.lload 10, 2) := by decide +kernel
theorem dX9_nextGross_112 : decode prog_11_method_6_code 112 = .ok (.lconst 0, 1) := by decide +kernel
theorem dX9_nextGross_113 : decode prog_11_method_6_code 113 = .ok (.lcmp, 1) := by decide +kernel
theorem dX9_nextGross_114 : decode prog_11_method_6_code 114 = .ok (.ifCond .le 31, 3) := by decide +kernel
theorem dX9_nextGross_117 : decode prog_11_method_6_code 117 = .ok (.lload 5, 2) := by decide +kernel
theorem dX9_nextGross_119 : decode prog_11_method_6_code 119 = .ok (.aload_n 0, 1) := by decide +kernel
theorem dX9_nextGross_120 : decode prog_11_method_6_code 120 = .ok (.getfield 15, 3) := by decide +kernel
theorem dX9_nextGross_123 : decode prog_11_method_6_code 123 = .ok (.getfield 49, 3) := by decide +kernel
theorem dX9_nextGross_126 : decode prog_11_method_6_code 126 = .ok (.iload 7, 2) := by decide +kernel
theorem dX9_nextGross_128 : decode prog_11_method_6_code 128 = .ok (.aaload, 1) := by decide +kernel
theorem dX9_nextGross_129 : decode prog_11_method_6_code 129 = .ok (.getfield 58, 3) := by decide +kernel
theorem dX9_nextGross_132 : decode prog_11_method_6_code 132 = .ok (.iload_n 2, 1) := by decide +kernel
theorem dX9_nextGross_133 : decode prog_11_method_6_code 133 = .ok (.iaload, 1) := by decide +kernel
theorem dX9_nextGross_134 : decode prog_11_method_6_code 134 = .ok (.i2l, 1) := by decide +kernel
theorem dX9_nextGross_135 : decode prog_11_method_6_code 135 = .ok (.lload 10, 2) := by decide +kernel
theorem dX9_nextGross_137 : decode prog_11_method_6_code 137 = .ok (.invokestatic 23, 3) := by decide +kernel
theorem dX9_nextGross_140 : decode prog_11_method_6_code 140 = .ok (.invokestatic 62, 3) := by decide +kernel
theorem dX9_nextGross_143 : decode prog_11_method_6_code 143 = .ok (.lstore 5, 2) := by decide +kernel
theorem dX9_nextGross_145 : decode prog_11_method_6_code 145 = .ok (.iinc 7 1, 3) := by decide +kernel
theorem dX9_nextGross_148 : decode prog_11_method_6_code 148 = .ok (.goto (-131), 3) := by decide +kernel
theorem dX9_nextGross_151 : decode prog_11_method_6_code 151 = .ok (.lload 5, 2) := by decide +kernel
theorem dX9_nextGross_153 : decode prog_11_method_6_code 153 = .ok (.lreturn, 1) := by decide +kernel
def m_X9_nextGross_J145 (N : Nat) (M : mM) (k17 : Nat → Int32 → Int32 → Int64 → Int64 → Int32 → Option (Int64)) (a0 : Nat) (i1 : Int32) (i2 : Int32) (j3 : Int64) (j5 : Int64) (i7 : Int32) : Option (Int64) :=
  k17 a0 i1 i2 j3 j5 (i7 + 1)
set_option maxHeartbeats 4000000 in
set_option maxRecDepth 100000 in
theorem t_X9_nextGross_J145 {X : mX} {M : mM} {L0 : Launch} {res : Int64} {N : Nat} (C : CX X RX9 "nextGross" prog_11_method_6_code 12 (some .long)) (E : EX X L0 1 23 0 0 (some (.long res)) M) (k17 : Nat → Int32 → Int32 → Int64 → Int64 → Int32 → Option (Int64)) (Hk17 : ∀ (a0 : Nat) (i1 : Int32) (i2 : Int32) (j3 : Int64) (j5 : Int64) (i7 : Int32), k17 a0 i1 i2 j3 j5 i7 = some res → EV X 12 17 [(0, .ref a0), (1, .int i1), (2, .int i2), (3, .long j3), (5, .long j5), (7, .int i7)] [] 0 0 M) (a0 : Nat) (i1 : Int32) (i2 : Int32) (j3 : Int64) (j5 : Int64) (i7 : Int32) (hf : m_X9_nextGross_J145 N M k17 a0 i1 i2 j3 j5 i7 = some res) : EV X 12 145 [(0, .ref a0), (1, .int i1), (2, .int i2), (3, .long j3), (5, .long j5), (7, .int i7)] [] 0 0 M := by
  unfold m_X9_nextGross_J145 at hf
  refine ev_iinc (v := i7 + 1) (l' := [(7, .int (i7 + 1)), (0, .ref a0), (1, .int i1), (2, .int i2), (3, .long j3), (5, .long j5)]) C dX9_nextGross_145 (q := 5) rfl rfl (by decide) rfl ?_
  refine ev_goto (tgt := 17) C dX9_nextGross_148 (by decide) ?_
  refine ev_sub [1, 2, 3, 4, 5, 0] rfl ?_
  exact Hk17 a0 i1 i2 j3 j5 (i7 + 1) hf
def m_X9_nextGross_L17 (N : Nat) (M : mM)  : Nat → Nat → Int32 → Int32 → Int64 → Int64 → Int32 → Option (Int64)
  | 0, _, _, _, _, _, _ => none
  | n + 1, a0, i1, i2, j3, j5, i7 =>
    (fR M a0 9 0).bind fun x1 =>
    (fI M x1 5 1).bind fun x3 =>
    if x3 ≤ i7 then (
      some j5) else (
      (fR M a0 9 0).bind fun x5 =>
      (fR M x5 5 0).bind fun x7 =>
      (aR 5 M x7 i7).bind fun x9 =>
      (fI M x9 3 1).bind fun x11 =>
      (m_X9_times x11.toInt64 j3).bind fun x13 =>
      if (lg_cmp x13 (-6)) = 0 then (
        some (-6)) else (
        (fR M a0 9 1).bind fun x15 =>
        (aL M x15 i1).bind fun x17 =>
        if (lg_cmp x17 (-6)) = 0 then (
          some (-6)) else (
          (fR M a0 9 1).bind fun x19 =>
          (aL M x19 (i1 - 1)).bind fun x21 =>
          if (lg_cmp x21 (-6)) = 0 then (
            some (-6)) else (
            (fR M a0 9 1).bind fun x23 =>
            (aL M x23 i1).bind fun x25 =>
            (fR M a0 9 1).bind fun x27 =>
            (aL M x27 (i1 - 1)).bind fun x29 =>
            if (lg_cmp (x13 - (x25 - x29)) 0) ≤ 0 then (
              m_X9_nextGross_J145 N M (m_X9_nextGross_L17 N M  n) a0 i1 i2 j3 j5 i7) else (
              (fR M a0 9 0).bind fun x31 =>
              (fR M x31 5 0).bind fun x33 =>
              (aR 5 M x33 i7).bind fun x35 =>
              (fR M x35 3 3).bind fun x37 =>
              (aI 0 M x37 i2).bind fun x39 =>
              (m_X9_times x39.toInt64 (x13 - (x25 - x29))).bind fun x41 =>
              (m_X9_plus j5 x41).bind fun x43 =>
              m_X9_nextGross_J145 N M (m_X9_nextGross_L17 N M  n) a0 i1 i2 j3 x43 i7)))))
set_option maxHeartbeats 4000000 in
set_option maxRecDepth 100000 in
theorem t_X9_nextGross_L17 {X : mX} {M : mM} {L0 : Launch} {res : Int64} {N : Nat} (C : CX X RX9 "nextGross" prog_11_method_6_code 12 (some .long)) (E : EX X L0 1 23 0 0 (some (.long res)) M)   : ∀ (n : Nat) (a0 : Nat) (i1 : Int32) (i2 : Int32) (j3 : Int64) (j5 : Int64) (i7 : Int32), m_X9_nextGross_L17 N M  n a0 i1 i2 j3 j5 i7 = some res → EV X 12 17 [(0, .ref a0), (1, .int i1), (2, .int i2), (3, .long j3), (5, .long j5), (7, .int i7)] [] 0 0 M := by
  intro n
  induction n with
  | zero => intro a0 i1 i2 j3 j5 i7 hf; cases (show (none : Option (Int64)) = some res from hf)
  | succ n ih =>
    intro a0 i1 i2 j3 j5 i7 hf
    rw [m_X9_nextGross_L17] at hf
    refine ev_iload C dX9_nextGross_17 (q := 5) rfl ?_
    refine ev_aload_n C dX9_nextGross_19 rfl (q := 0) rfl ?_
    obtain ⟨x1, e2, hf⟩ := obnd hf
    refine ev_get (k := 0) C ok_9 dX9_nextGross_20 (by decide) kw_236 (fR_V e2) ?_
    obtain ⟨x3, e4, hf⟩ := obnd hf
    refine ev_get (k := 1) C ok_5 dX9_nextGross_23 (by decide) kw_186 (fI_V e4) ?_
    refine ev_icmp_ge (tgt := 151) C dX9_nextGross_26 (by decide) (fun hc => ?_) (fun hc => ?_)
    · have hf := oit hf hc
      refine ev_lload C dX9_nextGross_151 (q := 4) rfl ?_
      obtain rfl := Option.some.inj hf
      exact ev_lret C E (Nat.le_refl 0) (Nat.le_refl 0) dX9_nextGross_153
    · have hf := oie hf hc
      refine ev_aload_n C dX9_nextGross_29 rfl (q := 0) rfl ?_
      obtain ⟨x5, e6, hf⟩ := obnd hf
      refine ev_get (k := 0) C ok_9 dX9_nextGross_30 (by decide) kw_236 (fR_V e6) ?_
      obtain ⟨x7, e8, hf⟩ := obnd hf
      refine ev_get (k := 0) C ok_5 dX9_nextGross_33 (by decide) kw_181 (fR_V e8) ?_
      refine ev_iload C dX9_nextGross_36 (q := 5) rfl ?_
      obtain ⟨x9, e10, hf⟩ := obnd hf
      refine ev_aldr C (t := 5) rfl rfl dX9_nextGross_38 e10 ?_
      obtain ⟨x11, e12, hf⟩ := obnd hf
      refine ev_get (k := 1) C ok_3 dX9_nextGross_39 (by decide) kw_155 (fI_V e12) ?_
      refine ev_i2l C dX9_nextGross_42 ?_
      refine ev_lload_n C dX9_nextGross_43 rfl (q := 3) rfl ?_
      obtain ⟨x13, e14, hf⟩ := obnd hf
      refine ev_callS0 (As := [.long x11.toInt64, .long j3]) (st := []) C (t_X9_times e14) hd_X9_times rfl kw_560 kw_561 kw_77 kw_562 (mRoom.of E (Nat.le_of_ble_eq_true rfl) (Nat.le_of_ble_eq_true rfl) (Nat.le_refl 0) (Nat.le_refl 0)) (Nat.le_of_ble_eq_true rfl) dX9_nextGross_44 ?_
      refine ev_lstore (l' := [(8, .long x13), (0, .ref a0), (1, .int i1), (2, .int i2), (3, .long j3), (5, .long j5), (7, .int i7)]) C dX9_nextGross_47 (by decide) rfl ?_
      refine ev_lload C dX9_nextGross_49 (q := 0) rfl ?_
      refine ev_ldc2 (v := (-6)) C dX9_nextGross_51 kw_564 ?_
      refine ev_lcmp C dX9_nextGross_54 ?_
      refine ev_if_eq (tgt := 86) C dX9_nextGross_55 (by decide) (fun hc => ?_) (fun hc => ?_)
      · have hf := oit hf hc
        refine ev_ldc2 (v := (-6)) C dX9_nextGross_86 kw_564 ?_
        obtain rfl := Option.some.inj hf
        exact ev_lret C E (Nat.le_refl 0) (Nat.le_refl 0) dX9_nextGross_89
      · have hf := oie hf hc
        refine ev_aload_n C dX9_nextGross_58 rfl (q := 1) rfl ?_
        obtain ⟨x15, e16, hf⟩ := obnd hf
        refine ev_get (k := 1) C ok_9 dX9_nextGross_59 (by decide) kw_237 (fR_V e16) ?_
        refine ev_iload_n C dX9_nextGross_62 rfl (q := 2) rfl ?_
        obtain ⟨x17, e18, hf⟩ := obnd hf
        refine ev_lald C dX9_nextGross_63 e18 ?_
        refine ev_ldc2 (v := (-6)) C dX9_nextGross_64 kw_564 ?_
        refine ev_lcmp C dX9_nextGross_67 ?_
        refine ev_if_eq (tgt := 86) C dX9_nextGross_68 (by decide) (fun hc => ?_) (fun hc => ?_)
        · have hf := oit hf hc
          refine ev_ldc2 (v := (-6)) C dX9_nextGross_86 kw_564 ?_
          obtain rfl := Option.some.inj hf
          exact ev_lret C E (Nat.le_refl 0) (Nat.le_refl 0) dX9_nextGross_89
        · have hf := oie hf hc
          refine ev_aload_n C dX9_nextGross_71 rfl (q := 1) rfl ?_
          obtain ⟨x19, e20, hf⟩ := obnd hf
          refine ev_get (k := 1) C ok_9 dX9_nextGross_72 (by decide) kw_237 (fR_V e20) ?_
          refine ev_iload_n C dX9_nextGross_75 rfl (q := 2) rfl ?_
          refine ev_iconst (v := 1) C dX9_nextGross_76 (by decide) ?_
          refine ev_isub C dX9_nextGross_77 ?_
          obtain ⟨x21, e22, hf⟩ := obnd hf
          refine ev_lald C dX9_nextGross_78 e22 ?_
          refine ev_ldc2 (v := (-6)) C dX9_nextGross_79 kw_564 ?_
          refine ev_lcmp C dX9_nextGross_82 ?_
          refine ev_if_ne (tgt := 90) C dX9_nextGross_83 (by decide) (fun hc => ?_) (fun hc => ?_)
          · have hf := oie hf hc
            refine ev_lload C dX9_nextGross_90 (q := 0) rfl ?_
            refine ev_aload_n C dX9_nextGross_92 rfl (q := 1) rfl ?_
            obtain ⟨x23, e24, hf⟩ := obnd hf
            refine ev_get (k := 1) C ok_9 dX9_nextGross_93 (by decide) kw_237 (fR_V e24) ?_
            refine ev_iload_n C dX9_nextGross_96 rfl (q := 2) rfl ?_
            obtain ⟨x25, e26, hf⟩ := obnd hf
            refine ev_lald C dX9_nextGross_97 e26 ?_
            refine ev_aload_n C dX9_nextGross_98 rfl (q := 1) rfl ?_
            obtain ⟨x27, e28, hf⟩ := obnd hf
            refine ev_get (k := 1) C ok_9 dX9_nextGross_99 (by decide) kw_237 (fR_V e28) ?_
            refine ev_iload_n C dX9_nextGross_102 rfl (q := 2) rfl ?_
            refine ev_iconst (v := 1) C dX9_nextGross_103 (by decide) ?_
            refine ev_isub C dX9_nextGross_104 ?_
            obtain ⟨x29, e30, hf⟩ := obnd hf
            refine ev_lald C dX9_nextGross_105 e30 ?_
            refine ev_lsub C dX9_nextGross_106 ?_
            refine ev_lsub C dX9_nextGross_107 ?_
            refine ev_lstore (l' := [(10, .long (x13 - (x25 - x29))), (8, .long x13), (0, .ref a0), (1, .int i1), (2, .int i2), (3, .long j3), (5, .long j5), (7, .int i7)]) C dX9_nextGross_108 (by decide) rfl ?_
            refine ev_lload C dX9_nextGross_110 (q := 0) rfl ?_
            refine ev_lconst (v := 0) C dX9_nextGross_112 (by decide) ?_
            refine ev_lcmp C dX9_nextGross_113 ?_
            refine ev_if_le (tgt := 145) C dX9_nextGross_114 (by decide) (fun hc => ?_) (fun hc => ?_)
            · have hf := oit hf hc
              refine ev_sub [2, 3, 4, 5, 6, 7] rfl ?_
              exact t_X9_nextGross_J145 C E (m_X9_nextGross_L17 N M  n) ih a0 i1 i2 j3 j5 i7 hf
            · have hf := oie hf hc
              refine ev_lload C dX9_nextGross_117 (q := 6) rfl ?_
              refine ev_aload_n C dX9_nextGross_119 rfl (q := 2) rfl ?_
              obtain ⟨x31, e32, hf⟩ := obnd hf
              refine ev_get (k := 0) C ok_9 dX9_nextGross_120 (by decide) kw_236 (fR_V e32) ?_
              obtain ⟨x33, e34, hf⟩ := obnd hf
              refine ev_get (k := 0) C ok_5 dX9_nextGross_123 (by decide) kw_181 (fR_V e34) ?_
              refine ev_iload C dX9_nextGross_126 (q := 7) rfl ?_
              obtain ⟨x35, e36, hf⟩ := obnd hf
              refine ev_aldr C (t := 5) rfl rfl dX9_nextGross_128 e36 ?_
              obtain ⟨x37, e38, hf⟩ := obnd hf
              refine ev_get (k := 3) C ok_3 dX9_nextGross_129 (by decide) kw_166 (fR_V e38) ?_
              refine ev_iload_n C dX9_nextGross_132 rfl (q := 4) rfl ?_
              obtain ⟨x39, e40, hf⟩ := obnd hf
              refine ev_iald C dX9_nextGross_133 e40 ?_
              refine ev_i2l C dX9_nextGross_134 ?_
              refine ev_lload C dX9_nextGross_135 (q := 0) rfl ?_
              obtain ⟨x41, e42, hf⟩ := obnd hf
              refine ev_callS0 (As := [.long x39.toInt64, .long (x13 - (x25 - x29))]) (st := [.long j5]) C (t_X9_times e42) hd_X9_times rfl kw_560 kw_561 kw_77 kw_562 (mRoom.of E (Nat.le_of_ble_eq_true rfl) (Nat.le_of_ble_eq_true rfl) (Nat.le_refl 0) (Nat.le_refl 0)) (Nat.le_of_ble_eq_true rfl) dX9_nextGross_137 ?_
              obtain ⟨x43, e44, hf⟩ := obnd hf
              refine ev_callS0 (As := [.long j5, .long x41]) (st := []) C (t_X9_plus e44) hd_X9_plus rfl kw_565 kw_566 kw_77 kw_567 (mRoom.of E (Nat.le_of_ble_eq_true rfl) (Nat.le_of_ble_eq_true rfl) (Nat.le_refl 0) (Nat.le_refl 0)) (Nat.le_of_ble_eq_true rfl) dX9_nextGross_140 ?_
              refine ev_lstore (l' := [(5, .long x43), (10, .long (x13 - (x25 - x29))), (8, .long x13), (0, .ref a0), (1, .int i1), (2, .int i2), (3, .long j3), (7, .int i7)]) C dX9_nextGross_143 (by decide) rfl ?_
              refine ev_sub [3, 4, 5, 6, 0, 7] rfl ?_
              exact t_X9_nextGross_J145 C E (m_X9_nextGross_L17 N M  n) ih a0 i1 i2 j3 x43 i7 hf
          · have hf := oit hf hc
            refine ev_ldc2 (v := (-6)) C dX9_nextGross_86 kw_564 ?_
            obtain rfl := Option.some.inj hf
            exact ev_lret C E (Nat.le_refl 0) (Nat.le_refl 0) dX9_nextGross_89
def m_X9_nextGross (N : Nat) (a0 : Nat) (i1 : Int32) (i2 : Int32) (j3 : Int64) (M : mM) : Option (Int64) :=
  (fR M a0 9 1).bind fun x1 =>
  (aL M x1 i1).bind fun x3 =>
  (m_X9_times 100 x3).bind fun x5 =>
  m_X9_nextGross_L17 N M  N a0 i1 i2 j3 x5 0
set_option maxHeartbeats 4000000 in
set_option maxRecDepth 100000 in
theorem t_X9_nextGross {L0 : Launch} {M : mM} {N : Nat} {a0 : Nat} {i1 : Int32} {i2 : Int32} {j3 : Int64} {res : Int64} (hf : m_X9_nextGross N a0 i1 i2 j3 M = some res) : CT L0 yX9_nextGross prog_11_method_6_code 12 (some .long) 1 23 0 0 [.ref a0, .int i1, .int i2, .long j3] M (some (.long res)) M := by
  refine CT.of (by decide +kernel) (Nat.le_of_ble_eq_true rfl) fun X C E => ?_
  have C : CX X RX9 "nextGross" prog_11_method_6_code 12 (some .long) := C
  show EV X 12 0 [(0, .ref a0), (1, .int i1), (2, .int i2), (3, .long j3)] [] 0 0 M
  unfold m_X9_nextGross at hf
  refine ev_ldc2 (v := 100) C dX9_nextGross_0 kw_559 ?_
  refine ev_aload_n C dX9_nextGross_3 rfl (q := 0) rfl ?_
  obtain ⟨x1, e2, hf⟩ := obnd hf
  refine ev_get (k := 1) C ok_9 dX9_nextGross_4 (by decide) kw_237 (fR_V e2) ?_
  refine ev_iload_n C dX9_nextGross_7 rfl (q := 1) rfl ?_
  obtain ⟨x3, e4, hf⟩ := obnd hf
  refine ev_lald C dX9_nextGross_8 e4 ?_
  obtain ⟨x5, e6, hf⟩ := obnd hf
  refine ev_callS0 (As := [.long 100, .long x3]) (st := []) C (t_X9_times e6) hd_X9_times rfl kw_560 kw_561 kw_77 kw_562 (mRoom.of E (Nat.le_of_ble_eq_true rfl) (Nat.le_of_ble_eq_true rfl) (Nat.le_refl 0) (Nat.le_refl 0)) (Nat.le_of_ble_eq_true rfl) dX9_nextGross_9 ?_
  refine ev_lstore (l' := [(5, .long x5), (0, .ref a0), (1, .int i1), (2, .int i2), (3, .long j3)]) C dX9_nextGross_12 (by decide) rfl ?_
  refine ev_iconst (v := 0) C dX9_nextGross_14 (by decide) ?_
  refine ev_istore (l' := [(7, .int 0), (5, .long x5), (0, .ref a0), (1, .int i1), (2, .int i2), (3, .long j3)]) C dX9_nextGross_15 (by decide) rfl ?_
  refine ev_sub [2, 3, 4, 5, 1, 0] rfl ?_
  exact t_X9_nextGross_L17 C E   N a0 i1 i2 j3 x5 0 hf
/-! FareLimits$Whole grossOf(II)J -/
theorem dX9_grossOf_0 : decode prog_11_method_5_code 0 = .ok (.aload_n 0, 1) := by decide +kernel
theorem dX9_grossOf_1 : decode prog_11_method_5_code 1 = .ok (.getfield 9, 3) := by decide +kernel
theorem dX9_grossOf_4 : decode prog_11_method_5_code 4 = .ok (.lconst 0, 1) := by decide +kernel
theorem dX9_grossOf_5 : decode prog_11_method_5_code 5 = .ok (.invokestatic 27, 3) := by decide +kernel
theorem dX9_grossOf_8 : decode prog_11_method_5_code 8 = .ok (.lconst 1, 1) := by decide +kernel
theorem dX9_grossOf_9 : decode prog_11_method_5_code 9 = .ok (.lstore_n 3, 1) := by decide +kernel
theorem dX9_grossOf_10 : decode prog_11_method_5_code 10 = .ok (.iconst 1, 1) := by decide +kernel
theorem dX9_grossOf_11 : decode prog_11_method_5_code 11 = .ok (.istore 5, 2) := by decide +kernel
theorem dX9_grossOf_13 : decode prog_11_method_5_code 13 = .ok (.iload 5, 2) := by decide +kernel
theorem dX9_grossOf_15 : decode prog_11_method_5_code 15 = .ok (.iload_n 1, 1) := by decide +kernel
theorem dX9_grossOf_16 : decode prog_11_method_5_code 16 = .ok (.if_icmp .gt 50, 3) := by decide +kernel
theorem dX9_grossOf_19 : decode prog_11_method_5_code 19 = .ok (.iload_n 2, 1) := by decide +kernel
theorem dX9_grossOf_20 : decode prog_11_method_5_code 20 = .ok (.istore 6, 2) := by decide +kernel
theorem dX9_grossOf_22 : decode prog_11_method_5_code 22 = .ok (.iload 6, 2) := by decide +kernel
theorem dX9_grossOf_24 : decode prog_11_method_5_code 24 = .ok (.ifCond .le 28, 3) := by decide +kernel
theorem dX9_grossOf_27 : decode prog_11_method_5_code 27 = .ok (.aload_n 0, 1) := by decide +kernel
theorem dX9_grossOf_28 : decode prog_11_method_5_code 28 = .ok (.getfield 9, 3) := by decide +kernel
theorem dX9_grossOf_31 : decode prog_11_method_5_code 31 = .ok (.iload 6, 2) := by decide +kernel
theorem dX9_grossOf_33 : decode prog_11_method_5_code 33 = .ok (.aload_n 0, 1) := by decide +kernel
theorem dX9_grossOf_34 : decode prog_11_method_5_code 34 = .ok (.iload 6, 2) := by decide +kernel
theorem dX9_grossOf_36 : decode prog_11_method_5_code 36 = .ok (.iload 5, 2) := by decide +kernel
theorem dX9_grossOf_38 : decode prog_11_method_5_code 38 = .ok (.invokestatic 33, 3) := by decide +kernel
theorem dX9_grossOf_41 : decode prog_11_method_5_code 41 = .ok (.lload_n 3, 1) := by decide +kernel
theorem dX9_grossOf_42 : decode prog_11_method_5_code 42 = .ok (.invokevirtual 37, 3) := by decide +kernel
theorem dX9_grossOf_45 : decode prog_11_method_5_code 45 = .ok (.lastore, 1) := by decide +kernel
theorem dX9_grossOf_46 : decode prog_11_method_5_code 46 = .ok (.iinc 6 (-1), 3) := by decide +kernel
theorem dX9_grossOf_49 : decode prog_11_method_5_code 49 = .ok (.goto (-27), 3) := by decide +kernel
theorem dX9_grossOf_52 : decode prog_11_method_5_code 52 = .ok (.lload_n 3, 1) := by decide +kernel
theorem dX9_grossOf_53 : decode prog_11_method_5_code 53 = .ok (.ldc2_w 41, 3) := by decide +kernel
theorem dX9_grossOf_56 : decode prog_11_method_5_code 56 = .ok (.invokestatic 23, 3) := by decide +kernel
theorem dX9_grossOf_59 : decode prog_11_method_5_code 59 = .ok (.lstore_n 3, 1) := by decide +kernel
theorem dX9_grossOf_60 : decode prog_11_method_5_code 60 = .ok (.iinc 5 1, 3) := by decide +kernel
theorem dX9_grossOf_63 : decode prog_11_method_5_code 63 = .ok (.goto (-50), 3) := by decide +kernel
theorem dX9_grossOf_66 : decode prog_11_method_5_code 66 = .ok (.aload_n 0, 1) := by decide +kernel
theorem dX9_grossOf_67 : decode prog_11_method_5_code 67 = .ok (.getfield 9, 3) := by decide +kernel
theorem dX9_grossOf_70 : decode prog_11_method_5_code 70 = .ok (.iload_n 2, 1) := by decide +kernel
theorem dX9_grossOf_71 : decode prog_11_method_5_code 71 = .ok (.laload, 1) := by decide +kernel
theorem dX9_grossOf_72 : decode prog_11_method_5_code 72 = .ok (.lreturn, 1) := by decide +kernel
def m_X9_grossOf_L22 (N : Nat) (k13 : Nat → Int32 → Int32 → Int64 → Int32 → mM → Option (Int64 × mM)) : Nat → Nat → Int32 → Int32 → Int64 → Int32 → Int32 → mM → Option (Int64 × mM)
  | 0, _, _, _, _, _, _, _ => none
  | n + 1, a0, i1, i2, j3, i5, i6, M =>
    if i6 ≤ 0 then (
      (m_X9_times j3 100).bind fun x1 =>
      k13 a0 i1 i2 x1 (i5 + 1) M) else (
      (fR M a0 9 1).bind fun x3 =>
      (m_X11_phaseOf i5).bind fun x5 =>
      (oO M a0 9).bind fun _ =>
      (m_X9_nextGross N a0 i6 x5 j3 M).bind fun x9 =>
      (uL M x3 i6 x9).bind fun M11 =>
      (m_X9_grossOf_L22 N k13  n) a0 i1 i2 j3 i5 (i6 + (-1)) M11)
set_option maxHeartbeats 4000000 in
set_option maxRecDepth 100000 in
theorem t_X9_grossOf_L22 {X : mX} {L0 : Launch} {res : Int64 × mM} {N : Nat} (C : CX X RX9 "grossOf" prog_11_method_5_code 7 (some .long)) (E : EX X L0 2 54 0 0 (some (.long res.1)) res.2) (k13 : Nat → Int32 → Int32 → Int64 → Int32 → mM → Option (Int64 × mM)) (Hk13 : ∀ (a0 : Nat) (i1 : Int32) (i2 : Int32) (j3 : Int64) (i5 : Int32) (M : mM), k13 a0 i1 i2 j3 i5 M = some res → EV X 7 13 [(0, .ref a0), (1, .int i1), (2, .int i2), (3, .long j3), (5, .int i5)] [] 0 0 M) : ∀ (n : Nat) (a0 : Nat) (i1 : Int32) (i2 : Int32) (j3 : Int64) (i5 : Int32) (i6 : Int32) (M : mM), m_X9_grossOf_L22 N k13 n a0 i1 i2 j3 i5 i6 M = some res → EV X 7 22 [(0, .ref a0), (1, .int i1), (2, .int i2), (3, .long j3), (5, .int i5), (6, .int i6)] [] 0 0 M := by
  intro n
  induction n with
  | zero => intro a0 i1 i2 j3 i5 i6 M hf; cases (show (none : Option (Int64 × mM)) = some res from hf)
  | succ n ih =>
    intro a0 i1 i2 j3 i5 i6 M hf
    rw [m_X9_grossOf_L22] at hf
    refine ev_iload C dX9_grossOf_22 (q := 5) rfl ?_
    refine ev_if_le (tgt := 52) C dX9_grossOf_24 (by decide) (fun hc => ?_) (fun hc => ?_)
    · have hf := oit hf hc
      refine ev_lload_n C dX9_grossOf_52 rfl (q := 3) rfl ?_
      refine ev_ldc2 (v := 100) C dX9_grossOf_53 kw_559 ?_
      obtain ⟨x1, e2, hf⟩ := obnd hf
      refine ev_callS0 (As := [.long j3, .long 100]) (st := []) C (t_X9_times e2) hd_X9_times rfl kw_560 kw_561 kw_77 kw_562 (mRoom.of E (Nat.le_of_ble_eq_true rfl) (Nat.le_of_ble_eq_true rfl) (Nat.le_refl 0) (Nat.le_refl 0)) (Nat.le_of_ble_eq_true rfl) dX9_grossOf_56 ?_
      refine ev_lstore_n (l' := [(3, .long x1), (0, .ref a0), (1, .int i1), (2, .int i2), (5, .int i5), (6, .int i6)]) C dX9_grossOf_59 rfl (by decide) rfl ?_
      refine ev_iinc (v := i5 + 1) (l' := [(5, .int (i5 + 1)), (3, .long x1), (0, .ref a0), (1, .int i1), (2, .int i2), (6, .int i6)]) C dX9_grossOf_60 (q := 4) rfl rfl (by decide) rfl ?_
      refine ev_goto (tgt := 13) C dX9_grossOf_63 (by decide) ?_
      refine ev_sub [2, 3, 4, 1, 0] rfl ?_
      exact Hk13 a0 i1 i2 x1 (i5 + 1) M hf
    · have hf := oie hf hc
      refine ev_aload_n C dX9_grossOf_27 rfl (q := 0) rfl ?_
      obtain ⟨x3, e4, hf⟩ := obnd hf
      refine ev_get (k := 1) C ok_9 dX9_grossOf_28 (by decide) kw_237 (fR_V e4) ?_
      refine ev_iload C dX9_grossOf_31 (q := 5) rfl ?_
      refine ev_aload_n C dX9_grossOf_33 rfl (q := 0) rfl ?_
      refine ev_iload C dX9_grossOf_34 (q := 5) rfl ?_
      refine ev_iload C dX9_grossOf_36 (q := 4) rfl ?_
      obtain ⟨x5, e6, hf⟩ := obnd hf
      refine ev_callSN0 (As := [.int i5]) (st := [.int i6, .ref a0, .int i6, .ref x3]) C (t_X11_phaseOf e6) hd_X11_phaseOf rfl C.K.2.2.1.2.2.2.2.2.1 kw_522 kw_70 kw_523 (mRoom.of E (Nat.le_of_ble_eq_true rfl) (Nat.le_of_ble_eq_true rfl) (Nat.le_refl 0) (Nat.le_refl 0)) (Nat.le_of_ble_eq_true rfl) dX9_grossOf_38 ?_
      refine ev_lload_n C dX9_grossOf_41 rfl (q := 3) rfl ?_
      obtain ⟨_, e7, hf⟩ := obnd hf
      obtain ⟨fs8, e7⟩ := oO_eq e7
      obtain ⟨x9, e10, hf⟩ := obnd hf
      refine ev_callV0 (As := [.int i6, .int x5, .long j3]) (st := [.int i6, .ref x3]) C rfl e7 (t_X9_nextGross e10) rfl hd_X9_nextGross rfl kw_555 kw_557 kw_77 kw_2 kw_558 (mRoom.of E (Nat.le_of_ble_eq_true rfl) (Nat.le_of_ble_eq_true rfl) (Nat.le_refl 0) (Nat.le_refl 0)) (Nat.le_of_ble_eq_true rfl) dX9_grossOf_42 ?_
      obtain ⟨M11, e12, hf⟩ := obnd hf
      refine ev_last C dX9_grossOf_45 e12 ?_
      refine ev_iinc (v := i6 + (-1)) (l' := [(6, .int (i6 + (-1))), (0, .ref a0), (1, .int i1), (2, .int i2), (3, .long j3), (5, .int i5)]) C dX9_grossOf_46 (q := 5) rfl rfl (by decide) rfl ?_
      refine ev_goto (tgt := 22) C dX9_grossOf_49 (by decide) ?_
      refine ev_sub [1, 2, 3, 4, 5, 0] rfl ?_
      exact ih a0 i1 i2 j3 i5 (i6 + (-1)) M11 hf
def m_X9_grossOf_L13 (N : Nat)  : Nat → Nat → Int32 → Int32 → Int64 → Int32 → mM → Option (Int64 × mM)
  | 0, _, _, _, _, _, _ => none
  | n + 1, a0, i1, i2, j3, i5, M =>
    if i1 < i5 then (
      (fR M a0 9 1).bind fun x1 =>
      (aL M x1 i2).bind fun x3 =>
      some (x3, M)) else (
      m_X9_grossOf_L22 N (m_X9_grossOf_L13 N  n) N a0 i1 i2 j3 i5 i2 M)
set_option maxHeartbeats 4000000 in
set_option maxRecDepth 100000 in
theorem t_X9_grossOf_L13 {X : mX} {L0 : Launch} {res : Int64 × mM} {N : Nat} (C : CX X RX9 "grossOf" prog_11_method_5_code 7 (some .long)) (E : EX X L0 2 54 0 0 (some (.long res.1)) res.2)   : ∀ (n : Nat) (a0 : Nat) (i1 : Int32) (i2 : Int32) (j3 : Int64) (i5 : Int32) (M : mM), m_X9_grossOf_L13 N  n a0 i1 i2 j3 i5 M = some res → EV X 7 13 [(0, .ref a0), (1, .int i1), (2, .int i2), (3, .long j3), (5, .int i5)] [] 0 0 M := by
  intro n
  induction n with
  | zero => intro a0 i1 i2 j3 i5 M hf; cases (show (none : Option (Int64 × mM)) = some res from hf)
  | succ n ih =>
    intro a0 i1 i2 j3 i5 M hf
    rw [m_X9_grossOf_L13] at hf
    refine ev_iload C dX9_grossOf_13 (q := 4) rfl ?_
    refine ev_iload_n C dX9_grossOf_15 rfl (q := 1) rfl ?_
    refine ev_icmp_gt (tgt := 66) C dX9_grossOf_16 (by decide) (fun hc => ?_) (fun hc => ?_)
    · have hf := oit hf hc
      refine ev_aload_n C dX9_grossOf_66 rfl (q := 0) rfl ?_
      obtain ⟨x1, e2, hf⟩ := obnd hf
      refine ev_get (k := 1) C ok_9 dX9_grossOf_67 (by decide) kw_237 (fR_V e2) ?_
      refine ev_iload_n C dX9_grossOf_70 rfl (q := 2) rfl ?_
      obtain ⟨x3, e4, hf⟩ := obnd hf
      refine ev_lald C dX9_grossOf_71 e4 ?_
      obtain rfl := Option.some.inj hf
      exact ev_lret C E (Nat.le_refl 0) (Nat.le_refl 0) dX9_grossOf_72
    · have hf := oie hf hc
      refine ev_iload_n C dX9_grossOf_19 rfl (q := 2) rfl ?_
      refine ev_istore (l' := [(6, .int i2), (0, .ref a0), (1, .int i1), (2, .int i2), (3, .long j3), (5, .int i5)]) C dX9_grossOf_20 (by decide) rfl ?_
      refine ev_sub [1, 2, 3, 4, 5, 0] rfl ?_
      exact t_X9_grossOf_L22 C E (m_X9_grossOf_L13 N  n) ih N a0 i1 i2 j3 i5 i2 M hf
def m_X9_grossOf (N : Nat) (a0 : Nat) (i1 : Int32) (i2 : Int32) (M : mM) : Option (Int64 × mM) :=
  (fR M a0 9 1).bind fun x1 =>
  (m_J7_fill_d0a16 N x1 0 M).bind fun x3 =>
  m_X9_grossOf_L13 N  N a0 i1 i2 1 1 x3
set_option maxHeartbeats 4000000 in
set_option maxRecDepth 100000 in
theorem t_X9_grossOf {L0 : Launch} {M : mM} {N : Nat} {a0 : Nat} {i1 : Int32} {i2 : Int32} {res : Int64 × mM} (hf : m_X9_grossOf N a0 i1 i2 M = some res) : CT L0 yX9_grossOf prog_11_method_5_code 7 (some .long) 2 54 0 0 [.ref a0, .int i1, .int i2] M (some (.long res.1)) res.2 := by
  refine CT.of (by decide +kernel) (Nat.le_of_ble_eq_true rfl) fun X C E => ?_
  have C : CX X RX9 "grossOf" prog_11_method_5_code 7 (some .long) := C
  show EV X 7 0 [(0, .ref a0), (1, .int i1), (2, .int i2)] [] 0 0 M
  unfold m_X9_grossOf at hf
  refine ev_aload_n C dX9_grossOf_0 rfl (q := 0) rfl ?_
  obtain ⟨x1, e2, hf⟩ := obnd hf
  refine ev_get (k := 1) C ok_9 dX9_grossOf_1 (by decide) kw_237 (fR_V e2) ?_
  refine ev_lconst (v := 0) C dX9_grossOf_4 (by decide) ?_
  obtain ⟨x3, e4, hf⟩ := obnd hf
  refine ev_callS0 (As := [.ref x1, .long 0]) (st := []) C (t_J7_fill_d0a16 e4) hd_J7_fill_d0a16 rfl kw_551 kw_552 kw_86 kw_553 (mRoom.of E (Nat.le_of_ble_eq_true rfl) (Nat.le_of_ble_eq_true rfl) (Nat.le_refl 0) (Nat.le_refl 0)) (Nat.le_of_ble_eq_true rfl) dX9_grossOf_5 ?_
  refine ev_lconst (v := 1) C dX9_grossOf_8 (by decide) ?_
  refine ev_lstore_n (l' := [(3, .long 1), (0, .ref a0), (1, .int i1), (2, .int i2)]) C dX9_grossOf_9 rfl (by decide) rfl ?_
  refine ev_iconst (v := 1) C dX9_grossOf_10 (by decide) ?_
  refine ev_istore (l' := [(5, .int 1), (3, .long 1), (0, .ref a0), (1, .int i1), (2, .int i2)]) C dX9_grossOf_11 (by decide) rfl ?_
  refine ev_sub [2, 3, 4, 1, 0] rfl ?_
  exact t_X9_grossOf_L13 C E   N a0 i1 i2 1 1 x3 hf
/-! FareLimits gross(II)J -/
theorem dX11_gross_0 : decode prog_1_method_13_code 0 = .ok (.iload_n 1, 1) := by decide +kernel
theorem dX11_gross_1 : decode prog_1_method_13_code 1 = .ok (.bipush 20, 2) := by decide +kernel
theorem dX11_gross_3 : decode prog_1_method_13_code 3 = .ok (.invokestatic 91, 3) := by decide +kernel
theorem dX11_gross_6 : decode prog_1_method_13_code 6 = .ok (.ifCond .eq 31, 3) := by decide +kernel
theorem dX11_gross_9 : decode prog_1_method_13_code 9 = .ok (.iload_n 2, 1) := by decide +kernel
theorem dX11_gross_10 : decode prog_1_method_13_code 10 = .ok (.aload_n 0, 1) := by decide +kernel
theorem dX11_gross_11 : decode prog_1_method_13_code 11 = .ok (.getfield 12, 3) := by decide +kernel
theorem dX11_gross_14 : decode prog_1_method_13_code 14 = .ok (.getfield 138, 3) := by decide +kernel
theorem dX11_gross_17 : decode prog_1_method_13_code 17 = .ok (.iconst 0, 1) := by decide +kernel
theorem dX11_gross_18 : decode prog_1_method_13_code 18 = .ok (.iaload, 1) := by decide +kernel
theorem dX11_gross_19 : decode prog_1_method_13_code 19 = .ok (.invokestatic 91, 3) := by decide +kernel
theorem dX11_gross_22 : decode prog_1_method_13_code 22 = .ok (.ifCond .eq 15, 3) := by decide +kernel
theorem dX11_gross_25 : decode prog_1_method_13_code 25 = .ok (.aload_n 0, 1) := by decide +kernel
theorem dX11_gross_26 : decode prog_1_method_13_code 26 = .ok (.getfield 31, 3) := by decide +kernel
theorem dX11_gross_29 : decode prog_1_method_13_code 29 = .ok (.iload_n 1, 1) := by decide +kernel
theorem dX11_gross_30 : decode prog_1_method_13_code 30 = .ok (.iload_n 2, 1) := by decide +kernel
theorem dX11_gross_31 : decode prog_1_method_13_code 31 = .ok (.invokevirtual 166, 3) := by decide +kernel
theorem dX11_gross_34 : decode prog_1_method_13_code 34 = .ok (.goto 6, 3) := by decide +kernel
theorem dX11_gross_37 : decode prog_1_method_13_code 37 = .ok (.ldc2_w 152, 3) := by decide +kernel
theorem dX11_gross_40 : decode prog_1_method_13_code 40 = .ok (.lreturn, 1) := by decide +kernel
def m_X11_gross (N : Nat) (a0 : Nat) (i1 : Int32) (i2 : Int32) (M : mM) : Option (Int64 × mM) :=
  (m_X11_within i1 20).bind fun x1 =>
  if x1 = 0 then (
    some ((-9223372036854775808), M)) else (
    (fR M a0 11 0).bind fun x3 =>
    (fR M x3 5 2).bind fun x5 =>
    (aI 0 M x5 0).bind fun x7 =>
    (m_X11_within i2 x7).bind fun x9 =>
    if x9 = 0 then (
      some ((-9223372036854775808), M)) else (
      (fR M a0 11 4).bind fun x11 =>
      (oO M x11 9).bind fun _ =>
      (m_X9_grossOf N x11 i1 i2 M).bind fun x15 =>
      some (x15.1, x15.2)))
set_option maxHeartbeats 4000000 in
set_option maxRecDepth 100000 in
theorem t_X11_gross {L0 : Launch} {M : mM} {N : Nat} {a0 : Nat} {i1 : Int32} {i2 : Int32} {res : Int64 × mM} (hf : m_X11_gross N a0 i1 i2 M = some res) : CT L0 yX11_gross prog_1_method_13_code 3 (some .long) 3 80 0 0 [.ref a0, .int i1, .int i2] M (some (.long res.1)) res.2 := by
  refine CT.of (by decide +kernel) (Nat.le_of_ble_eq_true rfl) fun X C E => ?_
  have C : CX X RX11 "gross" prog_1_method_13_code 3 (some .long) := C
  show EV X 3 0 [(0, .ref a0), (1, .int i1), (2, .int i2)] [] 0 0 M
  unfold m_X11_gross at hf
  refine ev_iload_n C dX11_gross_0 rfl (q := 1) rfl ?_
  refine ev_bipush (v := 20) C dX11_gross_1 (by decide) ?_
  obtain ⟨x1, e2, hf⟩ := obnd hf
  refine ev_callS0 (As := [.int i1, .int 20]) (st := []) C (t_X11_within e2) hd_X11_within rfl kw_435 kw_436 kw_70 kw_437 (mRoom.of E (Nat.le_of_ble_eq_true rfl) (Nat.le_of_ble_eq_true rfl) (Nat.le_refl 0) (Nat.le_refl 0)) (Nat.le_of_ble_eq_true rfl) dX11_gross_3 ?_
  refine ev_if_eq (tgt := 37) C dX11_gross_6 (by decide) (fun hc => ?_) (fun hc => ?_)
  · have hf := oit hf hc
    refine ev_ldc2 (v := (-9223372036854775808)) C dX11_gross_37 kw_493 ?_
    obtain rfl := Option.some.inj hf
    exact ev_lret C E (Nat.le_refl 0) (Nat.le_refl 0) dX11_gross_40
  · have hf := oie hf hc
    refine ev_iload_n C dX11_gross_9 rfl (q := 2) rfl ?_
    refine ev_aload_n C dX11_gross_10 rfl (q := 0) rfl ?_
    obtain ⟨x3, e4, hf⟩ := obnd hf
    refine ev_get (k := 0) C ok_11 dX11_gross_11 (by decide) kw_392 (fR_V e4) ?_
    obtain ⟨x5, e6, hf⟩ := obnd hf
    refine ev_get (k := 2) C ok_5 dX11_gross_14 (by decide) kw_190 (fR_V e6) ?_
    refine ev_iconst (v := 0) C dX11_gross_17 (by decide) ?_
    obtain ⟨x7, e8, hf⟩ := obnd hf
    refine ev_iald C dX11_gross_18 e8 ?_
    obtain ⟨x9, e10, hf⟩ := obnd hf
    refine ev_callS0 (As := [.int i2, .int x7]) (st := []) C (t_X11_within e10) hd_X11_within rfl kw_435 kw_436 kw_70 kw_437 (mRoom.of E (Nat.le_of_ble_eq_true rfl) (Nat.le_of_ble_eq_true rfl) (Nat.le_refl 0) (Nat.le_refl 0)) (Nat.le_of_ble_eq_true rfl) dX11_gross_19 ?_
    refine ev_if_eq (tgt := 37) C dX11_gross_22 (by decide) (fun hc => ?_) (fun hc => ?_)
    · have hf := oit hf hc
      refine ev_ldc2 (v := (-9223372036854775808)) C dX11_gross_37 kw_493 ?_
      obtain rfl := Option.some.inj hf
      exact ev_lret C E (Nat.le_refl 0) (Nat.le_refl 0) dX11_gross_40
    · have hf := oie hf hc
      refine ev_aload_n C dX11_gross_25 rfl (q := 0) rfl ?_
      obtain ⟨x11, e12, hf⟩ := obnd hf
      refine ev_get (k := 4) C ok_11 dX11_gross_26 (by decide) kw_396 (fR_V e12) ?_
      refine ev_iload_n C dX11_gross_29 rfl (q := 1) rfl ?_
      refine ev_iload_n C dX11_gross_30 rfl (q := 2) rfl ?_
      obtain ⟨_, e13, hf⟩ := obnd hf
      obtain ⟨fs14, e13⟩ := oO_eq e13
      obtain ⟨x15, e16, hf⟩ := obnd hf
      refine ev_callV0 (As := [.int i1, .int i2]) (st := []) C rfl e13 (t_X9_grossOf e16) rfl hd_X9_grossOf rfl kw_547 kw_548 kw_77 kw_549 kw_550 (mRoom.of E (Nat.le_of_ble_eq_true rfl) (Nat.le_of_ble_eq_true rfl) (Nat.le_refl 0) (Nat.le_refl 0)) (Nat.le_of_ble_eq_true rfl) dX11_gross_31 ?_
      refine ev_goto (tgt := 40) C dX11_gross_34 (by decide) ?_
      obtain rfl := Option.some.inj hf
      exact ev_lret C E (Nat.le_refl 0) (Nat.le_refl 0) dX11_gross_40
/-! FareLimits isStage(I)Z -/
theorem dX11_isStage_0 : decode prog_1_method_51_code 0 = .ok (.iload_n 0, 1) := by decide +kernel
theorem dX11_isStage_1 : decode prog_1_method_51_code 1 = .ok (.iconst 1, 1) := by decide +kernel
theorem dX11_isStage_2 : decode prog_1_method_51_code 2 = .ok (.if_icmp .lt 13, 3) := by decide +kernel
theorem dX11_isStage_5 : decode prog_1_method_51_code 5 = .ok (.iload_n 0, 1) := by decide +kernel
theorem dX11_isStage_6 : decode prog_1_method_51_code 6 = .ok (.bipush 20, 2) := by decide +kernel
theorem dX11_isStage_8 : decode prog_1_method_51_code 8 = .ok (.if_icmp .gt 7, 3) := by decide +kernel
theorem dX11_isStage_11 : decode prog_1_method_51_code 11 = .ok (.iconst 1, 1) := by decide +kernel
theorem dX11_isStage_12 : decode prog_1_method_51_code 12 = .ok (.goto 4, 3) := by decide +kernel
theorem dX11_isStage_15 : decode prog_1_method_51_code 15 = .ok (.iconst 0, 1) := by decide +kernel
theorem dX11_isStage_16 : decode prog_1_method_51_code 16 = .ok (.ireturn, 1) := by decide +kernel
def m_X11_isStage (i0 : Int32) : Option (Int32) :=
  if i0 < 1 then (
    some 0) else (
    if 20 < i0 then (
      some 0) else (
      some 1))
set_option maxHeartbeats 4000000 in
set_option maxRecDepth 100000 in
theorem t_X11_isStage {L0 : Launch} {M : mM} {i0 : Int32} {res : Int32} (hf : m_X11_isStage i0 = some res) : CT L0 yX11_isStage prog_1_method_51_code 1 (some .boolean) 0 0 0 0 [.int i0] M (some (.int res)) M := by
  refine CT.of (by decide +kernel) (Nat.le_of_ble_eq_true rfl) fun X C E => ?_
  have C : CX X RX11 "isStage" prog_1_method_51_code 1 (some .boolean) := C
  show EV X 1 0 [(0, .int i0)] [] 0 0 M
  unfold m_X11_isStage at hf
  refine ev_iload_n C dX11_isStage_0 rfl (q := 0) rfl ?_
  refine ev_iconst (v := 1) C dX11_isStage_1 (by decide) ?_
  refine ev_icmp_lt (tgt := 15) C dX11_isStage_2 (by decide) (fun hc => ?_) (fun hc => ?_)
  · have hf := oit hf hc
    refine ev_iconst (v := 0) C dX11_isStage_15 (by decide) ?_
    obtain rfl := Option.some.inj hf
    exact ev_zret C (by decide) E (Nat.le_refl 0) (Nat.le_refl 0) dX11_isStage_16
  · have hf := oie hf hc
    refine ev_iload_n C dX11_isStage_5 rfl (q := 0) rfl ?_
    refine ev_bipush (v := 20) C dX11_isStage_6 (by decide) ?_
    refine ev_icmp_gt (tgt := 15) C dX11_isStage_8 (by decide) (fun hc => ?_) (fun hc => ?_)
    · have hf := oit hf hc
      refine ev_iconst (v := 0) C dX11_isStage_15 (by decide) ?_
      obtain rfl := Option.some.inj hf
      exact ev_zret C (by decide) E (Nat.le_refl 0) (Nat.le_refl 0) dX11_isStage_16
    · have hf := oie hf hc
      refine ev_iconst (v := 1) C dX11_isStage_11 (by decide) ?_
      refine ev_goto (tgt := 16) C dX11_isStage_12 (by decide) ?_
      obtain rfl := Option.some.inj hf
      exact ev_zret C (by decide) E (Nat.le_refl 0) (Nat.le_refl 0) dX11_isStage_16
/-! FareLimits$Worths takes(III)Z -/
theorem dX10_takes_0 : decode prog_12_method_6_code 0 = .ok (.aload_n 0, 1) := by decide +kernel
theorem dX10_takes_1 : decode prog_12_method_6_code 1 = .ok (.iload_n 2, 1) := by decide +kernel
theorem dX10_takes_2 : decode prog_12_method_6_code 2 = .ok (.iconst 1, 1) := by decide +kernel
theorem dX10_takes_3 : decode prog_12_method_6_code 3 = .ok (.isub, 1) := by decide +kernel
theorem dX10_takes_4 : decode prog_12_method_6_code 4 = .ok (.invokevirtual 74, 3) := by decide +kernel
theorem dX10_takes_7 : decode prog_12_method_6_code 7 = .ok (.astore 4, 2) := by decide +kernel
theorem dX10_takes_9 : decode prog_12_method_6_code 9 = .ok (.aload 4, 2) := by decide +kernel
theorem dX10_takes_11 : decode prog_12_method_6_code 11 = .ok (.iload_n 3, 1) := by decide +kernel
theorem dX10_takes_12 : decode prog_12_method_6_code 12 = .ok (.daload, 1) := by decide +kernel
theorem dX10_takes_13 : decode prog_12_method_6_code 13 = .ok (.aload 4, 2) := by decide +kernel
theorem dX10_takes_15 : decode prog_12_method_6_code 15 = .ok (.iload_n 3, 1) := by decide +kernel
theorem dX10_takes_16 : decode prog_12_method_6_code 16 = .ok (.iconst 1, 1) := by decide +kernel
theorem dX10_takes_17 : decode prog_12_method_6_code 17 = .ok (.isub, 1) := by decide +kernel
theorem dX10_takes_18 : decode prog_12_method_6_code 18 = .ok (.daload, 1) := by decide +kernel
theorem dX10_takes_19 : decode prog_12_method_6_code 19 = .ok (.dsub, 1) := by decide +kernel
theorem dX10_takes_20 : decode prog_12_method_6_code 20 = .ok (.dstore 5, 2) := by decide +kernel
theorem dX10_takes_22 : decode prog_12_method_6_code 22 = .ok (.aload_n 0, 1) := by decide +kernel
theorem dX10_takes_23 : decode prog_12_method_6_code 23 = .ok (.getfield 20, 3) := by decide +kernel
theorem dX10_takes_26 : decode prog_12_method_6_code 26 = .ok (.iload_n 1, 1) := by decide +kernel
theorem dX10_takes_27 : decode prog_12_method_6_code 27 = .ok (.aload_n 0, 1) := by decide +kernel
theorem dX10_takes_28 : decode prog_12_method_6_code 28 = .ok (.getfield 20, 3) := by decide +kernel
theorem dX10_takes_31 : decode prog_12_method_6_code 31 = .ok (.iload_n 2, 1) := by decide +kernel
theorem dX10_takes_32 : decode prog_12_method_6_code 32 = .ok (.iconst 1, 1) := by decide +kernel
theorem dX10_takes_33 : decode prog_12_method_6_code 33 = .ok (.isub, 1) := by decide +kernel
theorem dX10_takes_34 : decode prog_12_method_6_code 34 = .ok (.invokevirtual 38, 3) := by decide +kernel
theorem dX10_takes_37 : decode prog_12_method_6_code 37 = .ok (.invokevirtual 47, 3) := by decide +kernel
theorem dX10_takes_40 : decode prog_12_method_6_code 40 = .ok (.dload 5, 2) := by decide +kernel
theorem dX10_takes_42 : decode prog_12_method_6_code 42 = .ok (.dsub, 1) := by decide +kernel
theorem dX10_takes_43 : decode prog_12_method_6_code 43 = .ok (.dconst 0, 1) := by decide +kernel
theorem dX10_takes_44 : decode prog_12_method_6_code 44 = .ok (.dcmp .l, 1) := by decide +kernel
theorem dX10_takes_45 : decode prog_12_method_6_code 45 = .ok (.ifCond .le 7, 3) := by decide +kernel
theorem dX10_takes_48 : decode prog_12_method_6_code 48 = .ok (.iconst 1, 1) := by decide +kernel
theorem dX10_takes_49 : decode prog_12_method_6_code 49 = .ok (.goto 4, 3) := by decide +kernel
theorem dX10_takes_52 : decode prog_12_method_6_code 52 = .ok (.iconst 0, 1) := by decide +kernel
theorem dX10_takes_53 : decode prog_12_method_6_code 53 = .ok (.ireturn, 1) := by decide +kernel
def m_X10_takes (N : Nat) (a0 : Nat) (i1 : Int32) (i2 : Int32) (i3 : Int32) (M : mM) : Option (Int32 × mM) :=
  (oO M a0 10).bind fun _ =>
  (m_X10_row N a0 (i2 - 1) M).bind fun x3 =>
  (aD x3.2 x3.1 i3).bind fun x5 =>
  (aD x3.2 x3.1 (i3 - 1)).bind fun x7 =>
  (oD (FP.dsub x5 x7)).bind fun x9 =>
  (fR x3.2 a0 10 0).bind fun x11 =>
  (fR x3.2 a0 10 0).bind fun x13 =>
  (oO x3.2 x13 5).bind fun _ =>
  (m_X5_showing N x13 (i2 - 1) x3.2).bind fun x17 =>
  (oO x3.2 x11 5).bind fun _ =>
  (m_X5_netBy x11 i1 x17 x3.2).bind fun x21 =>
  (oD (FP.dsub x21 x9)).bind fun x23 =>
  if (Op.cmpValue (FP.dcmp x23 FP.dconst0) CmpOp.l) ≤ 0 then (
    some (0, x3.2)) else (
    some (1, x3.2))
set_option maxHeartbeats 4000000 in
set_option maxRecDepth 100000 in
theorem t_X10_takes {L0 : Launch} {M : mM} {N : Nat} {a0 : Nat} {i1 : Int32} {i2 : Int32} {i3 : Int32} {res : Int32 × mM} (hf : m_X10_takes N a0 i1 i2 i3 M = some res) : CT L0 yX10_takes prog_12_method_6_code 7 (some .boolean) 3 76 0 0 [.ref a0, .int i1, .int i2, .int i3] M (some (.int res.1)) res.2 := by
  refine CT.of (by decide +kernel) (Nat.le_of_ble_eq_true rfl) fun X C E => ?_
  have C : CX X RX10 "takes" prog_12_method_6_code 7 (some .boolean) := C
  show EV X 7 0 [(0, .ref a0), (1, .int i1), (2, .int i2), (3, .int i3)] [] 0 0 M
  unfold m_X10_takes at hf
  refine ev_aload_n C dX10_takes_0 rfl (q := 0) rfl ?_
  refine ev_iload_n C dX10_takes_1 rfl (q := 2) rfl ?_
  refine ev_iconst (v := 1) C dX10_takes_2 (by decide) ?_
  refine ev_isub C dX10_takes_3 ?_
  obtain ⟨_, e1, hf⟩ := obnd hf
  obtain ⟨fs2, e1⟩ := oO_eq e1
  obtain ⟨x3, e4, hf⟩ := obnd hf
  refine ev_callV0 (As := [.int (i2 - 1)]) (st := []) C rfl e1 (t_X10_row e4) rfl hd_X10_row rfl kw_579 kw_512 kw_76 kw_513 kw_514 (mRoom.of E (Nat.le_of_ble_eq_true rfl) (Nat.le_of_ble_eq_true rfl) (Nat.le_refl 0) (Nat.le_refl 0)) (Nat.le_of_ble_eq_true rfl) dX10_takes_4 ?_
  refine ev_astore (l' := [(4, .ref x3.1), (0, .ref a0), (1, .int i1), (2, .int i2), (3, .int i3)]) C dX10_takes_7 (by decide) rfl ?_
  refine ev_aload C dX10_takes_9 (q := 0) rfl ?_
  refine ev_iload_n C dX10_takes_11 rfl (q := 4) rfl ?_
  obtain ⟨x5, e6, hf⟩ := obnd hf
  refine ev_dald C dX10_takes_12 e6 ?_
  refine ev_aload C dX10_takes_13 (q := 0) rfl ?_
  refine ev_iload_n C dX10_takes_15 rfl (q := 4) rfl ?_
  refine ev_iconst (v := 1) C dX10_takes_16 (by decide) ?_
  refine ev_isub C dX10_takes_17 ?_
  obtain ⟨x7, e8, hf⟩ := obnd hf
  refine ev_dald C dX10_takes_18 e8 ?_
  obtain ⟨x9, e10, hf⟩ := obnd hf
  obtain ⟨e10, e10q⟩ := oD_eq e10
  refine ev_dsub C dX10_takes_19 e10 ?_
  rw [← e10q]
  refine ev_dstore (l' := [(5, .double x9), (4, .ref x3.1), (0, .ref a0), (1, .int i1), (2, .int i2), (3, .int i3)]) C dX10_takes_20 (by decide) rfl ?_
  refine ev_aload_n C dX10_takes_22 rfl (q := 2) rfl ?_
  obtain ⟨x11, e12, hf⟩ := obnd hf
  refine ev_get (k := 0) C ok_10 dX10_takes_23 (by decide) kw_216 (fR_V e12) ?_
  refine ev_iload_n C dX10_takes_26 rfl (q := 3) rfl ?_
  refine ev_aload_n C dX10_takes_27 rfl (q := 2) rfl ?_
  obtain ⟨x13, e14, hf⟩ := obnd hf
  refine ev_get (k := 0) C ok_10 dX10_takes_28 (by decide) kw_216 (fR_V e14) ?_
  refine ev_iload_n C dX10_takes_31 rfl (q := 4) rfl ?_
  refine ev_iconst (v := 1) C dX10_takes_32 (by decide) ?_
  refine ev_isub C dX10_takes_33 ?_
  obtain ⟨_, e15, hf⟩ := obnd hf
  obtain ⟨fs16, e15⟩ := oO_eq e15
  obtain ⟨x17, e18, hf⟩ := obnd hf
  refine ev_callV0 (As := [.int (i2 - 1)]) (st := [.int i1, .ref x11]) C rfl e15 (t_X5_showing e18) rfl hd_X5_showing rfl kw_519 kw_482 kw_71 kw_483 kw_484 (mRoom.of E (Nat.le_of_ble_eq_true rfl) (Nat.le_of_ble_eq_true rfl) (Nat.le_refl 0) (Nat.le_refl 0)) (Nat.le_of_ble_eq_true rfl) dX10_takes_34 ?_
  obtain ⟨_, e19, hf⟩ := obnd hf
  obtain ⟨fs20, e19⟩ := oO_eq e19
  obtain ⟨x21, e22, hf⟩ := obnd hf
  refine ev_callV0 (As := [.int i1, .double x17]) (st := []) C rfl e19 (t_X5_netBy e22) rfl hd_X5_netBy rfl kw_520 kw_499 kw_71 kw_500 kw_501 (mRoom.of E (Nat.le_of_ble_eq_true rfl) (Nat.le_of_ble_eq_true rfl) (Nat.le_refl 0) (Nat.le_refl 0)) (Nat.le_of_ble_eq_true rfl) dX10_takes_37 ?_
  refine ev_dload C dX10_takes_40 (q := 0) rfl ?_
  obtain ⟨x23, e24, hf⟩ := obnd hf
  obtain ⟨e24, e24q⟩ := oD_eq e24
  refine ev_dsub C dX10_takes_42 e24 ?_
  rw [← e24q]
  refine ev_dconst0 C dX10_takes_43 ?_
  refine ev_dcmp C dX10_takes_44 ?_
  refine ev_if_le (tgt := 52) C dX10_takes_45 (by decide) (fun hc => ?_) (fun hc => ?_)
  · have hf := oit hf hc
    refine ev_iconst (v := 0) C dX10_takes_52 (by decide) ?_
    obtain rfl := Option.some.inj hf
    exact ev_zret C (by decide) E (Nat.le_refl 0) (Nat.le_refl 0) dX10_takes_53
  · have hf := oie hf hc
    refine ev_iconst (v := 1) C dX10_takes_48 (by decide) ?_
    refine ev_goto (tgt := 53) C dX10_takes_49 (by decide) ?_
    obtain rfl := Option.some.inj hf
    exact ev_zret C (by decide) E (Nat.le_refl 0) (Nat.le_refl 0) dX10_takes_53
/-! FareLimits taken(III)I -/
theorem dX11_taken_0 : decode prog_1_method_14_code 0 = .ok (.aload_n 0, 1) := by decide +kernel
theorem dX11_taken_1 : decode prog_1_method_14_code 1 = .ok (.getfield 12, 3) := by decide +kernel
theorem dX11_taken_4 : decode prog_1_method_14_code 4 = .ok (.iload_n 1, 1) := by decide +kernel
theorem dX11_taken_5 : decode prog_1_method_14_code 5 = .ok (.invokevirtual 112, 3) := by decide +kernel
theorem dX11_taken_8 : decode prog_1_method_14_code 8 = .ok (.ifCond .eq 28, 3) := by decide +kernel
theorem dX11_taken_11 : decode prog_1_method_14_code 11 = .ok (.iload_n 2, 1) := by decide +kernel
theorem dX11_taken_12 : decode prog_1_method_14_code 12 = .ok (.invokestatic 170, 3) := by decide +kernel
theorem dX11_taken_15 : decode prog_1_method_14_code 15 = .ok (.ifCond .eq 21, 3) := by decide +kernel
theorem dX11_taken_18 : decode prog_1_method_14_code 18 = .ok (.iload_n 3, 1) := by decide +kernel
theorem dX11_taken_19 : decode prog_1_method_14_code 19 = .ok (.iconst 1, 1) := by decide +kernel
theorem dX11_taken_20 : decode prog_1_method_14_code 20 = .ok (.if_icmp .lt 16, 3) := by decide +kernel
theorem dX11_taken_23 : decode prog_1_method_14_code 23 = .ok (.iload_n 3, 1) := by decide +kernel
theorem dX11_taken_24 : decode prog_1_method_14_code 24 = .ok (.aload_n 0, 1) := by decide +kernel
theorem dX11_taken_25 : decode prog_1_method_14_code 25 = .ok (.getfield 12, 3) := by decide +kernel
theorem dX11_taken_28 : decode prog_1_method_14_code 28 = .ok (.getfield 138, 3) := by decide +kernel
theorem dX11_taken_31 : decode prog_1_method_14_code 31 = .ok (.iconst 0, 1) := by decide +kernel
theorem dX11_taken_32 : decode prog_1_method_14_code 32 = .ok (.iaload, 1) := by decide +kernel
theorem dX11_taken_33 : decode prog_1_method_14_code 33 = .ok (.if_icmp .le 5, 3) := by decide +kernel
theorem dX11_taken_36 : decode prog_1_method_14_code 36 = .ok (.iconst (-1), 1) := by decide +kernel
theorem dX11_taken_37 : decode prog_1_method_14_code 37 = .ok (.ireturn, 1) := by decide +kernel
theorem dX11_taken_38 : decode prog_1_method_14_code 38 = .ok (.aload_n 0, 1) := by decide +kernel
theorem dX11_taken_39 : decode prog_1_method_14_code 39 = .ok (.getfield 24, 3) := by decide +kernel
theorem dX11_taken_42 : decode prog_1_method_14_code 42 = .ok (.iload_n 1, 1) := by decide +kernel
theorem dX11_taken_43 : decode prog_1_method_14_code 43 = .ok (.iload_n 2, 1) := by decide +kernel
theorem dX11_taken_44 : decode prog_1_method_14_code 44 = .ok (.iload_n 3, 1) := by decide +kernel
theorem dX11_taken_45 : decode prog_1_method_14_code 45 = .ok (.invokevirtual 173, 3) := by decide +kernel
theorem dX11_taken_48 : decode prog_1_method_14_code 48 = .ok (.ifCond .eq 7, 3) := by decide +kernel
theorem dX11_taken_51 : decode prog_1_method_14_code 51 = .ok (.iconst 1, 1) := by decide +kernel
theorem dX11_taken_52 : decode prog_1_method_14_code 52 = .ok (.goto 4, 3) := by decide +kernel
theorem dX11_taken_55 : decode prog_1_method_14_code 55 = .ok (.iconst 0, 1) := by decide +kernel
theorem dX11_taken_56 : decode prog_1_method_14_code 56 = .ok (.ireturn, 1) := by decide +kernel
def m_X11_taken (N : Nat) (a0 : Nat) (i1 : Int32) (i2 : Int32) (i3 : Int32) (M : mM) : Option (Int32 × mM) :=
  (fR M a0 11 0).bind fun x1 =>
  (oO M x1 5).bind fun _ =>
  (m_X5_hasFare x1 i1 M).bind fun x5 =>
  if x5 = 0 then (
    some ((-1), M)) else (
    (m_X11_isStage i2).bind fun x7 =>
    if x7 = 0 then (
      some ((-1), M)) else (
      if i3 < 1 then (
        some ((-1), M)) else (
        (fR M a0 11 0).bind fun x9 =>
        (fR M x9 5 2).bind fun x11 =>
        (aI 0 M x11 0).bind fun x13 =>
        if i3 ≤ x13 then (
          (fR M a0 11 3).bind fun x15 =>
          (oO M x15 10).bind fun _ =>
          (m_X10_takes N x15 i1 i2 i3 M).bind fun x19 =>
          if x19.1 = 0 then (
            some (0, x19.2)) else (
            some (1, x19.2))) else (
          some ((-1), M)))))
set_option maxHeartbeats 4000000 in
set_option maxRecDepth 100000 in
theorem t_X11_taken {L0 : Launch} {M : mM} {N : Nat} {a0 : Nat} {i1 : Int32} {i2 : Int32} {i3 : Int32} {res : Int32 × mM} (hf : m_X11_taken N a0 i1 i2 i3 M = some res) : CT L0 yX11_taken prog_1_method_14_code 4 (some .int) 4 102 0 0 [.ref a0, .int i1, .int i2, .int i3] M (some (.int res.1)) res.2 := by
  refine CT.of (by decide +kernel) (Nat.le_of_ble_eq_true rfl) fun X C E => ?_
  have C : CX X RX11 "taken" prog_1_method_14_code 4 (some .int) := C
  show EV X 4 0 [(0, .ref a0), (1, .int i1), (2, .int i2), (3, .int i3)] [] 0 0 M
  unfold m_X11_taken at hf
  refine ev_aload_n C dX11_taken_0 rfl (q := 0) rfl ?_
  obtain ⟨x1, e2, hf⟩ := obnd hf
  refine ev_get (k := 0) C ok_11 dX11_taken_1 (by decide) kw_392 (fR_V e2) ?_
  refine ev_iload_n C dX11_taken_4 rfl (q := 1) rfl ?_
  obtain ⟨_, e3, hf⟩ := obnd hf
  obtain ⟨fs4, e3⟩ := oO_eq e3
  obtain ⟨x5, e6, hf⟩ := obnd hf
  refine ev_callV0 (As := [.int i1]) (st := []) C rfl e3 (t_X5_hasFare e6) rfl hd_X5_hasFare rfl kw_451 kw_452 kw_71 kw_453 kw_454 (mRoom.of E (Nat.le_of_ble_eq_true rfl) (Nat.le_of_ble_eq_true rfl) (Nat.le_refl 0) (Nat.le_refl 0)) (Nat.le_of_ble_eq_true rfl) dX11_taken_5 ?_
  refine ev_if_eq (tgt := 36) C dX11_taken_8 (by decide) (fun hc => ?_) (fun hc => ?_)
  · have hf := oit hf hc
    refine ev_iconst (v := (-1)) C dX11_taken_36 (by decide) ?_
    obtain rfl := Option.some.inj hf
    exact ev_iret C E (Nat.le_refl 0) (Nat.le_refl 0) dX11_taken_37
  · have hf := oie hf hc
    refine ev_iload_n C dX11_taken_11 rfl (q := 2) rfl ?_
    obtain ⟨x7, e8, hf⟩ := obnd hf
    refine ev_callS0 (As := [.int i2]) (st := []) C (t_X11_isStage e8) hd_X11_isStage rfl kw_572 kw_573 kw_70 kw_574 (mRoom.of E (Nat.le_of_ble_eq_true rfl) (Nat.le_of_ble_eq_true rfl) (Nat.le_refl 0) (Nat.le_refl 0)) (Nat.le_of_ble_eq_true rfl) dX11_taken_12 ?_
    refine ev_if_eq (tgt := 36) C dX11_taken_15 (by decide) (fun hc => ?_) (fun hc => ?_)
    · have hf := oit hf hc
      refine ev_iconst (v := (-1)) C dX11_taken_36 (by decide) ?_
      obtain rfl := Option.some.inj hf
      exact ev_iret C E (Nat.le_refl 0) (Nat.le_refl 0) dX11_taken_37
    · have hf := oie hf hc
      refine ev_iload_n C dX11_taken_18 rfl (q := 3) rfl ?_
      refine ev_iconst (v := 1) C dX11_taken_19 (by decide) ?_
      refine ev_icmp_lt (tgt := 36) C dX11_taken_20 (by decide) (fun hc => ?_) (fun hc => ?_)
      · have hf := oit hf hc
        refine ev_iconst (v := (-1)) C dX11_taken_36 (by decide) ?_
        obtain rfl := Option.some.inj hf
        exact ev_iret C E (Nat.le_refl 0) (Nat.le_refl 0) dX11_taken_37
      · have hf := oie hf hc
        refine ev_iload_n C dX11_taken_23 rfl (q := 3) rfl ?_
        refine ev_aload_n C dX11_taken_24 rfl (q := 0) rfl ?_
        obtain ⟨x9, e10, hf⟩ := obnd hf
        refine ev_get (k := 0) C ok_11 dX11_taken_25 (by decide) kw_392 (fR_V e10) ?_
        obtain ⟨x11, e12, hf⟩ := obnd hf
        refine ev_get (k := 2) C ok_5 dX11_taken_28 (by decide) kw_190 (fR_V e12) ?_
        refine ev_iconst (v := 0) C dX11_taken_31 (by decide) ?_
        obtain ⟨x13, e14, hf⟩ := obnd hf
        refine ev_iald C dX11_taken_32 e14 ?_
        refine ev_icmp_le (tgt := 38) C dX11_taken_33 (by decide) (fun hc => ?_) (fun hc => ?_)
        · have hf := oit hf hc
          refine ev_aload_n C dX11_taken_38 rfl (q := 0) rfl ?_
          obtain ⟨x15, e16, hf⟩ := obnd hf
          refine ev_get (k := 3) C ok_11 dX11_taken_39 (by decide) kw_395 (fR_V e16) ?_
          refine ev_iload_n C dX11_taken_42 rfl (q := 1) rfl ?_
          refine ev_iload_n C dX11_taken_43 rfl (q := 2) rfl ?_
          refine ev_iload_n C dX11_taken_44 rfl (q := 3) rfl ?_
          obtain ⟨_, e17, hf⟩ := obnd hf
          obtain ⟨fs18, e17⟩ := oO_eq e17
          obtain ⟨x19, e20, hf⟩ := obnd hf
          refine ev_callV0 (As := [.int i1, .int i2, .int i3]) (st := []) C rfl e17 (t_X10_takes e20) rfl hd_X10_takes rfl kw_575 kw_576 kw_76 kw_577 kw_578 (mRoom.of E (Nat.le_of_ble_eq_true rfl) (Nat.le_of_ble_eq_true rfl) (Nat.le_refl 0) (Nat.le_refl 0)) (Nat.le_of_ble_eq_true rfl) dX11_taken_45 ?_
          refine ev_if_eq (tgt := 55) C dX11_taken_48 (by decide) (fun hc => ?_) (fun hc => ?_)
          · have hf := oit hf hc
            refine ev_iconst (v := 0) C dX11_taken_55 (by decide) ?_
            obtain rfl := Option.some.inj hf
            exact ev_iret C E (Nat.le_refl 0) (Nat.le_refl 0) dX11_taken_56
          · have hf := oie hf hc
            refine ev_iconst (v := 1) C dX11_taken_51 (by decide) ?_
            refine ev_goto (tgt := 56) C dX11_taken_52 (by decide) ?_
            obtain rfl := Option.some.inj hf
            exact ev_iret C E (Nat.le_refl 0) (Nat.le_refl 0) dX11_taken_56
        · have hf := oie hf hc
          refine ev_iconst (v := (-1)) C dX11_taken_36 (by decide) ?_
          obtain rfl := Option.some.inj hf
          exact ev_iret C E (Nat.le_refl 0) (Nat.le_refl 0) dX11_taken_37
/-! FareLimits$Worths keptFrom(II)I -/
theorem dX10_keptFrom_0 : decode prog_12_method_7_code 0 = .ok (.aload_n 0, 1) := by decide +kernel
theorem dX10_keptFrom_1 : decode prog_12_method_7_code 1 = .ok (.getfield 20, 3) := by decide +kernel
theorem dX10_keptFrom_4 : decode prog_12_method_7_code 4 = .ok (.getfield 51, 3) := by decide +kernel
theorem dX10_keptFrom_7 : decode prog_12_method_7_code 7 = .ok (.iconst 0, 1) := by decide +kernel
theorem dX10_keptFrom_8 : decode prog_12_method_7_code 8 = .ok (.iaload, 1) := by decide +kernel
theorem dX10_keptFrom_9 : decode prog_12_method_7_code 9 = .ok (.istore_n 3, 1) := by decide +kernel
theorem dX10_keptFrom_10 : decode prog_12_method_7_code 10 = .ok (.iload_n 3, 1) := by decide +kernel
theorem dX10_keptFrom_11 : decode prog_12_method_7_code 11 = .ok (.ifCond .le 21, 3) := by decide +kernel
theorem dX10_keptFrom_14 : decode prog_12_method_7_code 14 = .ok (.aload_n 0, 1) := by decide +kernel
theorem dX10_keptFrom_15 : decode prog_12_method_7_code 15 = .ok (.iload_n 1, 1) := by decide +kernel
theorem dX10_keptFrom_16 : decode prog_12_method_7_code 16 = .ok (.iload_n 2, 1) := by decide +kernel
theorem dX10_keptFrom_17 : decode prog_12_method_7_code 17 = .ok (.iload_n 3, 1) := by decide +kernel
theorem dX10_keptFrom_18 : decode prog_12_method_7_code 18 = .ok (.invokevirtual 78, 3) := by decide +kernel
theorem dX10_keptFrom_21 : decode prog_12_method_7_code 21 = .ok (.ifCond .ne 5, 3) := by decide +kernel
theorem dX10_keptFrom_24 : decode prog_12_method_7_code 24 = .ok (.iload_n 3, 1) := by decide +kernel
theorem dX10_keptFrom_25 : decode prog_12_method_7_code 25 = .ok (.ireturn, 1) := by decide +kernel
theorem dX10_keptFrom_26 : decode prog_12_method_7_code 26 = .ok (.iinc 3 (-1), 3) := by decide +kernel
theorem dX10_keptFrom_29 : decode prog_12_method_7_code 29 = .ok (.goto (-19), 3) := by decide +kernel
theorem dX10_keptFrom_32 : decode prog_12_method_7_code 32 = .ok (.iconst 0, 1) := by decide +kernel
theorem dX10_keptFrom_33 : decode prog_12_method_7_code 33 = .ok (.ireturn, 1) := by decide +kernel
def m_X10_keptFrom_L10 (N : Nat)  : Nat → Nat → Int32 → Int32 → Int32 → mM → Option (Int32 × mM)
  | 0, _, _, _, _, _ => none
  | n + 1, a0, i1, i2, i3, M =>
    if i3 ≤ 0 then (
      some (0, M)) else (
      (oO M a0 10).bind fun _ =>
      (m_X10_takes N a0 i1 i2 i3 M).bind fun x3 =>
      if x3.1 = 0 then (
        some (i3, x3.2)) else (
        (m_X10_keptFrom_L10 N  n) a0 i1 i2 (i3 + (-1)) x3.2))
set_option maxHeartbeats 4000000 in
set_option maxRecDepth 100000 in
theorem t_X10_keptFrom_L10 {X : mX} {L0 : Launch} {res : Int32 × mM} {N : Nat} (C : CX X RX10 "keptFrom" prog_12_method_7_code 4 (some .int)) (E : EX X L0 4 102 0 0 (some (.int res.1)) res.2)   : ∀ (n : Nat) (a0 : Nat) (i1 : Int32) (i2 : Int32) (i3 : Int32) (M : mM), m_X10_keptFrom_L10 N  n a0 i1 i2 i3 M = some res → EV X 4 10 [(0, .ref a0), (1, .int i1), (2, .int i2), (3, .int i3)] [] 0 0 M := by
  intro n
  induction n with
  | zero => intro a0 i1 i2 i3 M hf; cases (show (none : Option (Int32 × mM)) = some res from hf)
  | succ n ih =>
    intro a0 i1 i2 i3 M hf
    rw [m_X10_keptFrom_L10] at hf
    refine ev_iload_n C dX10_keptFrom_10 rfl (q := 3) rfl ?_
    refine ev_if_le (tgt := 32) C dX10_keptFrom_11 (by decide) (fun hc => ?_) (fun hc => ?_)
    · have hf := oit hf hc
      refine ev_iconst (v := 0) C dX10_keptFrom_32 (by decide) ?_
      obtain rfl := Option.some.inj hf
      exact ev_iret C E (Nat.le_refl 0) (Nat.le_refl 0) dX10_keptFrom_33
    · have hf := oie hf hc
      refine ev_aload_n C dX10_keptFrom_14 rfl (q := 0) rfl ?_
      refine ev_iload_n C dX10_keptFrom_15 rfl (q := 1) rfl ?_
      refine ev_iload_n C dX10_keptFrom_16 rfl (q := 2) rfl ?_
      refine ev_iload_n C dX10_keptFrom_17 rfl (q := 3) rfl ?_
      obtain ⟨_, e1, hf⟩ := obnd hf
      obtain ⟨fs2, e1⟩ := oO_eq e1
      obtain ⟨x3, e4, hf⟩ := obnd hf
      refine ev_callV0 (As := [.int i1, .int i2, .int i3]) (st := []) C rfl e1 (t_X10_takes e4) rfl hd_X10_takes rfl kw_588 kw_576 kw_76 kw_577 kw_578 (mRoom.of E (Nat.le_of_ble_eq_true rfl) (Nat.le_of_ble_eq_true rfl) (Nat.le_refl 0) (Nat.le_refl 0)) (Nat.le_of_ble_eq_true rfl) dX10_keptFrom_18 ?_
      refine ev_if_ne (tgt := 26) C dX10_keptFrom_21 (by decide) (fun hc => ?_) (fun hc => ?_)
      · have hf := oie hf hc
        refine ev_iinc (v := i3 + (-1)) (l' := [(3, .int (i3 + (-1))), (0, .ref a0), (1, .int i1), (2, .int i2)]) C dX10_keptFrom_26 (q := 3) rfl rfl (by decide) rfl ?_
        refine ev_goto (tgt := 10) C dX10_keptFrom_29 (by decide) ?_
        refine ev_sub [1, 2, 3, 0] rfl ?_
        exact ih a0 i1 i2 (i3 + (-1)) x3.2 hf
      · have hf := oit hf hc
        refine ev_iload_n C dX10_keptFrom_24 rfl (q := 3) rfl ?_
        obtain rfl := Option.some.inj hf
        exact ev_iret C E (Nat.le_refl 0) (Nat.le_refl 0) dX10_keptFrom_25
def m_X10_keptFrom (N : Nat) (a0 : Nat) (i1 : Int32) (i2 : Int32) (M : mM) : Option (Int32 × mM) :=
  (fR M a0 10 0).bind fun x1 =>
  (fR M x1 5 2).bind fun x3 =>
  (aI 0 M x3 0).bind fun x5 =>
  m_X10_keptFrom_L10 N  N a0 i1 i2 x5 M
set_option maxHeartbeats 4000000 in
set_option maxRecDepth 100000 in
theorem t_X10_keptFrom {L0 : Launch} {M : mM} {N : Nat} {a0 : Nat} {i1 : Int32} {i2 : Int32} {res : Int32 × mM} (hf : m_X10_keptFrom N a0 i1 i2 M = some res) : CT L0 yX10_keptFrom prog_12_method_7_code 4 (some .int) 4 102 0 0 [.ref a0, .int i1, .int i2] M (some (.int res.1)) res.2 := by
  refine CT.of (by decide +kernel) (Nat.le_of_ble_eq_true rfl) fun X C E => ?_
  have C : CX X RX10 "keptFrom" prog_12_method_7_code 4 (some .int) := C
  show EV X 4 0 [(0, .ref a0), (1, .int i1), (2, .int i2)] [] 0 0 M
  unfold m_X10_keptFrom at hf
  refine ev_aload_n C dX10_keptFrom_0 rfl (q := 0) rfl ?_
  obtain ⟨x1, e2, hf⟩ := obnd hf
  refine ev_get (k := 0) C ok_10 dX10_keptFrom_1 (by decide) kw_216 (fR_V e2) ?_
  obtain ⟨x3, e4, hf⟩ := obnd hf
  refine ev_get (k := 2) C ok_5 dX10_keptFrom_4 (by decide) kw_189 (fR_V e4) ?_
  refine ev_iconst (v := 0) C dX10_keptFrom_7 (by decide) ?_
  obtain ⟨x5, e6, hf⟩ := obnd hf
  refine ev_iald C dX10_keptFrom_8 e6 ?_
  refine ev_istore_n (l' := [(3, .int x5), (0, .ref a0), (1, .int i1), (2, .int i2)]) C dX10_keptFrom_9 rfl (by decide) rfl ?_
  refine ev_sub [1, 2, 3, 0] rfl ?_
  exact t_X10_keptFrom_L10 C E   N a0 i1 i2 x5 M hf
/-! FareLimits kept(II)I -/
theorem dX11_kept_0 : decode prog_1_method_15_code 0 = .ok (.aload_n 0, 1) := by decide +kernel
theorem dX11_kept_1 : decode prog_1_method_15_code 1 = .ok (.getfield 12, 3) := by decide +kernel
theorem dX11_kept_4 : decode prog_1_method_15_code 4 = .ok (.iload_n 1, 1) := by decide +kernel
theorem dX11_kept_5 : decode prog_1_method_15_code 5 = .ok (.invokevirtual 112, 3) := by decide +kernel
theorem dX11_kept_8 : decode prog_1_method_15_code 8 = .ok (.ifCond .eq 22, 3) := by decide +kernel
theorem dX11_kept_11 : decode prog_1_method_15_code 11 = .ok (.iload_n 2, 1) := by decide +kernel
theorem dX11_kept_12 : decode prog_1_method_15_code 12 = .ok (.invokestatic 170, 3) := by decide +kernel
theorem dX11_kept_15 : decode prog_1_method_15_code 15 = .ok (.ifCond .eq 15, 3) := by decide +kernel
theorem dX11_kept_18 : decode prog_1_method_15_code 18 = .ok (.aload_n 0, 1) := by decide +kernel
theorem dX11_kept_19 : decode prog_1_method_15_code 19 = .ok (.getfield 24, 3) := by decide +kernel
theorem dX11_kept_22 : decode prog_1_method_15_code 22 = .ok (.iload_n 1, 1) := by decide +kernel
theorem dX11_kept_23 : decode prog_1_method_15_code 23 = .ok (.iload_n 2, 1) := by decide +kernel
theorem dX11_kept_24 : decode prog_1_method_15_code 24 = .ok (.invokevirtual 177, 3) := by decide +kernel
theorem dX11_kept_27 : decode prog_1_method_15_code 27 = .ok (.goto 4, 3) := by decide +kernel
theorem dX11_kept_30 : decode prog_1_method_15_code 30 = .ok (.iconst (-1), 1) := by decide +kernel
theorem dX11_kept_31 : decode prog_1_method_15_code 31 = .ok (.ireturn, 1) := by decide +kernel
def m_X11_kept (N : Nat) (a0 : Nat) (i1 : Int32) (i2 : Int32) (M : mM) : Option (Int32 × mM) :=
  (fR M a0 11 0).bind fun x1 =>
  (oO M x1 5).bind fun _ =>
  (m_X5_hasFare x1 i1 M).bind fun x5 =>
  if x5 = 0 then (
    some ((-1), M)) else (
    (m_X11_isStage i2).bind fun x7 =>
    if x7 = 0 then (
      some ((-1), M)) else (
      (fR M a0 11 3).bind fun x9 =>
      (oO M x9 10).bind fun _ =>
      (m_X10_keptFrom N x9 i1 i2 M).bind fun x13 =>
      some (x13.1, x13.2)))
set_option maxHeartbeats 4000000 in
set_option maxRecDepth 100000 in
theorem t_X11_kept {L0 : Launch} {M : mM} {N : Nat} {a0 : Nat} {i1 : Int32} {i2 : Int32} {res : Int32 × mM} (hf : m_X11_kept N a0 i1 i2 M = some res) : CT L0 yX11_kept prog_1_method_15_code 3 (some .int) 5 125 0 0 [.ref a0, .int i1, .int i2] M (some (.int res.1)) res.2 := by
  refine CT.of (by decide +kernel) (Nat.le_of_ble_eq_true rfl) fun X C E => ?_
  have C : CX X RX11 "kept" prog_1_method_15_code 3 (some .int) := C
  show EV X 3 0 [(0, .ref a0), (1, .int i1), (2, .int i2)] [] 0 0 M
  unfold m_X11_kept at hf
  refine ev_aload_n C dX11_kept_0 rfl (q := 0) rfl ?_
  obtain ⟨x1, e2, hf⟩ := obnd hf
  refine ev_get (k := 0) C ok_11 dX11_kept_1 (by decide) kw_392 (fR_V e2) ?_
  refine ev_iload_n C dX11_kept_4 rfl (q := 1) rfl ?_
  obtain ⟨_, e3, hf⟩ := obnd hf
  obtain ⟨fs4, e3⟩ := oO_eq e3
  obtain ⟨x5, e6, hf⟩ := obnd hf
  refine ev_callV0 (As := [.int i1]) (st := []) C rfl e3 (t_X5_hasFare e6) rfl hd_X5_hasFare rfl kw_451 kw_452 kw_71 kw_453 kw_454 (mRoom.of E (Nat.le_of_ble_eq_true rfl) (Nat.le_of_ble_eq_true rfl) (Nat.le_refl 0) (Nat.le_refl 0)) (Nat.le_of_ble_eq_true rfl) dX11_kept_5 ?_
  refine ev_if_eq (tgt := 30) C dX11_kept_8 (by decide) (fun hc => ?_) (fun hc => ?_)
  · have hf := oit hf hc
    refine ev_iconst (v := (-1)) C dX11_kept_30 (by decide) ?_
    obtain rfl := Option.some.inj hf
    exact ev_iret C E (Nat.le_refl 0) (Nat.le_refl 0) dX11_kept_31
  · have hf := oie hf hc
    refine ev_iload_n C dX11_kept_11 rfl (q := 2) rfl ?_
    obtain ⟨x7, e8, hf⟩ := obnd hf
    refine ev_callS0 (As := [.int i2]) (st := []) C (t_X11_isStage e8) hd_X11_isStage rfl kw_572 kw_573 kw_70 kw_574 (mRoom.of E (Nat.le_of_ble_eq_true rfl) (Nat.le_of_ble_eq_true rfl) (Nat.le_refl 0) (Nat.le_refl 0)) (Nat.le_of_ble_eq_true rfl) dX11_kept_12 ?_
    refine ev_if_eq (tgt := 30) C dX11_kept_15 (by decide) (fun hc => ?_) (fun hc => ?_)
    · have hf := oit hf hc
      refine ev_iconst (v := (-1)) C dX11_kept_30 (by decide) ?_
      obtain rfl := Option.some.inj hf
      exact ev_iret C E (Nat.le_refl 0) (Nat.le_refl 0) dX11_kept_31
    · have hf := oie hf hc
      refine ev_aload_n C dX11_kept_18 rfl (q := 0) rfl ?_
      obtain ⟨x9, e10, hf⟩ := obnd hf
      refine ev_get (k := 3) C ok_11 dX11_kept_19 (by decide) kw_395 (fR_V e10) ?_
      refine ev_iload_n C dX11_kept_22 rfl (q := 1) rfl ?_
      refine ev_iload_n C dX11_kept_23 rfl (q := 2) rfl ?_
      obtain ⟨_, e11, hf⟩ := obnd hf
      obtain ⟨fs12, e11⟩ := oO_eq e11
      obtain ⟨x13, e14, hf⟩ := obnd hf
      refine ev_callV0 (As := [.int i1, .int i2]) (st := []) C rfl e11 (t_X10_keptFrom e14) rfl hd_X10_keptFrom rfl kw_584 kw_585 kw_76 kw_586 kw_587 (mRoom.of E (Nat.le_of_ble_eq_true rfl) (Nat.le_of_ble_eq_true rfl) (Nat.le_refl 0) (Nat.le_refl 0)) (Nat.le_of_ble_eq_true rfl) dX11_kept_24 ?_
      refine ev_goto (tgt := 31) C dX11_kept_27 (by decide) ?_
      obtain rfl := Option.some.inj hf
      exact ev_iret C E (Nat.le_refl 0) (Nat.le_refl 0) dX11_kept_31
/-! FareLimits limit(II)I -/
theorem dX11_limit_0 : decode prog_1_method_16_code 0 = .ok (.aload_n 0, 1) := by decide +kernel
theorem dX11_limit_1 : decode prog_1_method_16_code 1 = .ok (.getfield 12, 3) := by decide +kernel
theorem dX11_limit_4 : decode prog_1_method_16_code 4 = .ok (.iload_n 1, 1) := by decide +kernel
theorem dX11_limit_5 : decode prog_1_method_16_code 5 = .ok (.invokevirtual 112, 3) := by decide +kernel
theorem dX11_limit_8 : decode prog_1_method_16_code 8 = .ok (.ifCond .eq 32, 3) := by decide +kernel
theorem dX11_limit_11 : decode prog_1_method_16_code 11 = .ok (.iload_n 2, 1) := by decide +kernel
theorem dX11_limit_12 : decode prog_1_method_16_code 12 = .ok (.invokestatic 170, 3) := by decide +kernel
theorem dX11_limit_15 : decode prog_1_method_16_code 15 = .ok (.ifCond .eq 25, 3) := by decide +kernel
theorem dX11_limit_18 : decode prog_1_method_16_code 18 = .ok (.aload_n 0, 1) := by decide +kernel
theorem dX11_limit_19 : decode prog_1_method_16_code 19 = .ok (.getfield 12, 3) := by decide +kernel
theorem dX11_limit_22 : decode prog_1_method_16_code 22 = .ok (.getfield 138, 3) := by decide +kernel
theorem dX11_limit_25 : decode prog_1_method_16_code 25 = .ok (.iconst 0, 1) := by decide +kernel
theorem dX11_limit_26 : decode prog_1_method_16_code 26 = .ok (.iaload, 1) := by decide +kernel
theorem dX11_limit_27 : decode prog_1_method_16_code 27 = .ok (.aload_n 0, 1) := by decide +kernel
theorem dX11_limit_28 : decode prog_1_method_16_code 28 = .ok (.getfield 24, 3) := by decide +kernel
theorem dX11_limit_31 : decode prog_1_method_16_code 31 = .ok (.iload_n 1, 1) := by decide +kernel
theorem dX11_limit_32 : decode prog_1_method_16_code 32 = .ok (.iload_n 2, 1) := by decide +kernel
theorem dX11_limit_33 : decode prog_1_method_16_code 33 = .ok (.invokevirtual 177, 3) := by decide +kernel
theorem dX11_limit_36 : decode prog_1_method_16_code 36 = .ok (.isub, 1) := by decide +kernel
theorem dX11_limit_37 : decode prog_1_method_16_code 37 = .ok (.goto 4, 3) := by decide +kernel
theorem dX11_limit_40 : decode prog_1_method_16_code 40 = .ok (.iconst (-1), 1) := by decide +kernel
theorem dX11_limit_41 : decode prog_1_method_16_code 41 = .ok (.ireturn, 1) := by decide +kernel
def m_X11_limit (N : Nat) (a0 : Nat) (i1 : Int32) (i2 : Int32) (M : mM) : Option (Int32 × mM) :=
  (fR M a0 11 0).bind fun x1 =>
  (oO M x1 5).bind fun _ =>
  (m_X5_hasFare x1 i1 M).bind fun x5 =>
  if x5 = 0 then (
    some ((-1), M)) else (
    (m_X11_isStage i2).bind fun x7 =>
    if x7 = 0 then (
      some ((-1), M)) else (
      (fR M a0 11 0).bind fun x9 =>
      (fR M x9 5 2).bind fun x11 =>
      (aI 0 M x11 0).bind fun x13 =>
      (fR M a0 11 3).bind fun x15 =>
      (oO M x15 10).bind fun _ =>
      (m_X10_keptFrom N x15 i1 i2 M).bind fun x19 =>
      some (x13 - x19.1, x19.2)))
set_option maxHeartbeats 4000000 in
set_option maxRecDepth 100000 in
theorem t_X11_limit {L0 : Launch} {M : mM} {N : Nat} {a0 : Nat} {i1 : Int32} {i2 : Int32} {res : Int32 × mM} (hf : m_X11_limit N a0 i1 i2 M = some res) : CT L0 yX11_limit prog_1_method_16_code 3 (some .int) 5 125 0 0 [.ref a0, .int i1, .int i2] M (some (.int res.1)) res.2 := by
  refine CT.of (by decide +kernel) (Nat.le_of_ble_eq_true rfl) fun X C E => ?_
  have C : CX X RX11 "limit" prog_1_method_16_code 3 (some .int) := C
  show EV X 3 0 [(0, .ref a0), (1, .int i1), (2, .int i2)] [] 0 0 M
  unfold m_X11_limit at hf
  refine ev_aload_n C dX11_limit_0 rfl (q := 0) rfl ?_
  obtain ⟨x1, e2, hf⟩ := obnd hf
  refine ev_get (k := 0) C ok_11 dX11_limit_1 (by decide) kw_392 (fR_V e2) ?_
  refine ev_iload_n C dX11_limit_4 rfl (q := 1) rfl ?_
  obtain ⟨_, e3, hf⟩ := obnd hf
  obtain ⟨fs4, e3⟩ := oO_eq e3
  obtain ⟨x5, e6, hf⟩ := obnd hf
  refine ev_callV0 (As := [.int i1]) (st := []) C rfl e3 (t_X5_hasFare e6) rfl hd_X5_hasFare rfl kw_451 kw_452 kw_71 kw_453 kw_454 (mRoom.of E (Nat.le_of_ble_eq_true rfl) (Nat.le_of_ble_eq_true rfl) (Nat.le_refl 0) (Nat.le_refl 0)) (Nat.le_of_ble_eq_true rfl) dX11_limit_5 ?_
  refine ev_if_eq (tgt := 40) C dX11_limit_8 (by decide) (fun hc => ?_) (fun hc => ?_)
  · have hf := oit hf hc
    refine ev_iconst (v := (-1)) C dX11_limit_40 (by decide) ?_
    obtain rfl := Option.some.inj hf
    exact ev_iret C E (Nat.le_refl 0) (Nat.le_refl 0) dX11_limit_41
  · have hf := oie hf hc
    refine ev_iload_n C dX11_limit_11 rfl (q := 2) rfl ?_
    obtain ⟨x7, e8, hf⟩ := obnd hf
    refine ev_callS0 (As := [.int i2]) (st := []) C (t_X11_isStage e8) hd_X11_isStage rfl kw_572 kw_573 kw_70 kw_574 (mRoom.of E (Nat.le_of_ble_eq_true rfl) (Nat.le_of_ble_eq_true rfl) (Nat.le_refl 0) (Nat.le_refl 0)) (Nat.le_of_ble_eq_true rfl) dX11_limit_12 ?_
    refine ev_if_eq (tgt := 40) C dX11_limit_15 (by decide) (fun hc => ?_) (fun hc => ?_)
    · have hf := oit hf hc
      refine ev_iconst (v := (-1)) C dX11_limit_40 (by decide) ?_
      obtain rfl := Option.some.inj hf
      exact ev_iret C E (Nat.le_refl 0) (Nat.le_refl 0) dX11_limit_41
    · have hf := oie hf hc
      refine ev_aload_n C dX11_limit_18 rfl (q := 0) rfl ?_
      obtain ⟨x9, e10, hf⟩ := obnd hf
      refine ev_get (k := 0) C ok_11 dX11_limit_19 (by decide) kw_392 (fR_V e10) ?_
      obtain ⟨x11, e12, hf⟩ := obnd hf
      refine ev_get (k := 2) C ok_5 dX11_limit_22 (by decide) kw_190 (fR_V e12) ?_
      refine ev_iconst (v := 0) C dX11_limit_25 (by decide) ?_
      obtain ⟨x13, e14, hf⟩ := obnd hf
      refine ev_iald C dX11_limit_26 e14 ?_
      refine ev_aload_n C dX11_limit_27 rfl (q := 0) rfl ?_
      obtain ⟨x15, e16, hf⟩ := obnd hf
      refine ev_get (k := 3) C ok_11 dX11_limit_28 (by decide) kw_395 (fR_V e16) ?_
      refine ev_iload_n C dX11_limit_31 rfl (q := 1) rfl ?_
      refine ev_iload_n C dX11_limit_32 rfl (q := 2) rfl ?_
      obtain ⟨_, e17, hf⟩ := obnd hf
      obtain ⟨fs18, e17⟩ := oO_eq e17
      obtain ⟨x19, e20, hf⟩ := obnd hf
      refine ev_callV0 (As := [.int i1, .int i2]) (st := [.int x13]) C rfl e17 (t_X10_keptFrom e20) rfl hd_X10_keptFrom rfl kw_584 kw_585 kw_76 kw_586 kw_587 (mRoom.of E (Nat.le_of_ble_eq_true rfl) (Nat.le_of_ble_eq_true rfl) (Nat.le_refl 0) (Nat.le_refl 0)) (Nat.le_of_ble_eq_true rfl) dX11_limit_33 ?_
      refine ev_isub C dX11_limit_36 ?_
      refine ev_goto (tgt := 41) C dX11_limit_37 (by decide) ?_
      obtain rfl := Option.some.inj hf
      exact ev_iret C E (Nat.le_refl 0) (Nat.le_refl 0) dX11_limit_41
/-! java/util/Arrays fill([DD)V -/
theorem dJ7_fill_7f8df_0 : decode prog_28_method_113_code 0 = .ok (.iconst 0, 1) := by decide +kernel
theorem dJ7_fill_7f8df_1 : decode prog_28_method_113_code 1 = .ok (.istore_n 3, 1) := by decide +kernel
theorem dJ7_fill_7f8df_2 : decode prog_28_method_113_code 2 = .ok (.aload_n 0, 1) := by decide +kernel
theorem dJ7_fill_7f8df_3 : decode prog_28_method_113_code 3 = .ok (.arraylength, 1) := by decide +kernel
theorem dJ7_fill_7f8df_4 : decode prog_28_method_113_code 4 = .ok (.istore 4, 2) := by decide +kernel
theorem dJ7_fill_7f8df_6 : decode prog_28_method_113_code 6 = .ok (.iload_n 3, 1) := by decide +kernel
theorem dJ7_fill_7f8df_7 : decode prog_28_method_113_code 7 = .ok (.iload 4, 2) := by decide +kernel
theorem dJ7_fill_7f8df_9 : decode prog_28_method_113_code 9 = .ok (.if_icmp .ge 13, 3) := by decide +kernel
theorem dJ7_fill_7f8df_12 : decode prog_28_method_113_code 12 = .ok (.aload_n 0, 1) := by decide +kernel
theorem dJ7_fill_7f8df_13 : decode prog_28_method_113_code 13 = .ok (.iload_n 3, 1) := by decide +kernel
theorem dJ7_fill_7f8df_14 : decode prog_28_method_113_code 14 = .ok (.dload_n 1, 1) := by decide +kernel
theorem dJ7_fill_7f8df_15 : decode prog_28_method_113_code 15 = .ok (.dastore, 1) := by decide +kernel
theorem dJ7_fill_7f8df_16 : decode prog_28_method_113_code 16 = .ok (.iinc 3 1, 3) := by decide +kernel
theorem dJ7_fill_7f8df_19 : decode prog_28_method_113_code 19 = .ok (.goto (-13), 3) := by decide +kernel
theorem dJ7_fill_7f8df_22 : decode prog_28_method_113_code 22 = .ok (.return_, 1) := by decide +kernel
def m_J7_fill_7f8df_L6 (N : Nat)  : Nat → Nat → UInt64 → Int32 → Int32 → mM → Option (mM)
  | 0, _, _, _, _, _ => none
  | n + 1, a0, d1, i3, i4, M =>
    if i4 ≤ i3 then (
      some M) else (
      (uD M a0 i3 d1).bind fun M1 =>
      (m_J7_fill_7f8df_L6 N  n) a0 d1 (i3 + 1) i4 M1)
set_option maxHeartbeats 4000000 in
set_option maxRecDepth 100000 in
theorem t_J7_fill_7f8df_L6 {X : mX} {L0 : Launch} {res : mM} {N : Nat} (C : CX X RJ7 "fill" prog_28_method_113_code 5 none) (E : EX X L0 0 0 0 0 none res)   : ∀ (n : Nat) (a0 : Nat) (d1 : UInt64) (i3 : Int32) (i4 : Int32) (M : mM), m_J7_fill_7f8df_L6 N  n a0 d1 i3 i4 M = some res → EV X 5 6 [(0, .ref a0), (1, .double d1), (3, .int i3), (4, .int i4)] [] 0 0 M := by
  intro n
  induction n with
  | zero => intro a0 d1 i3 i4 M hf; cases (show (none : Option (mM)) = some res from hf)
  | succ n ih =>
    intro a0 d1 i3 i4 M hf
    rw [m_J7_fill_7f8df_L6] at hf
    refine ev_iload_n C dJ7_fill_7f8df_6 rfl (q := 2) rfl ?_
    refine ev_iload C dJ7_fill_7f8df_7 (q := 3) rfl ?_
    refine ev_icmp_ge (tgt := 22) C dJ7_fill_7f8df_9 (by decide) (fun hc => ?_) (fun hc => ?_)
    · have hf := oit hf hc
      obtain rfl := Option.some.inj hf
      exact ev_vret C E (Nat.le_refl 0) (Nat.le_refl 0) dJ7_fill_7f8df_22
    · have hf := oie hf hc
      refine ev_aload_n C dJ7_fill_7f8df_12 rfl (q := 0) rfl ?_
      refine ev_iload_n C dJ7_fill_7f8df_13 rfl (q := 2) rfl ?_
      refine ev_dload_n C dJ7_fill_7f8df_14 rfl (q := 1) rfl ?_
      obtain ⟨M1, e2, hf⟩ := obnd hf
      refine ev_dast C dJ7_fill_7f8df_15 e2 ?_
      refine ev_iinc (v := i3 + 1) (l' := [(3, .int (i3 + 1)), (0, .ref a0), (1, .double d1), (4, .int i4)]) C dJ7_fill_7f8df_16 (q := 2) rfl rfl (by decide) rfl ?_
      refine ev_goto (tgt := 6) C dJ7_fill_7f8df_19 (by decide) ?_
      refine ev_sub [1, 2, 0, 3] rfl ?_
      exact ih a0 d1 (i3 + 1) i4 M1 hf
def m_J7_fill_7f8df (N : Nat) (a0 : Nat) (d1 : UInt64) (M : mM) : Option (mM) :=
  (aN 2 M a0).bind fun x1 =>
  m_J7_fill_7f8df_L6 N  N a0 d1 0 x1 M
set_option maxHeartbeats 4000000 in
set_option maxRecDepth 100000 in
theorem t_J7_fill_7f8df {L0 : Launch} {M : mM} {N : Nat} {a0 : Nat} {d1 : UInt64} {res : mM} (hf : m_J7_fill_7f8df N a0 d1 M = some res) : CT L0 yJ7_fill_7f8df prog_28_method_113_code 5 none 0 0 0 0 [.ref a0, .double d1] M none res := by
  refine CT.of (by decide +kernel) (Nat.le_of_ble_eq_true rfl) fun X C E => ?_
  have C : CX X RJ7 "fill" prog_28_method_113_code 5 none := C
  show EV X 5 0 [(0, .ref a0), (1, .double d1)] [] 0 0 M
  unfold m_J7_fill_7f8df at hf
  refine ev_iconst (v := 0) C dJ7_fill_7f8df_0 (by decide) ?_
  refine ev_istore_n (l' := [(3, .int 0), (0, .ref a0), (1, .double d1)]) C dJ7_fill_7f8df_1 rfl (by decide) rfl ?_
  refine ev_aload_n C dJ7_fill_7f8df_2 rfl (q := 1) rfl ?_
  obtain ⟨x1, e2, hf⟩ := obnd hf
  refine ev_alen (t := 2) C rfl dJ7_fill_7f8df_3 e2 ?_
  refine ev_istore (l' := [(4, .int x1), (3, .int 0), (0, .ref a0), (1, .double d1)]) C dJ7_fill_7f8df_4 (by decide) rfl ?_
  refine ev_sub [2, 3, 1, 0] rfl ?_
  exact t_J7_fill_7f8df_L6 C E   N a0 d1 0 x1 M hf
/-! FareLimits$Chances begin()V -/
theorem dX0_begin_0 : decode prog_2_method_4_code 0 = .ok (.aload_n 0, 1) := by decide +kernel
theorem dX0_begin_1 : decode prog_2_method_4_code 1 = .ok (.getfield 9, 3) := by decide +kernel
theorem dX0_begin_4 : decode prog_2_method_4_code 4 = .ok (.dconst 0, 1) := by decide +kernel
theorem dX0_begin_5 : decode prog_2_method_4_code 5 = .ok (.invokestatic 48, 3) := by decide +kernel
theorem dX0_begin_8 : decode prog_2_method_4_code 8 = .ok (.aload_n 0, 1) := by decide +kernel
theorem dX0_begin_9 : decode prog_2_method_4_code 9 = .ok (.getfield 9, 3) := by decide +kernel
theorem dX0_begin_12 : decode prog_2_method_4_code 12 = .ok (.iconst 0, 1) := by decide +kernel
theorem dX0_begin_13 : decode prog_2_method_4_code 13 = .ok (.dconst 1, 1) := by decide +kernel
theorem dX0_begin_14 : decode prog_2_method_4_code 14 = .ok (.dastore, 1) := by decide +kernel
theorem dX0_begin_15 : decode prog_2_method_4_code 15 = .ok (.return_, 1) := by decide +kernel
def m_X0_begin (N : Nat) (a0 : Nat) (M : mM) : Option (mM) :=
  (fR M a0 1 1).bind fun x1 =>
  (m_J7_fill_7f8df N x1 FP.dconst0 M).bind fun x3 =>
  (fR x3 a0 1 1).bind fun x5 =>
  (uD x3 x5 0 FP.dconst1).bind fun M7 =>
  some M7
set_option maxHeartbeats 4000000 in
set_option maxRecDepth 100000 in
theorem t_X0_begin {L0 : Launch} {M : mM} {N : Nat} {a0 : Nat} {res : mM} (hf : m_X0_begin N a0 M = some res) : CT L0 yX0_begin prog_2_method_4_code 1 none 1 24 0 0 [.ref a0] M none res := by
  refine CT.of (by decide +kernel) (Nat.le_of_ble_eq_true rfl) fun X C E => ?_
  have C : CX X RX0 "begin" prog_2_method_4_code 1 none := C
  show EV X 1 0 [(0, .ref a0)] [] 0 0 M
  unfold m_X0_begin at hf
  refine ev_aload_n C dX0_begin_0 rfl (q := 0) rfl ?_
  obtain ⟨x1, e2, hf⟩ := obnd hf
  refine ev_get (k := 1) C ok_1 dX0_begin_1 (by decide) kw_251 (fR_V e2) ?_
  refine ev_dconst0 C dX0_begin_4 ?_
  obtain ⟨x3, e4, hf⟩ := obnd hf
  refine ev_callS0 (As := [.ref x1, .double FP.dconst0]) (st := []) C (t_J7_fill_7f8df e4) hd_J7_fill_7f8df rfl kw_606 kw_607 kw_86 kw_608 (mRoom.of E (Nat.le_of_ble_eq_true rfl) (Nat.le_of_ble_eq_true rfl) (Nat.le_refl 0) (Nat.le_refl 0)) (Nat.le_of_ble_eq_true rfl) dX0_begin_5 ?_
  refine ev_aload_n C dX0_begin_8 rfl (q := 0) rfl ?_
  obtain ⟨x5, e6, hf⟩ := obnd hf
  refine ev_get (k := 1) C ok_1 dX0_begin_9 (by decide) kw_251 (fR_V e6) ?_
  refine ev_iconst (v := 0) C dX0_begin_12 (by decide) ?_
  refine ev_dconst1 C dX0_begin_13 ?_
  obtain ⟨M7, e8, hf⟩ := obnd hf
  refine ev_dast C dX0_begin_14 e8 ?_
  obtain rfl := Option.some.inj hf
  exact ev_vret C E (Nat.le_refl 0) (Nat.le_refl 0) dX0_begin_15
/-! FareLimits$Chances oneMore(IDD)V -/
theorem dX0_oneMore_0 : decode prog_2_method_5_code 0 = .ok (.aload_n 0, 1) := by decide +kernel
theorem dX0_oneMore_1 : decode prog_2_method_5_code 1 = .ok (.getfield 9, 3) := by decide +kernel
theorem dX0_oneMore_4 : decode prog_2_method_5_code 4 = .ok (.iload_n 1, 1) := by decide +kernel
theorem dX0_oneMore_5 : decode prog_2_method_5_code 5 = .ok (.aload_n 0, 1) := by decide +kernel
theorem dX0_oneMore_6 : decode prog_2_method_5_code 6 = .ok (.getfield 9, 3) := by decide +kernel
theorem dX0_oneMore_9 : decode prog_2_method_5_code 9 = .ok (.iload_n 1, 1) := by decide +kernel
theorem dX0_oneMore_10 : decode prog_2_method_5_code 10 = .ok (.iconst 1, 1) := by decide +kernel
theorem dX0_oneMore_11 : decode prog_2_method_5_code 11 = .ok (.isub, 1) := by decide +kernel
theorem dX0_oneMore_12 : decode prog_2_method_5_code 12 = .ok (.daload, 1) := by decide +kernel
theorem dX0_oneMore_13 : decode prog_2_method_5_code 13 = .ok (.dload 4, 2) := by decide +kernel
theorem dX0_oneMore_15 : decode prog_2_method_5_code 15 = .ok (.dmul, 1) := by decide +kernel
theorem dX0_oneMore_16 : decode prog_2_method_5_code 16 = .ok (.dastore, 1) := by decide +kernel
theorem dX0_oneMore_17 : decode prog_2_method_5_code 17 = .ok (.iload_n 1, 1) := by decide +kernel
theorem dX0_oneMore_18 : decode prog_2_method_5_code 18 = .ok (.iconst 1, 1) := by decide +kernel
theorem dX0_oneMore_19 : decode prog_2_method_5_code 19 = .ok (.isub, 1) := by decide +kernel
theorem dX0_oneMore_20 : decode prog_2_method_5_code 20 = .ok (.istore 6, 2) := by decide +kernel
theorem dX0_oneMore_22 : decode prog_2_method_5_code 22 = .ok (.iload 6, 2) := by decide +kernel
theorem dX0_oneMore_24 : decode prog_2_method_5_code 24 = .ok (.ifCond .le 38, 3) := by decide +kernel
theorem dX0_oneMore_27 : decode prog_2_method_5_code 27 = .ok (.aload_n 0, 1) := by decide +kernel
theorem dX0_oneMore_28 : decode prog_2_method_5_code 28 = .ok (.getfield 9, 3) := by decide +kernel
theorem dX0_oneMore_31 : decode prog_2_method_5_code 31 = .ok (.iload 6, 2) := by decide +kernel
theorem dX0_oneMore_33 : decode prog_2_method_5_code 33 = .ok (.aload_n 0, 1) := by decide +kernel
theorem dX0_oneMore_34 : decode prog_2_method_5_code 34 = .ok (.getfield 9, 3) := by decide +kernel
theorem dX0_oneMore_37 : decode prog_2_method_5_code 37 = .ok (.iload 6, 2) := by decide +kernel
theorem dX0_oneMore_39 : decode prog_2_method_5_code 39 = .ok (.daload, 1) := by decide +kernel
theorem dX0_oneMore_40 : decode prog_2_method_5_code 40 = .ok (.dload_n 2, 1) := by decide +kernel
theorem dX0_oneMore_41 : decode prog_2_method_5_code 41 = .ok (.dmul, 1) := by decide +kernel
theorem dX0_oneMore_42 : decode prog_2_method_5_code 42 = .ok (.aload_n 0, 1) := by decide +kernel
theorem dX0_oneMore_43 : decode prog_2_method_5_code 43 = .ok (.getfield 9, 3) := by decide +kernel
theorem dX0_oneMore_46 : decode prog_2_method_5_code 46 = .ok (.iload 6, 2) := by decide +kernel
theorem dX0_oneMore_48 : decode prog_2_method_5_code 48 = .ok (.iconst 1, 1) := by decide +kernel
theorem dX0_oneMore_49 : decode prog_2_method_5_code 49 = .ok (.isub, 1) := by decide +kernel
theorem dX0_oneMore_50 : decode prog_2_method_5_code 50 = .ok (.daload, 1) := by decide +kernel
theorem dX0_oneMore_51 : decode prog_2_method_5_code 51 = .ok (.dload 4, 2) := by decide +kernel
theorem dX0_oneMore_53 : decode prog_2_method_5_code 53 = .ok (.dmul, 1) := by decide +kernel
theorem dX0_oneMore_54 : decode prog_2_method_5_code 54 = .ok (.dadd, 1) := by decide +kernel
theorem dX0_oneMore_55 : decode prog_2_method_5_code 55 = .ok (.dastore, 1) := by decide +kernel
theorem dX0_oneMore_56 : decode prog_2_method_5_code 56 = .ok (.iinc 6 (-1), 3) := by decide +kernel
theorem dX0_oneMore_59 : decode prog_2_method_5_code 59 = .ok (.goto (-37), 3) := by decide +kernel
theorem dX0_oneMore_62 : decode prog_2_method_5_code 62 = .ok (.aload_n 0, 1) := by decide +kernel
theorem dX0_oneMore_63 : decode prog_2_method_5_code 63 = .ok (.getfield 9, 3) := by decide +kernel
theorem dX0_oneMore_66 : decode prog_2_method_5_code 66 = .ok (.iconst 0, 1) := by decide +kernel
theorem dX0_oneMore_67 : decode prog_2_method_5_code 67 = .ok (.aload_n 0, 1) := by decide +kernel
theorem dX0_oneMore_68 : decode prog_2_method_5_code 68 = .ok (.getfield 9, 3) := by decide +kernel
theorem dX0_oneMore_71 : decode prog_2_method_5_code 71 = .ok (.iconst 0, 1) := by decide +kernel
theorem dX0_oneMore_72 : decode prog_2_method_5_code 72 = .ok (.daload, 1) := by decide +kernel
theorem dX0_oneMore_73 : decode prog_2_method_5_code 73 = .ok (.dload_n 2, 1) := by decide +kernel
theorem dX0_oneMore_74 : decode prog_2_method_5_code 74 = .ok (.dmul, 1) := by decide +kernel
theorem dX0_oneMore_75 : decode prog_2_method_5_code 75 = .ok (.dastore, 1) := by decide +kernel
theorem dX0_oneMore_76 : decode prog_2_method_5_code 76 = .ok (.return_, 1) := by decide +kernel
def m_X0_oneMore_L22 (N : Nat)  : Nat → Nat → UInt64 → UInt64 → Int32 → mM → Option (mM)
  | 0, _, _, _, _, _ => none
  | n + 1, a0, d2, d4, i6, M =>
    if i6 ≤ 0 then (
      (fR M a0 1 1).bind fun x1 =>
      (fR M a0 1 1).bind fun x3 =>
      (aD M x3 0).bind fun x5 =>
      (oD (FP.dmul x5 d2)).bind fun x7 =>
      (uD M x1 0 x7).bind fun M9 =>
      some M9) else (
      (fR M a0 1 1).bind fun x11 =>
      (fR M a0 1 1).bind fun x13 =>
      (aD M x13 i6).bind fun x15 =>
      (oD (FP.dmul x15 d2)).bind fun x17 =>
      (fR M a0 1 1).bind fun x19 =>
      (aD M x19 (i6 - 1)).bind fun x21 =>
      (oD (FP.dmul x21 d4)).bind fun x23 =>
      (oD (FP.dadd x17 x23)).bind fun x25 =>
      (uD M x11 i6 x25).bind fun M27 =>
      (m_X0_oneMore_L22 N  n) a0 d2 d4 (i6 + (-1)) M27)
set_option maxHeartbeats 4000000 in
set_option maxRecDepth 100000 in
theorem t_X0_oneMore_L22 {X : mX} {L0 : Launch} {res : mM} {N : Nat} (C : CX X RX0 "oneMore" prog_2_method_5_code 7 none) (E : EX X L0 0 0 0 0 none res)   : ∀ (n : Nat) (a0 : Nat) (d2 : UInt64) (d4 : UInt64) (i6 : Int32) (M : mM), m_X0_oneMore_L22 N  n a0 d2 d4 i6 M = some res → EV X 7 22 [(0, .ref a0), (2, .double d2), (4, .double d4), (6, .int i6)] [] 0 0 M := by
  intro n
  induction n with
  | zero => intro a0 d2 d4 i6 M hf; cases (show (none : Option (mM)) = some res from hf)
  | succ n ih =>
    intro a0 d2 d4 i6 M hf
    rw [m_X0_oneMore_L22] at hf
    refine ev_iload C dX0_oneMore_22 (q := 3) rfl ?_
    refine ev_if_le (tgt := 62) C dX0_oneMore_24 (by decide) (fun hc => ?_) (fun hc => ?_)
    · have hf := oit hf hc
      refine ev_aload_n C dX0_oneMore_62 rfl (q := 0) rfl ?_
      obtain ⟨x1, e2, hf⟩ := obnd hf
      refine ev_get (k := 1) C ok_1 dX0_oneMore_63 (by decide) kw_251 (fR_V e2) ?_
      refine ev_iconst (v := 0) C dX0_oneMore_66 (by decide) ?_
      refine ev_aload_n C dX0_oneMore_67 rfl (q := 0) rfl ?_
      obtain ⟨x3, e4, hf⟩ := obnd hf
      refine ev_get (k := 1) C ok_1 dX0_oneMore_68 (by decide) kw_251 (fR_V e4) ?_
      refine ev_iconst (v := 0) C dX0_oneMore_71 (by decide) ?_
      obtain ⟨x5, e6, hf⟩ := obnd hf
      refine ev_dald C dX0_oneMore_72 e6 ?_
      refine ev_dload_n C dX0_oneMore_73 rfl (q := 1) rfl ?_
      obtain ⟨x7, e8, hf⟩ := obnd hf
      obtain ⟨e8, e8q⟩ := oD_eq e8
      refine ev_dmul C dX0_oneMore_74 e8 ?_
      rw [← e8q]
      obtain ⟨M9, e10, hf⟩ := obnd hf
      refine ev_dast C dX0_oneMore_75 e10 ?_
      obtain rfl := Option.some.inj hf
      exact ev_vret C E (Nat.le_refl 0) (Nat.le_refl 0) dX0_oneMore_76
    · have hf := oie hf hc
      refine ev_aload_n C dX0_oneMore_27 rfl (q := 0) rfl ?_
      obtain ⟨x11, e12, hf⟩ := obnd hf
      refine ev_get (k := 1) C ok_1 dX0_oneMore_28 (by decide) kw_251 (fR_V e12) ?_
      refine ev_iload C dX0_oneMore_31 (q := 3) rfl ?_
      refine ev_aload_n C dX0_oneMore_33 rfl (q := 0) rfl ?_
      obtain ⟨x13, e14, hf⟩ := obnd hf
      refine ev_get (k := 1) C ok_1 dX0_oneMore_34 (by decide) kw_251 (fR_V e14) ?_
      refine ev_iload C dX0_oneMore_37 (q := 3) rfl ?_
      obtain ⟨x15, e16, hf⟩ := obnd hf
      refine ev_dald C dX0_oneMore_39 e16 ?_
      refine ev_dload_n C dX0_oneMore_40 rfl (q := 1) rfl ?_
      obtain ⟨x17, e18, hf⟩ := obnd hf
      obtain ⟨e18, e18q⟩ := oD_eq e18
      refine ev_dmul C dX0_oneMore_41 e18 ?_
      rw [← e18q]
      refine ev_aload_n C dX0_oneMore_42 rfl (q := 0) rfl ?_
      obtain ⟨x19, e20, hf⟩ := obnd hf
      refine ev_get (k := 1) C ok_1 dX0_oneMore_43 (by decide) kw_251 (fR_V e20) ?_
      refine ev_iload C dX0_oneMore_46 (q := 3) rfl ?_
      refine ev_iconst (v := 1) C dX0_oneMore_48 (by decide) ?_
      refine ev_isub C dX0_oneMore_49 ?_
      obtain ⟨x21, e22, hf⟩ := obnd hf
      refine ev_dald C dX0_oneMore_50 e22 ?_
      refine ev_dload C dX0_oneMore_51 (q := 2) rfl ?_
      obtain ⟨x23, e24, hf⟩ := obnd hf
      obtain ⟨e24, e24q⟩ := oD_eq e24
      refine ev_dmul C dX0_oneMore_53 e24 ?_
      rw [← e24q]
      obtain ⟨x25, e26, hf⟩ := obnd hf
      obtain ⟨e26, e26q⟩ := oD_eq e26
      refine ev_dadd C dX0_oneMore_54 e26 ?_
      rw [← e26q]
      obtain ⟨M27, e28, hf⟩ := obnd hf
      refine ev_dast C dX0_oneMore_55 e28 ?_
      refine ev_iinc (v := i6 + (-1)) (l' := [(6, .int (i6 + (-1))), (0, .ref a0), (2, .double d2), (4, .double d4)]) C dX0_oneMore_56 (q := 3) rfl rfl (by decide) rfl ?_
      refine ev_goto (tgt := 22) C dX0_oneMore_59 (by decide) ?_
      refine ev_sub [1, 2, 3, 0] rfl ?_
      exact ih a0 d2 d4 (i6 + (-1)) M27 hf
def m_X0_oneMore (N : Nat) (a0 : Nat) (i1 : Int32) (d2 : UInt64) (d4 : UInt64) (M : mM) : Option (mM) :=
  (fR M a0 1 1).bind fun x1 =>
  (fR M a0 1 1).bind fun x3 =>
  (aD M x3 (i1 - 1)).bind fun x5 =>
  (oD (FP.dmul x5 d4)).bind fun x7 =>
  (uD M x1 i1 x7).bind fun M9 =>
  m_X0_oneMore_L22 N  N a0 d2 d4 (i1 - 1) M9
set_option maxHeartbeats 4000000 in
set_option maxRecDepth 100000 in
theorem t_X0_oneMore {L0 : Launch} {M : mM} {N : Nat} {a0 : Nat} {i1 : Int32} {d2 : UInt64} {d4 : UInt64} {res : mM} (hf : m_X0_oneMore N a0 i1 d2 d4 M = some res) : CT L0 yX0_oneMore prog_2_method_5_code 7 none 0 0 0 0 [.ref a0, .int i1, .double d2, .double d4] M none res := by
  refine CT.of (by decide +kernel) (Nat.le_of_ble_eq_true rfl) fun X C E => ?_
  have C : CX X RX0 "oneMore" prog_2_method_5_code 7 none := C
  show EV X 7 0 [(0, .ref a0), (1, .int i1), (2, .double d2), (4, .double d4)] [] 0 0 M
  unfold m_X0_oneMore at hf
  refine ev_aload_n C dX0_oneMore_0 rfl (q := 0) rfl ?_
  obtain ⟨x1, e2, hf⟩ := obnd hf
  refine ev_get (k := 1) C ok_1 dX0_oneMore_1 (by decide) kw_251 (fR_V e2) ?_
  refine ev_iload_n C dX0_oneMore_4 rfl (q := 1) rfl ?_
  refine ev_aload_n C dX0_oneMore_5 rfl (q := 0) rfl ?_
  obtain ⟨x3, e4, hf⟩ := obnd hf
  refine ev_get (k := 1) C ok_1 dX0_oneMore_6 (by decide) kw_251 (fR_V e4) ?_
  refine ev_iload_n C dX0_oneMore_9 rfl (q := 1) rfl ?_
  refine ev_iconst (v := 1) C dX0_oneMore_10 (by decide) ?_
  refine ev_isub C dX0_oneMore_11 ?_
  obtain ⟨x5, e6, hf⟩ := obnd hf
  refine ev_dald C dX0_oneMore_12 e6 ?_
  refine ev_dload C dX0_oneMore_13 (q := 3) rfl ?_
  obtain ⟨x7, e8, hf⟩ := obnd hf
  obtain ⟨e8, e8q⟩ := oD_eq e8
  refine ev_dmul C dX0_oneMore_15 e8 ?_
  rw [← e8q]
  obtain ⟨M9, e10, hf⟩ := obnd hf
  refine ev_dast C dX0_oneMore_16 e10 ?_
  refine ev_iload_n C dX0_oneMore_17 rfl (q := 1) rfl ?_
  refine ev_iconst (v := 1) C dX0_oneMore_18 (by decide) ?_
  refine ev_isub C dX0_oneMore_19 ?_
  refine ev_istore (l' := [(6, .int (i1 - 1)), (0, .ref a0), (1, .int i1), (2, .double d2), (4, .double d4)]) C dX0_oneMore_20 (by decide) rfl ?_
  refine ev_sub [1, 3, 4, 0] rfl ?_
  exact t_X0_oneMore_L22 C E   N a0 d2 d4 (i1 - 1) M9 hf
/-! FareLimits$Chances ofShowing(II)[D -/
theorem dX0_ofShowing_0 : decode prog_2_method_2_code 0 = .ok (.aload_n 0, 1) := by decide +kernel
theorem dX0_ofShowing_1 : decode prog_2_method_2_code 1 = .ok (.getfield 15, 3) := by decide +kernel
theorem dX0_ofShowing_4 : decode prog_2_method_2_code 4 = .ok (.iload_n 1, 1) := by decide +kernel
theorem dX0_ofShowing_5 : decode prog_2_method_2_code 5 = .ok (.invokevirtual 19, 3) := by decide +kernel
theorem dX0_ofShowing_8 : decode prog_2_method_2_code 8 = .ok (.dstore_n 3, 1) := by decide +kernel
theorem dX0_ofShowing_9 : decode prog_2_method_2_code 9 = .ok (.aload_n 0, 1) := by decide +kernel
theorem dX0_ofShowing_10 : decode prog_2_method_2_code 10 = .ok (.invokevirtual 25, 3) := by decide +kernel
theorem dX0_ofShowing_13 : decode prog_2_method_2_code 13 = .ok (.iconst 1, 1) := by decide +kernel
theorem dX0_ofShowing_14 : decode prog_2_method_2_code 14 = .ok (.istore 5, 2) := by decide +kernel
theorem dX0_ofShowing_16 : decode prog_2_method_2_code 16 = .ok (.iload 5, 2) := by decide +kernel
theorem dX0_ofShowing_18 : decode prog_2_method_2_code 18 = .ok (.iload_n 2, 1) := by decide +kernel
theorem dX0_ofShowing_19 : decode prog_2_method_2_code 19 = .ok (.if_icmp .gt 19, 3) := by decide +kernel
theorem dX0_ofShowing_22 : decode prog_2_method_2_code 22 = .ok (.aload_n 0, 1) := by decide +kernel
theorem dX0_ofShowing_23 : decode prog_2_method_2_code 23 = .ok (.iload 5, 2) := by decide +kernel
theorem dX0_ofShowing_25 : decode prog_2_method_2_code 25 = .ok (.dconst 1, 1) := by decide +kernel
theorem dX0_ofShowing_26 : decode prog_2_method_2_code 26 = .ok (.dload_n 3, 1) := by decide +kernel
theorem dX0_ofShowing_27 : decode prog_2_method_2_code 27 = .ok (.dsub, 1) := by decide +kernel
theorem dX0_ofShowing_28 : decode prog_2_method_2_code 28 = .ok (.dload_n 3, 1) := by decide +kernel
theorem dX0_ofShowing_29 : decode prog_2_method_2_code 29 = .ok (.invokevirtual 28, 3) := by decide +kernel
theorem dX0_ofShowing_32 : decode prog_2_method_2_code 32 = .ok (.iinc 5 1, 3) := by decide +kernel
theorem dX0_ofShowing_35 : decode prog_2_method_2_code 35 = .ok (.goto (-19), 3) := by decide +kernel
theorem dX0_ofShowing_38 : decode prog_2_method_2_code 38 = .ok (.aload_n 0, 1) := by decide +kernel
theorem dX0_ofShowing_39 : decode prog_2_method_2_code 39 = .ok (.getfield 9, 3) := by decide +kernel
theorem dX0_ofShowing_42 : decode prog_2_method_2_code 42 = .ok (.areturn, 1) := by decide +kernel
def m_X0_ofShowing_L16 (N : Nat)  : Nat → Nat → Int32 → UInt64 → Int32 → mM → Option (Nat × mM)
  | 0, _, _, _, _, _ => none
  | n + 1, a0, i2, d3, i5, M =>
    if i2 < i5 then (
      (fR M a0 1 1).bind fun x1 =>
      some (x1, M)) else (
      (oD (FP.dsub FP.dconst1 d3)).bind fun x3 =>
      (oO M a0 1).bind fun _ =>
      (m_X0_oneMore N a0 i5 x3 d3 M).bind fun x7 =>
      (m_X0_ofShowing_L16 N  n) a0 i2 d3 (i5 + 1) x7)
set_option maxHeartbeats 4000000 in
set_option maxRecDepth 100000 in
theorem t_X0_ofShowing_L16 {X : mX} {L0 : Launch} {res : Nat × mM} {N : Nat} (C : CX X RX0 "ofShowing" prog_2_method_2_code 6 (some (.array .double))) (E : EX X L0 2 44 0 0 (some (.ref res.1)) res.2)   : ∀ (n : Nat) (a0 : Nat) (i2 : Int32) (d3 : UInt64) (i5 : Int32) (M : mM), m_X0_ofShowing_L16 N  n a0 i2 d3 i5 M = some res → EV X 6 16 [(0, .ref a0), (2, .int i2), (3, .double d3), (5, .int i5)] [] 0 0 M := by
  intro n
  induction n with
  | zero => intro a0 i2 d3 i5 M hf; cases (show (none : Option (Nat × mM)) = some res from hf)
  | succ n ih =>
    intro a0 i2 d3 i5 M hf
    rw [m_X0_ofShowing_L16] at hf
    refine ev_iload C dX0_ofShowing_16 (q := 3) rfl ?_
    refine ev_iload_n C dX0_ofShowing_18 rfl (q := 1) rfl ?_
    refine ev_icmp_gt (tgt := 38) C dX0_ofShowing_19 (by decide) (fun hc => ?_) (fun hc => ?_)
    · have hf := oit hf hc
      refine ev_aload_n C dX0_ofShowing_38 rfl (q := 0) rfl ?_
      obtain ⟨x1, e2, hf⟩ := obnd hf
      refine ev_get (k := 1) C ok_1 dX0_ofShowing_39 (by decide) kw_251 (fR_V e2) ?_
      obtain rfl := Option.some.inj hf
      exact ev_aret C (by first | exact Or.inl ⟨_, rfl⟩ | exact Or.inr ⟨_, rfl⟩) E (Nat.le_refl 0) (Nat.le_refl 0) dX0_ofShowing_42
    · have hf := oie hf hc
      refine ev_aload_n C dX0_ofShowing_22 rfl (q := 0) rfl ?_
      refine ev_iload C dX0_ofShowing_23 (q := 3) rfl ?_
      refine ev_dconst1 C dX0_ofShowing_25 ?_
      refine ev_dload_n C dX0_ofShowing_26 rfl (q := 2) rfl ?_
      obtain ⟨x3, e4, hf⟩ := obnd hf
      obtain ⟨e4, e4q⟩ := oD_eq e4
      refine ev_dsub C dX0_ofShowing_27 e4 ?_
      rw [← e4q]
      refine ev_dload_n C dX0_ofShowing_28 rfl (q := 2) rfl ?_
      obtain ⟨_, e5, hf⟩ := obnd hf
      obtain ⟨fs6, e5⟩ := oO_eq e5
      obtain ⟨x7, e8, hf⟩ := obnd hf
      refine ev_callV0 (As := [.int i5, .double x3, .double d3]) (st := []) C rfl e5 (t_X0_oneMore e8) rfl hd_X0_oneMore rfl kw_609 kw_611 kw_78 kw_4 kw_612 (mRoom.of E (Nat.le_of_ble_eq_true rfl) (Nat.le_of_ble_eq_true rfl) (Nat.le_refl 0) (Nat.le_refl 0)) (Nat.le_of_ble_eq_true rfl) dX0_ofShowing_29 ?_
      refine ev_iinc (v := i5 + 1) (l' := [(5, .int (i5 + 1)), (0, .ref a0), (2, .int i2), (3, .double d3)]) C dX0_ofShowing_32 (q := 3) rfl rfl (by decide) rfl ?_
      refine ev_goto (tgt := 16) C dX0_ofShowing_35 (by decide) ?_
      refine ev_sub [1, 2, 3, 0] rfl ?_
      exact ih a0 i2 d3 (i5 + 1) x7 hf
def m_X0_ofShowing (N : Nat) (a0 : Nat) (i1 : Int32) (i2 : Int32) (M : mM) : Option (Nat × mM) :=
  (fR M a0 1 0).bind fun x1 =>
  (oO M x1 5).bind fun _ =>
  (m_X5_showing N x1 i1 M).bind fun x5 =>
  (oO M a0 1).bind fun _ =>
  (m_X0_begin N a0 M).bind fun x9 =>
  m_X0_ofShowing_L16 N  N a0 i2 x5 1 x9
set_option maxHeartbeats 4000000 in
set_option maxRecDepth 100000 in
theorem t_X0_ofShowing {L0 : Launch} {M : mM} {N : Nat} {a0 : Nat} {i1 : Int32} {i2 : Int32} {res : Nat × mM} (hf : m_X0_ofShowing N a0 i1 i2 M = some res) : CT L0 yX0_ofShowing prog_2_method_2_code 6 (some (.array .double)) 2 44 0 0 [.ref a0, .int i1, .int i2] M (some (.ref res.1)) res.2 := by
  refine CT.of (by decide +kernel) (Nat.le_of_ble_eq_true rfl) fun X C E => ?_
  have C : CX X RX0 "ofShowing" prog_2_method_2_code 6 (some (.array .double)) := C
  show EV X 6 0 [(0, .ref a0), (1, .int i1), (2, .int i2)] [] 0 0 M
  unfold m_X0_ofShowing at hf
  refine ev_aload_n C dX0_ofShowing_0 rfl (q := 0) rfl ?_
  obtain ⟨x1, e2, hf⟩ := obnd hf
  refine ev_get (k := 0) C ok_1 dX0_ofShowing_1 (by decide) kw_250 (fR_V e2) ?_
  refine ev_iload_n C dX0_ofShowing_4 rfl (q := 1) rfl ?_
  obtain ⟨_, e3, hf⟩ := obnd hf
  obtain ⟨fs4, e3⟩ := oO_eq e3
  obtain ⟨x5, e6, hf⟩ := obnd hf
  refine ev_callV0 (As := [.int i1]) (st := []) C rfl e3 (t_X5_showing e6) rfl hd_X5_showing rfl kw_601 kw_482 kw_71 kw_483 kw_484 (mRoom.of E (Nat.le_of_ble_eq_true rfl) (Nat.le_of_ble_eq_true rfl) (Nat.le_refl 0) (Nat.le_refl 0)) (Nat.le_of_ble_eq_true rfl) dX0_ofShowing_5 ?_
  refine ev_dstore_n (l' := [(3, .double x5), (0, .ref a0), (1, .int i1), (2, .int i2)]) C dX0_ofShowing_8 rfl (by decide) rfl ?_
  refine ev_aload_n C dX0_ofShowing_9 rfl (q := 1) rfl ?_
  obtain ⟨_, e7, hf⟩ := obnd hf
  obtain ⟨fs8, e7⟩ := oO_eq e7
  obtain ⟨x9, e10, hf⟩ := obnd hf
  refine ev_callV0 (As := []) (st := []) C rfl e7 (t_X0_begin e10) rfl hd_X0_begin rfl kw_602 kw_604 kw_78 kw_3 kw_605 (mRoom.of E (Nat.le_of_ble_eq_true rfl) (Nat.le_of_ble_eq_true rfl) (Nat.le_refl 0) (Nat.le_refl 0)) (Nat.le_of_ble_eq_true rfl) dX0_ofShowing_10 ?_
  refine ev_iconst (v := 1) C dX0_ofShowing_13 (by decide) ?_
  refine ev_istore (l' := [(5, .int 1), (3, .double x5), (0, .ref a0), (1, .int i1), (2, .int i2)]) C dX0_ofShowing_14 (by decide) rfl ?_
  refine ev_sub [2, 4, 1, 0] rfl ?_
  exact t_X0_ofShowing_L16 C E   N a0 i2 x5 1 x9 hf
/-! FareLimits chance(III)J -/
theorem dX11_chance_0 : decode prog_1_method_17_code 0 = .ok (.iload_n 1, 1) := by decide +kernel
theorem dX11_chance_1 : decode prog_1_method_17_code 1 = .ok (.bipush 20, 2) := by decide +kernel
theorem dX11_chance_3 : decode prog_1_method_17_code 3 = .ok (.invokestatic 91, 3) := by decide +kernel
theorem dX11_chance_6 : decode prog_1_method_17_code 6 = .ok (.ifCond .eq 21, 3) := by decide +kernel
theorem dX11_chance_9 : decode prog_1_method_17_code 9 = .ok (.iload_n 2, 1) := by decide +kernel
theorem dX11_chance_10 : decode prog_1_method_17_code 10 = .ok (.bipush 40, 2) := by decide +kernel
theorem dX11_chance_12 : decode prog_1_method_17_code 12 = .ok (.invokestatic 91, 3) := by decide +kernel
theorem dX11_chance_15 : decode prog_1_method_17_code 15 = .ok (.ifCond .eq 12, 3) := by decide +kernel
theorem dX11_chance_18 : decode prog_1_method_17_code 18 = .ok (.iload_n 3, 1) := by decide +kernel
theorem dX11_chance_19 : decode prog_1_method_17_code 19 = .ok (.bipush 40, 2) := by decide +kernel
theorem dX11_chance_21 : decode prog_1_method_17_code 21 = .ok (.invokestatic 91, 3) := by decide +kernel
theorem dX11_chance_24 : decode prog_1_method_17_code 24 = .ok (.ifCond .ne 7, 3) := by decide +kernel
theorem dX11_chance_27 : decode prog_1_method_17_code 27 = .ok (.ldc2_w 152, 3) := by decide +kernel
theorem dX11_chance_30 : decode prog_1_method_17_code 30 = .ok (.lreturn, 1) := by decide +kernel
theorem dX11_chance_31 : decode prog_1_method_17_code 31 = .ok (.aload_n 0, 1) := by decide +kernel
theorem dX11_chance_32 : decode prog_1_method_17_code 32 = .ok (.getfield 38, 3) := by decide +kernel
theorem dX11_chance_35 : decode prog_1_method_17_code 35 = .ok (.iload_n 1, 1) := by decide +kernel
theorem dX11_chance_36 : decode prog_1_method_17_code 36 = .ok (.iload_n 2, 1) := by decide +kernel
theorem dX11_chance_37 : decode prog_1_method_17_code 37 = .ok (.invokevirtual 181, 3) := by decide +kernel
theorem dX11_chance_40 : decode prog_1_method_17_code 40 = .ok (.iload_n 3, 1) := by decide +kernel
theorem dX11_chance_41 : decode prog_1_method_17_code 41 = .ok (.daload, 1) := by decide +kernel
theorem dX11_chance_42 : decode prog_1_method_17_code 42 = .ok (.invokestatic 148, 3) := by decide +kernel
theorem dX11_chance_45 : decode prog_1_method_17_code 45 = .ok (.lreturn, 1) := by decide +kernel
def m_X11_chance (N : Nat) (a0 : Nat) (i1 : Int32) (i2 : Int32) (i3 : Int32) (M : mM) : Option (Int64 × mM) :=
  (m_X11_within i1 20).bind fun x1 =>
  if x1 = 0 then (
    some ((-9223372036854775808), M)) else (
    (m_X11_within i2 40).bind fun x3 =>
    if x3 = 0 then (
      some ((-9223372036854775808), M)) else (
      (m_X11_within i3 40).bind fun x5 =>
      if x5 = 0 then (
        some ((-9223372036854775808), M)) else (
        (fR M a0 11 5).bind fun x7 =>
        (oO M x7 1).bind fun _ =>
        (m_X0_ofShowing N x7 i1 i2 M).bind fun x11 =>
        (aD x11.2 x11.1 i3).bind fun x13 =>
        (m_X9_bitsOfDouble N x13).bind fun x15 =>
        some (x15, x11.2))))
set_option maxHeartbeats 4000000 in
set_option maxRecDepth 100000 in
theorem t_X11_chance {L0 : Launch} {M : mM} {N : Nat} {a0 : Nat} {i1 : Int32} {i2 : Int32} {i3 : Int32} {res : Int64 × mM} (hf : m_X11_chance N a0 i1 i2 i3 M = some res) : CT L0 yX11_chance prog_1_method_17_code 4 (some .long) 3 69 0 0 [.ref a0, .int i1, .int i2, .int i3] M (some (.long res.1)) res.2 := by
  refine CT.of (by decide +kernel) (Nat.le_of_ble_eq_true rfl) fun X C E => ?_
  have C : CX X RX11 "chance" prog_1_method_17_code 4 (some .long) := C
  show EV X 4 0 [(0, .ref a0), (1, .int i1), (2, .int i2), (3, .int i3)] [] 0 0 M
  unfold m_X11_chance at hf
  refine ev_iload_n C dX11_chance_0 rfl (q := 1) rfl ?_
  refine ev_bipush (v := 20) C dX11_chance_1 (by decide) ?_
  obtain ⟨x1, e2, hf⟩ := obnd hf
  refine ev_callS0 (As := [.int i1, .int 20]) (st := []) C (t_X11_within e2) hd_X11_within rfl kw_435 kw_436 kw_70 kw_437 (mRoom.of E (Nat.le_of_ble_eq_true rfl) (Nat.le_of_ble_eq_true rfl) (Nat.le_refl 0) (Nat.le_refl 0)) (Nat.le_of_ble_eq_true rfl) dX11_chance_3 ?_
  refine ev_if_eq (tgt := 27) C dX11_chance_6 (by decide) (fun hc => ?_) (fun hc => ?_)
  · have hf := oit hf hc
    refine ev_ldc2 (v := (-9223372036854775808)) C dX11_chance_27 kw_493 ?_
    obtain rfl := Option.some.inj hf
    exact ev_lret C E (Nat.le_refl 0) (Nat.le_refl 0) dX11_chance_30
  · have hf := oie hf hc
    refine ev_iload_n C dX11_chance_9 rfl (q := 2) rfl ?_
    refine ev_bipush (v := 40) C dX11_chance_10 (by decide) ?_
    obtain ⟨x3, e4, hf⟩ := obnd hf
    refine ev_callS0 (As := [.int i2, .int 40]) (st := []) C (t_X11_within e4) hd_X11_within rfl kw_435 kw_436 kw_70 kw_437 (mRoom.of E (Nat.le_of_ble_eq_true rfl) (Nat.le_of_ble_eq_true rfl) (Nat.le_refl 0) (Nat.le_refl 0)) (Nat.le_of_ble_eq_true rfl) dX11_chance_12 ?_
    refine ev_if_eq (tgt := 27) C dX11_chance_15 (by decide) (fun hc => ?_) (fun hc => ?_)
    · have hf := oit hf hc
      refine ev_ldc2 (v := (-9223372036854775808)) C dX11_chance_27 kw_493 ?_
      obtain rfl := Option.some.inj hf
      exact ev_lret C E (Nat.le_refl 0) (Nat.le_refl 0) dX11_chance_30
    · have hf := oie hf hc
      refine ev_iload_n C dX11_chance_18 rfl (q := 3) rfl ?_
      refine ev_bipush (v := 40) C dX11_chance_19 (by decide) ?_
      obtain ⟨x5, e6, hf⟩ := obnd hf
      refine ev_callS0 (As := [.int i3, .int 40]) (st := []) C (t_X11_within e6) hd_X11_within rfl kw_435 kw_436 kw_70 kw_437 (mRoom.of E (Nat.le_of_ble_eq_true rfl) (Nat.le_of_ble_eq_true rfl) (Nat.le_refl 0) (Nat.le_refl 0)) (Nat.le_of_ble_eq_true rfl) dX11_chance_21 ?_
      refine ev_if_ne (tgt := 31) C dX11_chance_24 (by decide) (fun hc => ?_) (fun hc => ?_)
      · have hf := oie hf hc
        refine ev_aload_n C dX11_chance_31 rfl (q := 0) rfl ?_
        obtain ⟨x7, e8, hf⟩ := obnd hf
        refine ev_get (k := 5) C ok_11 dX11_chance_32 (by decide) kw_397 (fR_V e8) ?_
        refine ev_iload_n C dX11_chance_35 rfl (q := 1) rfl ?_
        refine ev_iload_n C dX11_chance_36 rfl (q := 2) rfl ?_
        obtain ⟨_, e9, hf⟩ := obnd hf
        obtain ⟨fs10, e9⟩ := oO_eq e9
        obtain ⟨x11, e12, hf⟩ := obnd hf
        refine ev_callV0 (As := [.int i1, .int i2]) (st := []) C rfl e9 (t_X0_ofShowing e12) rfl hd_X0_ofShowing rfl kw_597 kw_598 kw_78 kw_599 kw_600 (mRoom.of E (Nat.le_of_ble_eq_true rfl) (Nat.le_of_ble_eq_true rfl) (Nat.le_refl 0) (Nat.le_refl 0)) (Nat.le_of_ble_eq_true rfl) dX11_chance_37 ?_
        refine ev_iload_n C dX11_chance_40 rfl (q := 3) rfl ?_
        obtain ⟨x13, e14, hf⟩ := obnd hf
        refine ev_dald C dX11_chance_41 e14 ?_
        obtain ⟨x15, e16, hf⟩ := obnd hf
        refine ev_callS0 (As := [.double x13]) (st := []) C (t_X9_bitsOfDouble e16) hd_X9_bitsOfDouble rfl kw_486 kw_487 kw_77 kw_488 (mRoom.of E (Nat.le_of_ble_eq_true rfl) (Nat.le_of_ble_eq_true rfl) (Nat.le_refl 0) (Nat.le_refl 0)) (Nat.le_of_ble_eq_true rfl) dX11_chance_42 ?_
        obtain rfl := Option.some.inj hf
        exact ev_lret C E (Nat.le_refl 0) (Nat.le_refl 0) dX11_chance_45
      · have hf := oit hf hc
        refine ev_ldc2 (v := (-9223372036854775808)) C dX11_chance_27 kw_493 ?_
        obtain rfl := Option.some.inj hf
        exact ev_lret C E (Nat.le_refl 0) (Nat.le_refl 0) dX11_chance_30
/-! FareLimits$Chances expectedAbove(II)D -/
theorem dX0_expectedAbove_0 : decode prog_2_method_6_code 0 = .ok (.dconst 0, 1) := by decide +kernel
theorem dX0_expectedAbove_1 : decode prog_2_method_6_code 1 = .ok (.dstore_n 3, 1) := by decide +kernel
theorem dX0_expectedAbove_2 : decode prog_2_method_6_code 2 = .ok (.iload_n 1, 1) := by decide +kernel
theorem dX0_expectedAbove_3 : decode prog_2_method_6_code 3 = .ok (.iconst 1, 1) := by decide +kernel
theorem dX0_expectedAbove_4 : decode prog_2_method_6_code 4 = .ok (.iadd, 1) := by decide +kernel
theorem dX0_expectedAbove_5 : decode prog_2_method_6_code 5 = .ok (.istore 5, 2) := by decide +kernel
theorem dX0_expectedAbove_7 : decode prog_2_method_6_code 7 = .ok (.iload 5, 2) := by decide +kernel
theorem dX0_expectedAbove_9 : decode prog_2_method_6_code 9 = .ok (.iload_n 2, 1) := by decide +kernel
theorem dX0_expectedAbove_10 : decode prog_2_method_6_code 10 = .ok (.if_icmp .gt 25, 3) := by decide +kernel
theorem dX0_expectedAbove_13 : decode prog_2_method_6_code 13 = .ok (.dload_n 3, 1) := by decide +kernel
theorem dX0_expectedAbove_14 : decode prog_2_method_6_code 14 = .ok (.iload 5, 2) := by decide +kernel
theorem dX0_expectedAbove_16 : decode prog_2_method_6_code 16 = .ok (.iload_n 1, 1) := by decide +kernel
theorem dX0_expectedAbove_17 : decode prog_2_method_6_code 17 = .ok (.isub, 1) := by decide +kernel
theorem dX0_expectedAbove_18 : decode prog_2_method_6_code 18 = .ok (.i2d, 1) := by decide +kernel
theorem dX0_expectedAbove_19 : decode prog_2_method_6_code 19 = .ok (.aload_n 0, 1) := by decide +kernel
theorem dX0_expectedAbove_20 : decode prog_2_method_6_code 20 = .ok (.getfield 9, 3) := by decide +kernel
theorem dX0_expectedAbove_23 : decode prog_2_method_6_code 23 = .ok (.iload 5, 2) := by decide +kernel
theorem dX0_expectedAbove_25 : decode prog_2_method_6_code 25 = .ok (.daload, 1) := by decide +kernel
theorem dX0_expectedAbove_26 : decode prog_2_method_6_code 26 = .ok (.dmul, 1) := by decide +kernel
theorem dX0_expectedAbove_27 : decode prog_2_method_6_code 27 = .ok (.dadd, 1) := by decide +kernel
theorem dX0_expectedAbove_28 : decode prog_2_method_6_code 28 = .ok (.dstore_n 3, 1) := by decide +kernel
theorem dX0_expectedAbove_29 : decode prog_2_method_6_code 29 = .ok (.iinc 5 1, 3) := by decide +kernel
theorem dX0_expectedAbove_32 : decode prog_2_method_6_code 32 = .ok (.goto (-25), 3) := by decide +kernel
theorem dX0_expectedAbove_35 : decode prog_2_method_6_code 35 = .ok (.dload_n 3, 1) := by decide +kernel
theorem dX0_expectedAbove_36 : decode prog_2_method_6_code 36 = .ok (.dreturn, 1) := by decide +kernel
def m_X0_expectedAbove_L7 (N : Nat) (M : mM)  : Nat → Nat → Int32 → Int32 → UInt64 → Int32 → Option (UInt64)
  | 0, _, _, _, _, _ => none
  | n + 1, a0, i1, i2, d3, i5 =>
    if i2 < i5 then (
      some d3) else (
      (fR M a0 1 1).bind fun x1 =>
      (aD M x1 i5).bind fun x3 =>
      (oD (FP.dmul (FP.i2d (i5 - i1)) x3)).bind fun x5 =>
      (oD (FP.dadd d3 x5)).bind fun x7 =>
      (m_X0_expectedAbove_L7 N M  n) a0 i1 i2 x7 (i5 + 1))
set_option maxHeartbeats 4000000 in
set_option maxRecDepth 100000 in
theorem t_X0_expectedAbove_L7 {X : mX} {M : mM} {L0 : Launch} {res : UInt64} {N : Nat} (C : CX X RX0 "expectedAbove" prog_2_method_6_code 6 (some .double)) (E : EX X L0 0 0 0 0 (some (.double res)) M)   : ∀ (n : Nat) (a0 : Nat) (i1 : Int32) (i2 : Int32) (d3 : UInt64) (i5 : Int32), m_X0_expectedAbove_L7 N M  n a0 i1 i2 d3 i5 = some res → EV X 6 7 [(0, .ref a0), (1, .int i1), (2, .int i2), (3, .double d3), (5, .int i5)] [] 0 0 M := by
  intro n
  induction n with
  | zero => intro a0 i1 i2 d3 i5 hf; cases (show (none : Option (UInt64)) = some res from hf)
  | succ n ih =>
    intro a0 i1 i2 d3 i5 hf
    rw [m_X0_expectedAbove_L7] at hf
    refine ev_iload C dX0_expectedAbove_7 (q := 4) rfl ?_
    refine ev_iload_n C dX0_expectedAbove_9 rfl (q := 2) rfl ?_
    refine ev_icmp_gt (tgt := 35) C dX0_expectedAbove_10 (by decide) (fun hc => ?_) (fun hc => ?_)
    · have hf := oit hf hc
      refine ev_dload_n C dX0_expectedAbove_35 rfl (q := 3) rfl ?_
      obtain rfl := Option.some.inj hf
      exact ev_dret C E (Nat.le_refl 0) (Nat.le_refl 0) dX0_expectedAbove_36
    · have hf := oie hf hc
      refine ev_dload_n C dX0_expectedAbove_13 rfl (q := 3) rfl ?_
      refine ev_iload C dX0_expectedAbove_14 (q := 4) rfl ?_
      refine ev_iload_n C dX0_expectedAbove_16 rfl (q := 1) rfl ?_
      refine ev_isub C dX0_expectedAbove_17 ?_
      refine ev_i2d C dX0_expectedAbove_18 ?_
      refine ev_aload_n C dX0_expectedAbove_19 rfl (q := 0) rfl ?_
      obtain ⟨x1, e2, hf⟩ := obnd hf
      refine ev_get (k := 1) C ok_1 dX0_expectedAbove_20 (by decide) kw_251 (fR_V e2) ?_
      refine ev_iload C dX0_expectedAbove_23 (q := 4) rfl ?_
      obtain ⟨x3, e4, hf⟩ := obnd hf
      refine ev_dald C dX0_expectedAbove_25 e4 ?_
      obtain ⟨x5, e6, hf⟩ := obnd hf
      obtain ⟨e6, e6q⟩ := oD_eq e6
      refine ev_dmul C dX0_expectedAbove_26 e6 ?_
      rw [← e6q]
      obtain ⟨x7, e8, hf⟩ := obnd hf
      obtain ⟨e8, e8q⟩ := oD_eq e8
      refine ev_dadd C dX0_expectedAbove_27 e8 ?_
      rw [← e8q]
      refine ev_dstore_n (l' := [(3, .double x7), (0, .ref a0), (1, .int i1), (2, .int i2), (5, .int i5)]) C dX0_expectedAbove_28 rfl (by decide) rfl ?_
      refine ev_iinc (v := i5 + 1) (l' := [(5, .int (i5 + 1)), (3, .double x7), (0, .ref a0), (1, .int i1), (2, .int i2)]) C dX0_expectedAbove_29 (q := 4) rfl rfl (by decide) rfl ?_
      refine ev_goto (tgt := 7) C dX0_expectedAbove_32 (by decide) ?_
      refine ev_sub [2, 3, 4, 1, 0] rfl ?_
      exact ih a0 i1 i2 x7 (i5 + 1) hf
def m_X0_expectedAbove (N : Nat) (a0 : Nat) (i1 : Int32) (i2 : Int32) (M : mM) : Option (UInt64) :=
  m_X0_expectedAbove_L7 N M  N a0 i1 i2 FP.dconst0 (i1 + 1)
set_option maxHeartbeats 4000000 in
set_option maxRecDepth 100000 in
theorem t_X0_expectedAbove {L0 : Launch} {M : mM} {N : Nat} {a0 : Nat} {i1 : Int32} {i2 : Int32} {res : UInt64} (hf : m_X0_expectedAbove N a0 i1 i2 M = some res) : CT L0 yX0_expectedAbove prog_2_method_6_code 6 (some .double) 0 0 0 0 [.ref a0, .int i1, .int i2] M (some (.double res)) M := by
  refine CT.of (by decide +kernel) (Nat.le_of_ble_eq_true rfl) fun X C E => ?_
  have C : CX X RX0 "expectedAbove" prog_2_method_6_code 6 (some .double) := C
  show EV X 6 0 [(0, .ref a0), (1, .int i1), (2, .int i2)] [] 0 0 M
  unfold m_X0_expectedAbove at hf
  refine ev_dconst0 C dX0_expectedAbove_0 ?_
  refine ev_dstore_n (l' := [(3, .double FP.dconst0), (0, .ref a0), (1, .int i1), (2, .int i2)]) C dX0_expectedAbove_1 rfl (by decide) rfl ?_
  refine ev_iload_n C dX0_expectedAbove_2 rfl (q := 2) rfl ?_
  refine ev_iconst (v := 1) C dX0_expectedAbove_3 (by decide) ?_
  refine ev_iadd C dX0_expectedAbove_4 ?_
  refine ev_istore (l' := [(5, .int (i1 + 1)), (3, .double FP.dconst0), (0, .ref a0), (1, .int i1), (2, .int i2)]) C dX0_expectedAbove_5 (by decide) rfl ?_
  refine ev_sub [2, 3, 4, 1, 0] rfl ?_
  exact t_X0_expectedAbove_L7 C E   N a0 i1 i2 FP.dconst0 (i1 + 1) hf
/-! FareLimits turned(II)J -/
theorem dX11_turned_0 : decode prog_1_method_18_code 0 = .ok (.iload_n 1, 1) := by decide +kernel
theorem dX11_turned_1 : decode prog_1_method_18_code 1 = .ok (.bipush 20, 2) := by decide +kernel
theorem dX11_turned_3 : decode prog_1_method_18_code 3 = .ok (.invokestatic 91, 3) := by decide +kernel
theorem dX11_turned_6 : decode prog_1_method_18_code 6 = .ok (.ifCond .eq 12, 3) := by decide +kernel
theorem dX11_turned_9 : decode prog_1_method_18_code 9 = .ok (.iload_n 2, 1) := by decide +kernel
theorem dX11_turned_10 : decode prog_1_method_18_code 10 = .ok (.bipush 40, 2) := by decide +kernel
theorem dX11_turned_12 : decode prog_1_method_18_code 12 = .ok (.invokestatic 91, 3) := by decide +kernel
theorem dX11_turned_15 : decode prog_1_method_18_code 15 = .ok (.ifCond .ne 7, 3) := by decide +kernel
theorem dX11_turned_18 : decode prog_1_method_18_code 18 = .ok (.ldc2_w 152, 3) := by decide +kernel
theorem dX11_turned_21 : decode prog_1_method_18_code 21 = .ok (.lreturn, 1) := by decide +kernel
theorem dX11_turned_22 : decode prog_1_method_18_code 22 = .ok (.aload_n 0, 1) := by decide +kernel
theorem dX11_turned_23 : decode prog_1_method_18_code 23 = .ok (.getfield 38, 3) := by decide +kernel
theorem dX11_turned_26 : decode prog_1_method_18_code 26 = .ok (.iload_n 1, 1) := by decide +kernel
theorem dX11_turned_27 : decode prog_1_method_18_code 27 = .ok (.iload_n 2, 1) := by decide +kernel
theorem dX11_turned_28 : decode prog_1_method_18_code 28 = .ok (.invokevirtual 181, 3) := by decide +kernel
theorem dX11_turned_31 : decode prog_1_method_18_code 31 = .ok (.pop, 1) := by decide +kernel
theorem dX11_turned_32 : decode prog_1_method_18_code 32 = .ok (.aload_n 0, 1) := by decide +kernel
theorem dX11_turned_33 : decode prog_1_method_18_code 33 = .ok (.getfield 38, 3) := by decide +kernel
theorem dX11_turned_36 : decode prog_1_method_18_code 36 = .ok (.aload_n 0, 1) := by decide +kernel
theorem dX11_turned_37 : decode prog_1_method_18_code 37 = .ok (.getfield 12, 3) := by decide +kernel
theorem dX11_turned_40 : decode prog_1_method_18_code 40 = .ok (.getfield 138, 3) := by decide +kernel
theorem dX11_turned_43 : decode prog_1_method_18_code 43 = .ok (.iconst 0, 1) := by decide +kernel
theorem dX11_turned_44 : decode prog_1_method_18_code 44 = .ok (.iaload, 1) := by decide +kernel
theorem dX11_turned_45 : decode prog_1_method_18_code 45 = .ok (.iload_n 2, 1) := by decide +kernel
theorem dX11_turned_46 : decode prog_1_method_18_code 46 = .ok (.invokevirtual 185, 3) := by decide +kernel
theorem dX11_turned_49 : decode prog_1_method_18_code 49 = .ok (.invokestatic 148, 3) := by decide +kernel
theorem dX11_turned_52 : decode prog_1_method_18_code 52 = .ok (.lreturn, 1) := by decide +kernel
def m_X11_turned (N : Nat) (a0 : Nat) (i1 : Int32) (i2 : Int32) (M : mM) : Option (Int64 × mM) :=
  (m_X11_within i1 20).bind fun x1 =>
  if x1 = 0 then (
    some ((-9223372036854775808), M)) else (
    (m_X11_within i2 40).bind fun x3 =>
    if x3 = 0 then (
      some ((-9223372036854775808), M)) else (
      (fR M a0 11 5).bind fun x5 =>
      (oO M x5 1).bind fun _ =>
      (m_X0_ofShowing N x5 i1 i2 M).bind fun x9 =>
      (fR x9.2 a0 11 5).bind fun x11 =>
      (fR x9.2 a0 11 0).bind fun x13 =>
      (fR x9.2 x13 5 2).bind fun x15 =>
      (aI 0 x9.2 x15 0).bind fun x17 =>
      (oO x9.2 x11 1).bind fun _ =>
      (m_X0_expectedAbove N x11 x17 i2 x9.2).bind fun x21 =>
      (m_X9_bitsOfDouble N x21).bind fun x23 =>
      some (x23, x9.2)))
set_option maxHeartbeats 4000000 in
set_option maxRecDepth 100000 in
theorem t_X11_turned {L0 : Launch} {M : mM} {N : Nat} {a0 : Nat} {i1 : Int32} {i2 : Int32} {res : Int64 × mM} (hf : m_X11_turned N a0 i1 i2 M = some res) : CT L0 yX11_turned prog_1_method_18_code 3 (some .long) 3 69 0 0 [.ref a0, .int i1, .int i2] M (some (.long res.1)) res.2 := by
  refine CT.of (by decide +kernel) (Nat.le_of_ble_eq_true rfl) fun X C E => ?_
  have C : CX X RX11 "turned" prog_1_method_18_code 3 (some .long) := C
  show EV X 3 0 [(0, .ref a0), (1, .int i1), (2, .int i2)] [] 0 0 M
  unfold m_X11_turned at hf
  refine ev_iload_n C dX11_turned_0 rfl (q := 1) rfl ?_
  refine ev_bipush (v := 20) C dX11_turned_1 (by decide) ?_
  obtain ⟨x1, e2, hf⟩ := obnd hf
  refine ev_callS0 (As := [.int i1, .int 20]) (st := []) C (t_X11_within e2) hd_X11_within rfl kw_435 kw_436 kw_70 kw_437 (mRoom.of E (Nat.le_of_ble_eq_true rfl) (Nat.le_of_ble_eq_true rfl) (Nat.le_refl 0) (Nat.le_refl 0)) (Nat.le_of_ble_eq_true rfl) dX11_turned_3 ?_
  refine ev_if_eq (tgt := 18) C dX11_turned_6 (by decide) (fun hc => ?_) (fun hc => ?_)
  · have hf := oit hf hc
    refine ev_ldc2 (v := (-9223372036854775808)) C dX11_turned_18 kw_493 ?_
    obtain rfl := Option.some.inj hf
    exact ev_lret C E (Nat.le_refl 0) (Nat.le_refl 0) dX11_turned_21
  · have hf := oie hf hc
    refine ev_iload_n C dX11_turned_9 rfl (q := 2) rfl ?_
    refine ev_bipush (v := 40) C dX11_turned_10 (by decide) ?_
    obtain ⟨x3, e4, hf⟩ := obnd hf
    refine ev_callS0 (As := [.int i2, .int 40]) (st := []) C (t_X11_within e4) hd_X11_within rfl kw_435 kw_436 kw_70 kw_437 (mRoom.of E (Nat.le_of_ble_eq_true rfl) (Nat.le_of_ble_eq_true rfl) (Nat.le_refl 0) (Nat.le_refl 0)) (Nat.le_of_ble_eq_true rfl) dX11_turned_12 ?_
    refine ev_if_ne (tgt := 22) C dX11_turned_15 (by decide) (fun hc => ?_) (fun hc => ?_)
    · have hf := oie hf hc
      refine ev_aload_n C dX11_turned_22 rfl (q := 0) rfl ?_
      obtain ⟨x5, e6, hf⟩ := obnd hf
      refine ev_get (k := 5) C ok_11 dX11_turned_23 (by decide) kw_397 (fR_V e6) ?_
      refine ev_iload_n C dX11_turned_26 rfl (q := 1) rfl ?_
      refine ev_iload_n C dX11_turned_27 rfl (q := 2) rfl ?_
      obtain ⟨_, e7, hf⟩ := obnd hf
      obtain ⟨fs8, e7⟩ := oO_eq e7
      obtain ⟨x9, e10, hf⟩ := obnd hf
      refine ev_callV0 (As := [.int i1, .int i2]) (st := []) C rfl e7 (t_X0_ofShowing e10) rfl hd_X0_ofShowing rfl kw_597 kw_598 kw_78 kw_599 kw_600 (mRoom.of E (Nat.le_of_ble_eq_true rfl) (Nat.le_of_ble_eq_true rfl) (Nat.le_refl 0) (Nat.le_refl 0)) (Nat.le_of_ble_eq_true rfl) dX11_turned_28 ?_
      refine ev_pop C dX11_turned_31 rfl ?_
      refine ev_aload_n C dX11_turned_32 rfl (q := 0) rfl ?_
      obtain ⟨x11, e12, hf⟩ := obnd hf
      refine ev_get (k := 5) C ok_11 dX11_turned_33 (by decide) kw_397 (fR_V e12) ?_
      refine ev_aload_n C dX11_turned_36 rfl (q := 0) rfl ?_
      obtain ⟨x13, e14, hf⟩ := obnd hf
      refine ev_get (k := 0) C ok_11 dX11_turned_37 (by decide) kw_392 (fR_V e14) ?_
      obtain ⟨x15, e16, hf⟩ := obnd hf
      refine ev_get (k := 2) C ok_5 dX11_turned_40 (by decide) kw_190 (fR_V e16) ?_
      refine ev_iconst (v := 0) C dX11_turned_43 (by decide) ?_
      obtain ⟨x17, e18, hf⟩ := obnd hf
      refine ev_iald C dX11_turned_44 e18 ?_
      refine ev_iload_n C dX11_turned_45 rfl (q := 2) rfl ?_
      obtain ⟨_, e19, hf⟩ := obnd hf
      obtain ⟨fs20, e19⟩ := oO_eq e19
      obtain ⟨x21, e22, hf⟩ := obnd hf
      refine ev_callV0 (As := [.int x17, .int i2]) (st := []) C rfl e19 (t_X0_expectedAbove e22) rfl hd_X0_expectedAbove rfl kw_617 kw_618 kw_78 kw_619 kw_620 (mRoom.of E (Nat.le_of_ble_eq_true rfl) (Nat.le_of_ble_eq_true rfl) (Nat.le_refl 0) (Nat.le_refl 0)) (Nat.le_of_ble_eq_true rfl) dX11_turned_46 ?_
      obtain ⟨x23, e24, hf⟩ := obnd hf
      refine ev_callS0 (As := [.double x21]) (st := []) C (t_X9_bitsOfDouble e24) hd_X9_bitsOfDouble rfl kw_486 kw_487 kw_77 kw_488 (mRoom.of E (Nat.le_of_ble_eq_true rfl) (Nat.le_of_ble_eq_true rfl) (Nat.le_refl 0) (Nat.le_refl 0)) (Nat.le_of_ble_eq_true rfl) dX11_turned_49 ?_
      obtain rfl := Option.some.inj hf
      exact ev_lret C E (Nat.le_refl 0) (Nat.le_refl 0) dX11_turned_52
    · have hf := oit hf hc
      refine ev_ldc2 (v := (-9223372036854775808)) C dX11_turned_18 kw_493 ?_
      obtain rfl := Option.some.inj hf
      exact ev_lret C E (Nat.le_refl 0) (Nat.le_refl 0) dX11_turned_21
/-! FareLimits$Chances takings(II)D -/
theorem dX0_takings_0 : decode prog_2_method_7_code 0 = .ok (.aload_n 0, 1) := by decide +kernel
theorem dX0_takings_1 : decode prog_2_method_7_code 1 = .ok (.getfield 15, 3) := by decide +kernel
theorem dX0_takings_4 : decode prog_2_method_7_code 4 = .ok (.getfield 54, 3) := by decide +kernel
theorem dX0_takings_7 : decode prog_2_method_7_code 7 = .ok (.iconst 0, 1) := by decide +kernel
theorem dX0_takings_8 : decode prog_2_method_7_code 8 = .ok (.iaload, 1) := by decide +kernel
theorem dX0_takings_9 : decode prog_2_method_7_code 9 = .ok (.istore_n 3, 1) := by decide +kernel
theorem dX0_takings_10 : decode prog_2_method_7_code 10 = .ok (.dconst 0, 1) := by decide +kernel
theorem dX0_takings_11 : decode prog_2_method_7_code 11 = .ok (.dstore 4, 2) := by decide +kernel
theorem dX0_takings_13 : decode prog_2_method_7_code 13 = .ok (.iconst 0, 1) := by decide +kernel
theorem dX0_takings_14 : decode prog_2_method_7_code 14 = .ok (.istore 6, 2) := by decide +kernel
theorem dX0_takings_16 : decode prog_2_method_7_code 16 = .ok (.iload 6, 2) := by decide +kernel
theorem dX0_takings_18 : decode prog_2_method_7_code 18 = .ok (.iload_n 2, 1) := by decide +kernel
theorem dX0_takings_19 : decode prog_2_method_7_code 19 = .ok (.if_icmp .gt 29, 3) := by decide +kernel
theorem dX0_takings_22 : decode prog_2_method_7_code 22 = .ok (.dload 4, 2) := by decide +kernel
theorem dX0_takings_24 : decode prog_2_method_7_code 24 = .ok (.iload 6, 2) := by decide +kernel
theorem dX0_takings_26 : decode prog_2_method_7_code 26 = .ok (.iload_n 3, 1) := by decide +kernel
theorem dX0_takings_27 : decode prog_2_method_7_code 27 = .ok (.invokestatic 57, 3) := by decide +kernel
theorem dX0_takings_30 : decode prog_2_method_7_code 30 = .ok (.i2d, 1) := by decide +kernel
theorem dX0_takings_31 : decode prog_2_method_7_code 31 = .ok (.aload_n 0, 1) := by decide +kernel
theorem dX0_takings_32 : decode prog_2_method_7_code 32 = .ok (.getfield 9, 3) := by decide +kernel
theorem dX0_takings_35 : decode prog_2_method_7_code 35 = .ok (.iload 6, 2) := by decide +kernel
theorem dX0_takings_37 : decode prog_2_method_7_code 37 = .ok (.daload, 1) := by decide +kernel
theorem dX0_takings_38 : decode prog_2_method_7_code 38 = .ok (.dmul, 1) := by decide +kernel
theorem dX0_takings_39 : decode prog_2_method_7_code 39 = .ok (.dadd, 1) := by decide +kernel
theorem dX0_takings_40 : decode prog_2_method_7_code 40 = .ok (.dstore 4, 2) := by decide +kernel
theorem dX0_takings_42 : decode prog_2_method_7_code 42 = .ok (.iinc 6 1, 3) := by decide +kernel
theorem dX0_takings_45 : decode prog_2_method_7_code 45 = .ok (.goto (-29), 3) := by decide +kernel
theorem dX0_takings_48 : decode prog_2_method_7_code 48 = .ok (.dload 4, 2) := by decide +kernel
theorem dX0_takings_50 : decode prog_2_method_7_code 50 = .ok (.aload_n 0, 1) := by decide +kernel
theorem dX0_takings_51 : decode prog_2_method_7_code 51 = .ok (.getfield 15, 3) := by decide +kernel
theorem dX0_takings_54 : decode prog_2_method_7_code 54 = .ok (.getfield 32, 3) := by decide +kernel
theorem dX0_takings_57 : decode prog_2_method_7_code 57 = .ok (.iload_n 1, 1) := by decide +kernel
theorem dX0_takings_58 : decode prog_2_method_7_code 58 = .ok (.aaload, 1) := by decide +kernel
theorem dX0_takings_59 : decode prog_2_method_7_code 59 = .ok (.getfield 63, 3) := by decide +kernel
theorem dX0_takings_62 : decode prog_2_method_7_code 62 = .ok (.i2d, 1) := by decide +kernel
theorem dX0_takings_63 : decode prog_2_method_7_code 63 = .ok (.dmul, 1) := by decide +kernel
theorem dX0_takings_64 : decode prog_2_method_7_code 64 = .ok (.aload_n 0, 1) := by decide +kernel
theorem dX0_takings_65 : decode prog_2_method_7_code 65 = .ok (.iload_n 3, 1) := by decide +kernel
theorem dX0_takings_66 : decode prog_2_method_7_code 66 = .ok (.iload_n 2, 1) := by decide +kernel
theorem dX0_takings_67 : decode prog_2_method_7_code 67 = .ok (.invokevirtual 67, 3) := by decide +kernel
theorem dX0_takings_70 : decode prog_2_method_7_code 70 = .ok (.aload_n 0, 1) := by decide +kernel
theorem dX0_takings_71 : decode prog_2_method_7_code 71 = .ok (.getfield 15, 3) := by decide +kernel
theorem dX0_takings_74 : decode prog_2_method_7_code 74 = .ok (.getfield 54, 3) := by decide +kernel
theorem dX0_takings_77 : decode prog_2_method_7_code 77 = .ok (.iconst 3, 1) := by decide +kernel
theorem dX0_takings_78 : decode prog_2_method_7_code 78 = .ok (.iaload, 1) := by decide +kernel
theorem dX0_takings_79 : decode prog_2_method_7_code 79 = .ok (.i2d, 1) := by decide +kernel
theorem dX0_takings_80 : decode prog_2_method_7_code 80 = .ok (.dmul, 1) := by decide +kernel
theorem dX0_takings_81 : decode prog_2_method_7_code 81 = .ok (.dsub, 1) := by decide +kernel
theorem dX0_takings_82 : decode prog_2_method_7_code 82 = .ok (.dreturn, 1) := by decide +kernel
def m_X0_takings_L16 (N : Nat) (M : mM)  : Nat → Nat → Int32 → Int32 → Int32 → UInt64 → Int32 → Option (UInt64)
  | 0, _, _, _, _, _, _ => none
  | n + 1, a0, i1, i2, i3, d4, i6 =>
    if i2 < i6 then (
      (fR M a0 1 0).bind fun x1 =>
      (fR M x1 5 0).bind fun x3 =>
      (aR 5 M x3 i1).bind fun x5 =>
      (fI M x5 3 1).bind fun x7 =>
      (oD (FP.dmul d4 (FP.i2d x7))).bind fun x9 =>
      (oO M a0 1).bind fun _ =>
      (m_X0_expectedAbove N a0 i3 i2 M).bind fun x13 =>
      (fR M a0 1 0).bind fun x15 =>
      (fR M x15 5 2).bind fun x17 =>
      (aI 0 M x17 3).bind fun x19 =>
      (oD (FP.dmul x13 (FP.i2d x19))).bind fun x21 =>
      (oD (FP.dsub x9 x21)).bind fun x23 =>
      some x23) else (
      (fR M a0 1 1).bind fun x25 =>
      (aD M x25 i6).bind fun x27 =>
      (oD (FP.dmul (FP.i2d (iMin i6 i3)) x27)).bind fun x29 =>
      (oD (FP.dadd d4 x29)).bind fun x31 =>
      (m_X0_takings_L16 N M  n) a0 i1 i2 i3 x31 (i6 + 1))
set_option maxHeartbeats 4000000 in
set_option maxRecDepth 100000 in
theorem t_X0_takings_L16 {X : mX} {M : mM} {L0 : Launch} {res : UInt64} {N : Nat} (C : CX X RX0 "takings" prog_2_method_7_code 7 (some .double)) (E : EX X L0 1 40 0 0 (some (.double res)) M)   : ∀ (n : Nat) (a0 : Nat) (i1 : Int32) (i2 : Int32) (i3 : Int32) (d4 : UInt64) (i6 : Int32), m_X0_takings_L16 N M  n a0 i1 i2 i3 d4 i6 = some res → EV X 7 16 [(0, .ref a0), (1, .int i1), (2, .int i2), (3, .int i3), (4, .double d4), (6, .int i6)] [] 0 0 M := by
  intro n
  induction n with
  | zero => intro a0 i1 i2 i3 d4 i6 hf; cases (show (none : Option (UInt64)) = some res from hf)
  | succ n ih =>
    intro a0 i1 i2 i3 d4 i6 hf
    rw [m_X0_takings_L16] at hf
    refine ev_iload C dX0_takings_16 (q := 5) rfl ?_
    refine ev_iload_n C dX0_takings_18 rfl (q := 2) rfl ?_
    refine ev_icmp_gt (tgt := 48) C dX0_takings_19 (by decide) (fun hc => ?_) (fun hc => ?_)
    · have hf := oit hf hc
      refine ev_dload C dX0_takings_48 (q := 4) rfl ?_
      refine ev_aload_n C dX0_takings_50 rfl (q := 0) rfl ?_
      obtain ⟨x1, e2, hf⟩ := obnd hf
      refine ev_get (k := 0) C ok_1 dX0_takings_51 (by decide) kw_250 (fR_V e2) ?_
      obtain ⟨x3, e4, hf⟩ := obnd hf
      refine ev_get (k := 0) C ok_5 dX0_takings_54 (by decide) kw_178 (fR_V e4) ?_
      refine ev_iload_n C dX0_takings_57 rfl (q := 1) rfl ?_
      obtain ⟨x5, e6, hf⟩ := obnd hf
      refine ev_aldr C (t := 5) rfl rfl dX0_takings_58 e6 ?_
      obtain ⟨x7, e8, hf⟩ := obnd hf
      refine ev_get (k := 1) C ok_3 dX0_takings_59 (by decide) kw_156 (fI_V e8) ?_
      refine ev_i2d C dX0_takings_62 ?_
      obtain ⟨x9, e10, hf⟩ := obnd hf
      obtain ⟨e10, e10q⟩ := oD_eq e10
      refine ev_dmul C dX0_takings_63 e10 ?_
      rw [← e10q]
      refine ev_aload_n C dX0_takings_64 rfl (q := 0) rfl ?_
      refine ev_iload_n C dX0_takings_65 rfl (q := 3) rfl ?_
      refine ev_iload_n C dX0_takings_66 rfl (q := 2) rfl ?_
      obtain ⟨_, e11, hf⟩ := obnd hf
      obtain ⟨fs12, e11⟩ := oO_eq e11
      obtain ⟨x13, e14, hf⟩ := obnd hf
      refine ev_callV0 (As := [.int i3, .int i2]) (st := [.double x9]) C rfl e11 (t_X0_expectedAbove e14) rfl hd_X0_expectedAbove rfl kw_632 kw_618 kw_78 kw_619 kw_620 (mRoom.of E (Nat.le_of_ble_eq_true rfl) (Nat.le_of_ble_eq_true rfl) (Nat.le_refl 0) (Nat.le_refl 0)) (Nat.le_of_ble_eq_true rfl) dX0_takings_67 ?_
      refine ev_aload_n C dX0_takings_70 rfl (q := 0) rfl ?_
      obtain ⟨x15, e16, hf⟩ := obnd hf
      refine ev_get (k := 0) C ok_1 dX0_takings_71 (by decide) kw_250 (fR_V e16) ?_
      obtain ⟨x17, e18, hf⟩ := obnd hf
      refine ev_get (k := 2) C ok_5 dX0_takings_74 (by decide) kw_191 (fR_V e18) ?_
      refine ev_iconst (v := 3) C dX0_takings_77 (by decide) ?_
      obtain ⟨x19, e20, hf⟩ := obnd hf
      refine ev_iald C dX0_takings_78 e20 ?_
      refine ev_i2d C dX0_takings_79 ?_
      obtain ⟨x21, e22, hf⟩ := obnd hf
      obtain ⟨e22, e22q⟩ := oD_eq e22
      refine ev_dmul C dX0_takings_80 e22 ?_
      rw [← e22q]
      obtain ⟨x23, e24, hf⟩ := obnd hf
      obtain ⟨e24, e24q⟩ := oD_eq e24
      refine ev_dsub C dX0_takings_81 e24 ?_
      rw [← e24q]
      obtain rfl := Option.some.inj hf
      exact ev_dret C E (Nat.le_refl 0) (Nat.le_refl 0) dX0_takings_82
    · have hf := oie hf hc
      refine ev_dload C dX0_takings_22 (q := 4) rfl ?_
      refine ev_iload C dX0_takings_24 (q := 5) rfl ?_
      refine ev_iload_n C dX0_takings_26 rfl (q := 3) rfl ?_
      refine ev_mmin C kw_629 kw_630 kw_90 kw_631 (mfr E (by decide)) (mlo E (by decide)) (Nat.zero_le _) (Nat.zero_le _) (Nat.le_of_ble_eq_true rfl) dX0_takings_27 ?_
      refine ev_i2d C dX0_takings_30 ?_
      refine ev_aload_n C dX0_takings_31 rfl (q := 0) rfl ?_
      obtain ⟨x25, e26, hf⟩ := obnd hf
      refine ev_get (k := 1) C ok_1 dX0_takings_32 (by decide) kw_251 (fR_V e26) ?_
      refine ev_iload C dX0_takings_35 (q := 5) rfl ?_
      obtain ⟨x27, e28, hf⟩ := obnd hf
      refine ev_dald C dX0_takings_37 e28 ?_
      obtain ⟨x29, e30, hf⟩ := obnd hf
      obtain ⟨e30, e30q⟩ := oD_eq e30
      refine ev_dmul C dX0_takings_38 e30 ?_
      rw [← e30q]
      obtain ⟨x31, e32, hf⟩ := obnd hf
      obtain ⟨e32, e32q⟩ := oD_eq e32
      refine ev_dadd C dX0_takings_39 e32 ?_
      rw [← e32q]
      refine ev_dstore (l' := [(4, .double x31), (0, .ref a0), (1, .int i1), (2, .int i2), (3, .int i3), (6, .int i6)]) C dX0_takings_40 (by decide) rfl ?_
      refine ev_iinc (v := i6 + 1) (l' := [(6, .int (i6 + 1)), (4, .double x31), (0, .ref a0), (1, .int i1), (2, .int i2), (3, .int i3)]) C dX0_takings_42 (q := 5) rfl rfl (by decide) rfl ?_
      refine ev_goto (tgt := 16) C dX0_takings_45 (by decide) ?_
      refine ev_sub [2, 3, 4, 5, 1, 0] rfl ?_
      exact ih a0 i1 i2 i3 x31 (i6 + 1) hf
def m_X0_takings (N : Nat) (a0 : Nat) (i1 : Int32) (i2 : Int32) (M : mM) : Option (UInt64) :=
  (fR M a0 1 0).bind fun x1 =>
  (fR M x1 5 2).bind fun x3 =>
  (aI 0 M x3 0).bind fun x5 =>
  m_X0_takings_L16 N M  N a0 i1 i2 x5 FP.dconst0 0
set_option maxHeartbeats 4000000 in
set_option maxRecDepth 100000 in
theorem t_X0_takings {L0 : Launch} {M : mM} {N : Nat} {a0 : Nat} {i1 : Int32} {i2 : Int32} {res : UInt64} (hf : m_X0_takings N a0 i1 i2 M = some res) : CT L0 yX0_takings prog_2_method_7_code 7 (some .double) 1 40 0 0 [.ref a0, .int i1, .int i2] M (some (.double res)) M := by
  refine CT.of (by decide +kernel) (Nat.le_of_ble_eq_true rfl) fun X C E => ?_
  have C : CX X RX0 "takings" prog_2_method_7_code 7 (some .double) := C
  show EV X 7 0 [(0, .ref a0), (1, .int i1), (2, .int i2)] [] 0 0 M
  unfold m_X0_takings at hf
  refine ev_aload_n C dX0_takings_0 rfl (q := 0) rfl ?_
  obtain ⟨x1, e2, hf⟩ := obnd hf
  refine ev_get (k := 0) C ok_1 dX0_takings_1 (by decide) kw_250 (fR_V e2) ?_
  obtain ⟨x3, e4, hf⟩ := obnd hf
  refine ev_get (k := 2) C ok_5 dX0_takings_4 (by decide) kw_191 (fR_V e4) ?_
  refine ev_iconst (v := 0) C dX0_takings_7 (by decide) ?_
  obtain ⟨x5, e6, hf⟩ := obnd hf
  refine ev_iald C dX0_takings_8 e6 ?_
  refine ev_istore_n (l' := [(3, .int x5), (0, .ref a0), (1, .int i1), (2, .int i2)]) C dX0_takings_9 rfl (by decide) rfl ?_
  refine ev_dconst0 C dX0_takings_10 ?_
  refine ev_dstore (l' := [(4, .double FP.dconst0), (3, .int x5), (0, .ref a0), (1, .int i1), (2, .int i2)]) C dX0_takings_11 (by decide) rfl ?_
  refine ev_iconst (v := 0) C dX0_takings_13 (by decide) ?_
  refine ev_istore (l' := [(6, .int 0), (4, .double FP.dconst0), (3, .int x5), (0, .ref a0), (1, .int i1), (2, .int i2)]) C dX0_takings_14 (by decide) rfl ?_
  refine ev_sub [3, 4, 5, 2, 1, 0] rfl ?_
  exact t_X0_takings_L16 C E   N a0 i1 i2 x5 FP.dconst0 0 hf
