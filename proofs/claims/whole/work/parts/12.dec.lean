/-! FareLimits had(III)J -/
theorem dX11_had_0 : decode prog_1_method_19_code 0 = .ok (.aload_n 0, 1) := by decide +kernel
theorem dX11_had_1 : decode prog_1_method_19_code 1 = .ok (.getfield 12, 3) := by decide +kernel
theorem dX11_had_4 : decode prog_1_method_19_code 4 = .ok (.iload_n 1, 1) := by decide +kernel
theorem dX11_had_5 : decode prog_1_method_19_code 5 = .ok (.invokevirtual 112, 3) := by decide +kernel
theorem dX11_had_8 : decode prog_1_method_19_code 8 = .ok (.ifCond .eq 21, 3) := by decide +kernel
theorem dX11_had_11 : decode prog_1_method_19_code 11 = .ok (.iload_n 2, 1) := by decide +kernel
theorem dX11_had_12 : decode prog_1_method_19_code 12 = .ok (.bipush 20, 2) := by decide +kernel
theorem dX11_had_14 : decode prog_1_method_19_code 14 = .ok (.invokestatic 91, 3) := by decide +kernel
theorem dX11_had_17 : decode prog_1_method_19_code 17 = .ok (.ifCond .eq 12, 3) := by decide +kernel
theorem dX11_had_20 : decode prog_1_method_19_code 20 = .ok (.iload_n 3, 1) := by decide +kernel
theorem dX11_had_21 : decode prog_1_method_19_code 21 = .ok (.bipush 40, 2) := by decide +kernel
theorem dX11_had_23 : decode prog_1_method_19_code 23 = .ok (.invokestatic 91, 3) := by decide +kernel
theorem dX11_had_26 : decode prog_1_method_19_code 26 = .ok (.ifCond .ne 7, 3) := by decide +kernel
theorem dX11_had_29 : decode prog_1_method_19_code 29 = .ok (.ldc2_w 152, 3) := by decide +kernel
theorem dX11_had_32 : decode prog_1_method_19_code 32 = .ok (.lreturn, 1) := by decide +kernel
theorem dX11_had_33 : decode prog_1_method_19_code 33 = .ok (.aload_n 0, 1) := by decide +kernel
theorem dX11_had_34 : decode prog_1_method_19_code 34 = .ok (.getfield 38, 3) := by decide +kernel
theorem dX11_had_37 : decode prog_1_method_19_code 37 = .ok (.iload_n 2, 1) := by decide +kernel
theorem dX11_had_38 : decode prog_1_method_19_code 38 = .ok (.iload_n 3, 1) := by decide +kernel
theorem dX11_had_39 : decode prog_1_method_19_code 39 = .ok (.invokevirtual 181, 3) := by decide +kernel
theorem dX11_had_42 : decode prog_1_method_19_code 42 = .ok (.pop, 1) := by decide +kernel
theorem dX11_had_43 : decode prog_1_method_19_code 43 = .ok (.aload_n 0, 1) := by decide +kernel
theorem dX11_had_44 : decode prog_1_method_19_code 44 = .ok (.getfield 38, 3) := by decide +kernel
theorem dX11_had_47 : decode prog_1_method_19_code 47 = .ok (.iload_n 1, 1) := by decide +kernel
theorem dX11_had_48 : decode prog_1_method_19_code 48 = .ok (.iload_n 3, 1) := by decide +kernel
theorem dX11_had_49 : decode prog_1_method_19_code 49 = .ok (.invokevirtual 189, 3) := by decide +kernel
theorem dX11_had_52 : decode prog_1_method_19_code 52 = .ok (.invokestatic 148, 3) := by decide +kernel
theorem dX11_had_55 : decode prog_1_method_19_code 55 = .ok (.lreturn, 1) := by decide +kernel
def m_X11_had (N : Nat) (a0 : Nat) (i1 : Int32) (i2 : Int32) (i3 : Int32) (M : mM) : Option (Int64 × mM) :=
  (fR M a0 11 0).bind fun x1 =>
  (oO M x1 5).bind fun _ =>
  (m_X5_hasFare x1 i1 M).bind fun x5 =>
  if x5 = 0 then (
    some ((-9223372036854775808), M)) else (
    (m_X11_within i2 20).bind fun x7 =>
    if x7 = 0 then (
      some ((-9223372036854775808), M)) else (
      (m_X11_within i3 40).bind fun x9 =>
      if x9 = 0 then (
        some ((-9223372036854775808), M)) else (
        (fR M a0 11 5).bind fun x11 =>
        (oO M x11 1).bind fun _ =>
        (m_X0_ofShowing N x11 i2 i3 M).bind fun x15 =>
        (fR x15.2 a0 11 5).bind fun x17 =>
        (oO x15.2 x17 1).bind fun _ =>
        (m_X0_takings N x17 i1 i3 x15.2).bind fun x21 =>
        (m_X9_bitsOfDouble N x21).bind fun x23 =>
        some (x23, x15.2))))
set_option maxHeartbeats 4000000 in
set_option maxRecDepth 100000 in
theorem t_X11_had {L0 : Launch} {M : mM} {N : Nat} {a0 : Nat} {i1 : Int32} {i2 : Int32} {i3 : Int32} {res : Int64 × mM} (hf : m_X11_had N a0 i1 i2 i3 M = some res) : CT L0 yX11_had prog_1_method_19_code 4 (some .long) 3 69 0 0 [.ref a0, .int i1, .int i2, .int i3] M (some (.long res.1)) res.2 := by
  refine CT.of (by decide +kernel) (Nat.le_of_ble_eq_true rfl) fun X C E => ?_
  have C : CX X RX11 "had" prog_1_method_19_code 4 (some .long) := C
  show EV X 4 0 [(0, .ref a0), (1, .int i1), (2, .int i2), (3, .int i3)] [] 0 0 M
  unfold m_X11_had at hf
  refine ev_aload_n C dX11_had_0 rfl (q := 0) rfl ?_
  obtain ⟨x1, e2, hf⟩ := obnd hf
  refine ev_get (k := 0) C ok_11 dX11_had_1 (by decide) kw_392 (fR_V e2) ?_
  refine ev_iload_n C dX11_had_4 rfl (q := 1) rfl ?_
  obtain ⟨_, e3, hf⟩ := obnd hf
  obtain ⟨fs4, e3⟩ := oO_eq e3
  obtain ⟨x5, e6, hf⟩ := obnd hf
  refine ev_callV0 (As := [.int i1]) (st := []) C rfl e3 (t_X5_hasFare e6) rfl hd_X5_hasFare rfl kw_451 kw_452 kw_71 kw_453 kw_454 (mRoom.of E (Nat.le_of_ble_eq_true rfl) (Nat.le_of_ble_eq_true rfl) (Nat.le_refl 0) (Nat.le_refl 0)) (Nat.le_of_ble_eq_true rfl) dX11_had_5 ?_
  refine ev_if_eq (tgt := 29) C dX11_had_8 (by decide) (fun hc => ?_) (fun hc => ?_)
  · have hf := oit hf hc
    refine ev_ldc2 (v := (-9223372036854775808)) C dX11_had_29 kw_493 ?_
    obtain rfl := Option.some.inj hf
    exact ev_lret C E (Nat.le_refl 0) (Nat.le_refl 0) dX11_had_32
  · have hf := oie hf hc
    refine ev_iload_n C dX11_had_11 rfl (q := 2) rfl ?_
    refine ev_bipush (v := 20) C dX11_had_12 (by decide) ?_
    obtain ⟨x7, e8, hf⟩ := obnd hf
    refine ev_callS0 (As := [.int i2, .int 20]) (st := []) C (t_X11_within e8) hd_X11_within rfl kw_435 kw_436 kw_70 kw_437 (mRoom.of E (Nat.le_of_ble_eq_true rfl) (Nat.le_of_ble_eq_true rfl) (Nat.le_refl 0) (Nat.le_refl 0)) (Nat.le_of_ble_eq_true rfl) dX11_had_14 ?_
    refine ev_if_eq (tgt := 29) C dX11_had_17 (by decide) (fun hc => ?_) (fun hc => ?_)
    · have hf := oit hf hc
      refine ev_ldc2 (v := (-9223372036854775808)) C dX11_had_29 kw_493 ?_
      obtain rfl := Option.some.inj hf
      exact ev_lret C E (Nat.le_refl 0) (Nat.le_refl 0) dX11_had_32
    · have hf := oie hf hc
      refine ev_iload_n C dX11_had_20 rfl (q := 3) rfl ?_
      refine ev_bipush (v := 40) C dX11_had_21 (by decide) ?_
      obtain ⟨x9, e10, hf⟩ := obnd hf
      refine ev_callS0 (As := [.int i3, .int 40]) (st := []) C (t_X11_within e10) hd_X11_within rfl kw_435 kw_436 kw_70 kw_437 (mRoom.of E (Nat.le_of_ble_eq_true rfl) (Nat.le_of_ble_eq_true rfl) (Nat.le_refl 0) (Nat.le_refl 0)) (Nat.le_of_ble_eq_true rfl) dX11_had_23 ?_
      refine ev_if_ne (tgt := 33) C dX11_had_26 (by decide) (fun hc => ?_) (fun hc => ?_)
      · have hf := oie hf hc
        refine ev_aload_n C dX11_had_33 rfl (q := 0) rfl ?_
        obtain ⟨x11, e12, hf⟩ := obnd hf
        refine ev_get (k := 5) C ok_11 dX11_had_34 (by decide) kw_397 (fR_V e12) ?_
        refine ev_iload_n C dX11_had_37 rfl (q := 2) rfl ?_
        refine ev_iload_n C dX11_had_38 rfl (q := 3) rfl ?_
        obtain ⟨_, e13, hf⟩ := obnd hf
        obtain ⟨fs14, e13⟩ := oO_eq e13
        obtain ⟨x15, e16, hf⟩ := obnd hf
        refine ev_callV0 (As := [.int i2, .int i3]) (st := []) C rfl e13 (t_X0_ofShowing e16) rfl hd_X0_ofShowing rfl kw_597 kw_598 kw_78 kw_599 kw_600 (mRoom.of E (Nat.le_of_ble_eq_true rfl) (Nat.le_of_ble_eq_true rfl) (Nat.le_refl 0) (Nat.le_refl 0)) (Nat.le_of_ble_eq_true rfl) dX11_had_39 ?_
        refine ev_pop C dX11_had_42 rfl ?_
        refine ev_aload_n C dX11_had_43 rfl (q := 0) rfl ?_
        obtain ⟨x17, e18, hf⟩ := obnd hf
        refine ev_get (k := 5) C ok_11 dX11_had_44 (by decide) kw_397 (fR_V e18) ?_
        refine ev_iload_n C dX11_had_47 rfl (q := 1) rfl ?_
        refine ev_iload_n C dX11_had_48 rfl (q := 3) rfl ?_
        obtain ⟨_, e19, hf⟩ := obnd hf
        obtain ⟨fs20, e19⟩ := oO_eq e19
        obtain ⟨x21, e22, hf⟩ := obnd hf
        refine ev_callV0 (As := [.int i1, .int i3]) (st := []) C rfl e19 (t_X0_takings e22) rfl hd_X0_takings rfl kw_625 kw_626 kw_78 kw_627 kw_628 (mRoom.of E (Nat.le_of_ble_eq_true rfl) (Nat.le_of_ble_eq_true rfl) (Nat.le_refl 0) (Nat.le_refl 0)) (Nat.le_of_ble_eq_true rfl) dX11_had_49 ?_
        obtain ⟨x23, e24, hf⟩ := obnd hf
        refine ev_callS0 (As := [.double x21]) (st := []) C (t_X9_bitsOfDouble e24) hd_X9_bitsOfDouble rfl kw_486 kw_487 kw_77 kw_488 (mRoom.of E (Nat.le_of_ble_eq_true rfl) (Nat.le_of_ble_eq_true rfl) (Nat.le_refl 0) (Nat.le_refl 0)) (Nat.le_of_ble_eq_true rfl) dX11_had_52 ?_
        obtain rfl := Option.some.inj hf
        exact ev_lret C E (Nat.le_refl 0) (Nat.le_refl 0) dX11_had_55
      · have hf := oit hf hc
        refine ev_ldc2 (v := (-9223372036854775808)) C dX11_had_29 kw_493 ?_
        obtain rfl := Option.some.inj hf
        exact ev_lret C E (Nat.le_refl 0) (Nat.le_refl 0) dX11_had_32
/-! FareLimits$Chances bestBooked(II)I -/
theorem dX0_bestBooked_0 : decode prog_2_method_8_code 0 = .ok (.aload_n 0, 1) := by decide +kernel
theorem dX0_bestBooked_1 : decode prog_2_method_8_code 1 = .ok (.getfield 15, 3) := by decide +kernel
theorem dX0_bestBooked_4 : decode prog_2_method_8_code 4 = .ok (.iload_n 2, 1) := by decide +kernel
theorem dX0_bestBooked_5 : decode prog_2_method_8_code 5 = .ok (.invokevirtual 19, 3) := by decide +kernel
theorem dX0_bestBooked_8 : decode prog_2_method_8_code 8 = .ok (.dstore_n 3, 1) := by decide +kernel
theorem dX0_bestBooked_9 : decode prog_2_method_8_code 9 = .ok (.aload_n 0, 1) := by decide +kernel
theorem dX0_bestBooked_10 : decode prog_2_method_8_code 10 = .ok (.invokevirtual 25, 3) := by decide +kernel
theorem dX0_bestBooked_13 : decode prog_2_method_8_code 13 = .ok (.iconst 0, 1) := by decide +kernel
theorem dX0_bestBooked_14 : decode prog_2_method_8_code 14 = .ok (.istore 5, 2) := by decide +kernel
theorem dX0_bestBooked_16 : decode prog_2_method_8_code 16 = .ok (.aload_n 0, 1) := by decide +kernel
theorem dX0_bestBooked_17 : decode prog_2_method_8_code 17 = .ok (.iload_n 1, 1) := by decide +kernel
theorem dX0_bestBooked_18 : decode prog_2_method_8_code 18 = .ok (.iconst 0, 1) := by decide +kernel
theorem dX0_bestBooked_19 : decode prog_2_method_8_code 19 = .ok (.invokevirtual 71, 3) := by decide +kernel
theorem dX0_bestBooked_22 : decode prog_2_method_8_code 22 = .ok (.dstore 6, 2) := by decide +kernel
theorem dX0_bestBooked_24 : decode prog_2_method_8_code 24 = .ok (.iconst 1, 1) := by decide +kernel
theorem dX0_bestBooked_25 : decode prog_2_method_8_code 25 = .ok (.istore 8, 2) := by decide +kernel
theorem dX0_bestBooked_27 : decode prog_2_method_8_code 27 = .ok (.iload 8, 2) := by decide +kernel
theorem dX0_bestBooked_29 : decode prog_2_method_8_code 29 = .ok (.bipush 40, 2) := by decide +kernel
theorem dX0_bestBooked_31 : decode prog_2_method_8_code 31 = .ok (.if_icmp .gt 44, 3) := by decide +kernel
theorem dX0_bestBooked_34 : decode prog_2_method_8_code 34 = .ok (.aload_n 0, 1) := by decide +kernel
theorem dX0_bestBooked_35 : decode prog_2_method_8_code 35 = .ok (.iload 8, 2) := by decide +kernel
theorem dX0_bestBooked_37 : decode prog_2_method_8_code 37 = .ok (.dconst 1, 1) := by decide +kernel
theorem dX0_bestBooked_38 : decode prog_2_method_8_code 38 = .ok (.dload_n 3, 1) := by decide +kernel
theorem dX0_bestBooked_39 : decode prog_2_method_8_code 39 = .ok (.dsub, 1) := by decide +kernel
theorem dX0_bestBooked_40 : decode prog_2_method_8_code 40 = .ok (.dload_n 3, 1) := by decide +kernel
theorem dX0_bestBooked_41 : decode prog_2_method_8_code 41 = .ok (.invokevirtual 28, 3) := by decide +kernel
theorem dX0_bestBooked_44 : decode prog_2_method_8_code 44 = .ok (.aload_n 0, 1) := by decide +kernel
theorem dX0_bestBooked_45 : decode prog_2_method_8_code 45 = .ok (.iload_n 1, 1) := by decide +kernel
theorem dX0_bestBooked_46 : decode prog_2_method_8_code 46 = .ok (.iload 8, 2) := by decide +kernel
theorem dX0_bestBooked_48 : decode prog_2_method_8_code 48 = .ok (.invokevirtual 71, 3) := by decide +kernel
theorem dX0_bestBooked_51 : decode prog_2_method_8_code 51 = .ok (.dstore 9, 2) := by decide +kernel
theorem dX0_bestBooked_53 : decode prog_2_method_8_code 53 = .ok (.dload 9, 2) := by decide +kernel
theorem dX0_bestBooked_55 : decode prog_2_method_8_code 55 = .ok (.dload 6, 2) := by decide +kernel
theorem dX0_bestBooked_57 : decode prog_2_method_8_code 57 = .ok (.dcmp .l, 1) := by decide +kernel
theorem dX0_bestBooked_58 : decode prog_2_method_8_code 58 = .ok (.ifCond .le 11, 3) := by decide +kernel
theorem dX0_bestBooked_61 : decode prog_2_method_8_code 61 = .ok (.iload 8, 2) := by decide +kernel
theorem dX0_bestBooked_63 : decode prog_2_method_8_code 63 = .ok (.istore 5, 2) := by decide +kernel
theorem dX0_bestBooked_65 : decode prog_2_method_8_code 65 = .ok (.dload 9, 2) := by decide +kernel
theorem dX0_bestBooked_67 : decode prog_2_method_8_code 67 = .ok (.dstore 6, 2) := by decide +kernel
theorem dX0_bestBooked_69 : decode prog_2_method_8_code 69 = .ok (.iinc 8 1, 3) := by decide +kernel
theorem dX0_bestBooked_72 : decode prog_2_method_8_code 72 = .ok (.goto (-45), 3) := by decide +kernel
theorem dX0_bestBooked_75 : decode prog_2_method_8_code 75 = .ok (.iload 5, 2) := by decide +kernel
theorem dX0_bestBooked_77 : decode prog_2_method_8_code 77 = .ok (.ireturn, 1) := by decide +kernel
def m_X0_bestBooked_J69 (N : Nat) (k27 : Nat → Int32 → UInt64 → Int32 → UInt64 → Int32 → mM → Option (Int32 × mM)) (a0 : Nat) (i1 : Int32) (d3 : UInt64) (i5 : Int32) (d6 : UInt64) (i8 : Int32) (M : mM) : Option (Int32 × mM) :=
  k27 a0 i1 d3 i5 d6 (i8 + 1) M
set_option maxHeartbeats 4000000 in
set_option maxRecDepth 100000 in
theorem t_X0_bestBooked_J69 {X : mX} {L0 : Launch} {res : Int32 × mM} {N : Nat} (C : CX X RX0 "bestBooked" prog_2_method_8_code 11 (some .int)) (E : EX X L0 2 66 0 0 (some (.int res.1)) res.2) (k27 : Nat → Int32 → UInt64 → Int32 → UInt64 → Int32 → mM → Option (Int32 × mM)) (Hk27 : ∀ (a0 : Nat) (i1 : Int32) (d3 : UInt64) (i5 : Int32) (d6 : UInt64) (i8 : Int32) (M : mM), k27 a0 i1 d3 i5 d6 i8 M = some res → EV X 11 27 [(0, .ref a0), (1, .int i1), (3, .double d3), (5, .int i5), (6, .double d6), (8, .int i8)] [] 0 0 M) (a0 : Nat) (i1 : Int32) (d3 : UInt64) (i5 : Int32) (d6 : UInt64) (i8 : Int32) (M : mM) (hf : m_X0_bestBooked_J69 N k27 a0 i1 d3 i5 d6 i8 M = some res) : EV X 11 69 [(0, .ref a0), (1, .int i1), (3, .double d3), (5, .int i5), (6, .double d6), (8, .int i8)] [] 0 0 M := by
  unfold m_X0_bestBooked_J69 at hf
  refine ev_iinc (v := i8 + 1) (l' := [(8, .int (i8 + 1)), (0, .ref a0), (1, .int i1), (3, .double d3), (5, .int i5), (6, .double d6)]) C dX0_bestBooked_69 (q := 5) rfl rfl (by decide) rfl ?_
  refine ev_goto (tgt := 27) C dX0_bestBooked_72 (by decide) ?_
  refine ev_sub [1, 2, 3, 4, 5, 0] rfl ?_
  exact Hk27 a0 i1 d3 i5 d6 (i8 + 1) M hf
def m_X0_bestBooked_L27 (N : Nat)  : Nat → Nat → Int32 → UInt64 → Int32 → UInt64 → Int32 → mM → Option (Int32 × mM)
  | 0, _, _, _, _, _, _, _ => none
  | n + 1, a0, i1, d3, i5, d6, i8, M =>
    if 40 < i8 then (
      some (i5, M)) else (
      (oD (FP.dsub FP.dconst1 d3)).bind fun x1 =>
      (oO M a0 1).bind fun _ =>
      (m_X0_oneMore N a0 i8 x1 d3 M).bind fun x5 =>
      (oO x5 a0 1).bind fun _ =>
      (m_X0_takings N a0 i1 i8 x5).bind fun x9 =>
      if (Op.cmpValue (FP.dcmp x9 d6) CmpOp.l) ≤ 0 then (
        m_X0_bestBooked_J69 N (m_X0_bestBooked_L27 N  n) a0 i1 d3 i5 d6 i8 x5) else (
        m_X0_bestBooked_J69 N (m_X0_bestBooked_L27 N  n) a0 i1 d3 i8 x9 i8 x5))
set_option maxHeartbeats 4000000 in
set_option maxRecDepth 100000 in
theorem t_X0_bestBooked_L27 {X : mX} {L0 : Launch} {res : Int32 × mM} {N : Nat} (C : CX X RX0 "bestBooked" prog_2_method_8_code 11 (some .int)) (E : EX X L0 2 66 0 0 (some (.int res.1)) res.2)   : ∀ (n : Nat) (a0 : Nat) (i1 : Int32) (d3 : UInt64) (i5 : Int32) (d6 : UInt64) (i8 : Int32) (M : mM), m_X0_bestBooked_L27 N  n a0 i1 d3 i5 d6 i8 M = some res → EV X 11 27 [(0, .ref a0), (1, .int i1), (3, .double d3), (5, .int i5), (6, .double d6), (8, .int i8)] [] 0 0 M := by
  intro n
  induction n with
  | zero => intro a0 i1 d3 i5 d6 i8 M hf; cases (show (none : Option (Int32 × mM)) = some res from hf)
  | succ n ih =>
    intro a0 i1 d3 i5 d6 i8 M hf
    rw [m_X0_bestBooked_L27] at hf
    refine ev_iload C dX0_bestBooked_27 (q := 5) rfl ?_
    refine ev_bipush (v := 40) C dX0_bestBooked_29 (by decide) ?_
    refine ev_icmp_gt (tgt := 75) C dX0_bestBooked_31 (by decide) (fun hc => ?_) (fun hc => ?_)
    · have hf := oit hf hc
      refine ev_iload C dX0_bestBooked_75 (q := 3) rfl ?_
      obtain rfl := Option.some.inj hf
      exact ev_iret C E (Nat.le_refl 0) (Nat.le_refl 0) dX0_bestBooked_77
    · have hf := oie hf hc
      refine ev_aload_n C dX0_bestBooked_34 rfl (q := 0) rfl ?_
      refine ev_iload C dX0_bestBooked_35 (q := 5) rfl ?_
      refine ev_dconst1 C dX0_bestBooked_37 ?_
      refine ev_dload_n C dX0_bestBooked_38 rfl (q := 2) rfl ?_
      obtain ⟨x1, e2, hf⟩ := obnd hf
      obtain ⟨e2, e2q⟩ := oD_eq e2
      refine ev_dsub C dX0_bestBooked_39 e2 ?_
      rw [← e2q]
      refine ev_dload_n C dX0_bestBooked_40 rfl (q := 2) rfl ?_
      obtain ⟨_, e3, hf⟩ := obnd hf
      obtain ⟨fs4, e3⟩ := oO_eq e3
      obtain ⟨x5, e6, hf⟩ := obnd hf
      refine ev_callV0 (As := [.int i8, .double x1, .double d3]) (st := []) C rfl e3 (t_X0_oneMore e6) rfl hd_X0_oneMore rfl kw_609 kw_611 kw_78 kw_4 kw_612 (mRoom.of E (Nat.le_of_ble_eq_true rfl) (Nat.le_of_ble_eq_true rfl) (Nat.le_refl 0) (Nat.le_refl 0)) (Nat.le_of_ble_eq_true rfl) dX0_bestBooked_41 ?_
      refine ev_aload_n C dX0_bestBooked_44 rfl (q := 0) rfl ?_
      refine ev_iload_n C dX0_bestBooked_45 rfl (q := 1) rfl ?_
      refine ev_iload C dX0_bestBooked_46 (q := 5) rfl ?_
      obtain ⟨_, e7, hf⟩ := obnd hf
      obtain ⟨fs8, e7⟩ := oO_eq e7
      obtain ⟨x9, e10, hf⟩ := obnd hf
      refine ev_callV0 (As := [.int i1, .int i8]) (st := []) C rfl e7 (t_X0_takings e10) rfl hd_X0_takings rfl kw_641 kw_626 kw_78 kw_627 kw_628 (mRoom.of E (Nat.le_of_ble_eq_true rfl) (Nat.le_of_ble_eq_true rfl) (Nat.le_refl 0) (Nat.le_refl 0)) (Nat.le_of_ble_eq_true rfl) dX0_bestBooked_48 ?_
      refine ev_dstore (l' := [(9, .double x9), (0, .ref a0), (1, .int i1), (3, .double d3), (5, .int i5), (6, .double d6), (8, .int i8)]) C dX0_bestBooked_51 (by decide) rfl ?_
      refine ev_dload C dX0_bestBooked_53 (q := 0) rfl ?_
      refine ev_dload C dX0_bestBooked_55 (q := 5) rfl ?_
      refine ev_dcmp C dX0_bestBooked_57 ?_
      refine ev_if_le (tgt := 69) C dX0_bestBooked_58 (by decide) (fun hc => ?_) (fun hc => ?_)
      · have hf := oit hf hc
        refine ev_sub [1, 2, 3, 4, 5, 6] rfl ?_
        exact t_X0_bestBooked_J69 C E (m_X0_bestBooked_L27 N  n) ih a0 i1 d3 i5 d6 i8 x5 hf
      · have hf := oie hf hc
        refine ev_iload C dX0_bestBooked_61 (q := 6) rfl ?_
        refine ev_istore (l' := [(5, .int i8), (9, .double x9), (0, .ref a0), (1, .int i1), (3, .double d3), (6, .double d6), (8, .int i8)]) C dX0_bestBooked_63 (by decide) rfl ?_
        refine ev_dload C dX0_bestBooked_65 (q := 1) rfl ?_
        refine ev_dstore (l' := [(6, .double x9), (5, .int i8), (9, .double x9), (0, .ref a0), (1, .int i1), (3, .double d3), (8, .int i8)]) C dX0_bestBooked_67 (by decide) rfl ?_
        refine ev_sub [3, 4, 5, 1, 0, 6] rfl ?_
        exact t_X0_bestBooked_J69 C E (m_X0_bestBooked_L27 N  n) ih a0 i1 d3 i8 x9 i8 x5 hf
def m_X0_bestBooked (N : Nat) (a0 : Nat) (i1 : Int32) (i2 : Int32) (M : mM) : Option (Int32 × mM) :=
  (fR M a0 1 0).bind fun x1 =>
  (oO M x1 5).bind fun _ =>
  (m_X5_showing N x1 i2 M).bind fun x5 =>
  (oO M a0 1).bind fun _ =>
  (m_X0_begin N a0 M).bind fun x9 =>
  (oO x9 a0 1).bind fun _ =>
  (m_X0_takings N a0 i1 0 x9).bind fun x13 =>
  m_X0_bestBooked_L27 N  N a0 i1 x5 0 x13 1 x9
set_option maxHeartbeats 4000000 in
set_option maxRecDepth 100000 in
theorem t_X0_bestBooked {L0 : Launch} {M : mM} {N : Nat} {a0 : Nat} {i1 : Int32} {i2 : Int32} {res : Int32 × mM} (hf : m_X0_bestBooked N a0 i1 i2 M = some res) : CT L0 yX0_bestBooked prog_2_method_8_code 11 (some .int) 2 66 0 0 [.ref a0, .int i1, .int i2] M (some (.int res.1)) res.2 := by
  refine CT.of (by decide +kernel) (Nat.le_of_ble_eq_true rfl) fun X C E => ?_
  have C : CX X RX0 "bestBooked" prog_2_method_8_code 11 (some .int) := C
  show EV X 11 0 [(0, .ref a0), (1, .int i1), (2, .int i2)] [] 0 0 M
  unfold m_X0_bestBooked at hf
  refine ev_aload_n C dX0_bestBooked_0 rfl (q := 0) rfl ?_
  obtain ⟨x1, e2, hf⟩ := obnd hf
  refine ev_get (k := 0) C ok_1 dX0_bestBooked_1 (by decide) kw_250 (fR_V e2) ?_
  refine ev_iload_n C dX0_bestBooked_4 rfl (q := 2) rfl ?_
  obtain ⟨_, e3, hf⟩ := obnd hf
  obtain ⟨fs4, e3⟩ := oO_eq e3
  obtain ⟨x5, e6, hf⟩ := obnd hf
  refine ev_callV0 (As := [.int i2]) (st := []) C rfl e3 (t_X5_showing e6) rfl hd_X5_showing rfl kw_601 kw_482 kw_71 kw_483 kw_484 (mRoom.of E (Nat.le_of_ble_eq_true rfl) (Nat.le_of_ble_eq_true rfl) (Nat.le_refl 0) (Nat.le_refl 0)) (Nat.le_of_ble_eq_true rfl) dX0_bestBooked_5 ?_
  refine ev_dstore_n (l' := [(3, .double x5), (0, .ref a0), (1, .int i1), (2, .int i2)]) C dX0_bestBooked_8 rfl (by decide) rfl ?_
  refine ev_aload_n C dX0_bestBooked_9 rfl (q := 1) rfl ?_
  obtain ⟨_, e7, hf⟩ := obnd hf
  obtain ⟨fs8, e7⟩ := oO_eq e7
  obtain ⟨x9, e10, hf⟩ := obnd hf
  refine ev_callV0 (As := []) (st := []) C rfl e7 (t_X0_begin e10) rfl hd_X0_begin rfl kw_602 kw_604 kw_78 kw_3 kw_605 (mRoom.of E (Nat.le_of_ble_eq_true rfl) (Nat.le_of_ble_eq_true rfl) (Nat.le_refl 0) (Nat.le_refl 0)) (Nat.le_of_ble_eq_true rfl) dX0_bestBooked_10 ?_
  refine ev_iconst (v := 0) C dX0_bestBooked_13 (by decide) ?_
  refine ev_istore (l' := [(5, .int 0), (3, .double x5), (0, .ref a0), (1, .int i1), (2, .int i2)]) C dX0_bestBooked_14 (by decide) rfl ?_
  refine ev_aload_n C dX0_bestBooked_16 rfl (q := 2) rfl ?_
  refine ev_iload_n C dX0_bestBooked_17 rfl (q := 3) rfl ?_
  refine ev_iconst (v := 0) C dX0_bestBooked_18 (by decide) ?_
  obtain ⟨_, e11, hf⟩ := obnd hf
  obtain ⟨fs12, e11⟩ := oO_eq e11
  obtain ⟨x13, e14, hf⟩ := obnd hf
  refine ev_callV0 (As := [.int i1, .int 0]) (st := []) C rfl e11 (t_X0_takings e14) rfl hd_X0_takings rfl kw_641 kw_626 kw_78 kw_627 kw_628 (mRoom.of E (Nat.le_of_ble_eq_true rfl) (Nat.le_of_ble_eq_true rfl) (Nat.le_refl 0) (Nat.le_refl 0)) (Nat.le_of_ble_eq_true rfl) dX0_bestBooked_19 ?_
  refine ev_dstore (l' := [(6, .double x13), (5, .int 0), (3, .double x5), (0, .ref a0), (1, .int i1), (2, .int i2)]) C dX0_bestBooked_22 (by decide) rfl ?_
  refine ev_iconst (v := 1) C dX0_bestBooked_24 (by decide) ?_
  refine ev_istore (l' := [(8, .int 1), (6, .double x13), (5, .int 0), (3, .double x5), (0, .ref a0), (1, .int i1), (2, .int i2)]) C dX0_bestBooked_25 (by decide) rfl ?_
  refine ev_sub [4, 5, 3, 2, 1, 0] rfl ?_
  exact t_X0_bestBooked_L27 C E   N a0 i1 x5 0 x13 1 x9 hf
/-! FareLimits booked(II)I -/
theorem dX11_booked_0 : decode prog_1_method_20_code 0 = .ok (.aload_n 0, 1) := by decide +kernel
theorem dX11_booked_1 : decode prog_1_method_20_code 1 = .ok (.getfield 12, 3) := by decide +kernel
theorem dX11_booked_4 : decode prog_1_method_20_code 4 = .ok (.iload_n 1, 1) := by decide +kernel
theorem dX11_booked_5 : decode prog_1_method_20_code 5 = .ok (.invokevirtual 112, 3) := by decide +kernel
theorem dX11_booked_8 : decode prog_1_method_20_code 8 = .ok (.ifCond .eq 24, 3) := by decide +kernel
theorem dX11_booked_11 : decode prog_1_method_20_code 11 = .ok (.iload_n 2, 1) := by decide +kernel
theorem dX11_booked_12 : decode prog_1_method_20_code 12 = .ok (.bipush 20, 2) := by decide +kernel
theorem dX11_booked_14 : decode prog_1_method_20_code 14 = .ok (.invokestatic 91, 3) := by decide +kernel
theorem dX11_booked_17 : decode prog_1_method_20_code 17 = .ok (.ifCond .eq 15, 3) := by decide +kernel
theorem dX11_booked_20 : decode prog_1_method_20_code 20 = .ok (.aload_n 0, 1) := by decide +kernel
theorem dX11_booked_21 : decode prog_1_method_20_code 21 = .ok (.getfield 38, 3) := by decide +kernel
theorem dX11_booked_24 : decode prog_1_method_20_code 24 = .ok (.iload_n 1, 1) := by decide +kernel
theorem dX11_booked_25 : decode prog_1_method_20_code 25 = .ok (.iload_n 2, 1) := by decide +kernel
theorem dX11_booked_26 : decode prog_1_method_20_code 26 = .ok (.invokevirtual 192, 3) := by decide +kernel
theorem dX11_booked_29 : decode prog_1_method_20_code 29 = .ok (.goto 4, 3) := by decide +kernel
theorem dX11_booked_32 : decode prog_1_method_20_code 32 = .ok (.iconst (-1), 1) := by decide +kernel
theorem dX11_booked_33 : decode prog_1_method_20_code 33 = .ok (.ireturn, 1) := by decide +kernel
def m_X11_booked (N : Nat) (a0 : Nat) (i1 : Int32) (i2 : Int32) (M : mM) : Option (Int32 × mM) :=
  (fR M a0 11 0).bind fun x1 =>
  (oO M x1 5).bind fun _ =>
  (m_X5_hasFare x1 i1 M).bind fun x5 =>
  if x5 = 0 then (
    some ((-1), M)) else (
    (m_X11_within i2 20).bind fun x7 =>
    if x7 = 0 then (
      some ((-1), M)) else (
      (fR M a0 11 5).bind fun x9 =>
      (oO M x9 1).bind fun _ =>
      (m_X0_bestBooked N x9 i1 i2 M).bind fun x13 =>
      some (x13.1, x13.2)))
set_option maxHeartbeats 4000000 in
set_option maxRecDepth 100000 in
theorem t_X11_booked {L0 : Launch} {M : mM} {N : Nat} {a0 : Nat} {i1 : Int32} {i2 : Int32} {res : Int32 × mM} (hf : m_X11_booked N a0 i1 i2 M = some res) : CT L0 yX11_booked prog_1_method_20_code 3 (some .int) 3 96 0 0 [.ref a0, .int i1, .int i2] M (some (.int res.1)) res.2 := by
  refine CT.of (by decide +kernel) (Nat.le_of_ble_eq_true rfl) fun X C E => ?_
  have C : CX X RX11 "booked" prog_1_method_20_code 3 (some .int) := C
  show EV X 3 0 [(0, .ref a0), (1, .int i1), (2, .int i2)] [] 0 0 M
  unfold m_X11_booked at hf
  refine ev_aload_n C dX11_booked_0 rfl (q := 0) rfl ?_
  obtain ⟨x1, e2, hf⟩ := obnd hf
  refine ev_get (k := 0) C ok_11 dX11_booked_1 (by decide) kw_392 (fR_V e2) ?_
  refine ev_iload_n C dX11_booked_4 rfl (q := 1) rfl ?_
  obtain ⟨_, e3, hf⟩ := obnd hf
  obtain ⟨fs4, e3⟩ := oO_eq e3
  obtain ⟨x5, e6, hf⟩ := obnd hf
  refine ev_callV0 (As := [.int i1]) (st := []) C rfl e3 (t_X5_hasFare e6) rfl hd_X5_hasFare rfl kw_451 kw_452 kw_71 kw_453 kw_454 (mRoom.of E (Nat.le_of_ble_eq_true rfl) (Nat.le_of_ble_eq_true rfl) (Nat.le_refl 0) (Nat.le_refl 0)) (Nat.le_of_ble_eq_true rfl) dX11_booked_5 ?_
  refine ev_if_eq (tgt := 32) C dX11_booked_8 (by decide) (fun hc => ?_) (fun hc => ?_)
  · have hf := oit hf hc
    refine ev_iconst (v := (-1)) C dX11_booked_32 (by decide) ?_
    obtain rfl := Option.some.inj hf
    exact ev_iret C E (Nat.le_refl 0) (Nat.le_refl 0) dX11_booked_33
  · have hf := oie hf hc
    refine ev_iload_n C dX11_booked_11 rfl (q := 2) rfl ?_
    refine ev_bipush (v := 20) C dX11_booked_12 (by decide) ?_
    obtain ⟨x7, e8, hf⟩ := obnd hf
    refine ev_callS0 (As := [.int i2, .int 20]) (st := []) C (t_X11_within e8) hd_X11_within rfl kw_435 kw_436 kw_70 kw_437 (mRoom.of E (Nat.le_of_ble_eq_true rfl) (Nat.le_of_ble_eq_true rfl) (Nat.le_refl 0) (Nat.le_refl 0)) (Nat.le_of_ble_eq_true rfl) dX11_booked_14 ?_
    refine ev_if_eq (tgt := 32) C dX11_booked_17 (by decide) (fun hc => ?_) (fun hc => ?_)
    · have hf := oit hf hc
      refine ev_iconst (v := (-1)) C dX11_booked_32 (by decide) ?_
      obtain rfl := Option.some.inj hf
      exact ev_iret C E (Nat.le_refl 0) (Nat.le_refl 0) dX11_booked_33
    · have hf := oie hf hc
      refine ev_aload_n C dX11_booked_20 rfl (q := 0) rfl ?_
      obtain ⟨x9, e10, hf⟩ := obnd hf
      refine ev_get (k := 5) C ok_11 dX11_booked_21 (by decide) kw_397 (fR_V e10) ?_
      refine ev_iload_n C dX11_booked_24 rfl (q := 1) rfl ?_
      refine ev_iload_n C dX11_booked_25 rfl (q := 2) rfl ?_
      obtain ⟨_, e11, hf⟩ := obnd hf
      obtain ⟨fs12, e11⟩ := oO_eq e11
      obtain ⟨x13, e14, hf⟩ := obnd hf
      refine ev_callV0 (As := [.int i1, .int i2]) (st := []) C rfl e11 (t_X0_bestBooked e14) rfl hd_X0_bestBooked rfl kw_637 kw_638 kw_78 kw_639 kw_640 (mRoom.of E (Nat.le_of_ble_eq_true rfl) (Nat.le_of_ble_eq_true rfl) (Nat.le_refl 0) (Nat.le_refl 0)) (Nat.le_of_ble_eq_true rfl) dX11_booked_26 ?_
      refine ev_goto (tgt := 33) C dX11_booked_29 (by decide) ?_
      obtain rfl := Option.some.inj hf
      exact ev_iret C E (Nat.le_refl 0) (Nat.le_refl 0) dX11_booked_33
/-! FareLimits$Whole setsOf(II)J -/
theorem dX9_setsOf_0 : decode prog_11_method_8_code 0 = .ok (.aload_n 0, 1) := by decide +kernel
theorem dX9_setsOf_1 : decode prog_11_method_8_code 1 = .ok (.getfield 9, 3) := by decide +kernel
theorem dX9_setsOf_4 : decode prog_11_method_8_code 4 = .ok (.lconst 0, 1) := by decide +kernel
theorem dX9_setsOf_5 : decode prog_11_method_8_code 5 = .ok (.invokestatic 27, 3) := by decide +kernel
theorem dX9_setsOf_8 : decode prog_11_method_8_code 8 = .ok (.aload_n 0, 1) := by decide +kernel
theorem dX9_setsOf_9 : decode prog_11_method_8_code 9 = .ok (.getfield 9, 3) := by decide +kernel
theorem dX9_setsOf_12 : decode prog_11_method_8_code 12 = .ok (.iconst 0, 1) := by decide +kernel
theorem dX9_setsOf_13 : decode prog_11_method_8_code 13 = .ok (.lconst 1, 1) := by decide +kernel
theorem dX9_setsOf_14 : decode prog_11_method_8_code 14 = .ok (.lastore, 1) := by decide +kernel
theorem dX9_setsOf_15 : decode prog_11_method_8_code 15 = .ok (.iconst 1, 1) := by decide +kernel
theorem dX9_setsOf_16 : decode prog_11_method_8_code 16 = .ok (.istore_n 3, 1) := by decide +kernel
theorem dX9_setsOf_17 : decode prog_11_method_8_code 17 = .ok (.iload_n 3, 1) := by decide +kernel
theorem dX9_setsOf_18 : decode prog_11_method_8_code 18 = .ok (.iload_n 1, 1) := by decide +kernel
theorem dX9_setsOf_19 : decode prog_11_method_8_code 19 = .ok (.if_icmp .gt 47, 3) := by decide +kernel
theorem dX9_setsOf_22 : decode prog_11_method_8_code 22 = .ok (.iload_n 3, 1) := by decide +kernel
theorem dX9_setsOf_23 : decode prog_11_method_8_code 23 = .ok (.istore 4, 2) := by decide +kernel
theorem dX9_setsOf_25 : decode prog_11_method_8_code 25 = .ok (.iload 4, 2) := by decide +kernel
theorem dX9_setsOf_27 : decode prog_11_method_8_code 27 = .ok (.ifCond .le 33, 3) := by decide +kernel
theorem dX9_setsOf_30 : decode prog_11_method_8_code 30 = .ok (.aload_n 0, 1) := by decide +kernel
theorem dX9_setsOf_31 : decode prog_11_method_8_code 31 = .ok (.getfield 9, 3) := by decide +kernel
theorem dX9_setsOf_34 : decode prog_11_method_8_code 34 = .ok (.iload 4, 2) := by decide +kernel
theorem dX9_setsOf_36 : decode prog_11_method_8_code 36 = .ok (.aload_n 0, 1) := by decide +kernel
theorem dX9_setsOf_37 : decode prog_11_method_8_code 37 = .ok (.getfield 9, 3) := by decide +kernel
theorem dX9_setsOf_40 : decode prog_11_method_8_code 40 = .ok (.iload 4, 2) := by decide +kernel
theorem dX9_setsOf_42 : decode prog_11_method_8_code 42 = .ok (.laload, 1) := by decide +kernel
theorem dX9_setsOf_43 : decode prog_11_method_8_code 43 = .ok (.aload_n 0, 1) := by decide +kernel
theorem dX9_setsOf_44 : decode prog_11_method_8_code 44 = .ok (.getfield 9, 3) := by decide +kernel
theorem dX9_setsOf_47 : decode prog_11_method_8_code 47 = .ok (.iload 4, 2) := by decide +kernel
theorem dX9_setsOf_49 : decode prog_11_method_8_code 49 = .ok (.iconst 1, 1) := by decide +kernel
theorem dX9_setsOf_50 : decode prog_11_method_8_code 50 = .ok (.isub, 1) := by decide +kernel
theorem dX9_setsOf_51 : decode prog_11_method_8_code 51 = .ok (.laload, 1) := by decide +kernel
theorem dX9_setsOf_52 : decode prog_11_method_8_code 52 = .ok (.ladd, 1) := by decide +kernel
theorem dX9_setsOf_53 : decode prog_11_method_8_code 53 = .ok (.lastore, 1) := by decide +kernel
theorem dX9_setsOf_54 : decode prog_11_method_8_code 54 = .ok (.iinc 4 (-1), 3) := by decide +kernel
theorem dX9_setsOf_57 : decode prog_11_method_8_code 57 = .ok (.goto (-32), 3) := by decide +kernel
theorem dX9_setsOf_60 : decode prog_11_method_8_code 60 = .ok (.iinc 3 1, 3) := by decide +kernel
theorem dX9_setsOf_63 : decode prog_11_method_8_code 63 = .ok (.goto (-46), 3) := by decide +kernel
theorem dX9_setsOf_66 : decode prog_11_method_8_code 66 = .ok (.aload_n 0, 1) := by decide +kernel
theorem dX9_setsOf_67 : decode prog_11_method_8_code 67 = .ok (.getfield 9, 3) := by decide +kernel
theorem dX9_setsOf_70 : decode prog_11_method_8_code 70 = .ok (.iload_n 2, 1) := by decide +kernel
theorem dX9_setsOf_71 : decode prog_11_method_8_code 71 = .ok (.laload, 1) := by decide +kernel
theorem dX9_setsOf_72 : decode prog_11_method_8_code 72 = .ok (.lreturn, 1) := by decide +kernel
def m_X9_setsOf_L25 (N : Nat) (k17 : Nat → Int32 → Int32 → Int32 → mM → Option (Int64 × mM)) : Nat → Nat → Int32 → Int32 → Int32 → Int32 → mM → Option (Int64 × mM)
  | 0, _, _, _, _, _, _ => none
  | n + 1, a0, i1, i2, i3, i4, M =>
    if i4 ≤ 0 then (
      k17 a0 i1 i2 (i3 + 1) M) else (
      (fR M a0 9 1).bind fun x1 =>
      (fR M a0 9 1).bind fun x3 =>
      (aL M x3 i4).bind fun x5 =>
      (fR M a0 9 1).bind fun x7 =>
      (aL M x7 (i4 - 1)).bind fun x9 =>
      (uL M x1 i4 (x5 + x9)).bind fun M11 =>
      (m_X9_setsOf_L25 N k17  n) a0 i1 i2 i3 (i4 + (-1)) M11)
set_option maxHeartbeats 4000000 in
set_option maxRecDepth 100000 in
theorem t_X9_setsOf_L25 {X : mX} {L0 : Launch} {res : Int64 × mM} {N : Nat} (C : CX X RX9 "setsOf" prog_11_method_8_code 5 (some .long)) (E : EX X L0 1 24 0 0 (some (.long res.1)) res.2) (k17 : Nat → Int32 → Int32 → Int32 → mM → Option (Int64 × mM)) (Hk17 : ∀ (a0 : Nat) (i1 : Int32) (i2 : Int32) (i3 : Int32) (M : mM), k17 a0 i1 i2 i3 M = some res → EV X 5 17 [(0, .ref a0), (1, .int i1), (2, .int i2), (3, .int i3)] [] 0 0 M) : ∀ (n : Nat) (a0 : Nat) (i1 : Int32) (i2 : Int32) (i3 : Int32) (i4 : Int32) (M : mM), m_X9_setsOf_L25 N k17 n a0 i1 i2 i3 i4 M = some res → EV X 5 25 [(0, .ref a0), (1, .int i1), (2, .int i2), (3, .int i3), (4, .int i4)] [] 0 0 M := by
  intro n
  induction n with
  | zero => intro a0 i1 i2 i3 i4 M hf; cases (show (none : Option (Int64 × mM)) = some res from hf)
  | succ n ih =>
    intro a0 i1 i2 i3 i4 M hf
    rw [m_X9_setsOf_L25] at hf
    refine ev_iload C dX9_setsOf_25 (q := 4) rfl ?_
    refine ev_if_le (tgt := 60) C dX9_setsOf_27 (by decide) (fun hc => ?_) (fun hc => ?_)
    · have hf := oit hf hc
      refine ev_iinc (v := i3 + 1) (l' := [(3, .int (i3 + 1)), (0, .ref a0), (1, .int i1), (2, .int i2), (4, .int i4)]) C dX9_setsOf_60 (q := 3) rfl rfl (by decide) rfl ?_
      refine ev_goto (tgt := 17) C dX9_setsOf_63 (by decide) ?_
      refine ev_sub [1, 2, 3, 0] rfl ?_
      exact Hk17 a0 i1 i2 (i3 + 1) M hf
    · have hf := oie hf hc
      refine ev_aload_n C dX9_setsOf_30 rfl (q := 0) rfl ?_
      obtain ⟨x1, e2, hf⟩ := obnd hf
      refine ev_get (k := 1) C ok_9 dX9_setsOf_31 (by decide) kw_237 (fR_V e2) ?_
      refine ev_iload C dX9_setsOf_34 (q := 4) rfl ?_
      refine ev_aload_n C dX9_setsOf_36 rfl (q := 0) rfl ?_
      obtain ⟨x3, e4, hf⟩ := obnd hf
      refine ev_get (k := 1) C ok_9 dX9_setsOf_37 (by decide) kw_237 (fR_V e4) ?_
      refine ev_iload C dX9_setsOf_40 (q := 4) rfl ?_
      obtain ⟨x5, e6, hf⟩ := obnd hf
      refine ev_lald C dX9_setsOf_42 e6 ?_
      refine ev_aload_n C dX9_setsOf_43 rfl (q := 0) rfl ?_
      obtain ⟨x7, e8, hf⟩ := obnd hf
      refine ev_get (k := 1) C ok_9 dX9_setsOf_44 (by decide) kw_237 (fR_V e8) ?_
      refine ev_iload C dX9_setsOf_47 (q := 4) rfl ?_
      refine ev_iconst (v := 1) C dX9_setsOf_49 (by decide) ?_
      refine ev_isub C dX9_setsOf_50 ?_
      obtain ⟨x9, e10, hf⟩ := obnd hf
      refine ev_lald C dX9_setsOf_51 e10 ?_
      refine ev_ladd C dX9_setsOf_52 ?_
      obtain ⟨M11, e12, hf⟩ := obnd hf
      refine ev_last C dX9_setsOf_53 e12 ?_
      refine ev_iinc (v := i4 + (-1)) (l' := [(4, .int (i4 + (-1))), (0, .ref a0), (1, .int i1), (2, .int i2), (3, .int i3)]) C dX9_setsOf_54 (q := 4) rfl rfl (by decide) rfl ?_
      refine ev_goto (tgt := 25) C dX9_setsOf_57 (by decide) ?_
      refine ev_sub [1, 2, 3, 4, 0] rfl ?_
      exact ih a0 i1 i2 i3 (i4 + (-1)) M11 hf
def m_X9_setsOf_L17 (N : Nat)  : Nat → Nat → Int32 → Int32 → Int32 → mM → Option (Int64 × mM)
  | 0, _, _, _, _, _ => none
  | n + 1, a0, i1, i2, i3, M =>
    if i1 < i3 then (
      (fR M a0 9 1).bind fun x1 =>
      (aL M x1 i2).bind fun x3 =>
      some (x3, M)) else (
      m_X9_setsOf_L25 N (m_X9_setsOf_L17 N  n) N a0 i1 i2 i3 i3 M)
set_option maxHeartbeats 4000000 in
set_option maxRecDepth 100000 in
theorem t_X9_setsOf_L17 {X : mX} {L0 : Launch} {res : Int64 × mM} {N : Nat} (C : CX X RX9 "setsOf" prog_11_method_8_code 5 (some .long)) (E : EX X L0 1 24 0 0 (some (.long res.1)) res.2)   : ∀ (n : Nat) (a0 : Nat) (i1 : Int32) (i2 : Int32) (i3 : Int32) (M : mM), m_X9_setsOf_L17 N  n a0 i1 i2 i3 M = some res → EV X 5 17 [(0, .ref a0), (1, .int i1), (2, .int i2), (3, .int i3)] [] 0 0 M := by
  intro n
  induction n with
  | zero => intro a0 i1 i2 i3 M hf; cases (show (none : Option (Int64 × mM)) = some res from hf)
  | succ n ih =>
    intro a0 i1 i2 i3 M hf
    rw [m_X9_setsOf_L17] at hf
    refine ev_iload_n C dX9_setsOf_17 rfl (q := 3) rfl ?_
    refine ev_iload_n C dX9_setsOf_18 rfl (q := 1) rfl ?_
    refine ev_icmp_gt (tgt := 66) C dX9_setsOf_19 (by decide) (fun hc => ?_) (fun hc => ?_)
    · have hf := oit hf hc
      refine ev_aload_n C dX9_setsOf_66 rfl (q := 0) rfl ?_
      obtain ⟨x1, e2, hf⟩ := obnd hf
      refine ev_get (k := 1) C ok_9 dX9_setsOf_67 (by decide) kw_237 (fR_V e2) ?_
      refine ev_iload_n C dX9_setsOf_70 rfl (q := 2) rfl ?_
      obtain ⟨x3, e4, hf⟩ := obnd hf
      refine ev_lald C dX9_setsOf_71 e4 ?_
      obtain rfl := Option.some.inj hf
      exact ev_lret C E (Nat.le_refl 0) (Nat.le_refl 0) dX9_setsOf_72
    · have hf := oie hf hc
      refine ev_iload_n C dX9_setsOf_22 rfl (q := 3) rfl ?_
      refine ev_istore (l' := [(4, .int i3), (0, .ref a0), (1, .int i1), (2, .int i2), (3, .int i3)]) C dX9_setsOf_23 (by decide) rfl ?_
      refine ev_sub [1, 2, 3, 4, 0] rfl ?_
      exact t_X9_setsOf_L25 C E (m_X9_setsOf_L17 N  n) ih N a0 i1 i2 i3 i3 M hf
def m_X9_setsOf (N : Nat) (a0 : Nat) (i1 : Int32) (i2 : Int32) (M : mM) : Option (Int64 × mM) :=
  (fR M a0 9 1).bind fun x1 =>
  (m_J7_fill_d0a16 N x1 0 M).bind fun x3 =>
  (fR x3 a0 9 1).bind fun x5 =>
  (uL x3 x5 0 1).bind fun M7 =>
  m_X9_setsOf_L17 N  N a0 i1 i2 1 M7
set_option maxHeartbeats 4000000 in
set_option maxRecDepth 100000 in
theorem t_X9_setsOf {L0 : Launch} {M : mM} {N : Nat} {a0 : Nat} {i1 : Int32} {i2 : Int32} {res : Int64 × mM} (hf : m_X9_setsOf N a0 i1 i2 M = some res) : CT L0 yX9_setsOf prog_11_method_8_code 5 (some .long) 1 24 0 0 [.ref a0, .int i1, .int i2] M (some (.long res.1)) res.2 := by
  refine CT.of (by decide +kernel) (Nat.le_of_ble_eq_true rfl) fun X C E => ?_
  have C : CX X RX9 "setsOf" prog_11_method_8_code 5 (some .long) := C
  show EV X 5 0 [(0, .ref a0), (1, .int i1), (2, .int i2)] [] 0 0 M
  unfold m_X9_setsOf at hf
  refine ev_aload_n C dX9_setsOf_0 rfl (q := 0) rfl ?_
  obtain ⟨x1, e2, hf⟩ := obnd hf
  refine ev_get (k := 1) C ok_9 dX9_setsOf_1 (by decide) kw_237 (fR_V e2) ?_
  refine ev_lconst (v := 0) C dX9_setsOf_4 (by decide) ?_
  obtain ⟨x3, e4, hf⟩ := obnd hf
  refine ev_callS0 (As := [.ref x1, .long 0]) (st := []) C (t_J7_fill_d0a16 e4) hd_J7_fill_d0a16 rfl kw_551 kw_552 kw_86 kw_553 (mRoom.of E (Nat.le_of_ble_eq_true rfl) (Nat.le_of_ble_eq_true rfl) (Nat.le_refl 0) (Nat.le_refl 0)) (Nat.le_of_ble_eq_true rfl) dX9_setsOf_5 ?_
  refine ev_aload_n C dX9_setsOf_8 rfl (q := 0) rfl ?_
  obtain ⟨x5, e6, hf⟩ := obnd hf
  refine ev_get (k := 1) C ok_9 dX9_setsOf_9 (by decide) kw_237 (fR_V e6) ?_
  refine ev_iconst (v := 0) C dX9_setsOf_12 (by decide) ?_
  refine ev_lconst (v := 1) C dX9_setsOf_13 (by decide) ?_
  obtain ⟨M7, e8, hf⟩ := obnd hf
  refine ev_last C dX9_setsOf_14 e8 ?_
  refine ev_iconst (v := 1) C dX9_setsOf_15 (by decide) ?_
  refine ev_istore_n (l' := [(3, .int 1), (0, .ref a0), (1, .int i1), (2, .int i2)]) C dX9_setsOf_16 rfl (by decide) rfl ?_
  refine ev_sub [1, 2, 3, 0] rfl ?_
  exact t_X9_setsOf_L17 C E   N a0 i1 i2 1 M7 hf
/-! FareLimits$Whole power(JI)J -/
theorem dX9_power_0 : decode prog_11_method_4_code 0 = .ok (.lconst 1, 1) := by decide +kernel
theorem dX9_power_1 : decode prog_11_method_4_code 1 = .ok (.lstore_n 3, 1) := by decide +kernel
theorem dX9_power_2 : decode prog_11_method_4_code 2 = .ok (.iconst 0, 1) := by decide +kernel
theorem dX9_power_3 : decode prog_11_method_4_code 3 = .ok (.istore 5, 2) := by decide +kernel
theorem dX9_power_5 : decode prog_11_method_4_code 5 = .ok (.iload 5, 2) := by decide +kernel
theorem dX9_power_7 : decode prog_11_method_4_code 7 = .ok (.iload_n 2, 1) := by decide +kernel
theorem dX9_power_8 : decode prog_11_method_4_code 8 = .ok (.if_icmp .ge 15, 3) := by decide +kernel
theorem dX9_power_11 : decode prog_11_method_4_code 11 = .ok (.lload_n 3, 1) := by decide +kernel
theorem dX9_power_12 : decode prog_11_method_4_code 12 = .ok (.lload_n 0, 1) := by decide +kernel
theorem dX9_power_13 : decode prog_11_method_4_code 13 = .ok (.invokestatic 23, 3) := by decide +kernel
theorem dX9_power_16 : decode prog_11_method_4_code 16 = .ok (.lstore_n 3, 1) := by decide +kernel
theorem dX9_power_17 : decode prog_11_method_4_code 17 = .ok (.iinc 5 1, 3) := by decide +kernel
theorem dX9_power_20 : decode prog_11_method_4_code 20 = .ok (.goto (-15), 3) := by decide +kernel
theorem dX9_power_23 : decode prog_11_method_4_code 23 = .ok (.lload_n 3, 1) := by decide +kernel
theorem dX9_power_24 : decode prog_11_method_4_code 24 = .ok (.lreturn, 1) := by decide +kernel
def m_X9_power_L5 (N : Nat)  : Nat → Int64 → Int32 → Int64 → Int32 → Option (Int64)
  | 0, _, _, _, _ => none
  | n + 1, j0, i2, j3, i5 =>
    if i2 ≤ i5 then (
      some j3) else (
      (m_X9_times j3 j0).bind fun x1 =>
      (m_X9_power_L5 N  n) j0 i2 x1 (i5 + 1))
set_option maxHeartbeats 4000000 in
set_option maxRecDepth 100000 in
theorem t_X9_power_L5 {X : mX} {M : mM} {L0 : Launch} {res : Int64} {N : Nat} (C : CX X RX9 "power" prog_11_method_4_code 6 (some .long)) (E : EX X L0 1 23 0 0 (some (.long res)) M)   : ∀ (n : Nat) (j0 : Int64) (i2 : Int32) (j3 : Int64) (i5 : Int32), m_X9_power_L5 N  n j0 i2 j3 i5 = some res → EV X 6 5 [(0, .long j0), (2, .int i2), (3, .long j3), (5, .int i5)] [] 0 0 M := by
  intro n
  induction n with
  | zero => intro j0 i2 j3 i5 hf; cases (show (none : Option (Int64)) = some res from hf)
  | succ n ih =>
    intro j0 i2 j3 i5 hf
    rw [m_X9_power_L5] at hf
    refine ev_iload C dX9_power_5 (q := 3) rfl ?_
    refine ev_iload_n C dX9_power_7 rfl (q := 1) rfl ?_
    refine ev_icmp_ge (tgt := 23) C dX9_power_8 (by decide) (fun hc => ?_) (fun hc => ?_)
    · have hf := oit hf hc
      refine ev_lload_n C dX9_power_23 rfl (q := 2) rfl ?_
      obtain rfl := Option.some.inj hf
      exact ev_lret C E (Nat.le_refl 0) (Nat.le_refl 0) dX9_power_24
    · have hf := oie hf hc
      refine ev_lload_n C dX9_power_11 rfl (q := 2) rfl ?_
      refine ev_lload_n C dX9_power_12 rfl (q := 0) rfl ?_
      obtain ⟨x1, e2, hf⟩ := obnd hf
      refine ev_callS0 (As := [.long j3, .long j0]) (st := []) C (t_X9_times e2) hd_X9_times rfl kw_560 kw_561 kw_77 kw_562 (mRoom.of E (Nat.le_of_ble_eq_true rfl) (Nat.le_of_ble_eq_true rfl) (Nat.le_refl 0) (Nat.le_refl 0)) (Nat.le_of_ble_eq_true rfl) dX9_power_13 ?_
      refine ev_lstore_n (l' := [(3, .long x1), (0, .long j0), (2, .int i2), (5, .int i5)]) C dX9_power_16 rfl (by decide) rfl ?_
      refine ev_iinc (v := i5 + 1) (l' := [(5, .int (i5 + 1)), (3, .long x1), (0, .long j0), (2, .int i2)]) C dX9_power_17 (q := 3) rfl rfl (by decide) rfl ?_
      refine ev_goto (tgt := 5) C dX9_power_20 (by decide) ?_
      refine ev_sub [2, 3, 1, 0] rfl ?_
      exact ih j0 i2 x1 (i5 + 1) hf
def m_X9_power (N : Nat) (j0 : Int64) (i2 : Int32) : Option (Int64) :=
  m_X9_power_L5 N  N j0 i2 1 0
set_option maxHeartbeats 4000000 in
set_option maxRecDepth 100000 in
theorem t_X9_power {L0 : Launch} {M : mM} {N : Nat} {j0 : Int64} {i2 : Int32} {res : Int64} (hf : m_X9_power N j0 i2 = some res) : CT L0 yX9_power prog_11_method_4_code 6 (some .long) 1 23 0 0 [.long j0, .int i2] M (some (.long res)) M := by
  refine CT.of (by decide +kernel) (Nat.le_of_ble_eq_true rfl) fun X C E => ?_
  have C : CX X RX9 "power" prog_11_method_4_code 6 (some .long) := C
  show EV X 6 0 [(0, .long j0), (2, .int i2)] [] 0 0 M
  unfold m_X9_power at hf
  refine ev_lconst (v := 1) C dX9_power_0 (by decide) ?_
  refine ev_lstore_n (l' := [(3, .long 1), (0, .long j0), (2, .int i2)]) C dX9_power_1 rfl (by decide) rfl ?_
  refine ev_iconst (v := 0) C dX9_power_2 (by decide) ?_
  refine ev_istore (l' := [(5, .int 0), (3, .long 1), (0, .long j0), (2, .int i2)]) C dX9_power_3 (by decide) rfl ?_
  refine ev_sub [2, 3, 1, 0] rfl ?_
  exact t_X9_power_L5 C E   N j0 i2 1 0 hf
/-! FareLimits$Whole waysOf(III)J -/
theorem dX9_waysOf_0 : decode prog_11_method_7_code 0 = .ok (.aload_n 0, 1) := by decide +kernel
theorem dX9_waysOf_1 : decode prog_11_method_7_code 1 = .ok (.iload_n 1, 1) := by decide +kernel
theorem dX9_waysOf_2 : decode prog_11_method_7_code 2 = .ok (.iload_n 2, 1) := by decide +kernel
theorem dX9_waysOf_3 : decode prog_11_method_7_code 3 = .ok (.invokevirtual 65, 3) := by decide +kernel
theorem dX9_waysOf_6 : decode prog_11_method_7_code 6 = .ok (.iload_n 3, 1) := by decide +kernel
theorem dX9_waysOf_7 : decode prog_11_method_7_code 7 = .ok (.i2l, 1) := by decide +kernel
theorem dX9_waysOf_8 : decode prog_11_method_7_code 8 = .ok (.iload_n 2, 1) := by decide +kernel
theorem dX9_waysOf_9 : decode prog_11_method_7_code 9 = .ok (.invokestatic 69, 3) := by decide +kernel
theorem dX9_waysOf_12 : decode prog_11_method_7_code 12 = .ok (.invokestatic 23, 3) := by decide +kernel
theorem dX9_waysOf_15 : decode prog_11_method_7_code 15 = .ok (.lstore 4, 2) := by decide +kernel
theorem dX9_waysOf_17 : decode prog_11_method_7_code 17 = .ok (.lload 4, 2) := by decide +kernel
theorem dX9_waysOf_19 : decode prog_11_method_7_code 19 = .ok (.bipush 100, 2) := by decide +kernel
theorem dX9_waysOf_21 : decode prog_11_method_7_code 21 = .ok (.iload_n 3, 1) := by decide +kernel
theorem dX9_waysOf_22 : decode prog_11_method_7_code 22 = .ok (.isub, 1) := by decide +kernel
theorem dX9_waysOf_23 : decode prog_11_method_7_code 23 = .ok (.i2l, 1) := by decide +kernel
theorem dX9_waysOf_24 : decode prog_11_method_7_code 24 = .ok (.iload_n 1, 1) := by decide +kernel
theorem dX9_waysOf_25 : decode prog_11_method_7_code 25 = .ok (.iload_n 2, 1) := by decide +kernel
theorem dX9_waysOf_26 : decode prog_11_method_7_code 26 = .ok (.isub, 1) := by decide +kernel
theorem dX9_waysOf_27 : decode prog_11_method_7_code 27 = .ok (.invokestatic 69, 3) := by decide +kernel
theorem dX9_waysOf_30 : decode prog_11_method_7_code 30 = .ok (.invokestatic 23, 3) := by decide +kernel
theorem dX9_waysOf_33 : decode prog_11_method_7_code 33 = .ok (.lreturn, 1) := by decide +kernel
def m_X9_waysOf (N : Nat) (a0 : Nat) (i1 : Int32) (i2 : Int32) (i3 : Int32) (M : mM) : Option (Int64 × mM) :=
  (oO M a0 9).bind fun _ =>
  (m_X9_setsOf N a0 i1 i2 M).bind fun x3 =>
  (m_X9_power N i3.toInt64 i2).bind fun x5 =>
  (m_X9_times x3.1 x5).bind fun x7 =>
  (m_X9_power N ((100 - i3).toInt64) (i1 - i2)).bind fun x9 =>
  (m_X9_times x7 x9).bind fun x11 =>
  some (x11, x3.2)
set_option maxHeartbeats 4000000 in
set_option maxRecDepth 100000 in
theorem t_X9_waysOf {L0 : Launch} {M : mM} {N : Nat} {a0 : Nat} {i1 : Int32} {i2 : Int32} {i3 : Int32} {res : Int64 × mM} (hf : m_X9_waysOf N a0 i1 i2 i3 M = some res) : CT L0 yX9_waysOf prog_11_method_7_code 6 (some .long) 2 48 0 0 [.ref a0, .int i1, .int i2, .int i3] M (some (.long res.1)) res.2 := by
  refine CT.of (by decide +kernel) (Nat.le_of_ble_eq_true rfl) fun X C E => ?_
  have C : CX X RX9 "waysOf" prog_11_method_7_code 6 (some .long) := C
  show EV X 6 0 [(0, .ref a0), (1, .int i1), (2, .int i2), (3, .int i3)] [] 0 0 M
  unfold m_X9_waysOf at hf
  refine ev_aload_n C dX9_waysOf_0 rfl (q := 0) rfl ?_
  refine ev_iload_n C dX9_waysOf_1 rfl (q := 1) rfl ?_
  refine ev_iload_n C dX9_waysOf_2 rfl (q := 2) rfl ?_
  obtain ⟨_, e1, hf⟩ := obnd hf
  obtain ⟨fs2, e1⟩ := oO_eq e1
  obtain ⟨x3, e4, hf⟩ := obnd hf
  refine ev_callV0 (As := [.int i1, .int i2]) (st := []) C rfl e1 (t_X9_setsOf e4) rfl hd_X9_setsOf rfl kw_650 kw_652 kw_77 kw_5 kw_653 (mRoom.of E (Nat.le_of_ble_eq_true rfl) (Nat.le_of_ble_eq_true rfl) (Nat.le_refl 0) (Nat.le_refl 0)) (Nat.le_of_ble_eq_true rfl) dX9_waysOf_3 ?_
  refine ev_iload_n C dX9_waysOf_6 rfl (q := 3) rfl ?_
  refine ev_i2l C dX9_waysOf_7 ?_
  refine ev_iload_n C dX9_waysOf_8 rfl (q := 2) rfl ?_
  obtain ⟨x5, e6, hf⟩ := obnd hf
  refine ev_callS0 (As := [.long i3.toInt64, .int i2]) (st := [.long x3.1]) C (t_X9_power e6) hd_X9_power rfl kw_654 kw_655 kw_77 kw_656 (mRoom.of E (Nat.le_of_ble_eq_true rfl) (Nat.le_of_ble_eq_true rfl) (Nat.le_refl 0) (Nat.le_refl 0)) (Nat.le_of_ble_eq_true rfl) dX9_waysOf_9 ?_
  obtain ⟨x7, e8, hf⟩ := obnd hf
  refine ev_callS0 (As := [.long x3.1, .long x5]) (st := []) C (t_X9_times e8) hd_X9_times rfl kw_560 kw_561 kw_77 kw_562 (mRoom.of E (Nat.le_of_ble_eq_true rfl) (Nat.le_of_ble_eq_true rfl) (Nat.le_refl 0) (Nat.le_refl 0)) (Nat.le_of_ble_eq_true rfl) dX9_waysOf_12 ?_
  refine ev_lstore (l' := [(4, .long x7), (0, .ref a0), (1, .int i1), (2, .int i2), (3, .int i3)]) C dX9_waysOf_15 (by decide) rfl ?_
  refine ev_lload C dX9_waysOf_17 (q := 0) rfl ?_
  refine ev_bipush (v := 100) C dX9_waysOf_19 (by decide) ?_
  refine ev_iload_n C dX9_waysOf_21 rfl (q := 4) rfl ?_
  refine ev_isub C dX9_waysOf_22 ?_
  refine ev_i2l C dX9_waysOf_23 ?_
  refine ev_iload_n C dX9_waysOf_24 rfl (q := 2) rfl ?_
  refine ev_iload_n C dX9_waysOf_25 rfl (q := 3) rfl ?_
  refine ev_isub C dX9_waysOf_26 ?_
  obtain ⟨x9, e10, hf⟩ := obnd hf
  refine ev_callS0 (As := [.long ((100 - i3).toInt64), .int (i1 - i2)]) (st := [.long x7]) C (t_X9_power e10) hd_X9_power rfl kw_654 kw_655 kw_77 kw_656 (mRoom.of E (Nat.le_of_ble_eq_true rfl) (Nat.le_of_ble_eq_true rfl) (Nat.le_refl 0) (Nat.le_refl 0)) (Nat.le_of_ble_eq_true rfl) dX9_waysOf_27 ?_
  obtain ⟨x11, e12, hf⟩ := obnd hf
  refine ev_callS0 (As := [.long x7, .long x9]) (st := []) C (t_X9_times e12) hd_X9_times rfl kw_560 kw_561 kw_77 kw_562 (mRoom.of E (Nat.le_of_ble_eq_true rfl) (Nat.le_of_ble_eq_true rfl) (Nat.le_refl 0) (Nat.le_refl 0)) (Nat.le_of_ble_eq_true rfl) dX9_waysOf_30 ?_
  obtain rfl := Option.some.inj hf
  exact ev_lret C E (Nat.le_refl 0) (Nat.le_refl 0) dX9_waysOf_33
/-! FareLimits ways(III)J -/
theorem dX11_ways_0 : decode prog_1_method_21_code 0 = .ok (.iload_n 1, 1) := by decide +kernel
theorem dX11_ways_1 : decode prog_1_method_21_code 1 = .ok (.bipush 40, 2) := by decide +kernel
theorem dX11_ways_3 : decode prog_1_method_21_code 3 = .ok (.invokestatic 91, 3) := by decide +kernel
theorem dX11_ways_6 : decode prog_1_method_21_code 6 = .ok (.ifCond .eq 33, 3) := by decide +kernel
theorem dX11_ways_9 : decode prog_1_method_21_code 9 = .ok (.iload_n 2, 1) := by decide +kernel
theorem dX11_ways_10 : decode prog_1_method_21_code 10 = .ok (.iload_n 1, 1) := by decide +kernel
theorem dX11_ways_11 : decode prog_1_method_21_code 11 = .ok (.invokestatic 91, 3) := by decide +kernel
theorem dX11_ways_14 : decode prog_1_method_21_code 14 = .ok (.ifCond .eq 25, 3) := by decide +kernel
theorem dX11_ways_17 : decode prog_1_method_21_code 17 = .ok (.iload_n 3, 1) := by decide +kernel
theorem dX11_ways_18 : decode prog_1_method_21_code 18 = .ok (.bipush 100, 2) := by decide +kernel
theorem dX11_ways_20 : decode prog_1_method_21_code 20 = .ok (.invokestatic 91, 3) := by decide +kernel
theorem dX11_ways_23 : decode prog_1_method_21_code 23 = .ok (.ifCond .eq 16, 3) := by decide +kernel
theorem dX11_ways_26 : decode prog_1_method_21_code 26 = .ok (.aload_n 0, 1) := by decide +kernel
theorem dX11_ways_27 : decode prog_1_method_21_code 27 = .ok (.getfield 31, 3) := by decide +kernel
theorem dX11_ways_30 : decode prog_1_method_21_code 30 = .ok (.iload_n 1, 1) := by decide +kernel
theorem dX11_ways_31 : decode prog_1_method_21_code 31 = .ok (.iload_n 2, 1) := by decide +kernel
theorem dX11_ways_32 : decode prog_1_method_21_code 32 = .ok (.iload_n 3, 1) := by decide +kernel
theorem dX11_ways_33 : decode prog_1_method_21_code 33 = .ok (.invokevirtual 195, 3) := by decide +kernel
theorem dX11_ways_36 : decode prog_1_method_21_code 36 = .ok (.goto 6, 3) := by decide +kernel
theorem dX11_ways_39 : decode prog_1_method_21_code 39 = .ok (.ldc2_w 152, 3) := by decide +kernel
theorem dX11_ways_42 : decode prog_1_method_21_code 42 = .ok (.lreturn, 1) := by decide +kernel
def m_X11_ways (N : Nat) (a0 : Nat) (i1 : Int32) (i2 : Int32) (i3 : Int32) (M : mM) : Option (Int64 × mM) :=
  (m_X11_within i1 40).bind fun x1 =>
  if x1 = 0 then (
    some ((-9223372036854775808), M)) else (
    (m_X11_within i2 i1).bind fun x3 =>
    if x3 = 0 then (
      some ((-9223372036854775808), M)) else (
      (m_X11_within i3 100).bind fun x5 =>
      if x5 = 0 then (
        some ((-9223372036854775808), M)) else (
        (fR M a0 11 4).bind fun x7 =>
        (oO M x7 9).bind fun _ =>
        (m_X9_waysOf N x7 i1 i2 i3 M).bind fun x11 =>
        some (x11.1, x11.2))))
set_option maxHeartbeats 4000000 in
set_option maxRecDepth 100000 in
theorem t_X11_ways {L0 : Launch} {M : mM} {N : Nat} {a0 : Nat} {i1 : Int32} {i2 : Int32} {i3 : Int32} {res : Int64 × mM} (hf : m_X11_ways N a0 i1 i2 i3 M = some res) : CT L0 yX11_ways prog_1_method_21_code 4 (some .long) 3 73 0 0 [.ref a0, .int i1, .int i2, .int i3] M (some (.long res.1)) res.2 := by
  refine CT.of (by decide +kernel) (Nat.le_of_ble_eq_true rfl) fun X C E => ?_
  have C : CX X RX11 "ways" prog_1_method_21_code 4 (some .long) := C
  show EV X 4 0 [(0, .ref a0), (1, .int i1), (2, .int i2), (3, .int i3)] [] 0 0 M
  unfold m_X11_ways at hf
  refine ev_iload_n C dX11_ways_0 rfl (q := 1) rfl ?_
  refine ev_bipush (v := 40) C dX11_ways_1 (by decide) ?_
  obtain ⟨x1, e2, hf⟩ := obnd hf
  refine ev_callS0 (As := [.int i1, .int 40]) (st := []) C (t_X11_within e2) hd_X11_within rfl kw_435 kw_436 kw_70 kw_437 (mRoom.of E (Nat.le_of_ble_eq_true rfl) (Nat.le_of_ble_eq_true rfl) (Nat.le_refl 0) (Nat.le_refl 0)) (Nat.le_of_ble_eq_true rfl) dX11_ways_3 ?_
  refine ev_if_eq (tgt := 39) C dX11_ways_6 (by decide) (fun hc => ?_) (fun hc => ?_)
  · have hf := oit hf hc
    refine ev_ldc2 (v := (-9223372036854775808)) C dX11_ways_39 kw_493 ?_
    obtain rfl := Option.some.inj hf
    exact ev_lret C E (Nat.le_refl 0) (Nat.le_refl 0) dX11_ways_42
  · have hf := oie hf hc
    refine ev_iload_n C dX11_ways_9 rfl (q := 2) rfl ?_
    refine ev_iload_n C dX11_ways_10 rfl (q := 1) rfl ?_
    obtain ⟨x3, e4, hf⟩ := obnd hf
    refine ev_callS0 (As := [.int i2, .int i1]) (st := []) C (t_X11_within e4) hd_X11_within rfl kw_435 kw_436 kw_70 kw_437 (mRoom.of E (Nat.le_of_ble_eq_true rfl) (Nat.le_of_ble_eq_true rfl) (Nat.le_refl 0) (Nat.le_refl 0)) (Nat.le_of_ble_eq_true rfl) dX11_ways_11 ?_
    refine ev_if_eq (tgt := 39) C dX11_ways_14 (by decide) (fun hc => ?_) (fun hc => ?_)
    · have hf := oit hf hc
      refine ev_ldc2 (v := (-9223372036854775808)) C dX11_ways_39 kw_493 ?_
      obtain rfl := Option.some.inj hf
      exact ev_lret C E (Nat.le_refl 0) (Nat.le_refl 0) dX11_ways_42
    · have hf := oie hf hc
      refine ev_iload_n C dX11_ways_17 rfl (q := 3) rfl ?_
      refine ev_bipush (v := 100) C dX11_ways_18 (by decide) ?_
      obtain ⟨x5, e6, hf⟩ := obnd hf
      refine ev_callS0 (As := [.int i3, .int 100]) (st := []) C (t_X11_within e6) hd_X11_within rfl kw_435 kw_436 kw_70 kw_437 (mRoom.of E (Nat.le_of_ble_eq_true rfl) (Nat.le_of_ble_eq_true rfl) (Nat.le_refl 0) (Nat.le_refl 0)) (Nat.le_of_ble_eq_true rfl) dX11_ways_20 ?_
      refine ev_if_eq (tgt := 39) C dX11_ways_23 (by decide) (fun hc => ?_) (fun hc => ?_)
      · have hf := oit hf hc
        refine ev_ldc2 (v := (-9223372036854775808)) C dX11_ways_39 kw_493 ?_
        obtain rfl := Option.some.inj hf
        exact ev_lret C E (Nat.le_refl 0) (Nat.le_refl 0) dX11_ways_42
      · have hf := oie hf hc
        refine ev_aload_n C dX11_ways_26 rfl (q := 0) rfl ?_
        obtain ⟨x7, e8, hf⟩ := obnd hf
        refine ev_get (k := 4) C ok_11 dX11_ways_27 (by decide) kw_396 (fR_V e8) ?_
        refine ev_iload_n C dX11_ways_30 rfl (q := 1) rfl ?_
        refine ev_iload_n C dX11_ways_31 rfl (q := 2) rfl ?_
        refine ev_iload_n C dX11_ways_32 rfl (q := 3) rfl ?_
        obtain ⟨_, e9, hf⟩ := obnd hf
        obtain ⟨fs10, e9⟩ := oO_eq e9
        obtain ⟨x11, e12, hf⟩ := obnd hf
        refine ev_callV0 (As := [.int i1, .int i2, .int i3]) (st := []) C rfl e9 (t_X9_waysOf e12) rfl hd_X9_waysOf rfl kw_646 kw_647 kw_77 kw_648 kw_649 (mRoom.of E (Nat.le_of_ble_eq_true rfl) (Nat.le_of_ble_eq_true rfl) (Nat.le_refl 0) (Nat.le_refl 0)) (Nat.le_of_ble_eq_true rfl) dX11_ways_33 ?_
        refine ev_goto (tgt := 42) C dX11_ways_36 (by decide) ?_
        obtain rfl := Option.some.inj hf
        exact ev_lret C E (Nat.le_refl 0) (Nat.le_refl 0) dX11_ways_42
/-! FareLimits$Chances ofAsking(II)[D -/
theorem dX0_ofAsking_0 : decode prog_2_method_3_code 0 = .ok (.aload_n 0, 1) := by decide +kernel
theorem dX0_ofAsking_1 : decode prog_2_method_3_code 1 = .ok (.invokevirtual 25, 3) := by decide +kernel
theorem dX0_ofAsking_4 : decode prog_2_method_3_code 4 = .ok (.iconst 1, 1) := by decide +kernel
theorem dX0_ofAsking_5 : decode prog_2_method_3_code 5 = .ok (.istore_n 3, 1) := by decide +kernel
theorem dX0_ofAsking_6 : decode prog_2_method_3_code 6 = .ok (.iload_n 3, 1) := by decide +kernel
theorem dX0_ofAsking_7 : decode prog_2_method_3_code 7 = .ok (.iload_n 2, 1) := by decide +kernel
theorem dX0_ofAsking_8 : decode prog_2_method_3_code 8 = .ok (.if_icmp .gt 44, 3) := by decide +kernel
theorem dX0_ofAsking_11 : decode prog_2_method_3_code 11 = .ok (.aload_n 0, 1) := by decide +kernel
theorem dX0_ofAsking_12 : decode prog_2_method_3_code 12 = .ok (.getfield 15, 3) := by decide +kernel
theorem dX0_ofAsking_15 : decode prog_2_method_3_code 15 = .ok (.getfield 32, 3) := by decide +kernel
theorem dX0_ofAsking_18 : decode prog_2_method_3_code 18 = .ok (.iload_n 1, 1) := by decide +kernel
theorem dX0_ofAsking_19 : decode prog_2_method_3_code 19 = .ok (.aaload, 1) := by decide +kernel
theorem dX0_ofAsking_20 : decode prog_2_method_3_code 20 = .ok (.getfield 36, 3) := by decide +kernel
theorem dX0_ofAsking_23 : decode prog_2_method_3_code 23 = .ok (.iload_n 3, 1) := by decide +kernel
theorem dX0_ofAsking_24 : decode prog_2_method_3_code 24 = .ok (.invokestatic 42, 3) := by decide +kernel
theorem dX0_ofAsking_27 : decode prog_2_method_3_code 27 = .ok (.iaload, 1) := by decide +kernel
theorem dX0_ofAsking_28 : decode prog_2_method_3_code 28 = .ok (.i2d, 1) := by decide +kernel
theorem dX0_ofAsking_29 : decode prog_2_method_3_code 29 = .ok (.ldc2_w 46, 3) := by decide +kernel
theorem dX0_ofAsking_32 : decode prog_2_method_3_code 32 = .ok (.ddiv, 1) := by decide +kernel
theorem dX0_ofAsking_33 : decode prog_2_method_3_code 33 = .ok (.dstore 4, 2) := by decide +kernel
theorem dX0_ofAsking_35 : decode prog_2_method_3_code 35 = .ok (.aload_n 0, 1) := by decide +kernel
theorem dX0_ofAsking_36 : decode prog_2_method_3_code 36 = .ok (.iload_n 3, 1) := by decide +kernel
theorem dX0_ofAsking_37 : decode prog_2_method_3_code 37 = .ok (.dconst 1, 1) := by decide +kernel
theorem dX0_ofAsking_38 : decode prog_2_method_3_code 38 = .ok (.dload 4, 2) := by decide +kernel
theorem dX0_ofAsking_40 : decode prog_2_method_3_code 40 = .ok (.dsub, 1) := by decide +kernel
theorem dX0_ofAsking_41 : decode prog_2_method_3_code 41 = .ok (.dload 4, 2) := by decide +kernel
theorem dX0_ofAsking_43 : decode prog_2_method_3_code 43 = .ok (.invokevirtual 28, 3) := by decide +kernel
theorem dX0_ofAsking_46 : decode prog_2_method_3_code 46 = .ok (.iinc 3 1, 3) := by decide +kernel
theorem dX0_ofAsking_49 : decode prog_2_method_3_code 49 = .ok (.goto (-43), 3) := by decide +kernel
theorem dX0_ofAsking_52 : decode prog_2_method_3_code 52 = .ok (.aload_n 0, 1) := by decide +kernel
theorem dX0_ofAsking_53 : decode prog_2_method_3_code 53 = .ok (.getfield 9, 3) := by decide +kernel
theorem dX0_ofAsking_56 : decode prog_2_method_3_code 56 = .ok (.areturn, 1) := by decide +kernel
def m_X0_ofAsking_L6 (N : Nat)  : Nat → Nat → Int32 → Int32 → Int32 → mM → Option (Nat × mM)
  | 0, _, _, _, _, _ => none
  | n + 1, a0, i1, i2, i3, M =>
    if i2 < i3 then (
      (fR M a0 1 1).bind fun x1 =>
      some (x1, M)) else (
      (fR M a0 1 0).bind fun x3 =>
      (fR M x3 5 0).bind fun x5 =>
      (aR 5 M x5 i1).bind fun x7 =>
      (fR M x7 3 3).bind fun x9 =>
      (m_X11_phaseOf i3).bind fun x11 =>
      (aI 0 M x9 x11).bind fun x13 =>
      (oD (FP.ddiv (FP.i2d x13) 4636737291354636288)).bind fun x15 =>
      (oD (FP.dsub FP.dconst1 x15)).bind fun x17 =>
      (oO M a0 1).bind fun _ =>
      (m_X0_oneMore N a0 i3 x17 x15 M).bind fun x21 =>
      (m_X0_ofAsking_L6 N  n) a0 i1 i2 (i3 + 1) x21)
set_option maxHeartbeats 4000000 in
set_option maxRecDepth 100000 in
theorem t_X0_ofAsking_L6 {X : mX} {L0 : Launch} {res : Nat × mM} {N : Nat} (C : CX X RX0 "ofAsking" prog_2_method_3_code 6 (some (.array .double))) (E : EX X L0 2 44 0 0 (some (.ref res.1)) res.2)   : ∀ (n : Nat) (a0 : Nat) (i1 : Int32) (i2 : Int32) (i3 : Int32) (M : mM), m_X0_ofAsking_L6 N  n a0 i1 i2 i3 M = some res → EV X 6 6 [(0, .ref a0), (1, .int i1), (2, .int i2), (3, .int i3)] [] 0 0 M := by
  intro n
  induction n with
  | zero => intro a0 i1 i2 i3 M hf; cases (show (none : Option (Nat × mM)) = some res from hf)
  | succ n ih =>
    intro a0 i1 i2 i3 M hf
    rw [m_X0_ofAsking_L6] at hf
    refine ev_iload_n C dX0_ofAsking_6 rfl (q := 3) rfl ?_
    refine ev_iload_n C dX0_ofAsking_7 rfl (q := 2) rfl ?_
    refine ev_icmp_gt (tgt := 52) C dX0_ofAsking_8 (by decide) (fun hc => ?_) (fun hc => ?_)
    · have hf := oit hf hc
      refine ev_aload_n C dX0_ofAsking_52 rfl (q := 0) rfl ?_
      obtain ⟨x1, e2, hf⟩ := obnd hf
      refine ev_get (k := 1) C ok_1 dX0_ofAsking_53 (by decide) kw_251 (fR_V e2) ?_
      obtain rfl := Option.some.inj hf
      exact ev_aret C (by first | exact Or.inl ⟨_, rfl⟩ | exact Or.inr ⟨_, rfl⟩) E (Nat.le_refl 0) (Nat.le_refl 0) dX0_ofAsking_56
    · have hf := oie hf hc
      refine ev_aload_n C dX0_ofAsking_11 rfl (q := 0) rfl ?_
      obtain ⟨x3, e4, hf⟩ := obnd hf
      refine ev_get (k := 0) C ok_1 dX0_ofAsking_12 (by decide) kw_250 (fR_V e4) ?_
      obtain ⟨x5, e6, hf⟩ := obnd hf
      refine ev_get (k := 0) C ok_5 dX0_ofAsking_15 (by decide) kw_178 (fR_V e6) ?_
      refine ev_iload_n C dX0_ofAsking_18 rfl (q := 1) rfl ?_
      obtain ⟨x7, e8, hf⟩ := obnd hf
      refine ev_aldr C (t := 5) rfl rfl dX0_ofAsking_19 e8 ?_
      obtain ⟨x9, e10, hf⟩ := obnd hf
      refine ev_get (k := 3) C ok_3 dX0_ofAsking_20 (by decide) kw_161 (fR_V e10) ?_
      refine ev_iload_n C dX0_ofAsking_23 rfl (q := 3) rfl ?_
      obtain ⟨x11, e12, hf⟩ := obnd hf
      refine ev_callSN0 (As := [.int i3]) (st := [.ref x9]) C (t_X11_phaseOf e12) hd_X11_phaseOf rfl C.K.2.2.1.2.2.2.2.2.2.1 kw_522 kw_70 kw_523 (mRoom.of E (Nat.le_of_ble_eq_true rfl) (Nat.le_of_ble_eq_true rfl) (Nat.le_refl 0) (Nat.le_refl 0)) (Nat.le_of_ble_eq_true rfl) dX0_ofAsking_24 ?_
      obtain ⟨x13, e14, hf⟩ := obnd hf
      refine ev_iald C dX0_ofAsking_27 e14 ?_
      refine ev_i2d C dX0_ofAsking_28 ?_
      refine ev_ldc2d (v := 4636737291354636288) C dX0_ofAsking_29 kw_666 ?_
      obtain ⟨x15, e16, hf⟩ := obnd hf
      obtain ⟨e16, e16q⟩ := oD_eq e16
      refine ev_ddiv C dX0_ofAsking_32 e16 ?_
      rw [← e16q]
      refine ev_dstore (l' := [(4, .double x15), (0, .ref a0), (1, .int i1), (2, .int i2), (3, .int i3)]) C dX0_ofAsking_33 (by decide) rfl ?_
      refine ev_aload_n C dX0_ofAsking_35 rfl (q := 1) rfl ?_
      refine ev_iload_n C dX0_ofAsking_36 rfl (q := 4) rfl ?_
      refine ev_dconst1 C dX0_ofAsking_37 ?_
      refine ev_dload C dX0_ofAsking_38 (q := 0) rfl ?_
      obtain ⟨x17, e18, hf⟩ := obnd hf
      obtain ⟨e18, e18q⟩ := oD_eq e18
      refine ev_dsub C dX0_ofAsking_40 e18 ?_
      rw [← e18q]
      refine ev_dload C dX0_ofAsking_41 (q := 0) rfl ?_
      obtain ⟨_, e19, hf⟩ := obnd hf
      obtain ⟨fs20, e19⟩ := oO_eq e19
      obtain ⟨x21, e22, hf⟩ := obnd hf
      refine ev_callV0 (As := [.int i3, .double x17, .double x15]) (st := []) C rfl e19 (t_X0_oneMore e22) rfl hd_X0_oneMore rfl kw_609 kw_611 kw_78 kw_4 kw_612 (mRoom.of E (Nat.le_of_ble_eq_true rfl) (Nat.le_of_ble_eq_true rfl) (Nat.le_refl 0) (Nat.le_refl 0)) (Nat.le_of_ble_eq_true rfl) dX0_ofAsking_43 ?_
      refine ev_iinc (v := i3 + 1) (l' := [(3, .int (i3 + 1)), (4, .double x15), (0, .ref a0), (1, .int i1), (2, .int i2)]) C dX0_ofAsking_46 (q := 4) rfl rfl (by decide) rfl ?_
      refine ev_goto (tgt := 6) C dX0_ofAsking_49 (by decide) ?_
      refine ev_sub [2, 3, 4, 0] rfl ?_
      exact ih a0 i1 i2 (i3 + 1) x21 hf
def m_X0_ofAsking (N : Nat) (a0 : Nat) (i1 : Int32) (i2 : Int32) (M : mM) : Option (Nat × mM) :=
  (oO M a0 1).bind fun _ =>
  (m_X0_begin N a0 M).bind fun x3 =>
  m_X0_ofAsking_L6 N  N a0 i1 i2 1 x3
set_option maxHeartbeats 4000000 in
set_option maxRecDepth 100000 in
theorem t_X0_ofAsking {L0 : Launch} {M : mM} {N : Nat} {a0 : Nat} {i1 : Int32} {i2 : Int32} {res : Nat × mM} (hf : m_X0_ofAsking N a0 i1 i2 M = some res) : CT L0 yX0_ofAsking prog_2_method_3_code 6 (some (.array .double)) 2 44 0 0 [.ref a0, .int i1, .int i2] M (some (.ref res.1)) res.2 := by
  refine CT.of (by decide +kernel) (Nat.le_of_ble_eq_true rfl) fun X C E => ?_
  have C : CX X RX0 "ofAsking" prog_2_method_3_code 6 (some (.array .double)) := C
  show EV X 6 0 [(0, .ref a0), (1, .int i1), (2, .int i2)] [] 0 0 M
  unfold m_X0_ofAsking at hf
  refine ev_aload_n C dX0_ofAsking_0 rfl (q := 0) rfl ?_
  obtain ⟨_, e1, hf⟩ := obnd hf
  obtain ⟨fs2, e1⟩ := oO_eq e1
  obtain ⟨x3, e4, hf⟩ := obnd hf
  refine ev_callV0 (As := []) (st := []) C rfl e1 (t_X0_begin e4) rfl hd_X0_begin rfl kw_602 kw_604 kw_78 kw_3 kw_605 (mRoom.of E (Nat.le_of_ble_eq_true rfl) (Nat.le_of_ble_eq_true rfl) (Nat.le_refl 0) (Nat.le_refl 0)) (Nat.le_of_ble_eq_true rfl) dX0_ofAsking_1 ?_
  refine ev_iconst (v := 1) C dX0_ofAsking_4 (by decide) ?_
  refine ev_istore_n (l' := [(3, .int 1), (0, .ref a0), (1, .int i1), (2, .int i2)]) C dX0_ofAsking_5 rfl (by decide) rfl ?_
  refine ev_sub [1, 2, 3, 0] rfl ?_
  exact t_X0_ofAsking_L6 C E   N a0 i1 i2 1 x3 hf
/-! FareLimits demand(III)J -/
theorem dX11_demand_0 : decode prog_1_method_22_code 0 = .ok (.aload_n 0, 1) := by decide +kernel
theorem dX11_demand_1 : decode prog_1_method_22_code 1 = .ok (.getfield 12, 3) := by decide +kernel
theorem dX11_demand_4 : decode prog_1_method_22_code 4 = .ok (.iload_n 1, 1) := by decide +kernel
theorem dX11_demand_5 : decode prog_1_method_22_code 5 = .ok (.invokevirtual 112, 3) := by decide +kernel
theorem dX11_demand_8 : decode prog_1_method_22_code 8 = .ok (.ifCond .eq 21, 3) := by decide +kernel
theorem dX11_demand_11 : decode prog_1_method_22_code 11 = .ok (.iload_n 2, 1) := by decide +kernel
theorem dX11_demand_12 : decode prog_1_method_22_code 12 = .ok (.bipush 20, 2) := by decide +kernel
theorem dX11_demand_14 : decode prog_1_method_22_code 14 = .ok (.invokestatic 91, 3) := by decide +kernel
theorem dX11_demand_17 : decode prog_1_method_22_code 17 = .ok (.ifCond .eq 12, 3) := by decide +kernel
theorem dX11_demand_20 : decode prog_1_method_22_code 20 = .ok (.iload_n 3, 1) := by decide +kernel
theorem dX11_demand_21 : decode prog_1_method_22_code 21 = .ok (.bipush 20, 2) := by decide +kernel
theorem dX11_demand_23 : decode prog_1_method_22_code 23 = .ok (.invokestatic 91, 3) := by decide +kernel
theorem dX11_demand_26 : decode prog_1_method_22_code 26 = .ok (.ifCond .ne 7, 3) := by decide +kernel
theorem dX11_demand_29 : decode prog_1_method_22_code 29 = .ok (.ldc2_w 152, 3) := by decide +kernel
theorem dX11_demand_32 : decode prog_1_method_22_code 32 = .ok (.lreturn, 1) := by decide +kernel
theorem dX11_demand_33 : decode prog_1_method_22_code 33 = .ok (.aload_n 0, 1) := by decide +kernel
theorem dX11_demand_34 : decode prog_1_method_22_code 34 = .ok (.getfield 38, 3) := by decide +kernel
theorem dX11_demand_37 : decode prog_1_method_22_code 37 = .ok (.iload_n 1, 1) := by decide +kernel
theorem dX11_demand_38 : decode prog_1_method_22_code 38 = .ok (.iload_n 2, 1) := by decide +kernel
theorem dX11_demand_39 : decode prog_1_method_22_code 39 = .ok (.invokevirtual 199, 3) := by decide +kernel
theorem dX11_demand_42 : decode prog_1_method_22_code 42 = .ok (.iload_n 3, 1) := by decide +kernel
theorem dX11_demand_43 : decode prog_1_method_22_code 43 = .ok (.daload, 1) := by decide +kernel
theorem dX11_demand_44 : decode prog_1_method_22_code 44 = .ok (.invokestatic 148, 3) := by decide +kernel
theorem dX11_demand_47 : decode prog_1_method_22_code 47 = .ok (.lreturn, 1) := by decide +kernel
def m_X11_demand (N : Nat) (a0 : Nat) (i1 : Int32) (i2 : Int32) (i3 : Int32) (M : mM) : Option (Int64 × mM) :=
  (fR M a0 11 0).bind fun x1 =>
  (oO M x1 5).bind fun _ =>
  (m_X5_hasFare x1 i1 M).bind fun x5 =>
  if x5 = 0 then (
    some ((-9223372036854775808), M)) else (
    (m_X11_within i2 20).bind fun x7 =>
    if x7 = 0 then (
      some ((-9223372036854775808), M)) else (
      (m_X11_within i3 20).bind fun x9 =>
      if x9 = 0 then (
        some ((-9223372036854775808), M)) else (
        (fR M a0 11 5).bind fun x11 =>
        (oO M x11 1).bind fun _ =>
        (m_X0_ofAsking N x11 i1 i2 M).bind fun x15 =>
        (aD x15.2 x15.1 i3).bind fun x17 =>
        (m_X9_bitsOfDouble N x17).bind fun x19 =>
        some (x19, x15.2))))
set_option maxHeartbeats 4000000 in
set_option maxRecDepth 100000 in
theorem t_X11_demand {L0 : Launch} {M : mM} {N : Nat} {a0 : Nat} {i1 : Int32} {i2 : Int32} {i3 : Int32} {res : Int64 × mM} (hf : m_X11_demand N a0 i1 i2 i3 M = some res) : CT L0 yX11_demand prog_1_method_22_code 4 (some .long) 3 69 0 0 [.ref a0, .int i1, .int i2, .int i3] M (some (.long res.1)) res.2 := by
  refine CT.of (by decide +kernel) (Nat.le_of_ble_eq_true rfl) fun X C E => ?_
  have C : CX X RX11 "demand" prog_1_method_22_code 4 (some .long) := C
  show EV X 4 0 [(0, .ref a0), (1, .int i1), (2, .int i2), (3, .int i3)] [] 0 0 M
  unfold m_X11_demand at hf
  refine ev_aload_n C dX11_demand_0 rfl (q := 0) rfl ?_
  obtain ⟨x1, e2, hf⟩ := obnd hf
  refine ev_get (k := 0) C ok_11 dX11_demand_1 (by decide) kw_392 (fR_V e2) ?_
  refine ev_iload_n C dX11_demand_4 rfl (q := 1) rfl ?_
  obtain ⟨_, e3, hf⟩ := obnd hf
  obtain ⟨fs4, e3⟩ := oO_eq e3
  obtain ⟨x5, e6, hf⟩ := obnd hf
  refine ev_callV0 (As := [.int i1]) (st := []) C rfl e3 (t_X5_hasFare e6) rfl hd_X5_hasFare rfl kw_451 kw_452 kw_71 kw_453 kw_454 (mRoom.of E (Nat.le_of_ble_eq_true rfl) (Nat.le_of_ble_eq_true rfl) (Nat.le_refl 0) (Nat.le_refl 0)) (Nat.le_of_ble_eq_true rfl) dX11_demand_5 ?_
  refine ev_if_eq (tgt := 29) C dX11_demand_8 (by decide) (fun hc => ?_) (fun hc => ?_)
  · have hf := oit hf hc
    refine ev_ldc2 (v := (-9223372036854775808)) C dX11_demand_29 kw_493 ?_
    obtain rfl := Option.some.inj hf
    exact ev_lret C E (Nat.le_refl 0) (Nat.le_refl 0) dX11_demand_32
  · have hf := oie hf hc
    refine ev_iload_n C dX11_demand_11 rfl (q := 2) rfl ?_
    refine ev_bipush (v := 20) C dX11_demand_12 (by decide) ?_
    obtain ⟨x7, e8, hf⟩ := obnd hf
    refine ev_callS0 (As := [.int i2, .int 20]) (st := []) C (t_X11_within e8) hd_X11_within rfl kw_435 kw_436 kw_70 kw_437 (mRoom.of E (Nat.le_of_ble_eq_true rfl) (Nat.le_of_ble_eq_true rfl) (Nat.le_refl 0) (Nat.le_refl 0)) (Nat.le_of_ble_eq_true rfl) dX11_demand_14 ?_
    refine ev_if_eq (tgt := 29) C dX11_demand_17 (by decide) (fun hc => ?_) (fun hc => ?_)
    · have hf := oit hf hc
      refine ev_ldc2 (v := (-9223372036854775808)) C dX11_demand_29 kw_493 ?_
      obtain rfl := Option.some.inj hf
      exact ev_lret C E (Nat.le_refl 0) (Nat.le_refl 0) dX11_demand_32
    · have hf := oie hf hc
      refine ev_iload_n C dX11_demand_20 rfl (q := 3) rfl ?_
      refine ev_bipush (v := 20) C dX11_demand_21 (by decide) ?_
      obtain ⟨x9, e10, hf⟩ := obnd hf
      refine ev_callS0 (As := [.int i3, .int 20]) (st := []) C (t_X11_within e10) hd_X11_within rfl kw_435 kw_436 kw_70 kw_437 (mRoom.of E (Nat.le_of_ble_eq_true rfl) (Nat.le_of_ble_eq_true rfl) (Nat.le_refl 0) (Nat.le_refl 0)) (Nat.le_of_ble_eq_true rfl) dX11_demand_23 ?_
      refine ev_if_ne (tgt := 33) C dX11_demand_26 (by decide) (fun hc => ?_) (fun hc => ?_)
      · have hf := oie hf hc
        refine ev_aload_n C dX11_demand_33 rfl (q := 0) rfl ?_
        obtain ⟨x11, e12, hf⟩ := obnd hf
        refine ev_get (k := 5) C ok_11 dX11_demand_34 (by decide) kw_397 (fR_V e12) ?_
        refine ev_iload_n C dX11_demand_37 rfl (q := 1) rfl ?_
        refine ev_iload_n C dX11_demand_38 rfl (q := 2) rfl ?_
        obtain ⟨_, e13, hf⟩ := obnd hf
        obtain ⟨fs14, e13⟩ := oO_eq e13
        obtain ⟨x15, e16, hf⟩ := obnd hf
        refine ev_callV0 (As := [.int i1, .int i2]) (st := []) C rfl e13 (t_X0_ofAsking e16) rfl hd_X0_ofAsking rfl kw_661 kw_662 kw_78 kw_663 kw_664 (mRoom.of E (Nat.le_of_ble_eq_true rfl) (Nat.le_of_ble_eq_true rfl) (Nat.le_refl 0) (Nat.le_refl 0)) (Nat.le_of_ble_eq_true rfl) dX11_demand_39 ?_
        refine ev_iload_n C dX11_demand_42 rfl (q := 3) rfl ?_
        obtain ⟨x17, e18, hf⟩ := obnd hf
        refine ev_dald C dX11_demand_43 e18 ?_
        obtain ⟨x19, e20, hf⟩ := obnd hf
        refine ev_callS0 (As := [.double x17]) (st := []) C (t_X9_bitsOfDouble e20) hd_X9_bitsOfDouble rfl kw_486 kw_487 kw_77 kw_488 (mRoom.of E (Nat.le_of_ble_eq_true rfl) (Nat.le_of_ble_eq_true rfl) (Nat.le_refl 0) (Nat.le_refl 0)) (Nat.le_of_ble_eq_true rfl) dX11_demand_44 ?_
        obtain rfl := Option.some.inj hf
        exact ev_lret C E (Nat.le_refl 0) (Nat.le_refl 0) dX11_demand_47
      · have hf := oit hf hc
        refine ev_ldc2 (v := (-9223372036854775808)) C dX11_demand_29 kw_493 ?_
        obtain rfl := Option.some.inj hf
        exact ev_lret C E (Nat.le_refl 0) (Nat.le_refl 0) dX11_demand_32
/-! FareLimits spill(III)J -/
theorem dX11_spill_0 : decode prog_1_method_23_code 0 = .ok (.aload_n 0, 1) := by decide +kernel
theorem dX11_spill_1 : decode prog_1_method_23_code 1 = .ok (.getfield 12, 3) := by decide +kernel
theorem dX11_spill_4 : decode prog_1_method_23_code 4 = .ok (.iload_n 1, 1) := by decide +kernel
theorem dX11_spill_5 : decode prog_1_method_23_code 5 = .ok (.invokevirtual 112, 3) := by decide +kernel
theorem dX11_spill_8 : decode prog_1_method_23_code 8 = .ok (.ifCond .eq 21, 3) := by decide +kernel
theorem dX11_spill_11 : decode prog_1_method_23_code 11 = .ok (.iload_n 2, 1) := by decide +kernel
theorem dX11_spill_12 : decode prog_1_method_23_code 12 = .ok (.bipush 20, 2) := by decide +kernel
theorem dX11_spill_14 : decode prog_1_method_23_code 14 = .ok (.invokestatic 91, 3) := by decide +kernel
theorem dX11_spill_17 : decode prog_1_method_23_code 17 = .ok (.ifCond .eq 12, 3) := by decide +kernel
theorem dX11_spill_20 : decode prog_1_method_23_code 20 = .ok (.iload_n 3, 1) := by decide +kernel
theorem dX11_spill_21 : decode prog_1_method_23_code 21 = .ok (.bipush 30, 2) := by decide +kernel
theorem dX11_spill_23 : decode prog_1_method_23_code 23 = .ok (.invokestatic 91, 3) := by decide +kernel
theorem dX11_spill_26 : decode prog_1_method_23_code 26 = .ok (.ifCond .ne 7, 3) := by decide +kernel
theorem dX11_spill_29 : decode prog_1_method_23_code 29 = .ok (.ldc2_w 152, 3) := by decide +kernel
theorem dX11_spill_32 : decode prog_1_method_23_code 32 = .ok (.lreturn, 1) := by decide +kernel
theorem dX11_spill_33 : decode prog_1_method_23_code 33 = .ok (.aload_n 0, 1) := by decide +kernel
theorem dX11_spill_34 : decode prog_1_method_23_code 34 = .ok (.getfield 38, 3) := by decide +kernel
theorem dX11_spill_37 : decode prog_1_method_23_code 37 = .ok (.iload_n 1, 1) := by decide +kernel
theorem dX11_spill_38 : decode prog_1_method_23_code 38 = .ok (.iload_n 2, 1) := by decide +kernel
theorem dX11_spill_39 : decode prog_1_method_23_code 39 = .ok (.invokevirtual 199, 3) := by decide +kernel
theorem dX11_spill_42 : decode prog_1_method_23_code 42 = .ok (.pop, 1) := by decide +kernel
theorem dX11_spill_43 : decode prog_1_method_23_code 43 = .ok (.aload_n 0, 1) := by decide +kernel
theorem dX11_spill_44 : decode prog_1_method_23_code 44 = .ok (.getfield 38, 3) := by decide +kernel
theorem dX11_spill_47 : decode prog_1_method_23_code 47 = .ok (.iload_n 3, 1) := by decide +kernel
theorem dX11_spill_48 : decode prog_1_method_23_code 48 = .ok (.iload_n 2, 1) := by decide +kernel
theorem dX11_spill_49 : decode prog_1_method_23_code 49 = .ok (.invokevirtual 185, 3) := by decide +kernel
theorem dX11_spill_52 : decode prog_1_method_23_code 52 = .ok (.invokestatic 148, 3) := by decide +kernel
theorem dX11_spill_55 : decode prog_1_method_23_code 55 = .ok (.lreturn, 1) := by decide +kernel
def m_X11_spill (N : Nat) (a0 : Nat) (i1 : Int32) (i2 : Int32) (i3 : Int32) (M : mM) : Option (Int64 × mM) :=
  (fR M a0 11 0).bind fun x1 =>
  (oO M x1 5).bind fun _ =>
  (m_X5_hasFare x1 i1 M).bind fun x5 =>
  if x5 = 0 then (
    some ((-9223372036854775808), M)) else (
    (m_X11_within i2 20).bind fun x7 =>
    if x7 = 0 then (
      some ((-9223372036854775808), M)) else (
      (m_X11_within i3 30).bind fun x9 =>
      if x9 = 0 then (
        some ((-9223372036854775808), M)) else (
        (fR M a0 11 5).bind fun x11 =>
        (oO M x11 1).bind fun _ =>
        (m_X0_ofAsking N x11 i1 i2 M).bind fun x15 =>
        (fR x15.2 a0 11 5).bind fun x17 =>
        (oO x15.2 x17 1).bind fun _ =>
        (m_X0_expectedAbove N x17 i3 i2 x15.2).bind fun x21 =>
        (m_X9_bitsOfDouble N x21).bind fun x23 =>
        some (x23, x15.2))))
set_option maxHeartbeats 4000000 in
set_option maxRecDepth 100000 in
theorem t_X11_spill {L0 : Launch} {M : mM} {N : Nat} {a0 : Nat} {i1 : Int32} {i2 : Int32} {i3 : Int32} {res : Int64 × mM} (hf : m_X11_spill N a0 i1 i2 i3 M = some res) : CT L0 yX11_spill prog_1_method_23_code 4 (some .long) 3 69 0 0 [.ref a0, .int i1, .int i2, .int i3] M (some (.long res.1)) res.2 := by
  refine CT.of (by decide +kernel) (Nat.le_of_ble_eq_true rfl) fun X C E => ?_
  have C : CX X RX11 "spill" prog_1_method_23_code 4 (some .long) := C
  show EV X 4 0 [(0, .ref a0), (1, .int i1), (2, .int i2), (3, .int i3)] [] 0 0 M
  unfold m_X11_spill at hf
  refine ev_aload_n C dX11_spill_0 rfl (q := 0) rfl ?_
  obtain ⟨x1, e2, hf⟩ := obnd hf
  refine ev_get (k := 0) C ok_11 dX11_spill_1 (by decide) kw_392 (fR_V e2) ?_
  refine ev_iload_n C dX11_spill_4 rfl (q := 1) rfl ?_
  obtain ⟨_, e3, hf⟩ := obnd hf
  obtain ⟨fs4, e3⟩ := oO_eq e3
  obtain ⟨x5, e6, hf⟩ := obnd hf
  refine ev_callV0 (As := [.int i1]) (st := []) C rfl e3 (t_X5_hasFare e6) rfl hd_X5_hasFare rfl kw_451 kw_452 kw_71 kw_453 kw_454 (mRoom.of E (Nat.le_of_ble_eq_true rfl) (Nat.le_of_ble_eq_true rfl) (Nat.le_refl 0) (Nat.le_refl 0)) (Nat.le_of_ble_eq_true rfl) dX11_spill_5 ?_
  refine ev_if_eq (tgt := 29) C dX11_spill_8 (by decide) (fun hc => ?_) (fun hc => ?_)
  · have hf := oit hf hc
    refine ev_ldc2 (v := (-9223372036854775808)) C dX11_spill_29 kw_493 ?_
    obtain rfl := Option.some.inj hf
    exact ev_lret C E (Nat.le_refl 0) (Nat.le_refl 0) dX11_spill_32
  · have hf := oie hf hc
    refine ev_iload_n C dX11_spill_11 rfl (q := 2) rfl ?_
    refine ev_bipush (v := 20) C dX11_spill_12 (by decide) ?_
    obtain ⟨x7, e8, hf⟩ := obnd hf
    refine ev_callS0 (As := [.int i2, .int 20]) (st := []) C (t_X11_within e8) hd_X11_within rfl kw_435 kw_436 kw_70 kw_437 (mRoom.of E (Nat.le_of_ble_eq_true rfl) (Nat.le_of_ble_eq_true rfl) (Nat.le_refl 0) (Nat.le_refl 0)) (Nat.le_of_ble_eq_true rfl) dX11_spill_14 ?_
    refine ev_if_eq (tgt := 29) C dX11_spill_17 (by decide) (fun hc => ?_) (fun hc => ?_)
    · have hf := oit hf hc
      refine ev_ldc2 (v := (-9223372036854775808)) C dX11_spill_29 kw_493 ?_
      obtain rfl := Option.some.inj hf
      exact ev_lret C E (Nat.le_refl 0) (Nat.le_refl 0) dX11_spill_32
    · have hf := oie hf hc
      refine ev_iload_n C dX11_spill_20 rfl (q := 3) rfl ?_
      refine ev_bipush (v := 30) C dX11_spill_21 (by decide) ?_
      obtain ⟨x9, e10, hf⟩ := obnd hf
      refine ev_callS0 (As := [.int i3, .int 30]) (st := []) C (t_X11_within e10) hd_X11_within rfl kw_435 kw_436 kw_70 kw_437 (mRoom.of E (Nat.le_of_ble_eq_true rfl) (Nat.le_of_ble_eq_true rfl) (Nat.le_refl 0) (Nat.le_refl 0)) (Nat.le_of_ble_eq_true rfl) dX11_spill_23 ?_
      refine ev_if_ne (tgt := 33) C dX11_spill_26 (by decide) (fun hc => ?_) (fun hc => ?_)
      · have hf := oie hf hc
        refine ev_aload_n C dX11_spill_33 rfl (q := 0) rfl ?_
        obtain ⟨x11, e12, hf⟩ := obnd hf
        refine ev_get (k := 5) C ok_11 dX11_spill_34 (by decide) kw_397 (fR_V e12) ?_
        refine ev_iload_n C dX11_spill_37 rfl (q := 1) rfl ?_
        refine ev_iload_n C dX11_spill_38 rfl (q := 2) rfl ?_
        obtain ⟨_, e13, hf⟩ := obnd hf
        obtain ⟨fs14, e13⟩ := oO_eq e13
        obtain ⟨x15, e16, hf⟩ := obnd hf
        refine ev_callV0 (As := [.int i1, .int i2]) (st := []) C rfl e13 (t_X0_ofAsking e16) rfl hd_X0_ofAsking rfl kw_661 kw_662 kw_78 kw_663 kw_664 (mRoom.of E (Nat.le_of_ble_eq_true rfl) (Nat.le_of_ble_eq_true rfl) (Nat.le_refl 0) (Nat.le_refl 0)) (Nat.le_of_ble_eq_true rfl) dX11_spill_39 ?_
        refine ev_pop C dX11_spill_42 rfl ?_
        refine ev_aload_n C dX11_spill_43 rfl (q := 0) rfl ?_
        obtain ⟨x17, e18, hf⟩ := obnd hf
        refine ev_get (k := 5) C ok_11 dX11_spill_44 (by decide) kw_397 (fR_V e18) ?_
        refine ev_iload_n C dX11_spill_47 rfl (q := 3) rfl ?_
        refine ev_iload_n C dX11_spill_48 rfl (q := 2) rfl ?_
        obtain ⟨_, e19, hf⟩ := obnd hf
        obtain ⟨fs20, e19⟩ := oO_eq e19
        obtain ⟨x21, e22, hf⟩ := obnd hf
        refine ev_callV0 (As := [.int i3, .int i2]) (st := []) C rfl e19 (t_X0_expectedAbove e22) rfl hd_X0_expectedAbove rfl kw_617 kw_618 kw_78 kw_619 kw_620 (mRoom.of E (Nat.le_of_ble_eq_true rfl) (Nat.le_of_ble_eq_true rfl) (Nat.le_refl 0) (Nat.le_refl 0)) (Nat.le_of_ble_eq_true rfl) dX11_spill_49 ?_
        obtain ⟨x23, e24, hf⟩ := obnd hf
        refine ev_callS0 (As := [.double x21]) (st := []) C (t_X9_bitsOfDouble e24) hd_X9_bitsOfDouble rfl kw_486 kw_487 kw_77 kw_488 (mRoom.of E (Nat.le_of_ble_eq_true rfl) (Nat.le_of_ble_eq_true rfl) (Nat.le_refl 0) (Nat.le_refl 0)) (Nat.le_of_ble_eq_true rfl) dX11_spill_52 ?_
        obtain rfl := Option.some.inj hf
        exact ev_lret C E (Nat.le_refl 0) (Nat.le_refl 0) dX11_spill_55
      · have hf := oit hf hc
        refine ev_ldc2 (v := (-9223372036854775808)) C dX11_spill_29 kw_493 ?_
        obtain rfl := Option.some.inj hf
        exact ev_lret C E (Nat.le_refl 0) (Nat.le_refl 0) dX11_spill_32
/-! FareLimits leg(III)I -/
theorem dX11_leg_0 : decode prog_1_method_24_code 0 = .ok (.iload_n 1, 1) := by decide +kernel
theorem dX11_leg_1 : decode prog_1_method_24_code 1 = .ok (.iconst 3, 1) := by decide +kernel
theorem dX11_leg_2 : decode prog_1_method_24_code 2 = .ok (.invokestatic 91, 3) := by decide +kernel
theorem dX11_leg_5 : decode prog_1_method_24_code 5 = .ok (.ifCond .eq 11, 3) := by decide +kernel
theorem dX11_leg_8 : decode prog_1_method_24_code 8 = .ok (.iload_n 2, 1) := by decide +kernel
theorem dX11_leg_9 : decode prog_1_method_24_code 9 = .ok (.iconst 1, 1) := by decide +kernel
theorem dX11_leg_10 : decode prog_1_method_24_code 10 = .ok (.invokestatic 91, 3) := by decide +kernel
theorem dX11_leg_13 : decode prog_1_method_24_code 13 = .ok (.ifCond .ne 5, 3) := by decide +kernel
theorem dX11_leg_16 : decode prog_1_method_24_code 16 = .ok (.iconst (-1), 1) := by decide +kernel
theorem dX11_leg_17 : decode prog_1_method_24_code 17 = .ok (.ireturn, 1) := by decide +kernel
theorem dX11_leg_18 : decode prog_1_method_24_code 18 = .ok (.iload_n 2, 1) := by decide +kernel
theorem dX11_leg_19 : decode prog_1_method_24_code 19 = .ok (.ifCond .ne 7, 3) := by decide +kernel
theorem dX11_leg_22 : decode prog_1_method_24_code 22 = .ok (.iconst 1, 1) := by decide +kernel
theorem dX11_leg_23 : decode prog_1_method_24_code 23 = .ok (.goto 4, 3) := by decide +kernel
theorem dX11_leg_26 : decode prog_1_method_24_code 26 = .ok (.iconst 0, 1) := by decide +kernel
theorem dX11_leg_27 : decode prog_1_method_24_code 27 = .ok (.istore 4, 2) := by decide +kernel
theorem dX11_leg_29 : decode prog_1_method_24_code 29 = .ok (.iload 4, 2) := by decide +kernel
theorem dX11_leg_31 : decode prog_1_method_24_code 31 = .ok (.ifCond .eq 18, 3) := by decide +kernel
theorem dX11_leg_34 : decode prog_1_method_24_code 34 = .ok (.iload_n 3, 1) := by decide +kernel
theorem dX11_leg_35 : decode prog_1_method_24_code 35 = .ok (.iconst 1, 1) := by decide +kernel
theorem dX11_leg_36 : decode prog_1_method_24_code 36 = .ok (.if_icmp .lt 22, 3) := by decide +kernel
theorem dX11_leg_39 : decode prog_1_method_24_code 39 = .ok (.iload_n 3, 1) := by decide +kernel
theorem dX11_leg_40 : decode prog_1_method_24_code 40 = .ok (.sipush 9999, 3) := by decide +kernel
theorem dX11_leg_43 : decode prog_1_method_24_code 43 = .ok (.if_icmp .le 18, 3) := by decide +kernel
theorem dX11_leg_46 : decode prog_1_method_24_code 46 = .ok (.goto 12, 3) := by decide +kernel
theorem dX11_leg_49 : decode prog_1_method_24_code 49 = .ok (.iload_n 3, 1) := by decide +kernel
theorem dX11_leg_50 : decode prog_1_method_24_code 50 = .ok (.bipush 99, 2) := by decide +kernel
theorem dX11_leg_52 : decode prog_1_method_24_code 52 = .ok (.invokestatic 91, 3) := by decide +kernel
theorem dX11_leg_55 : decode prog_1_method_24_code 55 = .ok (.ifCond .ne 6, 3) := by decide +kernel
theorem dX11_leg_58 : decode prog_1_method_24_code 58 = .ok (.bipush (-2), 2) := by decide +kernel
theorem dX11_leg_60 : decode prog_1_method_24_code 60 = .ok (.ireturn, 1) := by decide +kernel
theorem dX11_leg_61 : decode prog_1_method_24_code 61 = .ok (.iload 4, 2) := by decide +kernel
theorem dX11_leg_63 : decode prog_1_method_24_code 63 = .ok (.ifCond .eq 16, 3) := by decide +kernel
theorem dX11_leg_66 : decode prog_1_method_24_code 66 = .ok (.aload_n 0, 1) := by decide +kernel
theorem dX11_leg_67 : decode prog_1_method_24_code 67 = .ok (.getfield 12, 3) := by decide +kernel
theorem dX11_leg_70 : decode prog_1_method_24_code 70 = .ok (.getfield 202, 3) := by decide +kernel
theorem dX11_leg_73 : decode prog_1_method_24_code 73 = .ok (.getfield 206, 3) := by decide +kernel
theorem dX11_leg_76 : decode prog_1_method_24_code 76 = .ok (.goto 13, 3) := by decide +kernel
theorem dX11_leg_79 : decode prog_1_method_24_code 79 = .ok (.aload_n 0, 1) := by decide +kernel
theorem dX11_leg_80 : decode prog_1_method_24_code 80 = .ok (.getfield 12, 3) := by decide +kernel
theorem dX11_leg_83 : decode prog_1_method_24_code 83 = .ok (.getfield 202, 3) := by decide +kernel
theorem dX11_leg_86 : decode prog_1_method_24_code 86 = .ok (.getfield 211, 3) := by decide +kernel
theorem dX11_leg_89 : decode prog_1_method_24_code 89 = .ok (.astore 5, 2) := by decide +kernel
theorem dX11_leg_91 : decode prog_1_method_24_code 91 = .ok (.aload 5, 2) := by decide +kernel
theorem dX11_leg_93 : decode prog_1_method_24_code 93 = .ok (.iload_n 1, 1) := by decide +kernel
theorem dX11_leg_94 : decode prog_1_method_24_code 94 = .ok (.iaload, 1) := by decide +kernel
theorem dX11_leg_95 : decode prog_1_method_24_code 95 = .ok (.istore 6, 2) := by decide +kernel
theorem dX11_leg_97 : decode prog_1_method_24_code 97 = .ok (.aload 5, 2) := by decide +kernel
theorem dX11_leg_99 : decode prog_1_method_24_code 99 = .ok (.iload_n 1, 1) := by decide +kernel
theorem dX11_leg_100 : decode prog_1_method_24_code 100 = .ok (.iload_n 3, 1) := by decide +kernel
theorem dX11_leg_101 : decode prog_1_method_24_code 101 = .ok (.iastore, 1) := by decide +kernel
theorem dX11_leg_102 : decode prog_1_method_24_code 102 = .ok (.iload 6, 2) := by decide +kernel
theorem dX11_leg_104 : decode prog_1_method_24_code 104 = .ok (.ireturn, 1) := by decide +kernel
def m_X11_leg_J89  (i1 : Int32) (i3 : Int32) (sa0 : Nat) (M : mM) : Option (Int32 × mM) :=
  (aI 0 M sa0 i1).bind fun x1 =>
  (uI 0 .int M sa0 i1 i3).bind fun M3 =>
  some (x1, M3)
set_option maxHeartbeats 4000000 in
set_option maxRecDepth 100000 in
theorem t_X11_leg_J89 {X : mX} {L0 : Launch} {res : Int32 × mM} (C : CX X RX11 "leg" prog_1_method_24_code 7 (some .int)) (E : EX X L0 1 21 0 0 (some (.int res.1)) res.2)   (i1 : Int32) (i3 : Int32) (sa0 : Nat) (M : mM) (hf : m_X11_leg_J89  i1 i3 sa0 M = some res) : EV X 7 89 [(1, .int i1), (3, .int i3)] [.ref sa0] 0 0 M := by
  unfold m_X11_leg_J89 at hf
  refine ev_astore (l' := [(5, .ref sa0), (1, .int i1), (3, .int i3)]) C dX11_leg_89 (by decide) rfl ?_
  refine ev_aload C dX11_leg_91 (q := 0) rfl ?_
  refine ev_iload_n C dX11_leg_93 rfl (q := 1) rfl ?_
  obtain ⟨x1, e2, hf⟩ := obnd hf
  refine ev_iald C dX11_leg_94 e2 ?_
  refine ev_istore (l' := [(6, .int x1), (5, .ref sa0), (1, .int i1), (3, .int i3)]) C dX11_leg_95 (by decide) rfl ?_
  refine ev_aload C dX11_leg_97 (q := 1) rfl ?_
  refine ev_iload_n C dX11_leg_99 rfl (q := 2) rfl ?_
  refine ev_iload_n C dX11_leg_100 rfl (q := 3) rfl ?_
  obtain ⟨M3, e4, hf⟩ := obnd hf
  refine ev_iast C dX11_leg_101 e4 ?_
  refine ev_iload C dX11_leg_102 (q := 0) rfl ?_
  obtain rfl := Option.some.inj hf
  exact ev_iret C E (Nat.le_refl 0) (Nat.le_refl 0) dX11_leg_104
def m_X11_leg_J61  (a0 : Nat) (i1 : Int32) (i3 : Int32) (i4 : Int32) (M : mM) : Option (Int32 × mM) :=
  if i4 = 0 then (
    (fR M a0 11 0).bind fun x1 =>
    (fR M x1 5 3).bind fun x3 =>
    (fR M x3 4 1).bind fun x5 =>
    m_X11_leg_J89  i1 i3 x5 M) else (
    (fR M a0 11 0).bind fun x7 =>
    (fR M x7 5 3).bind fun x9 =>
    (fR M x9 4 0).bind fun x11 =>
    m_X11_leg_J89  i1 i3 x11 M)
set_option maxHeartbeats 4000000 in
set_option maxRecDepth 100000 in
theorem t_X11_leg_J61 {X : mX} {L0 : Launch} {res : Int32 × mM} (C : CX X RX11 "leg" prog_1_method_24_code 7 (some .int)) (E : EX X L0 1 21 0 0 (some (.int res.1)) res.2)   (a0 : Nat) (i1 : Int32) (i3 : Int32) (i4 : Int32) (M : mM) (hf : m_X11_leg_J61  a0 i1 i3 i4 M = some res) : EV X 7 61 [(0, .ref a0), (1, .int i1), (3, .int i3), (4, .int i4)] [] 0 0 M := by
  unfold m_X11_leg_J61 at hf
  refine ev_iload C dX11_leg_61 (q := 3) rfl ?_
  refine ev_if_eq (tgt := 79) C dX11_leg_63 (by decide) (fun hc => ?_) (fun hc => ?_)
  · have hf := oit hf hc
    refine ev_aload_n C dX11_leg_79 rfl (q := 0) rfl ?_
    obtain ⟨x1, e2, hf⟩ := obnd hf
    refine ev_get (k := 0) C ok_11 dX11_leg_80 (by decide) kw_392 (fR_V e2) ?_
    obtain ⟨x3, e4, hf⟩ := obnd hf
    refine ev_get (k := 3) C ok_5 dX11_leg_83 (by decide) kw_193 (fR_V e4) ?_
    obtain ⟨x5, e6, hf⟩ := obnd hf
    refine ev_get (k := 1) C ok_4 dX11_leg_86 (by decide) kw_125 (fR_V e6) ?_
    refine ev_sub [1, 2] rfl ?_
    exact t_X11_leg_J89 C E   i1 i3 x5 M hf
  · have hf := oie hf hc
    refine ev_aload_n C dX11_leg_66 rfl (q := 0) rfl ?_
    obtain ⟨x7, e8, hf⟩ := obnd hf
    refine ev_get (k := 0) C ok_11 dX11_leg_67 (by decide) kw_392 (fR_V e8) ?_
    obtain ⟨x9, e10, hf⟩ := obnd hf
    refine ev_get (k := 3) C ok_5 dX11_leg_70 (by decide) kw_193 (fR_V e10) ?_
    obtain ⟨x11, e12, hf⟩ := obnd hf
    refine ev_get (k := 0) C ok_4 dX11_leg_73 (by decide) kw_123 (fR_V e12) ?_
    refine ev_goto (tgt := 89) C dX11_leg_76 (by decide) ?_
    refine ev_sub [1, 2] rfl ?_
    exact t_X11_leg_J89 C E   i1 i3 x11 M hf
def m_X11_leg_J27  (a0 : Nat) (i1 : Int32) (i3 : Int32) (si0 : Int32) (M : mM) : Option (Int32 × mM) :=
  if si0 = 0 then (
    (m_X11_within i3 99).bind fun x1 =>
    if x1 = 0 then (
      some ((-2), M)) else (
      m_X11_leg_J61  a0 i1 i3 si0 M)) else (
    if i3 < 1 then (
      some ((-2), M)) else (
      if i3 ≤ 9999 then (
        m_X11_leg_J61  a0 i1 i3 si0 M) else (
        some ((-2), M))))
set_option maxHeartbeats 4000000 in
set_option maxRecDepth 100000 in
theorem t_X11_leg_J27 {X : mX} {L0 : Launch} {res : Int32 × mM} (C : CX X RX11 "leg" prog_1_method_24_code 7 (some .int)) (E : EX X L0 1 21 0 0 (some (.int res.1)) res.2)   (a0 : Nat) (i1 : Int32) (i3 : Int32) (si0 : Int32) (M : mM) (hf : m_X11_leg_J27  a0 i1 i3 si0 M = some res) : EV X 7 27 [(0, .ref a0), (1, .int i1), (3, .int i3)] [.int si0] 0 0 M := by
  unfold m_X11_leg_J27 at hf
  refine ev_istore (l' := [(4, .int si0), (0, .ref a0), (1, .int i1), (3, .int i3)]) C dX11_leg_27 (by decide) rfl ?_
  refine ev_iload C dX11_leg_29 (q := 0) rfl ?_
  refine ev_if_eq (tgt := 49) C dX11_leg_31 (by decide) (fun hc => ?_) (fun hc => ?_)
  · have hf := oit hf hc
    refine ev_iload_n C dX11_leg_49 rfl (q := 3) rfl ?_
    refine ev_bipush (v := 99) C dX11_leg_50 (by decide) ?_
    obtain ⟨x1, e2, hf⟩ := obnd hf
    refine ev_callS0 (As := [.int i3, .int 99]) (st := []) C (t_X11_within e2) hd_X11_within rfl kw_435 kw_436 kw_70 kw_437 (mRoom.of E (Nat.le_of_ble_eq_true rfl) (Nat.le_of_ble_eq_true rfl) (Nat.le_refl 0) (Nat.le_refl 0)) (Nat.le_of_ble_eq_true rfl) dX11_leg_52 ?_
    refine ev_if_ne (tgt := 61) C dX11_leg_55 (by decide) (fun hc => ?_) (fun hc => ?_)
    · have hf := oie hf hc
      refine ev_sub [1, 2, 3, 0] rfl ?_
      exact t_X11_leg_J61 C E   a0 i1 i3 si0 M hf
    · have hf := oit hf hc
      refine ev_bipush (v := (-2)) C dX11_leg_58 (by decide) ?_
      obtain rfl := Option.some.inj hf
      exact ev_iret C E (Nat.le_refl 0) (Nat.le_refl 0) dX11_leg_60
  · have hf := oie hf hc
    refine ev_iload_n C dX11_leg_34 rfl (q := 3) rfl ?_
    refine ev_iconst (v := 1) C dX11_leg_35 (by decide) ?_
    refine ev_icmp_lt (tgt := 58) C dX11_leg_36 (by decide) (fun hc => ?_) (fun hc => ?_)
    · have hf := oit hf hc
      refine ev_bipush (v := (-2)) C dX11_leg_58 (by decide) ?_
      obtain rfl := Option.some.inj hf
      exact ev_iret C E (Nat.le_refl 0) (Nat.le_refl 0) dX11_leg_60
    · have hf := oie hf hc
      refine ev_iload_n C dX11_leg_39 rfl (q := 3) rfl ?_
      refine ev_sipush (v := 9999) C dX11_leg_40 (by decide) ?_
      refine ev_icmp_le (tgt := 61) C dX11_leg_43 (by decide) (fun hc => ?_) (fun hc => ?_)
      · have hf := oit hf hc
        refine ev_sub [1, 2, 3, 0] rfl ?_
        exact t_X11_leg_J61 C E   a0 i1 i3 si0 M hf
      · have hf := oie hf hc
        refine ev_goto (tgt := 58) C dX11_leg_46 (by decide) ?_
        refine ev_bipush (v := (-2)) C dX11_leg_58 (by decide) ?_
        obtain rfl := Option.some.inj hf
        exact ev_iret C E (Nat.le_refl 0) (Nat.le_refl 0) dX11_leg_60
def m_X11_leg (a0 : Nat) (i1 : Int32) (i2 : Int32) (i3 : Int32) (M : mM) : Option (Int32 × mM) :=
  (m_X11_within i1 3).bind fun x1 =>
  if x1 = 0 then (
    some ((-1), M)) else (
    (m_X11_within i2 1).bind fun x3 =>
    if x3 = 0 then (
      some ((-1), M)) else (
      if i2 = 0 then (
        m_X11_leg_J27  a0 i1 i3 1 M) else (
        m_X11_leg_J27  a0 i1 i3 0 M)))
set_option maxHeartbeats 4000000 in
set_option maxRecDepth 100000 in
theorem t_X11_leg {L0 : Launch} {M : mM} {a0 : Nat} {i1 : Int32} {i2 : Int32} {i3 : Int32} {res : Int32 × mM} (hf : m_X11_leg a0 i1 i2 i3 M = some res) : CT L0 yX11_leg prog_1_method_24_code 7 (some .int) 1 21 0 0 [.ref a0, .int i1, .int i2, .int i3] M (some (.int res.1)) res.2 := by
  refine CT.of (by decide +kernel) (Nat.le_of_ble_eq_true rfl) fun X C E => ?_
  have C : CX X RX11 "leg" prog_1_method_24_code 7 (some .int) := C
  show EV X 7 0 [(0, .ref a0), (1, .int i1), (2, .int i2), (3, .int i3)] [] 0 0 M
  unfold m_X11_leg at hf
  refine ev_iload_n C dX11_leg_0 rfl (q := 1) rfl ?_
  refine ev_iconst (v := 3) C dX11_leg_1 (by decide) ?_
  obtain ⟨x1, e2, hf⟩ := obnd hf
  refine ev_callS0 (As := [.int i1, .int 3]) (st := []) C (t_X11_within e2) hd_X11_within rfl kw_435 kw_436 kw_70 kw_437 (mRoom.of E (Nat.le_of_ble_eq_true rfl) (Nat.le_of_ble_eq_true rfl) (Nat.le_refl 0) (Nat.le_refl 0)) (Nat.le_of_ble_eq_true rfl) dX11_leg_2 ?_
  refine ev_if_eq (tgt := 16) C dX11_leg_5 (by decide) (fun hc => ?_) (fun hc => ?_)
  · have hf := oit hf hc
    refine ev_iconst (v := (-1)) C dX11_leg_16 (by decide) ?_
    obtain rfl := Option.some.inj hf
    exact ev_iret C E (Nat.le_refl 0) (Nat.le_refl 0) dX11_leg_17
  · have hf := oie hf hc
    refine ev_iload_n C dX11_leg_8 rfl (q := 2) rfl ?_
    refine ev_iconst (v := 1) C dX11_leg_9 (by decide) ?_
    obtain ⟨x3, e4, hf⟩ := obnd hf
    refine ev_callS0 (As := [.int i2, .int 1]) (st := []) C (t_X11_within e4) hd_X11_within rfl kw_435 kw_436 kw_70 kw_437 (mRoom.of E (Nat.le_of_ble_eq_true rfl) (Nat.le_of_ble_eq_true rfl) (Nat.le_refl 0) (Nat.le_refl 0)) (Nat.le_of_ble_eq_true rfl) dX11_leg_10 ?_
    refine ev_if_ne (tgt := 18) C dX11_leg_13 (by decide) (fun hc => ?_) (fun hc => ?_)
    · have hf := oie hf hc
      refine ev_iload_n C dX11_leg_18 rfl (q := 2) rfl ?_
      refine ev_if_ne (tgt := 26) C dX11_leg_19 (by decide) (fun hc => ?_) (fun hc => ?_)
      · have hf := oie hf hc
        refine ev_iconst (v := 0) C dX11_leg_26 (by decide) ?_
        refine ev_sub [0, 1, 3] rfl ?_
        exact t_X11_leg_J27 C E   a0 i1 i3 0 M hf
      · have hf := oit hf hc
        refine ev_iconst (v := 1) C dX11_leg_22 (by decide) ?_
        refine ev_goto (tgt := 27) C dX11_leg_23 (by decide) ?_
        refine ev_sub [0, 1, 3] rfl ?_
        exact t_X11_leg_J27 C E   a0 i1 i3 1 M hf
    · have hf := oit hf hc
      refine ev_iconst (v := (-1)) C dX11_leg_16 (by decide) ?_
      obtain rfl := Option.some.inj hf
      exact ev_iret C E (Nat.le_refl 0) (Nat.le_refl 0) dX11_leg_17
/-! FareLimits$Tape takeUp(I)Z -/
theorem dX7_takeUp_0 : decode prog_9_method_2_code 0 = .ok (.aload_n 0, 1) := by decide +kernel
theorem dX7_takeUp_1 : decode prog_9_method_2_code 1 = .ok (.getfield 21, 3) := by decide +kernel
theorem dX7_takeUp_4 : decode prog_9_method_2_code 4 = .ok (.bipush 120, 2) := by decide +kernel
theorem dX7_takeUp_6 : decode prog_9_method_2_code 6 = .ok (.if_icmp .lt 5, 3) := by decide +kernel
theorem dX7_takeUp_9 : decode prog_9_method_2_code 9 = .ok (.iconst 0, 1) := by decide +kernel
theorem dX7_takeUp_10 : decode prog_9_method_2_code 10 = .ok (.ireturn, 1) := by decide +kernel
theorem dX7_takeUp_11 : decode prog_9_method_2_code 11 = .ok (.aload_n 0, 1) := by decide +kernel
theorem dX7_takeUp_12 : decode prog_9_method_2_code 12 = .ok (.getfield 9, 3) := by decide +kernel
theorem dX7_takeUp_15 : decode prog_9_method_2_code 15 = .ok (.aload_n 0, 1) := by decide +kernel
theorem dX7_takeUp_16 : decode prog_9_method_2_code 16 = .ok (.getfield 21, 3) := by decide +kernel
theorem dX7_takeUp_19 : decode prog_9_method_2_code 19 = .ok (.iload_n 1, 1) := by decide +kernel
theorem dX7_takeUp_20 : decode prog_9_method_2_code 20 = .ok (.iastore, 1) := by decide +kernel
theorem dX7_takeUp_21 : decode prog_9_method_2_code 21 = .ok (.aload_n 0, 1) := by decide +kernel
theorem dX7_takeUp_22 : decode prog_9_method_2_code 22 = .ok (.dup, 1) := by decide +kernel
theorem dX7_takeUp_23 : decode prog_9_method_2_code 23 = .ok (.getfield 21, 3) := by decide +kernel
theorem dX7_takeUp_26 : decode prog_9_method_2_code 26 = .ok (.iconst 1, 1) := by decide +kernel
theorem dX7_takeUp_27 : decode prog_9_method_2_code 27 = .ok (.iadd, 1) := by decide +kernel
theorem dX7_takeUp_28 : decode prog_9_method_2_code 28 = .ok (.putfield 21, 3) := by decide +kernel
theorem dX7_takeUp_31 : decode prog_9_method_2_code 31 = .ok (.iconst 1, 1) := by decide +kernel
theorem dX7_takeUp_32 : decode prog_9_method_2_code 32 = .ok (.ireturn, 1) := by decide +kernel
def m_X7_takeUp (a0 : Nat) (i1 : Int32) (M : mM) : Option (Int32 × mM) :=
  (fI M a0 7 1).bind fun x1 =>
  if x1 < 120 then (
    (fR M a0 7 0).bind fun x3 =>
    (fI M a0 7 1).bind fun x5 =>
    (uI 0 .int M x3 x5 i1).bind fun M7 =>
    (fI M7 a0 7 1).bind fun x9 =>
    (sV M7 a0 7 1 (.int (x9 + 1))).bind fun M11 =>
    some (1, M11)) else (
    some (0, M))
set_option maxHeartbeats 4000000 in
set_option maxRecDepth 100000 in
theorem t_X7_takeUp {L0 : Launch} {M : mM} {a0 : Nat} {i1 : Int32} {res : Int32 × mM} (hf : m_X7_takeUp a0 i1 M = some res) : CT L0 yX7_takeUp prog_9_method_2_code 2 (some .boolean) 0 0 0 0 [.ref a0, .int i1] M (some (.int res.1)) res.2 := by
  refine CT.of (by decide +kernel) (Nat.le_of_ble_eq_true rfl) fun X C E => ?_
  have C : CX X RX7 "takeUp" prog_9_method_2_code 2 (some .boolean) := C
  show EV X 2 0 [(0, .ref a0), (1, .int i1)] [] 0 0 M
  unfold m_X7_takeUp at hf
  refine ev_aload_n C dX7_takeUp_0 rfl (q := 0) rfl ?_
  obtain ⟨x1, e2, hf⟩ := obnd hf
  refine ev_get (k := 1) C ok_7 dX7_takeUp_1 (by decide) kw_265 (fI_V e2) ?_
  refine ev_bipush (v := 120) C dX7_takeUp_4 (by decide) ?_
  refine ev_icmp_lt (tgt := 11) C dX7_takeUp_6 (by decide) (fun hc => ?_) (fun hc => ?_)
  · have hf := oit hf hc
    refine ev_aload_n C dX7_takeUp_11 rfl (q := 0) rfl ?_
    obtain ⟨x3, e4, hf⟩ := obnd hf
    refine ev_get (k := 0) C ok_7 dX7_takeUp_12 (by decide) kw_264 (fR_V e4) ?_
    refine ev_aload_n C dX7_takeUp_15 rfl (q := 0) rfl ?_
    obtain ⟨x5, e6, hf⟩ := obnd hf
    refine ev_get (k := 1) C ok_7 dX7_takeUp_16 (by decide) kw_265 (fI_V e6) ?_
    refine ev_iload_n C dX7_takeUp_19 rfl (q := 1) rfl ?_
    obtain ⟨M7, e8, hf⟩ := obnd hf
    refine ev_iast C dX7_takeUp_20 e8 ?_
    refine ev_aload_n C dX7_takeUp_21 rfl (q := 0) rfl ?_
    refine ev_dup C dX7_takeUp_22 rfl ?_
    obtain ⟨x9, e10, hf⟩ := obnd hf
    refine ev_get (k := 1) C ok_7 dX7_takeUp_23 (by decide) kw_265 (fI_V e10) ?_
    refine ev_iconst (v := 1) C dX7_takeUp_26 (by decide) ?_
    refine ev_iadd C dX7_takeUp_27 ?_
    obtain ⟨M11, e12, hf⟩ := obnd hf
    refine ev_put (k := 1) C ok_7 dX7_takeUp_28 (by decide) kw_265 rfl ⟨rfl, rfl⟩ e12 ?_
    refine ev_iconst (v := 1) C dX7_takeUp_31 (by decide) ?_
    obtain rfl := Option.some.inj hf
    exact ev_zret C (by decide) E (Nat.le_refl 0) (Nat.le_refl 0) dX7_takeUp_32
  · have hf := oie hf hc
    refine ev_iconst (v := 0) C dX7_takeUp_9 (by decide) ?_
    obtain rfl := Option.some.inj hf
    exact ev_zret C (by decide) E (Nat.le_refl 0) (Nat.le_refl 0) dX7_takeUp_10
/-! FareLimits feed(I)I -/
theorem dX11_feed_0 : decode prog_1_method_25_code 0 = .ok (.iload_n 1, 1) := by decide +kernel
theorem dX11_feed_1 : decode prog_1_method_25_code 1 = .ok (.iconst 1, 1) := by decide +kernel
theorem dX11_feed_2 : decode prog_1_method_25_code 2 = .ok (.if_icmp .lt 9, 3) := by decide +kernel
theorem dX11_feed_5 : decode prog_1_method_25_code 5 = .ok (.iload_n 1, 1) := by decide +kernel
theorem dX11_feed_6 : decode prog_1_method_25_code 6 = .ok (.bipush 127, 2) := by decide +kernel
theorem dX11_feed_8 : decode prog_1_method_25_code 8 = .ok (.if_icmp .le 6, 3) := by decide +kernel
theorem dX11_feed_11 : decode prog_1_method_25_code 11 = .ok (.bipush (-2), 2) := by decide +kernel
theorem dX11_feed_13 : decode prog_1_method_25_code 13 = .ok (.ireturn, 1) := by decide +kernel
theorem dX11_feed_14 : decode prog_1_method_25_code 14 = .ok (.aload_n 0, 1) := by decide +kernel
theorem dX11_feed_15 : decode prog_1_method_25_code 15 = .ok (.getfield 45, 3) := by decide +kernel
theorem dX11_feed_18 : decode prog_1_method_25_code 18 = .ok (.iload_n 1, 1) := by decide +kernel
theorem dX11_feed_19 : decode prog_1_method_25_code 19 = .ok (.invokevirtual 214, 3) := by decide +kernel
theorem dX11_feed_22 : decode prog_1_method_25_code 22 = .ok (.ifCond .eq 13, 3) := by decide +kernel
theorem dX11_feed_25 : decode prog_1_method_25_code 25 = .ok (.aload_n 0, 1) := by decide +kernel
theorem dX11_feed_26 : decode prog_1_method_25_code 26 = .ok (.getfield 45, 3) := by decide +kernel
theorem dX11_feed_29 : decode prog_1_method_25_code 29 = .ok (.getfield 217, 3) := by decide +kernel
theorem dX11_feed_32 : decode prog_1_method_25_code 32 = .ok (.goto 5, 3) := by decide +kernel
theorem dX11_feed_35 : decode prog_1_method_25_code 35 = .ok (.bipush (-4), 2) := by decide +kernel
theorem dX11_feed_37 : decode prog_1_method_25_code 37 = .ok (.ireturn, 1) := by decide +kernel
def m_X11_feed (a0 : Nat) (i1 : Int32) (M : mM) : Option (Int32 × mM) :=
  if i1 < 1 then (
    some ((-2), M)) else (
    if i1 ≤ 127 then (
      (fR M a0 11 6).bind fun x1 =>
      (oO M x1 7).bind fun _ =>
      (m_X7_takeUp x1 i1 M).bind fun x5 =>
      if x5.1 = 0 then (
        some ((-4), x5.2)) else (
        (fR x5.2 a0 11 6).bind fun x7 =>
        (fI x5.2 x7 7 1).bind fun x9 =>
        some (x9, x5.2))) else (
      some ((-2), M)))
set_option maxHeartbeats 4000000 in
set_option maxRecDepth 100000 in
theorem t_X11_feed {L0 : Launch} {M : mM} {a0 : Nat} {i1 : Int32} {res : Int32 × mM} (hf : m_X11_feed a0 i1 M = some res) : CT L0 yX11_feed prog_1_method_25_code 2 (some .int) 1 21 0 0 [.ref a0, .int i1] M (some (.int res.1)) res.2 := by
  refine CT.of (by decide +kernel) (Nat.le_of_ble_eq_true rfl) fun X C E => ?_
  have C : CX X RX11 "feed" prog_1_method_25_code 2 (some .int) := C
  show EV X 2 0 [(0, .ref a0), (1, .int i1)] [] 0 0 M
  unfold m_X11_feed at hf
  refine ev_iload_n C dX11_feed_0 rfl (q := 1) rfl ?_
  refine ev_iconst (v := 1) C dX11_feed_1 (by decide) ?_
  refine ev_icmp_lt (tgt := 11) C dX11_feed_2 (by decide) (fun hc => ?_) (fun hc => ?_)
  · have hf := oit hf hc
    refine ev_bipush (v := (-2)) C dX11_feed_11 (by decide) ?_
    obtain rfl := Option.some.inj hf
    exact ev_iret C E (Nat.le_refl 0) (Nat.le_refl 0) dX11_feed_13
  · have hf := oie hf hc
    refine ev_iload_n C dX11_feed_5 rfl (q := 1) rfl ?_
    refine ev_bipush (v := 127) C dX11_feed_6 (by decide) ?_
    refine ev_icmp_le (tgt := 14) C dX11_feed_8 (by decide) (fun hc => ?_) (fun hc => ?_)
    · have hf := oit hf hc
      refine ev_aload_n C dX11_feed_14 rfl (q := 0) rfl ?_
      obtain ⟨x1, e2, hf⟩ := obnd hf
      refine ev_get (k := 6) C ok_11 dX11_feed_15 (by decide) kw_398 (fR_V e2) ?_
      refine ev_iload_n C dX11_feed_18 rfl (q := 1) rfl ?_
      obtain ⟨_, e3, hf⟩ := obnd hf
      obtain ⟨fs4, e3⟩ := oO_eq e3
      obtain ⟨x5, e6, hf⟩ := obnd hf
      refine ev_callV0 (As := [.int i1]) (st := []) C rfl e3 (t_X7_takeUp e6) rfl hd_X7_takeUp rfl kw_679 kw_680 kw_79 kw_681 kw_682 (mRoom.of E (Nat.le_of_ble_eq_true rfl) (Nat.le_of_ble_eq_true rfl) (Nat.le_refl 0) (Nat.le_refl 0)) (Nat.le_of_ble_eq_true rfl) dX11_feed_19 ?_
      refine ev_if_eq (tgt := 35) C dX11_feed_22 (by decide) (fun hc => ?_) (fun hc => ?_)
      · have hf := oit hf hc
        refine ev_bipush (v := (-4)) C dX11_feed_35 (by decide) ?_
        obtain rfl := Option.some.inj hf
        exact ev_iret C E (Nat.le_refl 0) (Nat.le_refl 0) dX11_feed_37
      · have hf := oie hf hc
        refine ev_aload_n C dX11_feed_25 rfl (q := 0) rfl ?_
        obtain ⟨x7, e8, hf⟩ := obnd hf
        refine ev_get (k := 6) C ok_11 dX11_feed_26 (by decide) kw_398 (fR_V e8) ?_
        obtain ⟨x9, e10, hf⟩ := obnd hf
        refine ev_get (k := 1) C ok_7 dX11_feed_29 (by decide) kw_266 (fI_V e10) ?_
        refine ev_goto (tgt := 37) C dX11_feed_32 (by decide) ?_
        obtain rfl := Option.some.inj hf
        exact ev_iret C E (Nat.le_refl 0) (Nat.le_refl 0) dX11_feed_37
    · have hf := oie hf hc
      refine ev_bipush (v := (-2)) C dX11_feed_11 (by decide) ?_
      obtain rfl := Option.some.inj hf
      exact ev_iret C E (Nat.le_refl 0) (Nat.le_refl 0) dX11_feed_13
/-! FareLimits$Tape wipe()V -/
theorem dX7_wipe_0 : decode prog_9_method_3_code 0 = .ok (.aload_n 0, 1) := by decide +kernel
theorem dX7_wipe_1 : decode prog_9_method_3_code 1 = .ok (.iconst 0, 1) := by decide +kernel
theorem dX7_wipe_2 : decode prog_9_method_3_code 2 = .ok (.putfield 21, 3) := by decide +kernel
theorem dX7_wipe_5 : decode prog_9_method_3_code 5 = .ok (.return_, 1) := by decide +kernel
def m_X7_wipe (a0 : Nat) (M : mM) : Option (mM) :=
  (sV M a0 7 1 (.int 0)).bind fun M1 =>
  some M1
set_option maxHeartbeats 4000000 in
set_option maxRecDepth 100000 in
theorem t_X7_wipe {L0 : Launch} {M : mM} {a0 : Nat} {res : mM} (hf : m_X7_wipe a0 M = some res) : CT L0 yX7_wipe prog_9_method_3_code 1 none 0 0 0 0 [.ref a0] M none res := by
  refine CT.of (by decide +kernel) (Nat.le_of_ble_eq_true rfl) fun X C E => ?_
  have C : CX X RX7 "wipe" prog_9_method_3_code 1 none := C
  show EV X 1 0 [(0, .ref a0)] [] 0 0 M
  unfold m_X7_wipe at hf
  refine ev_aload_n C dX7_wipe_0 rfl (q := 0) rfl ?_
  refine ev_iconst (v := 0) C dX7_wipe_1 (by decide) ?_
  obtain ⟨M1, e2, hf⟩ := obnd hf
  refine ev_put (k := 1) C ok_7 dX7_wipe_2 (by decide) kw_265 rfl ⟨rfl, rfl⟩ e2 ?_
  obtain rfl := Option.some.inj hf
  exact ev_vret C E (Nat.le_refl 0) (Nat.le_refl 0) dX7_wipe_5
/-! FareLimits clear()I -/
theorem dX11_clear_0 : decode prog_1_method_26_code 0 = .ok (.aload_n 0, 1) := by decide +kernel
theorem dX11_clear_1 : decode prog_1_method_26_code 1 = .ok (.getfield 45, 3) := by decide +kernel
theorem dX11_clear_4 : decode prog_1_method_26_code 4 = .ok (.getfield 217, 3) := by decide +kernel
theorem dX11_clear_7 : decode prog_1_method_26_code 7 = .ok (.istore_n 1, 1) := by decide +kernel
theorem dX11_clear_8 : decode prog_1_method_26_code 8 = .ok (.aload_n 0, 1) := by decide +kernel
theorem dX11_clear_9 : decode prog_1_method_26_code 9 = .ok (.getfield 45, 3) := by decide +kernel
theorem dX11_clear_12 : decode prog_1_method_26_code 12 = .ok (.invokevirtual 220, 3) := by decide +kernel
theorem dX11_clear_15 : decode prog_1_method_26_code 15 = .ok (.iload_n 1, 1) := by decide +kernel
theorem dX11_clear_16 : decode prog_1_method_26_code 16 = .ok (.ireturn, 1) := by decide +kernel
def m_X11_clear (a0 : Nat) (M : mM) : Option (Int32 × mM) :=
  (fR M a0 11 6).bind fun x1 =>
  (fI M x1 7 1).bind fun x3 =>
  (fR M a0 11 6).bind fun x5 =>
  (oO M x5 7).bind fun _ =>
  (m_X7_wipe x5 M).bind fun x9 =>
  some (x3, x9)
set_option maxHeartbeats 4000000 in
set_option maxRecDepth 100000 in
theorem t_X11_clear {L0 : Launch} {M : mM} {a0 : Nat} {res : Int32 × mM} (hf : m_X11_clear a0 M = some res) : CT L0 yX11_clear prog_1_method_26_code 2 (some .int) 1 20 0 0 [.ref a0] M (some (.int res.1)) res.2 := by
  refine CT.of (by decide +kernel) (Nat.le_of_ble_eq_true rfl) fun X C E => ?_
  have C : CX X RX11 "clear" prog_1_method_26_code 2 (some .int) := C
  show EV X 2 0 [(0, .ref a0)] [] 0 0 M
  unfold m_X11_clear at hf
  refine ev_aload_n C dX11_clear_0 rfl (q := 0) rfl ?_
  obtain ⟨x1, e2, hf⟩ := obnd hf
  refine ev_get (k := 6) C ok_11 dX11_clear_1 (by decide) kw_398 (fR_V e2) ?_
  obtain ⟨x3, e4, hf⟩ := obnd hf
  refine ev_get (k := 1) C ok_7 dX11_clear_4 (by decide) kw_266 (fI_V e4) ?_
  refine ev_istore_n (l' := [(1, .int x3), (0, .ref a0)]) C dX11_clear_7 rfl (by decide) rfl ?_
  refine ev_aload_n C dX11_clear_8 rfl (q := 1) rfl ?_
  obtain ⟨x5, e6, hf⟩ := obnd hf
  refine ev_get (k := 6) C ok_11 dX11_clear_9 (by decide) kw_398 (fR_V e6) ?_
  obtain ⟨_, e7, hf⟩ := obnd hf
  obtain ⟨fs8, e7⟩ := oO_eq e7
  obtain ⟨x9, e10, hf⟩ := obnd hf
  refine ev_callV0 (As := []) (st := []) C rfl e7 (t_X7_wipe e10) rfl hd_X7_wipe rfl kw_687 kw_688 kw_79 kw_689 kw_690 (mRoom.of E (Nat.le_of_ble_eq_true rfl) (Nat.le_of_ble_eq_true rfl) (Nat.le_refl 0) (Nat.le_refl 0)) (Nat.le_of_ble_eq_true rfl) dX11_clear_12 ?_
  refine ev_iload_n C dX11_clear_15 rfl (q := 0) rfl ?_
  obtain rfl := Option.some.inj hf
  exact ev_iret C E (Nat.le_refl 0) (Nat.le_refl 0) dX11_clear_16
/-! FareLimits$Tape byteAt(I)I -/
theorem dX7_byteAt_0 : decode prog_9_method_4_code 0 = .ok (.iload_n 1, 1) := by decide +kernel
theorem dX7_byteAt_1 : decode prog_9_method_4_code 1 = .ok (.ifCond .lt 20, 3) := by decide +kernel
theorem dX7_byteAt_4 : decode prog_9_method_4_code 4 = .ok (.iload_n 1, 1) := by decide +kernel
theorem dX7_byteAt_5 : decode prog_9_method_4_code 5 = .ok (.aload_n 0, 1) := by decide +kernel
theorem dX7_byteAt_6 : decode prog_9_method_4_code 6 = .ok (.getfield 21, 3) := by decide +kernel
theorem dX7_byteAt_9 : decode prog_9_method_4_code 9 = .ok (.if_icmp .ge 12, 3) := by decide +kernel
theorem dX7_byteAt_12 : decode prog_9_method_4_code 12 = .ok (.aload_n 0, 1) := by decide +kernel
theorem dX7_byteAt_13 : decode prog_9_method_4_code 13 = .ok (.getfield 9, 3) := by decide +kernel
theorem dX7_byteAt_16 : decode prog_9_method_4_code 16 = .ok (.iload_n 1, 1) := by decide +kernel
theorem dX7_byteAt_17 : decode prog_9_method_4_code 17 = .ok (.iaload, 1) := by decide +kernel
theorem dX7_byteAt_18 : decode prog_9_method_4_code 18 = .ok (.goto 4, 3) := by decide +kernel
theorem dX7_byteAt_21 : decode prog_9_method_4_code 21 = .ok (.iconst 0, 1) := by decide +kernel
theorem dX7_byteAt_22 : decode prog_9_method_4_code 22 = .ok (.ireturn, 1) := by decide +kernel
def m_X7_byteAt (a0 : Nat) (i1 : Int32) (M : mM) : Option (Int32) :=
  if i1 < 0 then (
    some 0) else (
    (fI M a0 7 1).bind fun x1 =>
    if x1 ≤ i1 then (
      some 0) else (
      (fR M a0 7 0).bind fun x3 =>
      (aI 0 M x3 i1).bind fun x5 =>
      some x5))
set_option maxHeartbeats 4000000 in
set_option maxRecDepth 100000 in
theorem t_X7_byteAt {L0 : Launch} {M : mM} {a0 : Nat} {i1 : Int32} {res : Int32} (hf : m_X7_byteAt a0 i1 M = some res) : CT L0 yX7_byteAt prog_9_method_4_code 2 (some .int) 0 0 0 0 [.ref a0, .int i1] M (some (.int res)) M := by
  refine CT.of (by decide +kernel) (Nat.le_of_ble_eq_true rfl) fun X C E => ?_
  have C : CX X RX7 "byteAt" prog_9_method_4_code 2 (some .int) := C
  show EV X 2 0 [(0, .ref a0), (1, .int i1)] [] 0 0 M
  unfold m_X7_byteAt at hf
  refine ev_iload_n C dX7_byteAt_0 rfl (q := 1) rfl ?_
  refine ev_if_lt (tgt := 21) C dX7_byteAt_1 (by decide) (fun hc => ?_) (fun hc => ?_)
  · have hf := oit hf hc
    refine ev_iconst (v := 0) C dX7_byteAt_21 (by decide) ?_
    obtain rfl := Option.some.inj hf
    exact ev_iret C E (Nat.le_refl 0) (Nat.le_refl 0) dX7_byteAt_22
  · have hf := oie hf hc
    refine ev_iload_n C dX7_byteAt_4 rfl (q := 1) rfl ?_
    refine ev_aload_n C dX7_byteAt_5 rfl (q := 0) rfl ?_
    obtain ⟨x1, e2, hf⟩ := obnd hf
    refine ev_get (k := 1) C ok_7 dX7_byteAt_6 (by decide) kw_265 (fI_V e2) ?_
    refine ev_icmp_ge (tgt := 21) C dX7_byteAt_9 (by decide) (fun hc => ?_) (fun hc => ?_)
    · have hf := oit hf hc
      refine ev_iconst (v := 0) C dX7_byteAt_21 (by decide) ?_
      obtain rfl := Option.some.inj hf
      exact ev_iret C E (Nat.le_refl 0) (Nat.le_refl 0) dX7_byteAt_22
    · have hf := oie hf hc
      refine ev_aload_n C dX7_byteAt_12 rfl (q := 0) rfl ?_
      obtain ⟨x3, e4, hf⟩ := obnd hf
      refine ev_get (k := 0) C ok_7 dX7_byteAt_13 (by decide) kw_264 (fR_V e4) ?_
      refine ev_iload_n C dX7_byteAt_16 rfl (q := 1) rfl ?_
      obtain ⟨x5, e6, hf⟩ := obnd hf
      refine ev_iald C dX7_byteAt_17 e6 ?_
      refine ev_goto (tgt := 22) C dX7_byteAt_18 (by decide) ?_
      obtain rfl := Option.some.inj hf
      exact ev_iret C E (Nat.le_refl 0) (Nat.le_refl 0) dX7_byteAt_22
/-! FareLimits$Route withLetter(III)I -/
theorem dX6_withLetter_0 : decode prog_8_method_2_code 0 = .ok (.iload_n 0, 1) := by decide +kernel
theorem dX6_withLetter_1 : decode prog_8_method_2_code 1 = .ok (.iload_n 2, 1) := by decide +kernel
theorem dX6_withLetter_2 : decode prog_8_method_2_code 2 = .ok (.bipush 8, 2) := by decide +kernel
theorem dX6_withLetter_4 : decode prog_8_method_2_code 4 = .ok (.iconst 2, 1) := by decide +kernel
theorem dX6_withLetter_5 : decode prog_8_method_2_code 5 = .ok (.iload_n 1, 1) := by decide +kernel
theorem dX6_withLetter_6 : decode prog_8_method_2_code 6 = .ok (.isub, 1) := by decide +kernel
theorem dX6_withLetter_7 : decode prog_8_method_2_code 7 = .ok (.imul, 1) := by decide +kernel
theorem dX6_withLetter_8 : decode prog_8_method_2_code 8 = .ok (.ishl, 1) := by decide +kernel
theorem dX6_withLetter_9 : decode prog_8_method_2_code 9 = .ok (.ior, 1) := by decide +kernel
theorem dX6_withLetter_10 : decode prog_8_method_2_code 10 = .ok (.ireturn, 1) := by decide +kernel
def m_X6_withLetter (i0 : Int32) (i1 : Int32) (i2 : Int32) : Option (Int32) :=
  some (i0 ||| (i2 <<< ((8 * (2 - i1)) &&& 31)))
set_option maxHeartbeats 4000000 in
set_option maxRecDepth 100000 in
theorem t_X6_withLetter {L0 : Launch} {M : mM} {i0 : Int32} {i1 : Int32} {i2 : Int32} {res : Int32} (hf : m_X6_withLetter i0 i1 i2 = some res) : CT L0 yX6_withLetter prog_8_method_2_code 3 (some .int) 0 0 0 0 [.int i0, .int i1, .int i2] M (some (.int res)) M := by
  refine CT.of (by decide +kernel) (Nat.le_of_ble_eq_true rfl) fun X C E => ?_
  have C : CX X RX6 "withLetter" prog_8_method_2_code 3 (some .int) := C
  show EV X 3 0 [(0, .int i0), (1, .int i1), (2, .int i2)] [] 0 0 M
  unfold m_X6_withLetter at hf
  refine ev_iload_n C dX6_withLetter_0 rfl (q := 0) rfl ?_
  refine ev_iload_n C dX6_withLetter_1 rfl (q := 2) rfl ?_
  refine ev_bipush (v := 8) C dX6_withLetter_2 (by decide) ?_
  refine ev_iconst (v := 2) C dX6_withLetter_4 (by decide) ?_
  refine ev_iload_n C dX6_withLetter_5 rfl (q := 1) rfl ?_
  refine ev_isub C dX6_withLetter_6 ?_
  refine ev_imul C dX6_withLetter_7 ?_
  refine ev_ishl C dX6_withLetter_8 ?_
  refine ev_ior C dX6_withLetter_9 ?_
  obtain rfl := Option.some.inj hf
  exact ev_iret C E (Nat.le_refl 0) (Nat.le_refl 0) dX6_withLetter_10
/-! FareLimits$Network placeOf(I)I -/
theorem dX4_placeOf_0 : decode prog_6_method_3_code 0 = .ok (.iconst 0, 1) := by decide +kernel
theorem dX4_placeOf_1 : decode prog_6_method_3_code 1 = .ok (.istore_n 2, 1) := by decide +kernel
theorem dX4_placeOf_2 : decode prog_6_method_3_code 2 = .ok (.iload_n 2, 1) := by decide +kernel
theorem dX4_placeOf_3 : decode prog_6_method_3_code 3 = .ok (.aload_n 0, 1) := by decide +kernel
theorem dX4_placeOf_4 : decode prog_6_method_3_code 4 = .ok (.getfield 30, 3) := by decide +kernel
theorem dX4_placeOf_7 : decode prog_6_method_3_code 7 = .ok (.if_icmp .ge 24, 3) := by decide +kernel
theorem dX4_placeOf_10 : decode prog_6_method_3_code 10 = .ok (.aload_n 0, 1) := by decide +kernel
theorem dX4_placeOf_11 : decode prog_6_method_3_code 11 = .ok (.getfield 20, 3) := by decide +kernel
theorem dX4_placeOf_14 : decode prog_6_method_3_code 14 = .ok (.iload_n 2, 1) := by decide +kernel
theorem dX4_placeOf_15 : decode prog_6_method_3_code 15 = .ok (.aaload, 1) := by decide +kernel
theorem dX4_placeOf_16 : decode prog_6_method_3_code 16 = .ok (.getfield 34, 3) := by decide +kernel
theorem dX4_placeOf_19 : decode prog_6_method_3_code 19 = .ok (.iload_n 1, 1) := by decide +kernel
theorem dX4_placeOf_20 : decode prog_6_method_3_code 20 = .ok (.if_icmp .ne 5, 3) := by decide +kernel
theorem dX4_placeOf_23 : decode prog_6_method_3_code 23 = .ok (.iload_n 2, 1) := by decide +kernel
theorem dX4_placeOf_24 : decode prog_6_method_3_code 24 = .ok (.ireturn, 1) := by decide +kernel
theorem dX4_placeOf_25 : decode prog_6_method_3_code 25 = .ok (.iinc 2 1, 3) := by decide +kernel
theorem dX4_placeOf_28 : decode prog_6_method_3_code 28 = .ok (.goto (-26), 3) := by decide +kernel
theorem dX4_placeOf_31 : decode prog_6_method_3_code 31 = .ok (.iconst (-1), 1) := by decide +kernel
theorem dX4_placeOf_32 : decode prog_6_method_3_code 32 = .ok (.ireturn, 1) := by decide +kernel
def m_X4_placeOf_L2 (N : Nat) (M : mM)  : Nat → Nat → Int32 → Int32 → Option (Int32)
  | 0, _, _, _ => none
  | n + 1, a0, i1, i2 =>
    (fI M a0 4 3).bind fun x1 =>
    if x1 ≤ i2 then (
      some (-1)) else (
      (fR M a0 4 2).bind fun x3 =>
      (aR 6 M x3 i2).bind fun x5 =>
      (fI M x5 6 0).bind fun x7 =>
      if x7 = i1 then (
        some i2) else (
        (m_X4_placeOf_L2 N M  n) a0 i1 (i2 + 1)))
set_option maxHeartbeats 4000000 in
set_option maxRecDepth 100000 in
theorem t_X4_placeOf_L2 {X : mX} {M : mM} {L0 : Launch} {res : Int32} {N : Nat} (C : CX X RX4 "placeOf" prog_6_method_3_code 3 (some .int)) (E : EX X L0 0 0 0 0 (some (.int res)) M)   : ∀ (n : Nat) (a0 : Nat) (i1 : Int32) (i2 : Int32), m_X4_placeOf_L2 N M  n a0 i1 i2 = some res → EV X 3 2 [(0, .ref a0), (1, .int i1), (2, .int i2)] [] 0 0 M := by
  intro n
  induction n with
  | zero => intro a0 i1 i2 hf; cases (show (none : Option (Int32)) = some res from hf)
  | succ n ih =>
    intro a0 i1 i2 hf
    rw [m_X4_placeOf_L2] at hf
    refine ev_iload_n C dX4_placeOf_2 rfl (q := 2) rfl ?_
    refine ev_aload_n C dX4_placeOf_3 rfl (q := 0) rfl ?_
    obtain ⟨x1, e2, hf⟩ := obnd hf
    refine ev_get (k := 3) C ok_4 dX4_placeOf_4 (by decide) kw_128 (fI_V e2) ?_
    refine ev_icmp_ge (tgt := 31) C dX4_placeOf_7 (by decide) (fun hc => ?_) (fun hc => ?_)
    · have hf := oit hf hc
      refine ev_iconst (v := (-1)) C dX4_placeOf_31 (by decide) ?_
      obtain rfl := Option.some.inj hf
      exact ev_iret C E (Nat.le_refl 0) (Nat.le_refl 0) dX4_placeOf_32
    · have hf := oie hf hc
      refine ev_aload_n C dX4_placeOf_10 rfl (q := 0) rfl ?_
      obtain ⟨x3, e4, hf⟩ := obnd hf
      refine ev_get (k := 2) C ok_4 dX4_placeOf_11 (by decide) kw_126 (fR_V e4) ?_
      refine ev_iload_n C dX4_placeOf_14 rfl (q := 2) rfl ?_
      obtain ⟨x5, e6, hf⟩ := obnd hf
      refine ev_aldr C (t := 6) rfl rfl dX4_placeOf_15 e6 ?_
      obtain ⟨x7, e8, hf⟩ := obnd hf
      refine ev_get (k := 0) C ok_6 dX4_placeOf_16 (by decide) kw_748 (fI_V e8) ?_
      refine ev_iload_n C dX4_placeOf_19 rfl (q := 1) rfl ?_
      refine ev_icmp_ne (tgt := 25) C dX4_placeOf_20 (by decide) (fun hc => ?_) (fun hc => ?_)
      · have hf := oie hf hc
        refine ev_iinc (v := i2 + 1) (l' := [(2, .int (i2 + 1)), (0, .ref a0), (1, .int i1)]) C dX4_placeOf_25 (q := 2) rfl rfl (by decide) rfl ?_
        refine ev_goto (tgt := 2) C dX4_placeOf_28 (by decide) ?_
        refine ev_sub [1, 2, 0] rfl ?_
        exact ih a0 i1 (i2 + 1) hf
      · have hf := oit hf hc
        refine ev_iload_n C dX4_placeOf_23 rfl (q := 2) rfl ?_
        obtain rfl := Option.some.inj hf
        exact ev_iret C E (Nat.le_refl 0) (Nat.le_refl 0) dX4_placeOf_24
def m_X4_placeOf (N : Nat) (a0 : Nat) (i1 : Int32) (M : mM) : Option (Int32) :=
  m_X4_placeOf_L2 N M  N a0 i1 0
set_option maxHeartbeats 4000000 in
set_option maxRecDepth 100000 in
theorem t_X4_placeOf {L0 : Launch} {M : mM} {N : Nat} {a0 : Nat} {i1 : Int32} {res : Int32} (hf : m_X4_placeOf N a0 i1 M = some res) : CT L0 yX4_placeOf prog_6_method_3_code 3 (some .int) 0 0 0 0 [.ref a0, .int i1] M (some (.int res)) M := by
  refine CT.of (by decide +kernel) (Nat.le_of_ble_eq_true rfl) fun X C E => ?_
  have C : CX X RX4 "placeOf" prog_6_method_3_code 3 (some .int) := C
  show EV X 3 0 [(0, .ref a0), (1, .int i1)] [] 0 0 M
  unfold m_X4_placeOf at hf
  refine ev_iconst (v := 0) C dX4_placeOf_0 (by decide) ?_
  refine ev_istore_n (l' := [(2, .int 0), (0, .ref a0), (1, .int i1)]) C dX4_placeOf_1 rfl (by decide) rfl ?_
  refine ev_sub [1, 2, 0] rfl ?_
  exact t_X4_placeOf_L2 C E   N a0 i1 0 hf
/-! FareLimits$Tape isRead(I)Z -/
theorem dX7_isRead_0 : decode prog_9_method_12_code 0 = .ok (.iconst 0, 1) := by decide +kernel
theorem dX7_isRead_1 : decode prog_9_method_12_code 1 = .ok (.istore_n 2, 1) := by decide +kernel
theorem dX7_isRead_2 : decode prog_9_method_12_code 2 = .ok (.iload_n 2, 1) := by decide +kernel
theorem dX7_isRead_3 : decode prog_9_method_12_code 3 = .ok (.aload_n 0, 1) := by decide +kernel
theorem dX7_isRead_4 : decode prog_9_method_12_code 4 = .ok (.getfield 43, 3) := by decide +kernel
theorem dX7_isRead_7 : decode prog_9_method_12_code 7 = .ok (.if_icmp .ge 24, 3) := by decide +kernel
theorem dX7_isRead_10 : decode prog_9_method_12_code 10 = .ok (.aload_n 0, 1) := by decide +kernel
theorem dX7_isRead_11 : decode prog_9_method_12_code 11 = .ok (.getfield 17, 3) := by decide +kernel
theorem dX7_isRead_14 : decode prog_9_method_12_code 14 = .ok (.iload_n 2, 1) := by decide +kernel
theorem dX7_isRead_15 : decode prog_9_method_12_code 15 = .ok (.aaload, 1) := by decide +kernel
theorem dX7_isRead_16 : decode prog_9_method_12_code 16 = .ok (.getfield 93, 3) := by decide +kernel
theorem dX7_isRead_19 : decode prog_9_method_12_code 19 = .ok (.iload_n 1, 1) := by decide +kernel
theorem dX7_isRead_20 : decode prog_9_method_12_code 20 = .ok (.if_icmp .ne 5, 3) := by decide +kernel
theorem dX7_isRead_23 : decode prog_9_method_12_code 23 = .ok (.iconst 1, 1) := by decide +kernel
theorem dX7_isRead_24 : decode prog_9_method_12_code 24 = .ok (.ireturn, 1) := by decide +kernel
theorem dX7_isRead_25 : decode prog_9_method_12_code 25 = .ok (.iinc 2 1, 3) := by decide +kernel
theorem dX7_isRead_28 : decode prog_9_method_12_code 28 = .ok (.goto (-26), 3) := by decide +kernel
theorem dX7_isRead_31 : decode prog_9_method_12_code 31 = .ok (.iconst 0, 1) := by decide +kernel
theorem dX7_isRead_32 : decode prog_9_method_12_code 32 = .ok (.ireturn, 1) := by decide +kernel
def m_X7_isRead_L2 (N : Nat) (M : mM)  : Nat → Nat → Int32 → Int32 → Option (Int32)
  | 0, _, _, _ => none
  | n + 1, a0, i1, i2 =>
    (fI M a0 7 3).bind fun x1 =>
    if x1 ≤ i2 then (
      some 0) else (
      (fR M a0 7 2).bind fun x3 =>
      (aR 6 M x3 i2).bind fun x5 =>
      (fI M x5 6 0).bind fun x7 =>
      if x7 = i1 then (
        some 1) else (
        (m_X7_isRead_L2 N M  n) a0 i1 (i2 + 1)))
set_option maxHeartbeats 4000000 in
set_option maxRecDepth 100000 in
theorem t_X7_isRead_L2 {X : mX} {M : mM} {L0 : Launch} {res : Int32} {N : Nat} (C : CX X RX7 "isRead" prog_9_method_12_code 3 (some .boolean)) (E : EX X L0 0 0 0 0 (some (.int res)) M)   : ∀ (n : Nat) (a0 : Nat) (i1 : Int32) (i2 : Int32), m_X7_isRead_L2 N M  n a0 i1 i2 = some res → EV X 3 2 [(0, .ref a0), (1, .int i1), (2, .int i2)] [] 0 0 M := by
  intro n
  induction n with
  | zero => intro a0 i1 i2 hf; cases (show (none : Option (Int32)) = some res from hf)
  | succ n ih =>
    intro a0 i1 i2 hf
    rw [m_X7_isRead_L2] at hf
    refine ev_iload_n C dX7_isRead_2 rfl (q := 2) rfl ?_
    refine ev_aload_n C dX7_isRead_3 rfl (q := 0) rfl ?_
    obtain ⟨x1, e2, hf⟩ := obnd hf
    refine ev_get (k := 3) C ok_7 dX7_isRead_4 (by decide) kw_269 (fI_V e2) ?_
    refine ev_icmp_ge (tgt := 31) C dX7_isRead_7 (by decide) (fun hc => ?_) (fun hc => ?_)
    · have hf := oit hf hc
      refine ev_iconst (v := 0) C dX7_isRead_31 (by decide) ?_
      obtain rfl := Option.some.inj hf
      exact ev_zret C (by decide) E (Nat.le_refl 0) (Nat.le_refl 0) dX7_isRead_32
    · have hf := oie hf hc
      refine ev_aload_n C dX7_isRead_10 rfl (q := 0) rfl ?_
      obtain ⟨x3, e4, hf⟩ := obnd hf
      refine ev_get (k := 2) C ok_7 dX7_isRead_11 (by decide) kw_267 (fR_V e4) ?_
      refine ev_iload_n C dX7_isRead_14 rfl (q := 2) rfl ?_
      obtain ⟨x5, e6, hf⟩ := obnd hf
      refine ev_aldr C (t := 6) rfl rfl dX7_isRead_15 e6 ?_
      obtain ⟨x7, e8, hf⟩ := obnd hf
      refine ev_get (k := 0) C ok_6 dX7_isRead_16 (by decide) kw_749 (fI_V e8) ?_
      refine ev_iload_n C dX7_isRead_19 rfl (q := 1) rfl ?_
      refine ev_icmp_ne (tgt := 25) C dX7_isRead_20 (by decide) (fun hc => ?_) (fun hc => ?_)
      · have hf := oie hf hc
        refine ev_iinc (v := i2 + 1) (l' := [(2, .int (i2 + 1)), (0, .ref a0), (1, .int i1)]) C dX7_isRead_25 (q := 2) rfl rfl (by decide) rfl ?_
        refine ev_goto (tgt := 2) C dX7_isRead_28 (by decide) ?_
        refine ev_sub [1, 2, 0] rfl ?_
        exact ih a0 i1 (i2 + 1) hf
      · have hf := oit hf hc
        refine ev_iconst (v := 1) C dX7_isRead_23 (by decide) ?_
        obtain rfl := Option.some.inj hf
        exact ev_zret C (by decide) E (Nat.le_refl 0) (Nat.le_refl 0) dX7_isRead_24
def m_X7_isRead (N : Nat) (a0 : Nat) (i1 : Int32) (M : mM) : Option (Int32) :=
  m_X7_isRead_L2 N M  N a0 i1 0
set_option maxHeartbeats 4000000 in
set_option maxRecDepth 100000 in
theorem t_X7_isRead {L0 : Launch} {M : mM} {N : Nat} {a0 : Nat} {i1 : Int32} {res : Int32} (hf : m_X7_isRead N a0 i1 M = some res) : CT L0 yX7_isRead prog_9_method_12_code 3 (some .boolean) 0 0 0 0 [.ref a0, .int i1] M (some (.int res)) M := by
  refine CT.of (by decide +kernel) (Nat.le_of_ble_eq_true rfl) fun X C E => ?_
  have C : CX X RX7 "isRead" prog_9_method_12_code 3 (some .boolean) := C
  show EV X 3 0 [(0, .ref a0), (1, .int i1)] [] 0 0 M
  unfold m_X7_isRead at hf
  refine ev_iconst (v := 0) C dX7_isRead_0 (by decide) ?_
  refine ev_istore_n (l' := [(2, .int 0), (0, .ref a0), (1, .int i1)]) C dX7_isRead_1 rfl (by decide) rfl ?_
  refine ev_sub [1, 2, 0] rfl ?_
  exact t_X7_isRead_L2 C E   N a0 i1 0 hf
/-! FareLimits$Tape faultOfName(LFareLimits$Network;)I -/
theorem dX7_faultOfName_0 : decode prog_9_method_11_code 0 = .ok (.aload_n 0, 1) := by decide +kernel
theorem dX7_faultOfName_1 : decode prog_9_method_11_code 1 = .ok (.getfield 40, 3) := by decide +kernel
theorem dX7_faultOfName_4 : decode prog_9_method_11_code 4 = .ok (.istore_n 2, 1) := by decide +kernel
theorem dX7_faultOfName_5 : decode prog_9_method_11_code 5 = .ok (.aload_n 0, 1) := by decide +kernel
theorem dX7_faultOfName_6 : decode prog_9_method_11_code 6 = .ok (.iconst 0, 1) := by decide +kernel
theorem dX7_faultOfName_7 : decode prog_9_method_11_code 7 = .ok (.putfield 50, 3) := by decide +kernel
theorem dX7_faultOfName_10 : decode prog_9_method_11_code 10 = .ok (.iconst 0, 1) := by decide +kernel
theorem dX7_faultOfName_11 : decode prog_9_method_11_code 11 = .ok (.istore_n 3, 1) := by decide +kernel
theorem dX7_faultOfName_12 : decode prog_9_method_11_code 12 = .ok (.iload_n 3, 1) := by decide +kernel
theorem dX7_faultOfName_13 : decode prog_9_method_11_code 13 = .ok (.iconst 3, 1) := by decide +kernel
theorem dX7_faultOfName_14 : decode prog_9_method_11_code 14 = .ok (.if_icmp .ge 65, 3) := by decide +kernel
theorem dX7_faultOfName_17 : decode prog_9_method_11_code 17 = .ok (.aload_n 0, 1) := by decide +kernel
theorem dX7_faultOfName_18 : decode prog_9_method_11_code 18 = .ok (.aload_n 0, 1) := by decide +kernel
theorem dX7_faultOfName_19 : decode prog_9_method_11_code 19 = .ok (.getfield 40, 3) := by decide +kernel
theorem dX7_faultOfName_22 : decode prog_9_method_11_code 22 = .ok (.invokevirtual 25, 3) := by decide +kernel
theorem dX7_faultOfName_25 : decode prog_9_method_11_code 25 = .ok (.bipush 97, 2) := by decide +kernel
theorem dX7_faultOfName_27 : decode prog_9_method_11_code 27 = .ok (.if_icmp .lt 52, 3) := by decide +kernel
theorem dX7_faultOfName_30 : decode prog_9_method_11_code 30 = .ok (.aload_n 0, 1) := by decide +kernel
theorem dX7_faultOfName_31 : decode prog_9_method_11_code 31 = .ok (.aload_n 0, 1) := by decide +kernel
theorem dX7_faultOfName_32 : decode prog_9_method_11_code 32 = .ok (.getfield 40, 3) := by decide +kernel
theorem dX7_faultOfName_35 : decode prog_9_method_11_code 35 = .ok (.invokevirtual 25, 3) := by decide +kernel
theorem dX7_faultOfName_38 : decode prog_9_method_11_code 38 = .ok (.bipush 122, 2) := by decide +kernel
theorem dX7_faultOfName_40 : decode prog_9_method_11_code 40 = .ok (.if_icmp .gt 39, 3) := by decide +kernel
theorem dX7_faultOfName_43 : decode prog_9_method_11_code 43 = .ok (.aload_n 0, 1) := by decide +kernel
theorem dX7_faultOfName_44 : decode prog_9_method_11_code 44 = .ok (.aload_n 0, 1) := by decide +kernel
theorem dX7_faultOfName_45 : decode prog_9_method_11_code 45 = .ok (.getfield 50, 3) := by decide +kernel
theorem dX7_faultOfName_48 : decode prog_9_method_11_code 48 = .ok (.iload_n 3, 1) := by decide +kernel
theorem dX7_faultOfName_49 : decode prog_9_method_11_code 49 = .ok (.aload_n 0, 1) := by decide +kernel
theorem dX7_faultOfName_50 : decode prog_9_method_11_code 50 = .ok (.aload_n 0, 1) := by decide +kernel
theorem dX7_faultOfName_51 : decode prog_9_method_11_code 51 = .ok (.getfield 40, 3) := by decide +kernel
theorem dX7_faultOfName_54 : decode prog_9_method_11_code 54 = .ok (.invokevirtual 25, 3) := by decide +kernel
theorem dX7_faultOfName_57 : decode prog_9_method_11_code 57 = .ok (.invokestatic 36, 3) := by decide +kernel
theorem dX7_faultOfName_60 : decode prog_9_method_11_code 60 = .ok (.putfield 50, 3) := by decide +kernel
theorem dX7_faultOfName_63 : decode prog_9_method_11_code 63 = .ok (.aload_n 0, 1) := by decide +kernel
theorem dX7_faultOfName_64 : decode prog_9_method_11_code 64 = .ok (.dup, 1) := by decide +kernel
theorem dX7_faultOfName_65 : decode prog_9_method_11_code 65 = .ok (.getfield 40, 3) := by decide +kernel
theorem dX7_faultOfName_68 : decode prog_9_method_11_code 68 = .ok (.iconst 1, 1) := by decide +kernel
theorem dX7_faultOfName_69 : decode prog_9_method_11_code 69 = .ok (.iadd, 1) := by decide +kernel
theorem dX7_faultOfName_70 : decode prog_9_method_11_code 70 = .ok (.putfield 40, 3) := by decide +kernel
theorem dX7_faultOfName_73 : decode prog_9_method_11_code 73 = .ok (.iinc 3 1, 3) := by decide +kernel
theorem dX7_faultOfName_76 : decode prog_9_method_11_code 76 = .ok (.goto (-64), 3) := by decide +kernel
theorem dX7_faultOfName_79 : decode prog_9_method_11_code 79 = .ok (.aload_n 1, 1) := by decide +kernel
theorem dX7_faultOfName_80 : decode prog_9_method_11_code 80 = .ok (.getfield 81, 3) := by decide +kernel
theorem dX7_faultOfName_83 : decode prog_9_method_11_code 83 = .ok (.aload_n 0, 1) := by decide +kernel
theorem dX7_faultOfName_84 : decode prog_9_method_11_code 84 = .ok (.getfield 43, 3) := by decide +kernel
theorem dX7_faultOfName_87 : decode prog_9_method_11_code 87 = .ok (.iadd, 1) := by decide +kernel
theorem dX7_faultOfName_88 : decode prog_9_method_11_code 88 = .ok (.bipush 12, 2) := by decide +kernel
theorem dX7_faultOfName_90 : decode prog_9_method_11_code 90 = .ok (.if_icmp .ge 7, 3) := by decide +kernel
theorem dX7_faultOfName_93 : decode prog_9_method_11_code 93 = .ok (.iconst 1, 1) := by decide +kernel
theorem dX7_faultOfName_94 : decode prog_9_method_11_code 94 = .ok (.goto 4, 3) := by decide +kernel
theorem dX7_faultOfName_97 : decode prog_9_method_11_code 97 = .ok (.iconst 0, 1) := by decide +kernel
theorem dX7_faultOfName_98 : decode prog_9_method_11_code 98 = .ok (.istore_n 3, 1) := by decide +kernel
theorem dX7_faultOfName_99 : decode prog_9_method_11_code 99 = .ok (.aload_n 0, 1) := by decide +kernel
theorem dX7_faultOfName_100 : decode prog_9_method_11_code 100 = .ok (.getfield 40, 3) := by decide +kernel
theorem dX7_faultOfName_103 : decode prog_9_method_11_code 103 = .ok (.iload_n 2, 1) := by decide +kernel
theorem dX7_faultOfName_104 : decode prog_9_method_11_code 104 = .ok (.if_icmp .eq 30, 3) := by decide +kernel
theorem dX7_faultOfName_107 : decode prog_9_method_11_code 107 = .ok (.iload_n 3, 1) := by decide +kernel
theorem dX7_faultOfName_108 : decode prog_9_method_11_code 108 = .ok (.ifCond .eq 26, 3) := by decide +kernel
theorem dX7_faultOfName_111 : decode prog_9_method_11_code 111 = .ok (.aload_n 1, 1) := by decide +kernel
theorem dX7_faultOfName_112 : decode prog_9_method_11_code 112 = .ok (.aload_n 0, 1) := by decide +kernel
theorem dX7_faultOfName_113 : decode prog_9_method_11_code 113 = .ok (.getfield 50, 3) := by decide +kernel
theorem dX7_faultOfName_116 : decode prog_9_method_11_code 116 = .ok (.invokevirtual 86, 3) := by decide +kernel
theorem dX7_faultOfName_119 : decode prog_9_method_11_code 119 = .ok (.iconst (-1), 1) := by decide +kernel
theorem dX7_faultOfName_120 : decode prog_9_method_11_code 120 = .ok (.if_icmp .ne 14, 3) := by decide +kernel
theorem dX7_faultOfName_123 : decode prog_9_method_11_code 123 = .ok (.aload_n 0, 1) := by decide +kernel
theorem dX7_faultOfName_124 : decode prog_9_method_11_code 124 = .ok (.aload_n 0, 1) := by decide +kernel
theorem dX7_faultOfName_125 : decode prog_9_method_11_code 125 = .ok (.getfield 50, 3) := by decide +kernel
theorem dX7_faultOfName_128 : decode prog_9_method_11_code 128 = .ok (.invokevirtual 89, 3) := by decide +kernel
theorem dX7_faultOfName_131 : decode prog_9_method_11_code 131 = .ok (.ifCond .eq 7, 3) := by decide +kernel
theorem dX7_faultOfName_134 : decode prog_9_method_11_code 134 = .ok (.iload_n 2, 1) := by decide +kernel
theorem dX7_faultOfName_135 : decode prog_9_method_11_code 135 = .ok (.goto 4, 3) := by decide +kernel
theorem dX7_faultOfName_138 : decode prog_9_method_11_code 138 = .ok (.iconst (-1), 1) := by decide +kernel
theorem dX7_faultOfName_139 : decode prog_9_method_11_code 139 = .ok (.ireturn, 1) := by decide +kernel
def m_X7_faultOfName_J98 (N : Nat)  (a0 : Nat) (a1 : Nat) (i2 : Int32) (si0 : Int32) (M : mM) : Option (Int32 × mM) :=
  (fI M a0 7 4).bind fun x1 =>
  if x1 = i2 then (
    some (i2, M)) else (
    if si0 = 0 then (
      some (i2, M)) else (
      (fI M a0 7 5).bind fun x3 =>
      (oO M a1 4).bind fun _ =>
      (m_X4_placeOf N a1 x3 M).bind fun x7 =>
      if x7 = (-1) then (
        (fI M a0 7 5).bind fun x9 =>
        (oO M a0 7).bind fun _ =>
        (m_X7_isRead N a0 x9 M).bind fun x13 =>
        if x13 = 0 then (
          some ((-1), M)) else (
          some (i2, M))) else (
        some (i2, M))))
set_option maxHeartbeats 4000000 in
set_option maxRecDepth 100000 in
theorem t_X7_faultOfName_J98 {X : mX} {L0 : Launch} {res : Int32 × mM} {N : Nat} (C : CX X RX7 "faultOfName" prog_9_method_11_code 4 (some .int)) (E : EX X L0 1 22 0 0 (some (.int res.1)) res.2)   (a0 : Nat) (a1 : Nat) (i2 : Int32) (si0 : Int32) (M : mM) (hf : m_X7_faultOfName_J98 N  a0 a1 i2 si0 M = some res) : EV X 4 98 [(0, .ref a0), (1, .ref a1), (2, .int i2)] [.int si0] 0 0 M := by
  unfold m_X7_faultOfName_J98 at hf
  refine ev_istore_n (l' := [(3, .int si0), (0, .ref a0), (1, .ref a1), (2, .int i2)]) C dX7_faultOfName_98 rfl (by decide) rfl ?_
  refine ev_aload_n C dX7_faultOfName_99 rfl (q := 1) rfl ?_
  obtain ⟨x1, e2, hf⟩ := obnd hf
  refine ev_get (k := 4) C ok_7 dX7_faultOfName_100 (by decide) kw_271 (fI_V e2) ?_
  refine ev_iload_n C dX7_faultOfName_103 rfl (q := 3) rfl ?_
  refine ev_icmp_eq (tgt := 134) C dX7_faultOfName_104 (by decide) (fun hc => ?_) (fun hc => ?_)
  · have hf := oit hf hc
    refine ev_iload_n C dX7_faultOfName_134 rfl (q := 3) rfl ?_
    refine ev_goto (tgt := 139) C dX7_faultOfName_135 (by decide) ?_
    obtain rfl := Option.some.inj hf
    exact ev_iret C E (Nat.le_refl 0) (Nat.le_refl 0) dX7_faultOfName_139
  · have hf := oie hf hc
    refine ev_iload_n C dX7_faultOfName_107 rfl (q := 0) rfl ?_
    refine ev_if_eq (tgt := 134) C dX7_faultOfName_108 (by decide) (fun hc => ?_) (fun hc => ?_)
    · have hf := oit hf hc
      refine ev_iload_n C dX7_faultOfName_134 rfl (q := 3) rfl ?_
      refine ev_goto (tgt := 139) C dX7_faultOfName_135 (by decide) ?_
      obtain rfl := Option.some.inj hf
      exact ev_iret C E (Nat.le_refl 0) (Nat.le_refl 0) dX7_faultOfName_139
    · have hf := oie hf hc
      refine ev_aload_n C dX7_faultOfName_111 rfl (q := 2) rfl ?_
      refine ev_aload_n C dX7_faultOfName_112 rfl (q := 1) rfl ?_
      obtain ⟨x3, e4, hf⟩ := obnd hf
      refine ev_get (k := 5) C ok_7 dX7_faultOfName_113 (by decide) kw_272 (fI_V e4) ?_
      obtain ⟨_, e5, hf⟩ := obnd hf
      obtain ⟨fs6, e5⟩ := oO_eq e5
      obtain ⟨x7, e8, hf⟩ := obnd hf
      refine ev_callV0 (As := [.int x3]) (st := []) C rfl e5 (t_X4_placeOf e8) rfl hd_X4_placeOf rfl kw_714 kw_715 kw_72 kw_716 kw_717 (mRoom.of E (Nat.le_of_ble_eq_true rfl) (Nat.le_of_ble_eq_true rfl) (Nat.le_refl 0) (Nat.le_refl 0)) (Nat.le_of_ble_eq_true rfl) dX7_faultOfName_116 ?_
      refine ev_iconst (v := (-1)) C dX7_faultOfName_119 (by decide) ?_
      refine ev_icmp_ne (tgt := 134) C dX7_faultOfName_120 (by decide) (fun hc => ?_) (fun hc => ?_)
      · have hf := oie hf hc
        refine ev_iload_n C dX7_faultOfName_134 rfl (q := 3) rfl ?_
        refine ev_goto (tgt := 139) C dX7_faultOfName_135 (by decide) ?_
        obtain rfl := Option.some.inj hf
        exact ev_iret C E (Nat.le_refl 0) (Nat.le_refl 0) dX7_faultOfName_139
      · have hf := oit hf hc
        refine ev_aload_n C dX7_faultOfName_123 rfl (q := 1) rfl ?_
        refine ev_aload_n C dX7_faultOfName_124 rfl (q := 1) rfl ?_
        obtain ⟨x9, e10, hf⟩ := obnd hf
        refine ev_get (k := 5) C ok_7 dX7_faultOfName_125 (by decide) kw_272 (fI_V e10) ?_
        obtain ⟨_, e11, hf⟩ := obnd hf
        obtain ⟨fs12, e11⟩ := oO_eq e11
        obtain ⟨x13, e14, hf⟩ := obnd hf
        refine ev_callV0 (As := [.int x9]) (st := []) C rfl e11 (t_X7_isRead e14) rfl hd_X7_isRead rfl kw_718 kw_720 kw_79 kw_9 kw_721 (mRoom.of E (Nat.le_of_ble_eq_true rfl) (Nat.le_of_ble_eq_true rfl) (Nat.le_refl 0) (Nat.le_refl 0)) (Nat.le_of_ble_eq_true rfl) dX7_faultOfName_128 ?_
        refine ev_if_eq (tgt := 138) C dX7_faultOfName_131 (by decide) (fun hc => ?_) (fun hc => ?_)
        · have hf := oit hf hc
          refine ev_iconst (v := (-1)) C dX7_faultOfName_138 (by decide) ?_
          obtain rfl := Option.some.inj hf
          exact ev_iret C E (Nat.le_refl 0) (Nat.le_refl 0) dX7_faultOfName_139
        · have hf := oie hf hc
          refine ev_iload_n C dX7_faultOfName_134 rfl (q := 3) rfl ?_
          refine ev_goto (tgt := 139) C dX7_faultOfName_135 (by decide) ?_
          obtain rfl := Option.some.inj hf
          exact ev_iret C E (Nat.le_refl 0) (Nat.le_refl 0) dX7_faultOfName_139
def m_X7_faultOfName_J79 (N : Nat)  (a0 : Nat) (a1 : Nat) (i2 : Int32) (M : mM) : Option (Int32 × mM) :=
  (fI M a1 4 3).bind fun x1 =>
  (fI M a0 7 3).bind fun x3 =>
  if 12 ≤ (x1 + x3) then (
    m_X7_faultOfName_J98 N  a0 a1 i2 0 M) else (
    m_X7_faultOfName_J98 N  a0 a1 i2 1 M)
set_option maxHeartbeats 4000000 in
set_option maxRecDepth 100000 in
theorem t_X7_faultOfName_J79 {X : mX} {L0 : Launch} {res : Int32 × mM} {N : Nat} (C : CX X RX7 "faultOfName" prog_9_method_11_code 4 (some .int)) (E : EX X L0 1 22 0 0 (some (.int res.1)) res.2)   (a0 : Nat) (a1 : Nat) (i2 : Int32) (M : mM) (hf : m_X7_faultOfName_J79 N  a0 a1 i2 M = some res) : EV X 4 79 [(0, .ref a0), (1, .ref a1), (2, .int i2)] [] 0 0 M := by
  unfold m_X7_faultOfName_J79 at hf
  refine ev_aload_n C dX7_faultOfName_79 rfl (q := 1) rfl ?_
  obtain ⟨x1, e2, hf⟩ := obnd hf
  refine ev_get (k := 3) C ok_4 dX7_faultOfName_80 (by decide) kw_129 (fI_V e2) ?_
  refine ev_aload_n C dX7_faultOfName_83 rfl (q := 0) rfl ?_
  obtain ⟨x3, e4, hf⟩ := obnd hf
  refine ev_get (k := 3) C ok_7 dX7_faultOfName_84 (by decide) kw_269 (fI_V e4) ?_
  refine ev_iadd C dX7_faultOfName_87 ?_
  refine ev_bipush (v := 12) C dX7_faultOfName_88 (by decide) ?_
  refine ev_icmp_ge (tgt := 97) C dX7_faultOfName_90 (by decide) (fun hc => ?_) (fun hc => ?_)
  · have hf := oit hf hc
    refine ev_iconst (v := 0) C dX7_faultOfName_97 (by decide) ?_
    exact t_X7_faultOfName_J98 C E   a0 a1 i2 0 M hf
  · have hf := oie hf hc
    refine ev_iconst (v := 1) C dX7_faultOfName_93 (by decide) ?_
    refine ev_goto (tgt := 98) C dX7_faultOfName_94 (by decide) ?_
    exact t_X7_faultOfName_J98 C E   a0 a1 i2 1 M hf
def m_X7_faultOfName_L12 (N : Nat)  : Nat → Nat → Nat → Int32 → Int32 → mM → Option (Int32 × mM)
  | 0, _, _, _, _, _ => none
  | n + 1, a0, a1, i2, i3, M =>
    if 3 ≤ i3 then (
      m_X7_faultOfName_J79 N  a0 a1 i2 M) else (
      (fI M a0 7 4).bind fun x1 =>
      (oO M a0 7).bind fun _ =>
      (m_X7_byteAt a0 x1 M).bind fun x5 =>
      if x5 < 97 then (
        m_X7_faultOfName_J79 N  a0 a1 i2 M) else (
        (fI M a0 7 4).bind fun x7 =>
        (oO M a0 7).bind fun _ =>
        (m_X7_byteAt a0 x7 M).bind fun x11 =>
        if 122 < x11 then (
          m_X7_faultOfName_J79 N  a0 a1 i2 M) else (
          (fI M a0 7 5).bind fun x13 =>
          (fI M a0 7 4).bind fun x15 =>
          (oO M a0 7).bind fun _ =>
          (m_X7_byteAt a0 x15 M).bind fun x19 =>
          (m_X6_withLetter x13 i3 x19).bind fun x21 =>
          (sV M a0 7 5 (.int x21)).bind fun M23 =>
          (fI M23 a0 7 4).bind fun x25 =>
          (sV M23 a0 7 4 (.int (x25 + 1))).bind fun M27 =>
          (m_X7_faultOfName_L12 N  n) a0 a1 i2 (i3 + 1) M27)))
set_option maxHeartbeats 4000000 in
set_option maxRecDepth 100000 in
theorem t_X7_faultOfName_L12 {X : mX} {L0 : Launch} {res : Int32 × mM} {N : Nat} (C : CX X RX7 "faultOfName" prog_9_method_11_code 4 (some .int)) (E : EX X L0 1 22 0 0 (some (.int res.1)) res.2)   : ∀ (n : Nat) (a0 : Nat) (a1 : Nat) (i2 : Int32) (i3 : Int32) (M : mM), m_X7_faultOfName_L12 N  n a0 a1 i2 i3 M = some res → EV X 4 12 [(0, .ref a0), (1, .ref a1), (2, .int i2), (3, .int i3)] [] 0 0 M := by
  intro n
  induction n with
  | zero => intro a0 a1 i2 i3 M hf; cases (show (none : Option (Int32 × mM)) = some res from hf)
  | succ n ih =>
    intro a0 a1 i2 i3 M hf
    rw [m_X7_faultOfName_L12] at hf
    refine ev_iload_n C dX7_faultOfName_12 rfl (q := 3) rfl ?_
    refine ev_iconst (v := 3) C dX7_faultOfName_13 (by decide) ?_
    refine ev_icmp_ge (tgt := 79) C dX7_faultOfName_14 (by decide) (fun hc => ?_) (fun hc => ?_)
    · have hf := oit hf hc
      refine ev_sub [0, 1, 2] rfl ?_
      exact t_X7_faultOfName_J79 C E   a0 a1 i2 M hf
    · have hf := oie hf hc
      refine ev_aload_n C dX7_faultOfName_17 rfl (q := 0) rfl ?_
      refine ev_aload_n C dX7_faultOfName_18 rfl (q := 0) rfl ?_
      obtain ⟨x1, e2, hf⟩ := obnd hf
      refine ev_get (k := 4) C ok_7 dX7_faultOfName_19 (by decide) kw_271 (fI_V e2) ?_
      obtain ⟨_, e3, hf⟩ := obnd hf
      obtain ⟨fs4, e3⟩ := oO_eq e3
      obtain ⟨x5, e6, hf⟩ := obnd hf
      refine ev_callV0 (As := [.int x1]) (st := []) C rfl e3 (t_X7_byteAt e6) rfl hd_X7_byteAt rfl kw_707 kw_709 kw_79 kw_8 kw_710 (mRoom.of E (Nat.le_of_ble_eq_true rfl) (Nat.le_of_ble_eq_true rfl) (Nat.le_refl 0) (Nat.le_refl 0)) (Nat.le_of_ble_eq_true rfl) dX7_faultOfName_22 ?_
      refine ev_bipush (v := 97) C dX7_faultOfName_25 (by decide) ?_
      refine ev_icmp_lt (tgt := 79) C dX7_faultOfName_27 (by decide) (fun hc => ?_) (fun hc => ?_)
      · have hf := oit hf hc
        refine ev_sub [0, 1, 2] rfl ?_
        exact t_X7_faultOfName_J79 C E   a0 a1 i2 M hf
      · have hf := oie hf hc
        refine ev_aload_n C dX7_faultOfName_30 rfl (q := 0) rfl ?_
        refine ev_aload_n C dX7_faultOfName_31 rfl (q := 0) rfl ?_
        obtain ⟨x7, e8, hf⟩ := obnd hf
        refine ev_get (k := 4) C ok_7 dX7_faultOfName_32 (by decide) kw_271 (fI_V e8) ?_
        obtain ⟨_, e9, hf⟩ := obnd hf
        obtain ⟨fs10, e9⟩ := oO_eq e9
        obtain ⟨x11, e12, hf⟩ := obnd hf
        refine ev_callV0 (As := [.int x7]) (st := []) C rfl e9 (t_X7_byteAt e12) rfl hd_X7_byteAt rfl kw_707 kw_709 kw_79 kw_8 kw_710 (mRoom.of E (Nat.le_of_ble_eq_true rfl) (Nat.le_of_ble_eq_true rfl) (Nat.le_refl 0) (Nat.le_refl 0)) (Nat.le_of_ble_eq_true rfl) dX7_faultOfName_35 ?_
        refine ev_bipush (v := 122) C dX7_faultOfName_38 (by decide) ?_
        refine ev_icmp_gt (tgt := 79) C dX7_faultOfName_40 (by decide) (fun hc => ?_) (fun hc => ?_)
        · have hf := oit hf hc
          refine ev_sub [0, 1, 2] rfl ?_
          exact t_X7_faultOfName_J79 C E   a0 a1 i2 M hf
        · have hf := oie hf hc
          refine ev_aload_n C dX7_faultOfName_43 rfl (q := 0) rfl ?_
          refine ev_aload_n C dX7_faultOfName_44 rfl (q := 0) rfl ?_
          obtain ⟨x13, e14, hf⟩ := obnd hf
          refine ev_get (k := 5) C ok_7 dX7_faultOfName_45 (by decide) kw_272 (fI_V e14) ?_
          refine ev_iload_n C dX7_faultOfName_48 rfl (q := 3) rfl ?_
          refine ev_aload_n C dX7_faultOfName_49 rfl (q := 0) rfl ?_
          refine ev_aload_n C dX7_faultOfName_50 rfl (q := 0) rfl ?_
          obtain ⟨x15, e16, hf⟩ := obnd hf
          refine ev_get (k := 4) C ok_7 dX7_faultOfName_51 (by decide) kw_271 (fI_V e16) ?_
          obtain ⟨_, e17, hf⟩ := obnd hf
          obtain ⟨fs18, e17⟩ := oO_eq e17
          obtain ⟨x19, e20, hf⟩ := obnd hf
          refine ev_callV0 (As := [.int x15]) (st := [.int i3, .int x13, .ref a0]) C rfl e17 (t_X7_byteAt e20) rfl hd_X7_byteAt rfl kw_707 kw_709 kw_79 kw_8 kw_710 (mRoom.of E (Nat.le_of_ble_eq_true rfl) (Nat.le_of_ble_eq_true rfl) (Nat.le_refl 0) (Nat.le_refl 0)) (Nat.le_of_ble_eq_true rfl) dX7_faultOfName_54 ?_
          obtain ⟨x21, e22, hf⟩ := obnd hf
          refine ev_callS0 (As := [.int x13, .int i3, .int x19]) (st := [.ref a0]) C (t_X6_withLetter e22) hd_X6_withLetter rfl kw_711 kw_712 kw_92 kw_713 (mRoom.of E (Nat.le_of_ble_eq_true rfl) (Nat.le_of_ble_eq_true rfl) (Nat.le_refl 0) (Nat.le_refl 0)) (Nat.le_of_ble_eq_true rfl) dX7_faultOfName_57 ?_
          obtain ⟨M23, e24, hf⟩ := obnd hf
          refine ev_put (k := 5) C ok_7 dX7_faultOfName_60 (by decide) kw_272 rfl ⟨rfl, rfl⟩ e24 ?_
          refine ev_aload_n C dX7_faultOfName_63 rfl (q := 0) rfl ?_
          refine ev_dup C dX7_faultOfName_64 rfl ?_
          obtain ⟨x25, e26, hf⟩ := obnd hf
          refine ev_get (k := 4) C ok_7 dX7_faultOfName_65 (by decide) kw_271 (fI_V e26) ?_
          refine ev_iconst (v := 1) C dX7_faultOfName_68 (by decide) ?_
          refine ev_iadd C dX7_faultOfName_69 ?_
          obtain ⟨M27, e28, hf⟩ := obnd hf
          refine ev_put (k := 4) C ok_7 dX7_faultOfName_70 (by decide) kw_271 rfl ⟨rfl, rfl⟩ e28 ?_
          refine ev_iinc (v := i3 + 1) (l' := [(3, .int (i3 + 1)), (0, .ref a0), (1, .ref a1), (2, .int i2)]) C dX7_faultOfName_73 (q := 3) rfl rfl (by decide) rfl ?_
          refine ev_goto (tgt := 12) C dX7_faultOfName_76 (by decide) ?_
          refine ev_sub [1, 2, 3, 0] rfl ?_
          exact ih a0 a1 i2 (i3 + 1) M27 hf
def m_X7_faultOfName (N : Nat) (a0 : Nat) (a1 : Nat) (M : mM) : Option (Int32 × mM) :=
  (fI M a0 7 4).bind fun x1 =>
  (sV M a0 7 5 (.int 0)).bind fun M3 =>
  m_X7_faultOfName_L12 N  N a0 a1 x1 0 M3
set_option maxHeartbeats 4000000 in
set_option maxRecDepth 100000 in
theorem t_X7_faultOfName {L0 : Launch} {M : mM} {N : Nat} {a0 : Nat} {a1 : Nat} {res : Int32 × mM} (hf : m_X7_faultOfName N a0 a1 M = some res) : CT L0 yX7_faultOfName prog_9_method_11_code 4 (some .int) 1 22 0 0 [.ref a0, .ref a1] M (some (.int res.1)) res.2 := by
  refine CT.of (by decide +kernel) (Nat.le_of_ble_eq_true rfl) fun X C E => ?_
  have C : CX X RX7 "faultOfName" prog_9_method_11_code 4 (some .int) := C
  show EV X 4 0 [(0, .ref a0), (1, .ref a1)] [] 0 0 M
  unfold m_X7_faultOfName at hf
  refine ev_aload_n C dX7_faultOfName_0 rfl (q := 0) rfl ?_
  obtain ⟨x1, e2, hf⟩ := obnd hf
  refine ev_get (k := 4) C ok_7 dX7_faultOfName_1 (by decide) kw_271 (fI_V e2) ?_
  refine ev_istore_n (l' := [(2, .int x1), (0, .ref a0), (1, .ref a1)]) C dX7_faultOfName_4 rfl (by decide) rfl ?_
  refine ev_aload_n C dX7_faultOfName_5 rfl (q := 1) rfl ?_
  refine ev_iconst (v := 0) C dX7_faultOfName_6 (by decide) ?_
  obtain ⟨M3, e4, hf⟩ := obnd hf
  refine ev_put (k := 5) C ok_7 dX7_faultOfName_7 (by decide) kw_272 rfl ⟨rfl, rfl⟩ e4 ?_
  refine ev_iconst (v := 0) C dX7_faultOfName_10 (by decide) ?_
  refine ev_istore_n (l' := [(3, .int 0), (2, .int x1), (0, .ref a0), (1, .ref a1)]) C dX7_faultOfName_11 rfl (by decide) rfl ?_
  refine ev_sub [2, 3, 1, 0] rfl ?_
  exact t_X7_faultOfName_L12 C E   N a0 a1 x1 0 M3 hf
/-! FareLimits$Tape faultOfSign(I)I -/
theorem dX7_faultOfSign_0 : decode prog_9_method_10_code 0 = .ok (.aload_n 0, 1) := by decide +kernel
theorem dX7_faultOfSign_1 : decode prog_9_method_10_code 1 = .ok (.aload_n 0, 1) := by decide +kernel
theorem dX7_faultOfSign_2 : decode prog_9_method_10_code 2 = .ok (.getfield 40, 3) := by decide +kernel
theorem dX7_faultOfSign_5 : decode prog_9_method_10_code 5 = .ok (.invokevirtual 25, 3) := by decide +kernel
theorem dX7_faultOfSign_8 : decode prog_9_method_10_code 8 = .ok (.iload_n 1, 1) := by decide +kernel
theorem dX7_faultOfSign_9 : decode prog_9_method_10_code 9 = .ok (.if_icmp .eq 8, 3) := by decide +kernel
theorem dX7_faultOfSign_12 : decode prog_9_method_10_code 12 = .ok (.aload_n 0, 1) := by decide +kernel
theorem dX7_faultOfSign_13 : decode prog_9_method_10_code 13 = .ok (.getfield 40, 3) := by decide +kernel
theorem dX7_faultOfSign_16 : decode prog_9_method_10_code 16 = .ok (.ireturn, 1) := by decide +kernel
theorem dX7_faultOfSign_17 : decode prog_9_method_10_code 17 = .ok (.aload_n 0, 1) := by decide +kernel
theorem dX7_faultOfSign_18 : decode prog_9_method_10_code 18 = .ok (.dup, 1) := by decide +kernel
theorem dX7_faultOfSign_19 : decode prog_9_method_10_code 19 = .ok (.getfield 40, 3) := by decide +kernel
theorem dX7_faultOfSign_22 : decode prog_9_method_10_code 22 = .ok (.iconst 1, 1) := by decide +kernel
theorem dX7_faultOfSign_23 : decode prog_9_method_10_code 23 = .ok (.iadd, 1) := by decide +kernel
theorem dX7_faultOfSign_24 : decode prog_9_method_10_code 24 = .ok (.putfield 40, 3) := by decide +kernel
theorem dX7_faultOfSign_27 : decode prog_9_method_10_code 27 = .ok (.iconst (-1), 1) := by decide +kernel
theorem dX7_faultOfSign_28 : decode prog_9_method_10_code 28 = .ok (.ireturn, 1) := by decide +kernel
def m_X7_faultOfSign (a0 : Nat) (i1 : Int32) (M : mM) : Option (Int32 × mM) :=
  (fI M a0 7 4).bind fun x1 =>
  (oO M a0 7).bind fun _ =>
  (m_X7_byteAt a0 x1 M).bind fun x5 =>
  if x5 = i1 then (
    (fI M a0 7 4).bind fun x7 =>
    (sV M a0 7 4 (.int (x7 + 1))).bind fun M9 =>
    some ((-1), M9)) else (
    (fI M a0 7 4).bind fun x11 =>
    some (x11, M))
set_option maxHeartbeats 4000000 in
set_option maxRecDepth 100000 in
theorem t_X7_faultOfSign {L0 : Launch} {M : mM} {a0 : Nat} {i1 : Int32} {res : Int32 × mM} (hf : m_X7_faultOfSign a0 i1 M = some res) : CT L0 yX7_faultOfSign prog_9_method_10_code 2 (some .int) 1 21 0 0 [.ref a0, .int i1] M (some (.int res.1)) res.2 := by
  refine CT.of (by decide +kernel) (Nat.le_of_ble_eq_true rfl) fun X C E => ?_
  have C : CX X RX7 "faultOfSign" prog_9_method_10_code 2 (some .int) := C
  show EV X 2 0 [(0, .ref a0), (1, .int i1)] [] 0 0 M
  unfold m_X7_faultOfSign at hf
  refine ev_aload_n C dX7_faultOfSign_0 rfl (q := 0) rfl ?_
  refine ev_aload_n C dX7_faultOfSign_1 rfl (q := 0) rfl ?_
  obtain ⟨x1, e2, hf⟩ := obnd hf
  refine ev_get (k := 4) C ok_7 dX7_faultOfSign_2 (by decide) kw_271 (fI_V e2) ?_
  obtain ⟨_, e3, hf⟩ := obnd hf
  obtain ⟨fs4, e3⟩ := oO_eq e3
  obtain ⟨x5, e6, hf⟩ := obnd hf
  refine ev_callV0 (As := [.int x1]) (st := []) C rfl e3 (t_X7_byteAt e6) rfl hd_X7_byteAt rfl kw_707 kw_709 kw_79 kw_8 kw_710 (mRoom.of E (Nat.le_of_ble_eq_true rfl) (Nat.le_of_ble_eq_true rfl) (Nat.le_refl 0) (Nat.le_refl 0)) (Nat.le_of_ble_eq_true rfl) dX7_faultOfSign_5 ?_
  refine ev_iload_n C dX7_faultOfSign_8 rfl (q := 1) rfl ?_
  refine ev_icmp_eq (tgt := 17) C dX7_faultOfSign_9 (by decide) (fun hc => ?_) (fun hc => ?_)
  · have hf := oit hf hc
    refine ev_aload_n C dX7_faultOfSign_17 rfl (q := 0) rfl ?_
    refine ev_dup C dX7_faultOfSign_18 rfl ?_
    obtain ⟨x7, e8, hf⟩ := obnd hf
    refine ev_get (k := 4) C ok_7 dX7_faultOfSign_19 (by decide) kw_271 (fI_V e8) ?_
    refine ev_iconst (v := 1) C dX7_faultOfSign_22 (by decide) ?_
    refine ev_iadd C dX7_faultOfSign_23 ?_
    obtain ⟨M9, e10, hf⟩ := obnd hf
    refine ev_put (k := 4) C ok_7 dX7_faultOfSign_24 (by decide) kw_271 rfl ⟨rfl, rfl⟩ e10 ?_
    refine ev_iconst (v := (-1)) C dX7_faultOfSign_27 (by decide) ?_
    obtain rfl := Option.some.inj hf
    exact ev_iret C E (Nat.le_refl 0) (Nat.le_refl 0) dX7_faultOfSign_28
  · have hf := oie hf hc
    refine ev_aload_n C dX7_faultOfSign_12 rfl (q := 0) rfl ?_
    obtain ⟨x11, e12, hf⟩ := obnd hf
    refine ev_get (k := 4) C ok_7 dX7_faultOfSign_13 (by decide) kw_271 (fI_V e12) ?_
    obtain rfl := Option.some.inj hf
    exact ev_iret C E (Nat.le_refl 0) (Nat.le_refl 0) dX7_faultOfSign_16
/-! FareLimits$Tape faultOfLegs()I -/
theorem dX7_faultOfLegs_0 : decode prog_9_method_13_code 0 = .ok (.aload_n 0, 1) := by decide +kernel
theorem dX7_faultOfLegs_1 : decode prog_9_method_13_code 1 = .ok (.iconst 0, 1) := by decide +kernel
theorem dX7_faultOfLegs_2 : decode prog_9_method_13_code 2 = .ok (.putfield 53, 3) := by decide +kernel
theorem dX7_faultOfLegs_5 : decode prog_9_method_13_code 5 = .ok (.bipush 48, 2) := by decide +kernel
theorem dX7_faultOfLegs_7 : decode prog_9_method_13_code 7 = .ok (.istore_n 1, 1) := by decide +kernel
theorem dX7_faultOfLegs_8 : decode prog_9_method_13_code 8 = .ok (.iconst 0, 1) := by decide +kernel
theorem dX7_faultOfLegs_9 : decode prog_9_method_13_code 9 = .ok (.istore_n 2, 1) := by decide +kernel
theorem dX7_faultOfLegs_10 : decode prog_9_method_13_code 10 = .ok (.iload_n 2, 1) := by decide +kernel
theorem dX7_faultOfLegs_11 : decode prog_9_method_13_code 11 = .ok (.iconst 4, 1) := by decide +kernel
theorem dX7_faultOfLegs_12 : decode prog_9_method_13_code 12 = .ok (.if_icmp .ge 77, 3) := by decide +kernel
theorem dX7_faultOfLegs_15 : decode prog_9_method_13_code 15 = .ok (.aload_n 0, 1) := by decide +kernel
theorem dX7_faultOfLegs_16 : decode prog_9_method_13_code 16 = .ok (.aload_n 0, 1) := by decide +kernel
theorem dX7_faultOfLegs_17 : decode prog_9_method_13_code 17 = .ok (.getfield 40, 3) := by decide +kernel
theorem dX7_faultOfLegs_20 : decode prog_9_method_13_code 20 = .ok (.invokevirtual 25, 3) := by decide +kernel
theorem dX7_faultOfLegs_23 : decode prog_9_method_13_code 23 = .ok (.iload_n 1, 1) := by decide +kernel
theorem dX7_faultOfLegs_24 : decode prog_9_method_13_code 24 = .ok (.if_icmp .lt 65, 3) := by decide +kernel
theorem dX7_faultOfLegs_27 : decode prog_9_method_13_code 27 = .ok (.aload_n 0, 1) := by decide +kernel
theorem dX7_faultOfLegs_28 : decode prog_9_method_13_code 28 = .ok (.aload_n 0, 1) := by decide +kernel
theorem dX7_faultOfLegs_29 : decode prog_9_method_13_code 29 = .ok (.getfield 40, 3) := by decide +kernel
theorem dX7_faultOfLegs_32 : decode prog_9_method_13_code 32 = .ok (.invokevirtual 25, 3) := by decide +kernel
theorem dX7_faultOfLegs_35 : decode prog_9_method_13_code 35 = .ok (.bipush 52, 2) := by decide +kernel
theorem dX7_faultOfLegs_37 : decode prog_9_method_13_code 37 = .ok (.if_icmp .ge 52, 3) := by decide +kernel
theorem dX7_faultOfLegs_40 : decode prog_9_method_13_code 40 = .ok (.aload_n 0, 1) := by decide +kernel
theorem dX7_faultOfLegs_41 : decode prog_9_method_13_code 41 = .ok (.aload_n 0, 1) := by decide +kernel
theorem dX7_faultOfLegs_42 : decode prog_9_method_13_code 42 = .ok (.getfield 53, 3) := by decide +kernel
theorem dX7_faultOfLegs_45 : decode prog_9_method_13_code 45 = .ok (.iconst 1, 1) := by decide +kernel
theorem dX7_faultOfLegs_46 : decode prog_9_method_13_code 46 = .ok (.aload_n 0, 1) := by decide +kernel
theorem dX7_faultOfLegs_47 : decode prog_9_method_13_code 47 = .ok (.aload_n 0, 1) := by decide +kernel
theorem dX7_faultOfLegs_48 : decode prog_9_method_13_code 48 = .ok (.getfield 40, 3) := by decide +kernel
theorem dX7_faultOfLegs_51 : decode prog_9_method_13_code 51 = .ok (.invokevirtual 25, 3) := by decide +kernel
theorem dX7_faultOfLegs_54 : decode prog_9_method_13_code 54 = .ok (.bipush 48, 2) := by decide +kernel
theorem dX7_faultOfLegs_56 : decode prog_9_method_13_code 56 = .ok (.isub, 1) := by decide +kernel
theorem dX7_faultOfLegs_57 : decode prog_9_method_13_code 57 = .ok (.ishl, 1) := by decide +kernel
theorem dX7_faultOfLegs_58 : decode prog_9_method_13_code 58 = .ok (.ior, 1) := by decide +kernel
theorem dX7_faultOfLegs_59 : decode prog_9_method_13_code 59 = .ok (.putfield 53, 3) := by decide +kernel
theorem dX7_faultOfLegs_62 : decode prog_9_method_13_code 62 = .ok (.aload_n 0, 1) := by decide +kernel
theorem dX7_faultOfLegs_63 : decode prog_9_method_13_code 63 = .ok (.aload_n 0, 1) := by decide +kernel
theorem dX7_faultOfLegs_64 : decode prog_9_method_13_code 64 = .ok (.getfield 40, 3) := by decide +kernel
theorem dX7_faultOfLegs_67 : decode prog_9_method_13_code 67 = .ok (.invokevirtual 25, 3) := by decide +kernel
theorem dX7_faultOfLegs_70 : decode prog_9_method_13_code 70 = .ok (.iconst 1, 1) := by decide +kernel
theorem dX7_faultOfLegs_71 : decode prog_9_method_13_code 71 = .ok (.iadd, 1) := by decide +kernel
theorem dX7_faultOfLegs_72 : decode prog_9_method_13_code 72 = .ok (.istore_n 1, 1) := by decide +kernel
theorem dX7_faultOfLegs_73 : decode prog_9_method_13_code 73 = .ok (.aload_n 0, 1) := by decide +kernel
theorem dX7_faultOfLegs_74 : decode prog_9_method_13_code 74 = .ok (.dup, 1) := by decide +kernel
theorem dX7_faultOfLegs_75 : decode prog_9_method_13_code 75 = .ok (.getfield 40, 3) := by decide +kernel
theorem dX7_faultOfLegs_78 : decode prog_9_method_13_code 78 = .ok (.iconst 1, 1) := by decide +kernel
theorem dX7_faultOfLegs_79 : decode prog_9_method_13_code 79 = .ok (.iadd, 1) := by decide +kernel
theorem dX7_faultOfLegs_80 : decode prog_9_method_13_code 80 = .ok (.putfield 40, 3) := by decide +kernel
theorem dX7_faultOfLegs_83 : decode prog_9_method_13_code 83 = .ok (.iinc 2 1, 3) := by decide +kernel
theorem dX7_faultOfLegs_86 : decode prog_9_method_13_code 86 = .ok (.goto (-76), 3) := by decide +kernel
theorem dX7_faultOfLegs_89 : decode prog_9_method_13_code 89 = .ok (.aload_n 0, 1) := by decide +kernel
theorem dX7_faultOfLegs_90 : decode prog_9_method_13_code 90 = .ok (.getfield 53, 3) := by decide +kernel
theorem dX7_faultOfLegs_93 : decode prog_9_method_13_code 93 = .ok (.ifCond .ne 10, 3) := by decide +kernel
theorem dX7_faultOfLegs_96 : decode prog_9_method_13_code 96 = .ok (.aload_n 0, 1) := by decide +kernel
theorem dX7_faultOfLegs_97 : decode prog_9_method_13_code 97 = .ok (.getfield 40, 3) := by decide +kernel
theorem dX7_faultOfLegs_100 : decode prog_9_method_13_code 100 = .ok (.goto 4, 3) := by decide +kernel
theorem dX7_faultOfLegs_103 : decode prog_9_method_13_code 103 = .ok (.iconst (-1), 1) := by decide +kernel
theorem dX7_faultOfLegs_104 : decode prog_9_method_13_code 104 = .ok (.ireturn, 1) := by decide +kernel
def m_X7_faultOfLegs_J89 (N : Nat)  (a0 : Nat) (M : mM) : Option (Int32 × mM) :=
  (fI M a0 7 6).bind fun x1 =>
  if x1 = 0 then (
    (fI M a0 7 4).bind fun x3 =>
    some (x3, M)) else (
    some ((-1), M))
set_option maxHeartbeats 4000000 in
set_option maxRecDepth 100000 in
theorem t_X7_faultOfLegs_J89 {X : mX} {L0 : Launch} {res : Int32 × mM} {N : Nat} (C : CX X RX7 "faultOfLegs" prog_9_method_13_code 3 (some .int)) (E : EX X L0 1 21 0 0 (some (.int res.1)) res.2)   (a0 : Nat) (M : mM) (hf : m_X7_faultOfLegs_J89 N  a0 M = some res) : EV X 3 89 [(0, .ref a0)] [] 0 0 M := by
  unfold m_X7_faultOfLegs_J89 at hf
  refine ev_aload_n C dX7_faultOfLegs_89 rfl (q := 0) rfl ?_
  obtain ⟨x1, e2, hf⟩ := obnd hf
  refine ev_get (k := 6) C ok_7 dX7_faultOfLegs_90 (by decide) kw_273 (fI_V e2) ?_
  refine ev_if_ne (tgt := 103) C dX7_faultOfLegs_93 (by decide) (fun hc => ?_) (fun hc => ?_)
  · have hf := oie hf hc
    refine ev_iconst (v := (-1)) C dX7_faultOfLegs_103 (by decide) ?_
    obtain rfl := Option.some.inj hf
    exact ev_iret C E (Nat.le_refl 0) (Nat.le_refl 0) dX7_faultOfLegs_104
  · have hf := oit hf hc
    refine ev_aload_n C dX7_faultOfLegs_96 rfl (q := 0) rfl ?_
    obtain ⟨x3, e4, hf⟩ := obnd hf
    refine ev_get (k := 4) C ok_7 dX7_faultOfLegs_97 (by decide) kw_271 (fI_V e4) ?_
    refine ev_goto (tgt := 104) C dX7_faultOfLegs_100 (by decide) ?_
    obtain rfl := Option.some.inj hf
    exact ev_iret C E (Nat.le_refl 0) (Nat.le_refl 0) dX7_faultOfLegs_104
def m_X7_faultOfLegs_L10 (N : Nat)  : Nat → Nat → Int32 → Int32 → mM → Option (Int32 × mM)
  | 0, _, _, _, _ => none
  | n + 1, a0, i1, i2, M =>
    if 4 ≤ i2 then (
      m_X7_faultOfLegs_J89 N  a0 M) else (
      (fI M a0 7 4).bind fun x1 =>
      (oO M a0 7).bind fun _ =>
      (m_X7_byteAt a0 x1 M).bind fun x5 =>
      if x5 < i1 then (
        m_X7_faultOfLegs_J89 N  a0 M) else (
        (fI M a0 7 4).bind fun x7 =>
        (oO M a0 7).bind fun _ =>
        (m_X7_byteAt a0 x7 M).bind fun x11 =>
        if 52 ≤ x11 then (
          m_X7_faultOfLegs_J89 N  a0 M) else (
          (fI M a0 7 6).bind fun x13 =>
          (fI M a0 7 4).bind fun x15 =>
          (oO M a0 7).bind fun _ =>
          (m_X7_byteAt a0 x15 M).bind fun x19 =>
          (sV M a0 7 6 (.int (x13 ||| (1 <<< ((x19 - 48) &&& 31))))).bind fun M21 =>
          (fI M21 a0 7 4).bind fun x23 =>
          (oO M21 a0 7).bind fun _ =>
          (m_X7_byteAt a0 x23 M21).bind fun x27 =>
          (fI M21 a0 7 4).bind fun x29 =>
          (sV M21 a0 7 4 (.int (x29 + 1))).bind fun M31 =>
          (m_X7_faultOfLegs_L10 N  n) a0 (x27 + 1) (i2 + 1) M31)))
set_option maxHeartbeats 4000000 in
set_option maxRecDepth 100000 in
theorem t_X7_faultOfLegs_L10 {X : mX} {L0 : Launch} {res : Int32 × mM} {N : Nat} (C : CX X RX7 "faultOfLegs" prog_9_method_13_code 3 (some .int)) (E : EX X L0 1 21 0 0 (some (.int res.1)) res.2)   : ∀ (n : Nat) (a0 : Nat) (i1 : Int32) (i2 : Int32) (M : mM), m_X7_faultOfLegs_L10 N  n a0 i1 i2 M = some res → EV X 3 10 [(0, .ref a0), (1, .int i1), (2, .int i2)] [] 0 0 M := by
  intro n
  induction n with
  | zero => intro a0 i1 i2 M hf; cases (show (none : Option (Int32 × mM)) = some res from hf)
  | succ n ih =>
    intro a0 i1 i2 M hf
    rw [m_X7_faultOfLegs_L10] at hf
    refine ev_iload_n C dX7_faultOfLegs_10 rfl (q := 2) rfl ?_
    refine ev_iconst (v := 4) C dX7_faultOfLegs_11 (by decide) ?_
    refine ev_icmp_ge (tgt := 89) C dX7_faultOfLegs_12 (by decide) (fun hc => ?_) (fun hc => ?_)
    · have hf := oit hf hc
      refine ev_sub [0] rfl ?_
      exact t_X7_faultOfLegs_J89 C E   a0 M hf
    · have hf := oie hf hc
      refine ev_aload_n C dX7_faultOfLegs_15 rfl (q := 0) rfl ?_
      refine ev_aload_n C dX7_faultOfLegs_16 rfl (q := 0) rfl ?_
      obtain ⟨x1, e2, hf⟩ := obnd hf
      refine ev_get (k := 4) C ok_7 dX7_faultOfLegs_17 (by decide) kw_271 (fI_V e2) ?_
      obtain ⟨_, e3, hf⟩ := obnd hf
      obtain ⟨fs4, e3⟩ := oO_eq e3
      obtain ⟨x5, e6, hf⟩ := obnd hf
      refine ev_callV0 (As := [.int x1]) (st := []) C rfl e3 (t_X7_byteAt e6) rfl hd_X7_byteAt rfl kw_707 kw_709 kw_79 kw_8 kw_710 (mRoom.of E (Nat.le_of_ble_eq_true rfl) (Nat.le_of_ble_eq_true rfl) (Nat.le_refl 0) (Nat.le_refl 0)) (Nat.le_of_ble_eq_true rfl) dX7_faultOfLegs_20 ?_
      refine ev_iload_n C dX7_faultOfLegs_23 rfl (q := 1) rfl ?_
      refine ev_icmp_lt (tgt := 89) C dX7_faultOfLegs_24 (by decide) (fun hc => ?_) (fun hc => ?_)
      · have hf := oit hf hc
        refine ev_sub [0] rfl ?_
        exact t_X7_faultOfLegs_J89 C E   a0 M hf
      · have hf := oie hf hc
        refine ev_aload_n C dX7_faultOfLegs_27 rfl (q := 0) rfl ?_
        refine ev_aload_n C dX7_faultOfLegs_28 rfl (q := 0) rfl ?_
        obtain ⟨x7, e8, hf⟩ := obnd hf
        refine ev_get (k := 4) C ok_7 dX7_faultOfLegs_29 (by decide) kw_271 (fI_V e8) ?_
        obtain ⟨_, e9, hf⟩ := obnd hf
        obtain ⟨fs10, e9⟩ := oO_eq e9
        obtain ⟨x11, e12, hf⟩ := obnd hf
        refine ev_callV0 (As := [.int x7]) (st := []) C rfl e9 (t_X7_byteAt e12) rfl hd_X7_byteAt rfl kw_707 kw_709 kw_79 kw_8 kw_710 (mRoom.of E (Nat.le_of_ble_eq_true rfl) (Nat.le_of_ble_eq_true rfl) (Nat.le_refl 0) (Nat.le_refl 0)) (Nat.le_of_ble_eq_true rfl) dX7_faultOfLegs_32 ?_
        refine ev_bipush (v := 52) C dX7_faultOfLegs_35 (by decide) ?_
        refine ev_icmp_ge (tgt := 89) C dX7_faultOfLegs_37 (by decide) (fun hc => ?_) (fun hc => ?_)
        · have hf := oit hf hc
          refine ev_sub [0] rfl ?_
          exact t_X7_faultOfLegs_J89 C E   a0 M hf
        · have hf := oie hf hc
          refine ev_aload_n C dX7_faultOfLegs_40 rfl (q := 0) rfl ?_
          refine ev_aload_n C dX7_faultOfLegs_41 rfl (q := 0) rfl ?_
          obtain ⟨x13, e14, hf⟩ := obnd hf
          refine ev_get (k := 6) C ok_7 dX7_faultOfLegs_42 (by decide) kw_273 (fI_V e14) ?_
          refine ev_iconst (v := 1) C dX7_faultOfLegs_45 (by decide) ?_
          refine ev_aload_n C dX7_faultOfLegs_46 rfl (q := 0) rfl ?_
          refine ev_aload_n C dX7_faultOfLegs_47 rfl (q := 0) rfl ?_
          obtain ⟨x15, e16, hf⟩ := obnd hf
          refine ev_get (k := 4) C ok_7 dX7_faultOfLegs_48 (by decide) kw_271 (fI_V e16) ?_
          obtain ⟨_, e17, hf⟩ := obnd hf
          obtain ⟨fs18, e17⟩ := oO_eq e17
          obtain ⟨x19, e20, hf⟩ := obnd hf
          refine ev_callV0 (As := [.int x15]) (st := [.int 1, .int x13, .ref a0]) C rfl e17 (t_X7_byteAt e20) rfl hd_X7_byteAt rfl kw_707 kw_709 kw_79 kw_8 kw_710 (mRoom.of E (Nat.le_of_ble_eq_true rfl) (Nat.le_of_ble_eq_true rfl) (Nat.le_refl 0) (Nat.le_refl 0)) (Nat.le_of_ble_eq_true rfl) dX7_faultOfLegs_51 ?_
          refine ev_bipush (v := 48) C dX7_faultOfLegs_54 (by decide) ?_
          refine ev_isub C dX7_faultOfLegs_56 ?_
          refine ev_ishl C dX7_faultOfLegs_57 ?_
          refine ev_ior C dX7_faultOfLegs_58 ?_
          obtain ⟨M21, e22, hf⟩ := obnd hf
          refine ev_put (k := 6) C ok_7 dX7_faultOfLegs_59 (by decide) kw_273 rfl ⟨rfl, rfl⟩ e22 ?_
          refine ev_aload_n C dX7_faultOfLegs_62 rfl (q := 0) rfl ?_
          refine ev_aload_n C dX7_faultOfLegs_63 rfl (q := 0) rfl ?_
          obtain ⟨x23, e24, hf⟩ := obnd hf
          refine ev_get (k := 4) C ok_7 dX7_faultOfLegs_64 (by decide) kw_271 (fI_V e24) ?_
          obtain ⟨_, e25, hf⟩ := obnd hf
          obtain ⟨fs26, e25⟩ := oO_eq e25
          obtain ⟨x27, e28, hf⟩ := obnd hf
          refine ev_callV0 (As := [.int x23]) (st := []) C rfl e25 (t_X7_byteAt e28) rfl hd_X7_byteAt rfl kw_707 kw_709 kw_79 kw_8 kw_710 (mRoom.of E (Nat.le_of_ble_eq_true rfl) (Nat.le_of_ble_eq_true rfl) (Nat.le_refl 0) (Nat.le_refl 0)) (Nat.le_of_ble_eq_true rfl) dX7_faultOfLegs_67 ?_
          refine ev_iconst (v := 1) C dX7_faultOfLegs_70 (by decide) ?_
          refine ev_iadd C dX7_faultOfLegs_71 ?_
          refine ev_istore_n (l' := [(1, .int (x27 + 1)), (0, .ref a0), (2, .int i2)]) C dX7_faultOfLegs_72 rfl (by decide) rfl ?_
          refine ev_aload_n C dX7_faultOfLegs_73 rfl (q := 1) rfl ?_
          refine ev_dup C dX7_faultOfLegs_74 rfl ?_
          obtain ⟨x29, e30, hf⟩ := obnd hf
          refine ev_get (k := 4) C ok_7 dX7_faultOfLegs_75 (by decide) kw_271 (fI_V e30) ?_
          refine ev_iconst (v := 1) C dX7_faultOfLegs_78 (by decide) ?_
          refine ev_iadd C dX7_faultOfLegs_79 ?_
          obtain ⟨M31, e32, hf⟩ := obnd hf
          refine ev_put (k := 4) C ok_7 dX7_faultOfLegs_80 (by decide) kw_271 rfl ⟨rfl, rfl⟩ e32 ?_
          refine ev_iinc (v := i2 + 1) (l' := [(2, .int (i2 + 1)), (1, .int (x27 + 1)), (0, .ref a0)]) C dX7_faultOfLegs_83 (q := 2) rfl rfl (by decide) rfl ?_
          refine ev_goto (tgt := 10) C dX7_faultOfLegs_86 (by decide) ?_
          refine ev_sub [2, 1, 0] rfl ?_
          exact ih a0 (x27 + 1) (i2 + 1) M31 hf
def m_X7_faultOfLegs (N : Nat) (a0 : Nat) (M : mM) : Option (Int32 × mM) :=
  (sV M a0 7 6 (.int 0)).bind fun M1 =>
  m_X7_faultOfLegs_L10 N  N a0 48 0 M1
set_option maxHeartbeats 4000000 in
set_option maxRecDepth 100000 in
theorem t_X7_faultOfLegs {L0 : Launch} {M : mM} {N : Nat} {a0 : Nat} {res : Int32 × mM} (hf : m_X7_faultOfLegs N a0 M = some res) : CT L0 yX7_faultOfLegs prog_9_method_13_code 3 (some .int) 1 21 0 0 [.ref a0] M (some (.int res.1)) res.2 := by
  refine CT.of (by decide +kernel) (Nat.le_of_ble_eq_true rfl) fun X C E => ?_
  have C : CX X RX7 "faultOfLegs" prog_9_method_13_code 3 (some .int) := C
  show EV X 3 0 [(0, .ref a0)] [] 0 0 M
  unfold m_X7_faultOfLegs at hf
  refine ev_aload_n C dX7_faultOfLegs_0 rfl (q := 0) rfl ?_
  refine ev_iconst (v := 0) C dX7_faultOfLegs_1 (by decide) ?_
  obtain ⟨M1, e2, hf⟩ := obnd hf
  refine ev_put (k := 6) C ok_7 dX7_faultOfLegs_2 (by decide) kw_273 rfl ⟨rfl, rfl⟩ e2 ?_
  refine ev_bipush (v := 48) C dX7_faultOfLegs_5 (by decide) ?_
  refine ev_istore_n (l' := [(1, .int 48), (0, .ref a0)]) C dX7_faultOfLegs_7 rfl (by decide) rfl ?_
  refine ev_iconst (v := 0) C dX7_faultOfLegs_8 (by decide) ?_
  refine ev_istore_n (l' := [(2, .int 0), (1, .int 48), (0, .ref a0)]) C dX7_faultOfLegs_9 rfl (by decide) rfl ?_
  refine ev_sub [2, 1, 0] rfl ?_
  exact t_X7_faultOfLegs_L10 C E   N a0 48 0 M1 hf
/-! FareLimits$Tape numberOf(I)I -/
theorem dX7_numberOf_0 : decode prog_9_method_16_code 0 = .ok (.iconst 0, 1) := by decide +kernel
theorem dX7_numberOf_1 : decode prog_9_method_16_code 1 = .ok (.istore_n 2, 1) := by decide +kernel
theorem dX7_numberOf_2 : decode prog_9_method_16_code 2 = .ok (.iconst 0, 1) := by decide +kernel
theorem dX7_numberOf_3 : decode prog_9_method_16_code 3 = .ok (.istore_n 3, 1) := by decide +kernel
theorem dX7_numberOf_4 : decode prog_9_method_16_code 4 = .ok (.iload_n 3, 1) := by decide +kernel
theorem dX7_numberOf_5 : decode prog_9_method_16_code 5 = .ok (.iload_n 1, 1) := by decide +kernel
theorem dX7_numberOf_6 : decode prog_9_method_16_code 6 = .ok (.if_icmp .ge 62, 3) := by decide +kernel
theorem dX7_numberOf_9 : decode prog_9_method_16_code 9 = .ok (.aload_n 0, 1) := by decide +kernel
theorem dX7_numberOf_10 : decode prog_9_method_16_code 10 = .ok (.aload_n 0, 1) := by decide +kernel
theorem dX7_numberOf_11 : decode prog_9_method_16_code 11 = .ok (.getfield 40, 3) := by decide +kernel
theorem dX7_numberOf_14 : decode prog_9_method_16_code 14 = .ok (.invokevirtual 25, 3) := by decide +kernel
theorem dX7_numberOf_17 : decode prog_9_method_16_code 17 = .ok (.bipush 48, 2) := by decide +kernel
theorem dX7_numberOf_19 : decode prog_9_method_16_code 19 = .ok (.if_icmp .lt 49, 3) := by decide +kernel
theorem dX7_numberOf_22 : decode prog_9_method_16_code 22 = .ok (.aload_n 0, 1) := by decide +kernel
theorem dX7_numberOf_23 : decode prog_9_method_16_code 23 = .ok (.aload_n 0, 1) := by decide +kernel
theorem dX7_numberOf_24 : decode prog_9_method_16_code 24 = .ok (.getfield 40, 3) := by decide +kernel
theorem dX7_numberOf_27 : decode prog_9_method_16_code 27 = .ok (.invokevirtual 25, 3) := by decide +kernel
theorem dX7_numberOf_30 : decode prog_9_method_16_code 30 = .ok (.bipush 57, 2) := by decide +kernel
theorem dX7_numberOf_32 : decode prog_9_method_16_code 32 = .ok (.if_icmp .gt 36, 3) := by decide +kernel
theorem dX7_numberOf_35 : decode prog_9_method_16_code 35 = .ok (.iload_n 2, 1) := by decide +kernel
theorem dX7_numberOf_36 : decode prog_9_method_16_code 36 = .ok (.bipush 10, 2) := by decide +kernel
theorem dX7_numberOf_38 : decode prog_9_method_16_code 38 = .ok (.imul, 1) := by decide +kernel
theorem dX7_numberOf_39 : decode prog_9_method_16_code 39 = .ok (.aload_n 0, 1) := by decide +kernel
theorem dX7_numberOf_40 : decode prog_9_method_16_code 40 = .ok (.aload_n 0, 1) := by decide +kernel
theorem dX7_numberOf_41 : decode prog_9_method_16_code 41 = .ok (.getfield 40, 3) := by decide +kernel
theorem dX7_numberOf_44 : decode prog_9_method_16_code 44 = .ok (.invokevirtual 25, 3) := by decide +kernel
theorem dX7_numberOf_47 : decode prog_9_method_16_code 47 = .ok (.iadd, 1) := by decide +kernel
theorem dX7_numberOf_48 : decode prog_9_method_16_code 48 = .ok (.bipush 48, 2) := by decide +kernel
theorem dX7_numberOf_50 : decode prog_9_method_16_code 50 = .ok (.isub, 1) := by decide +kernel
theorem dX7_numberOf_51 : decode prog_9_method_16_code 51 = .ok (.istore_n 2, 1) := by decide +kernel
theorem dX7_numberOf_52 : decode prog_9_method_16_code 52 = .ok (.aload_n 0, 1) := by decide +kernel
theorem dX7_numberOf_53 : decode prog_9_method_16_code 53 = .ok (.dup, 1) := by decide +kernel
theorem dX7_numberOf_54 : decode prog_9_method_16_code 54 = .ok (.getfield 40, 3) := by decide +kernel
theorem dX7_numberOf_57 : decode prog_9_method_16_code 57 = .ok (.iconst 1, 1) := by decide +kernel
theorem dX7_numberOf_58 : decode prog_9_method_16_code 58 = .ok (.iadd, 1) := by decide +kernel
theorem dX7_numberOf_59 : decode prog_9_method_16_code 59 = .ok (.putfield 40, 3) := by decide +kernel
theorem dX7_numberOf_62 : decode prog_9_method_16_code 62 = .ok (.iinc 3 1, 3) := by decide +kernel
theorem dX7_numberOf_65 : decode prog_9_method_16_code 65 = .ok (.goto (-61), 3) := by decide +kernel
theorem dX7_numberOf_68 : decode prog_9_method_16_code 68 = .ok (.iload_n 2, 1) := by decide +kernel
theorem dX7_numberOf_69 : decode prog_9_method_16_code 69 = .ok (.ireturn, 1) := by decide +kernel
def m_X7_numberOf_L4 (N : Nat)  : Nat → Nat → Int32 → Int32 → Int32 → mM → Option (Int32 × mM)
  | 0, _, _, _, _, _ => none
  | n + 1, a0, i1, i2, i3, M =>
    if i1 ≤ i3 then (
      some (i2, M)) else (
      (fI M a0 7 4).bind fun x1 =>
      (oO M a0 7).bind fun _ =>
      (m_X7_byteAt a0 x1 M).bind fun x5 =>
      if x5 < 48 then (
        some (i2, M)) else (
        (fI M a0 7 4).bind fun x7 =>
        (oO M a0 7).bind fun _ =>
        (m_X7_byteAt a0 x7 M).bind fun x11 =>
        if 57 < x11 then (
          some (i2, M)) else (
          (fI M a0 7 4).bind fun x13 =>
          (oO M a0 7).bind fun _ =>
          (m_X7_byteAt a0 x13 M).bind fun x17 =>
          (fI M a0 7 4).bind fun x19 =>
          (sV M a0 7 4 (.int (x19 + 1))).bind fun M21 =>
          (m_X7_numberOf_L4 N  n) a0 i1 (((i2 * 10) + x17) - 48) (i3 + 1) M21)))
set_option maxHeartbeats 4000000 in
set_option maxRecDepth 100000 in
theorem t_X7_numberOf_L4 {X : mX} {L0 : Launch} {res : Int32 × mM} {N : Nat} (C : CX X RX7 "numberOf" prog_9_method_16_code 4 (some .int)) (E : EX X L0 1 21 0 0 (some (.int res.1)) res.2)   : ∀ (n : Nat) (a0 : Nat) (i1 : Int32) (i2 : Int32) (i3 : Int32) (M : mM), m_X7_numberOf_L4 N  n a0 i1 i2 i3 M = some res → EV X 4 4 [(0, .ref a0), (1, .int i1), (2, .int i2), (3, .int i3)] [] 0 0 M := by
  intro n
  induction n with
  | zero => intro a0 i1 i2 i3 M hf; cases (show (none : Option (Int32 × mM)) = some res from hf)
  | succ n ih =>
    intro a0 i1 i2 i3 M hf
    rw [m_X7_numberOf_L4] at hf
    refine ev_iload_n C dX7_numberOf_4 rfl (q := 3) rfl ?_
    refine ev_iload_n C dX7_numberOf_5 rfl (q := 1) rfl ?_
    refine ev_icmp_ge (tgt := 68) C dX7_numberOf_6 (by decide) (fun hc => ?_) (fun hc => ?_)
    · have hf := oit hf hc
      refine ev_iload_n C dX7_numberOf_68 rfl (q := 2) rfl ?_
      obtain rfl := Option.some.inj hf
      exact ev_iret C E (Nat.le_refl 0) (Nat.le_refl 0) dX7_numberOf_69
    · have hf := oie hf hc
      refine ev_aload_n C dX7_numberOf_9 rfl (q := 0) rfl ?_
      refine ev_aload_n C dX7_numberOf_10 rfl (q := 0) rfl ?_
      obtain ⟨x1, e2, hf⟩ := obnd hf
      refine ev_get (k := 4) C ok_7 dX7_numberOf_11 (by decide) kw_271 (fI_V e2) ?_
      obtain ⟨_, e3, hf⟩ := obnd hf
      obtain ⟨fs4, e3⟩ := oO_eq e3
      obtain ⟨x5, e6, hf⟩ := obnd hf
      refine ev_callV0 (As := [.int x1]) (st := []) C rfl e3 (t_X7_byteAt e6) rfl hd_X7_byteAt rfl kw_707 kw_709 kw_79 kw_8 kw_710 (mRoom.of E (Nat.le_of_ble_eq_true rfl) (Nat.le_of_ble_eq_true rfl) (Nat.le_refl 0) (Nat.le_refl 0)) (Nat.le_of_ble_eq_true rfl) dX7_numberOf_14 ?_
      refine ev_bipush (v := 48) C dX7_numberOf_17 (by decide) ?_
      refine ev_icmp_lt (tgt := 68) C dX7_numberOf_19 (by decide) (fun hc => ?_) (fun hc => ?_)
      · have hf := oit hf hc
        refine ev_iload_n C dX7_numberOf_68 rfl (q := 2) rfl ?_
        obtain rfl := Option.some.inj hf
        exact ev_iret C E (Nat.le_refl 0) (Nat.le_refl 0) dX7_numberOf_69
      · have hf := oie hf hc
        refine ev_aload_n C dX7_numberOf_22 rfl (q := 0) rfl ?_
        refine ev_aload_n C dX7_numberOf_23 rfl (q := 0) rfl ?_
        obtain ⟨x7, e8, hf⟩ := obnd hf
        refine ev_get (k := 4) C ok_7 dX7_numberOf_24 (by decide) kw_271 (fI_V e8) ?_
        obtain ⟨_, e9, hf⟩ := obnd hf
        obtain ⟨fs10, e9⟩ := oO_eq e9
        obtain ⟨x11, e12, hf⟩ := obnd hf
        refine ev_callV0 (As := [.int x7]) (st := []) C rfl e9 (t_X7_byteAt e12) rfl hd_X7_byteAt rfl kw_707 kw_709 kw_79 kw_8 kw_710 (mRoom.of E (Nat.le_of_ble_eq_true rfl) (Nat.le_of_ble_eq_true rfl) (Nat.le_refl 0) (Nat.le_refl 0)) (Nat.le_of_ble_eq_true rfl) dX7_numberOf_27 ?_
        refine ev_bipush (v := 57) C dX7_numberOf_30 (by decide) ?_
        refine ev_icmp_gt (tgt := 68) C dX7_numberOf_32 (by decide) (fun hc => ?_) (fun hc => ?_)
        · have hf := oit hf hc
          refine ev_iload_n C dX7_numberOf_68 rfl (q := 2) rfl ?_
          obtain rfl := Option.some.inj hf
          exact ev_iret C E (Nat.le_refl 0) (Nat.le_refl 0) dX7_numberOf_69
        · have hf := oie hf hc
          refine ev_iload_n C dX7_numberOf_35 rfl (q := 2) rfl ?_
          refine ev_bipush (v := 10) C dX7_numberOf_36 (by decide) ?_
          refine ev_imul C dX7_numberOf_38 ?_
          refine ev_aload_n C dX7_numberOf_39 rfl (q := 0) rfl ?_
          refine ev_aload_n C dX7_numberOf_40 rfl (q := 0) rfl ?_
          obtain ⟨x13, e14, hf⟩ := obnd hf
          refine ev_get (k := 4) C ok_7 dX7_numberOf_41 (by decide) kw_271 (fI_V e14) ?_
          obtain ⟨_, e15, hf⟩ := obnd hf
          obtain ⟨fs16, e15⟩ := oO_eq e15
          obtain ⟨x17, e18, hf⟩ := obnd hf
          refine ev_callV0 (As := [.int x13]) (st := [.int (i2 * 10)]) C rfl e15 (t_X7_byteAt e18) rfl hd_X7_byteAt rfl kw_707 kw_709 kw_79 kw_8 kw_710 (mRoom.of E (Nat.le_of_ble_eq_true rfl) (Nat.le_of_ble_eq_true rfl) (Nat.le_refl 0) (Nat.le_refl 0)) (Nat.le_of_ble_eq_true rfl) dX7_numberOf_44 ?_
          refine ev_iadd C dX7_numberOf_47 ?_
          refine ev_bipush (v := 48) C dX7_numberOf_48 (by decide) ?_
          refine ev_isub C dX7_numberOf_50 ?_
          refine ev_istore_n (l' := [(2, .int (((i2 * 10) + x17) - 48)), (0, .ref a0), (1, .int i1), (3, .int i3)]) C dX7_numberOf_51 rfl (by decide) rfl ?_
          refine ev_aload_n C dX7_numberOf_52 rfl (q := 1) rfl ?_
          refine ev_dup C dX7_numberOf_53 rfl ?_
          obtain ⟨x19, e20, hf⟩ := obnd hf
          refine ev_get (k := 4) C ok_7 dX7_numberOf_54 (by decide) kw_271 (fI_V e20) ?_
          refine ev_iconst (v := 1) C dX7_numberOf_57 (by decide) ?_
          refine ev_iadd C dX7_numberOf_58 ?_
          obtain ⟨M21, e22, hf⟩ := obnd hf
          refine ev_put (k := 4) C ok_7 dX7_numberOf_59 (by decide) kw_271 rfl ⟨rfl, rfl⟩ e22 ?_
          refine ev_iinc (v := i3 + 1) (l' := [(3, .int (i3 + 1)), (2, .int (((i2 * 10) + x17) - 48)), (0, .ref a0), (1, .int i1)]) C dX7_numberOf_62 (q := 3) rfl rfl (by decide) rfl ?_
          refine ev_goto (tgt := 4) C dX7_numberOf_65 (by decide) ?_
          refine ev_sub [2, 3, 1, 0] rfl ?_
          exact ih a0 i1 (((i2 * 10) + x17) - 48) (i3 + 1) M21 hf
def m_X7_numberOf (N : Nat) (a0 : Nat) (i1 : Int32) (M : mM) : Option (Int32 × mM) :=
  m_X7_numberOf_L4 N  N a0 i1 0 0 M
set_option maxHeartbeats 4000000 in
set_option maxRecDepth 100000 in
theorem t_X7_numberOf {L0 : Launch} {M : mM} {N : Nat} {a0 : Nat} {i1 : Int32} {res : Int32 × mM} (hf : m_X7_numberOf N a0 i1 M = some res) : CT L0 yX7_numberOf prog_9_method_16_code 4 (some .int) 1 21 0 0 [.ref a0, .int i1] M (some (.int res.1)) res.2 := by
  refine CT.of (by decide +kernel) (Nat.le_of_ble_eq_true rfl) fun X C E => ?_
  have C : CX X RX7 "numberOf" prog_9_method_16_code 4 (some .int) := C
  show EV X 4 0 [(0, .ref a0), (1, .int i1)] [] 0 0 M
  unfold m_X7_numberOf at hf
  refine ev_iconst (v := 0) C dX7_numberOf_0 (by decide) ?_
  refine ev_istore_n (l' := [(2, .int 0), (0, .ref a0), (1, .int i1)]) C dX7_numberOf_1 rfl (by decide) rfl ?_
  refine ev_iconst (v := 0) C dX7_numberOf_2 (by decide) ?_
  refine ev_istore_n (l' := [(3, .int 0), (2, .int 0), (0, .ref a0), (1, .int i1)]) C dX7_numberOf_3 rfl (by decide) rfl ?_
  refine ev_sub [2, 3, 1, 0] rfl ?_
  exact t_X7_numberOf_L4 C E   N a0 i1 0 0 M hf
/-! FareLimits$Tape faultOfPrice()I -/
theorem dX7_faultOfPrice_0 : decode prog_9_method_14_code 0 = .ok (.aload_n 0, 1) := by decide +kernel
theorem dX7_faultOfPrice_1 : decode prog_9_method_14_code 1 = .ok (.getfield 40, 3) := by decide +kernel
theorem dX7_faultOfPrice_4 : decode prog_9_method_14_code 4 = .ok (.istore_n 1, 1) := by decide +kernel
theorem dX7_faultOfPrice_5 : decode prog_9_method_14_code 5 = .ok (.aload_n 0, 1) := by decide +kernel
theorem dX7_faultOfPrice_6 : decode prog_9_method_14_code 6 = .ok (.aload_n 0, 1) := by decide +kernel
theorem dX7_faultOfPrice_7 : decode prog_9_method_14_code 7 = .ok (.iconst 4, 1) := by decide +kernel
theorem dX7_faultOfPrice_8 : decode prog_9_method_14_code 8 = .ok (.invokevirtual 94, 3) := by decide +kernel
theorem dX7_faultOfPrice_11 : decode prog_9_method_14_code 11 = .ok (.putfield 56, 3) := by decide +kernel
theorem dX7_faultOfPrice_14 : decode prog_9_method_14_code 14 = .ok (.aload_n 0, 1) := by decide +kernel
theorem dX7_faultOfPrice_15 : decode prog_9_method_14_code 15 = .ok (.getfield 56, 3) := by decide +kernel
theorem dX7_faultOfPrice_18 : decode prog_9_method_14_code 18 = .ok (.ifCond .ne 7, 3) := by decide +kernel
theorem dX7_faultOfPrice_21 : decode prog_9_method_14_code 21 = .ok (.iload_n 1, 1) := by decide +kernel
theorem dX7_faultOfPrice_22 : decode prog_9_method_14_code 22 = .ok (.goto 4, 3) := by decide +kernel
theorem dX7_faultOfPrice_25 : decode prog_9_method_14_code 25 = .ok (.iconst (-1), 1) := by decide +kernel
theorem dX7_faultOfPrice_26 : decode prog_9_method_14_code 26 = .ok (.ireturn, 1) := by decide +kernel
def m_X7_faultOfPrice (N : Nat) (a0 : Nat) (M : mM) : Option (Int32 × mM) :=
  (fI M a0 7 4).bind fun x1 =>
  (oO M a0 7).bind fun _ =>
  (m_X7_numberOf N a0 4 M).bind fun x5 =>
  (sV x5.2 a0 7 7 (.int x5.1)).bind fun M7 =>
  (fI M7 a0 7 7).bind fun x9 =>
  if x9 = 0 then (
    some (x1, M7)) else (
    some ((-1), M7))
set_option maxHeartbeats 4000000 in
set_option maxRecDepth 100000 in
theorem t_X7_faultOfPrice {L0 : Launch} {M : mM} {N : Nat} {a0 : Nat} {res : Int32 × mM} (hf : m_X7_faultOfPrice N a0 M = some res) : CT L0 yX7_faultOfPrice prog_9_method_14_code 2 (some .int) 2 44 0 0 [.ref a0] M (some (.int res.1)) res.2 := by
  refine CT.of (by decide +kernel) (Nat.le_of_ble_eq_true rfl) fun X C E => ?_
  have C : CX X RX7 "faultOfPrice" prog_9_method_14_code 2 (some .int) := C
  show EV X 2 0 [(0, .ref a0)] [] 0 0 M
  unfold m_X7_faultOfPrice at hf
  refine ev_aload_n C dX7_faultOfPrice_0 rfl (q := 0) rfl ?_
  obtain ⟨x1, e2, hf⟩ := obnd hf
  refine ev_get (k := 4) C ok_7 dX7_faultOfPrice_1 (by decide) kw_271 (fI_V e2) ?_
  refine ev_istore_n (l' := [(1, .int x1), (0, .ref a0)]) C dX7_faultOfPrice_4 rfl (by decide) rfl ?_
  refine ev_aload_n C dX7_faultOfPrice_5 rfl (q := 1) rfl ?_
  refine ev_aload_n C dX7_faultOfPrice_6 rfl (q := 1) rfl ?_
  refine ev_iconst (v := 4) C dX7_faultOfPrice_7 (by decide) ?_
  obtain ⟨_, e3, hf⟩ := obnd hf
  obtain ⟨fs4, e3⟩ := oO_eq e3
  obtain ⟨x5, e6, hf⟩ := obnd hf
  refine ev_callV0 (As := [.int 4]) (st := [.ref a0]) C rfl e3 (t_X7_numberOf e6) rfl hd_X7_numberOf rfl kw_734 kw_736 kw_79 kw_13 kw_737 (mRoom.of E (Nat.le_of_ble_eq_true rfl) (Nat.le_of_ble_eq_true rfl) (Nat.le_refl 0) (Nat.le_refl 0)) (Nat.le_of_ble_eq_true rfl) dX7_faultOfPrice_8 ?_
  obtain ⟨M7, e8, hf⟩ := obnd hf
  refine ev_put (k := 7) C ok_7 dX7_faultOfPrice_11 (by decide) kw_274 rfl ⟨rfl, rfl⟩ e8 ?_
  refine ev_aload_n C dX7_faultOfPrice_14 rfl (q := 1) rfl ?_
  obtain ⟨x9, e10, hf⟩ := obnd hf
  refine ev_get (k := 7) C ok_7 dX7_faultOfPrice_15 (by decide) kw_274 (fI_V e10) ?_
  refine ev_if_ne (tgt := 25) C dX7_faultOfPrice_18 (by decide) (fun hc => ?_) (fun hc => ?_)
  · have hf := oie hf hc
    refine ev_iconst (v := (-1)) C dX7_faultOfPrice_25 (by decide) ?_
    obtain rfl := Option.some.inj hf
    exact ev_iret C E (Nat.le_refl 0) (Nat.le_refl 0) dX7_faultOfPrice_26
  · have hf := oit hf hc
    refine ev_iload_n C dX7_faultOfPrice_21 rfl (q := 0) rfl ?_
    refine ev_goto (tgt := 26) C dX7_faultOfPrice_22 (by decide) ?_
    obtain rfl := Option.some.inj hf
    exact ev_iret C E (Nat.le_refl 0) (Nat.le_refl 0) dX7_faultOfPrice_26
/-! FareLimits$Tape faultOfWanted()I -/
theorem dX7_faultOfWanted_0 : decode prog_9_method_15_code 0 = .ok (.aload_n 0, 1) := by decide +kernel
theorem dX7_faultOfWanted_1 : decode prog_9_method_15_code 1 = .ok (.iconst 0, 1) := by decide +kernel
theorem dX7_faultOfWanted_2 : decode prog_9_method_15_code 2 = .ok (.putfield 59, 3) := by decide +kernel
theorem dX7_faultOfWanted_5 : decode prog_9_method_15_code 5 = .ok (.aload_n 0, 1) := by decide +kernel
theorem dX7_faultOfWanted_6 : decode prog_9_method_15_code 6 = .ok (.aload_n 0, 1) := by decide +kernel
theorem dX7_faultOfWanted_7 : decode prog_9_method_15_code 7 = .ok (.getfield 40, 3) := by decide +kernel
theorem dX7_faultOfWanted_10 : decode prog_9_method_15_code 10 = .ok (.invokevirtual 25, 3) := by decide +kernel
theorem dX7_faultOfWanted_13 : decode prog_9_method_15_code 13 = .ok (.bipush 42, 2) := by decide +kernel
theorem dX7_faultOfWanted_15 : decode prog_9_method_15_code 15 = .ok (.if_icmp .eq 5, 3) := by decide +kernel
theorem dX7_faultOfWanted_18 : decode prog_9_method_15_code 18 = .ok (.iconst (-1), 1) := by decide +kernel
theorem dX7_faultOfWanted_19 : decode prog_9_method_15_code 19 = .ok (.ireturn, 1) := by decide +kernel
theorem dX7_faultOfWanted_20 : decode prog_9_method_15_code 20 = .ok (.aload_n 0, 1) := by decide +kernel
theorem dX7_faultOfWanted_21 : decode prog_9_method_15_code 21 = .ok (.dup, 1) := by decide +kernel
theorem dX7_faultOfWanted_22 : decode prog_9_method_15_code 22 = .ok (.getfield 40, 3) := by decide +kernel
theorem dX7_faultOfWanted_25 : decode prog_9_method_15_code 25 = .ok (.iconst 1, 1) := by decide +kernel
theorem dX7_faultOfWanted_26 : decode prog_9_method_15_code 26 = .ok (.iadd, 1) := by decide +kernel
theorem dX7_faultOfWanted_27 : decode prog_9_method_15_code 27 = .ok (.putfield 40, 3) := by decide +kernel
theorem dX7_faultOfWanted_30 : decode prog_9_method_15_code 30 = .ok (.aload_n 0, 1) := by decide +kernel
theorem dX7_faultOfWanted_31 : decode prog_9_method_15_code 31 = .ok (.getfield 40, 3) := by decide +kernel
theorem dX7_faultOfWanted_34 : decode prog_9_method_15_code 34 = .ok (.istore_n 1, 1) := by decide +kernel
theorem dX7_faultOfWanted_35 : decode prog_9_method_15_code 35 = .ok (.aload_n 0, 1) := by decide +kernel
theorem dX7_faultOfWanted_36 : decode prog_9_method_15_code 36 = .ok (.aload_n 0, 1) := by decide +kernel
theorem dX7_faultOfWanted_37 : decode prog_9_method_15_code 37 = .ok (.iconst 2, 1) := by decide +kernel
theorem dX7_faultOfWanted_38 : decode prog_9_method_15_code 38 = .ok (.invokevirtual 94, 3) := by decide +kernel
theorem dX7_faultOfWanted_41 : decode prog_9_method_15_code 41 = .ok (.putfield 59, 3) := by decide +kernel
theorem dX7_faultOfWanted_44 : decode prog_9_method_15_code 44 = .ok (.aload_n 0, 1) := by decide +kernel
theorem dX7_faultOfWanted_45 : decode prog_9_method_15_code 45 = .ok (.getfield 40, 3) := by decide +kernel
theorem dX7_faultOfWanted_48 : decode prog_9_method_15_code 48 = .ok (.iload_n 1, 1) := by decide +kernel
theorem dX7_faultOfWanted_49 : decode prog_9_method_15_code 49 = .ok (.if_icmp .ne 7, 3) := by decide +kernel
theorem dX7_faultOfWanted_52 : decode prog_9_method_15_code 52 = .ok (.iload_n 1, 1) := by decide +kernel
theorem dX7_faultOfWanted_53 : decode prog_9_method_15_code 53 = .ok (.goto 4, 3) := by decide +kernel
theorem dX7_faultOfWanted_56 : decode prog_9_method_15_code 56 = .ok (.iconst (-1), 1) := by decide +kernel
theorem dX7_faultOfWanted_57 : decode prog_9_method_15_code 57 = .ok (.ireturn, 1) := by decide +kernel
def m_X7_faultOfWanted (N : Nat) (a0 : Nat) (M : mM) : Option (Int32 × mM) :=
  (sV M a0 7 8 (.int 0)).bind fun M1 =>
  (fI M1 a0 7 4).bind fun x3 =>
  (oO M1 a0 7).bind fun _ =>
  (m_X7_byteAt a0 x3 M1).bind fun x7 =>
  if x7 = 42 then (
    (fI M1 a0 7 4).bind fun x9 =>
    (sV M1 a0 7 4 (.int (x9 + 1))).bind fun M11 =>
    (fI M11 a0 7 4).bind fun x13 =>
    (oO M11 a0 7).bind fun _ =>
    (m_X7_numberOf N a0 2 M11).bind fun x17 =>
    (sV x17.2 a0 7 8 (.int x17.1)).bind fun M19 =>
    (fI M19 a0 7 4).bind fun x21 =>
    if x21 = x13 then (
      some (x13, M19)) else (
      some ((-1), M19))) else (
    some ((-1), M1))
set_option maxHeartbeats 4000000 in
set_option maxRecDepth 100000 in
theorem t_X7_faultOfWanted {L0 : Launch} {M : mM} {N : Nat} {a0 : Nat} {res : Int32 × mM} (hf : m_X7_faultOfWanted N a0 M = some res) : CT L0 yX7_faultOfWanted prog_9_method_15_code 2 (some .int) 2 44 0 0 [.ref a0] M (some (.int res.1)) res.2 := by
  refine CT.of (by decide +kernel) (Nat.le_of_ble_eq_true rfl) fun X C E => ?_
  have C : CX X RX7 "faultOfWanted" prog_9_method_15_code 2 (some .int) := C
  show EV X 2 0 [(0, .ref a0)] [] 0 0 M
  unfold m_X7_faultOfWanted at hf
  refine ev_aload_n C dX7_faultOfWanted_0 rfl (q := 0) rfl ?_
  refine ev_iconst (v := 0) C dX7_faultOfWanted_1 (by decide) ?_
  obtain ⟨M1, e2, hf⟩ := obnd hf
  refine ev_put (k := 8) C ok_7 dX7_faultOfWanted_2 (by decide) kw_275 rfl ⟨rfl, rfl⟩ e2 ?_
  refine ev_aload_n C dX7_faultOfWanted_5 rfl (q := 0) rfl ?_
  refine ev_aload_n C dX7_faultOfWanted_6 rfl (q := 0) rfl ?_
  obtain ⟨x3, e4, hf⟩ := obnd hf
  refine ev_get (k := 4) C ok_7 dX7_faultOfWanted_7 (by decide) kw_271 (fI_V e4) ?_
  obtain ⟨_, e5, hf⟩ := obnd hf
  obtain ⟨fs6, e5⟩ := oO_eq e5
  obtain ⟨x7, e8, hf⟩ := obnd hf
  refine ev_callV0 (As := [.int x3]) (st := []) C rfl e5 (t_X7_byteAt e8) rfl hd_X7_byteAt rfl kw_707 kw_709 kw_79 kw_8 kw_710 (mRoom.of E (Nat.le_of_ble_eq_true rfl) (Nat.le_of_ble_eq_true rfl) (Nat.le_refl 0) (Nat.le_refl 0)) (Nat.le_of_ble_eq_true rfl) dX7_faultOfWanted_10 ?_
  refine ev_bipush (v := 42) C dX7_faultOfWanted_13 (by decide) ?_
  refine ev_icmp_eq (tgt := 20) C dX7_faultOfWanted_15 (by decide) (fun hc => ?_) (fun hc => ?_)
  · have hf := oit hf hc
    refine ev_aload_n C dX7_faultOfWanted_20 rfl (q := 0) rfl ?_
    refine ev_dup C dX7_faultOfWanted_21 rfl ?_
    obtain ⟨x9, e10, hf⟩ := obnd hf
    refine ev_get (k := 4) C ok_7 dX7_faultOfWanted_22 (by decide) kw_271 (fI_V e10) ?_
    refine ev_iconst (v := 1) C dX7_faultOfWanted_25 (by decide) ?_
    refine ev_iadd C dX7_faultOfWanted_26 ?_
    obtain ⟨M11, e12, hf⟩ := obnd hf
    refine ev_put (k := 4) C ok_7 dX7_faultOfWanted_27 (by decide) kw_271 rfl ⟨rfl, rfl⟩ e12 ?_
    refine ev_aload_n C dX7_faultOfWanted_30 rfl (q := 0) rfl ?_
    obtain ⟨x13, e14, hf⟩ := obnd hf
    refine ev_get (k := 4) C ok_7 dX7_faultOfWanted_31 (by decide) kw_271 (fI_V e14) ?_
    refine ev_istore_n (l' := [(1, .int x13), (0, .ref a0)]) C dX7_faultOfWanted_34 rfl (by decide) rfl ?_
    refine ev_aload_n C dX7_faultOfWanted_35 rfl (q := 1) rfl ?_
    refine ev_aload_n C dX7_faultOfWanted_36 rfl (q := 1) rfl ?_
    refine ev_iconst (v := 2) C dX7_faultOfWanted_37 (by decide) ?_
    obtain ⟨_, e15, hf⟩ := obnd hf
    obtain ⟨fs16, e15⟩ := oO_eq e15
    obtain ⟨x17, e18, hf⟩ := obnd hf
    refine ev_callV0 (As := [.int 2]) (st := [.ref a0]) C rfl e15 (t_X7_numberOf e18) rfl hd_X7_numberOf rfl kw_734 kw_736 kw_79 kw_13 kw_737 (mRoom.of E (Nat.le_of_ble_eq_true rfl) (Nat.le_of_ble_eq_true rfl) (Nat.le_refl 0) (Nat.le_refl 0)) (Nat.le_of_ble_eq_true rfl) dX7_faultOfWanted_38 ?_
    obtain ⟨M19, e20, hf⟩ := obnd hf
    refine ev_put (k := 8) C ok_7 dX7_faultOfWanted_41 (by decide) kw_275 rfl ⟨rfl, rfl⟩ e20 ?_
    refine ev_aload_n C dX7_faultOfWanted_44 rfl (q := 1) rfl ?_
    obtain ⟨x21, e22, hf⟩ := obnd hf
    refine ev_get (k := 4) C ok_7 dX7_faultOfWanted_45 (by decide) kw_271 (fI_V e22) ?_
    refine ev_iload_n C dX7_faultOfWanted_48 rfl (q := 0) rfl ?_
    refine ev_icmp_ne (tgt := 56) C dX7_faultOfWanted_49 (by decide) (fun hc => ?_) (fun hc => ?_)
    · have hf := oie hf hc
      refine ev_iconst (v := (-1)) C dX7_faultOfWanted_56 (by decide) ?_
      obtain rfl := Option.some.inj hf
      exact ev_iret C E (Nat.le_refl 0) (Nat.le_refl 0) dX7_faultOfWanted_57
    · have hf := oit hf hc
      refine ev_iload_n C dX7_faultOfWanted_52 rfl (q := 0) rfl ?_
      refine ev_goto (tgt := 57) C dX7_faultOfWanted_53 (by decide) ?_
      obtain rfl := Option.some.inj hf
      exact ev_iret C E (Nat.le_refl 0) (Nat.le_refl 0) dX7_faultOfWanted_57
  · have hf := oie hf hc
    refine ev_iconst (v := (-1)) C dX7_faultOfWanted_18 (by decide) ?_
    obtain rfl := Option.some.inj hf
    exact ev_iret C E (Nat.le_refl 0) (Nat.le_refl 0) dX7_faultOfWanted_19
/-! FareLimits$Tape faultOfPart(LFareLimits$Network;)I -/
theorem dX7_faultOfPart_0 : decode prog_9_method_9_code 0 = .ok (.aload_n 0, 1) := by decide +kernel
theorem dX7_faultOfPart_1 : decode prog_9_method_9_code 1 = .ok (.aload_n 1, 1) := by decide +kernel
theorem dX7_faultOfPart_2 : decode prog_9_method_9_code 2 = .ok (.invokevirtual 65, 3) := by decide +kernel
theorem dX7_faultOfPart_5 : decode prog_9_method_9_code 5 = .ok (.istore_n 2, 1) := by decide +kernel
theorem dX7_faultOfPart_6 : decode prog_9_method_9_code 6 = .ok (.iload_n 2, 1) := by decide +kernel
theorem dX7_faultOfPart_7 : decode prog_9_method_9_code 7 = .ok (.iconst (-1), 1) := by decide +kernel
theorem dX7_faultOfPart_8 : decode prog_9_method_9_code 8 = .ok (.if_icmp .ne 12, 3) := by decide +kernel
theorem dX7_faultOfPart_11 : decode prog_9_method_9_code 11 = .ok (.aload_n 0, 1) := by decide +kernel
theorem dX7_faultOfPart_12 : decode prog_9_method_9_code 12 = .ok (.bipush 61, 2) := by decide +kernel
theorem dX7_faultOfPart_14 : decode prog_9_method_9_code 14 = .ok (.invokevirtual 68, 3) := by decide +kernel
theorem dX7_faultOfPart_17 : decode prog_9_method_9_code 17 = .ok (.goto 4, 3) := by decide +kernel
theorem dX7_faultOfPart_20 : decode prog_9_method_9_code 20 = .ok (.iload_n 2, 1) := by decide +kernel
theorem dX7_faultOfPart_21 : decode prog_9_method_9_code 21 = .ok (.istore_n 2, 1) := by decide +kernel
theorem dX7_faultOfPart_22 : decode prog_9_method_9_code 22 = .ok (.iload_n 2, 1) := by decide +kernel
theorem dX7_faultOfPart_23 : decode prog_9_method_9_code 23 = .ok (.iconst (-1), 1) := by decide +kernel
theorem dX7_faultOfPart_24 : decode prog_9_method_9_code 24 = .ok (.if_icmp .ne 10, 3) := by decide +kernel
theorem dX7_faultOfPart_27 : decode prog_9_method_9_code 27 = .ok (.aload_n 0, 1) := by decide +kernel
theorem dX7_faultOfPart_28 : decode prog_9_method_9_code 28 = .ok (.invokevirtual 71, 3) := by decide +kernel
theorem dX7_faultOfPart_31 : decode prog_9_method_9_code 31 = .ok (.goto 4, 3) := by decide +kernel
theorem dX7_faultOfPart_34 : decode prog_9_method_9_code 34 = .ok (.iload_n 2, 1) := by decide +kernel
theorem dX7_faultOfPart_35 : decode prog_9_method_9_code 35 = .ok (.istore_n 2, 1) := by decide +kernel
theorem dX7_faultOfPart_36 : decode prog_9_method_9_code 36 = .ok (.iload_n 2, 1) := by decide +kernel
theorem dX7_faultOfPart_37 : decode prog_9_method_9_code 37 = .ok (.iconst (-1), 1) := by decide +kernel
theorem dX7_faultOfPart_38 : decode prog_9_method_9_code 38 = .ok (.if_icmp .ne 12, 3) := by decide +kernel
theorem dX7_faultOfPart_41 : decode prog_9_method_9_code 41 = .ok (.aload_n 0, 1) := by decide +kernel
theorem dX7_faultOfPart_42 : decode prog_9_method_9_code 42 = .ok (.bipush 58, 2) := by decide +kernel
theorem dX7_faultOfPart_44 : decode prog_9_method_9_code 44 = .ok (.invokevirtual 68, 3) := by decide +kernel
theorem dX7_faultOfPart_47 : decode prog_9_method_9_code 47 = .ok (.goto 4, 3) := by decide +kernel
theorem dX7_faultOfPart_50 : decode prog_9_method_9_code 50 = .ok (.iload_n 2, 1) := by decide +kernel
theorem dX7_faultOfPart_51 : decode prog_9_method_9_code 51 = .ok (.istore_n 2, 1) := by decide +kernel
theorem dX7_faultOfPart_52 : decode prog_9_method_9_code 52 = .ok (.iload_n 2, 1) := by decide +kernel
theorem dX7_faultOfPart_53 : decode prog_9_method_9_code 53 = .ok (.iconst (-1), 1) := by decide +kernel
theorem dX7_faultOfPart_54 : decode prog_9_method_9_code 54 = .ok (.if_icmp .ne 10, 3) := by decide +kernel
theorem dX7_faultOfPart_57 : decode prog_9_method_9_code 57 = .ok (.aload_n 0, 1) := by decide +kernel
theorem dX7_faultOfPart_58 : decode prog_9_method_9_code 58 = .ok (.invokevirtual 75, 3) := by decide +kernel
theorem dX7_faultOfPart_61 : decode prog_9_method_9_code 61 = .ok (.goto 4, 3) := by decide +kernel
theorem dX7_faultOfPart_64 : decode prog_9_method_9_code 64 = .ok (.iload_n 2, 1) := by decide +kernel
theorem dX7_faultOfPart_65 : decode prog_9_method_9_code 65 = .ok (.istore_n 2, 1) := by decide +kernel
theorem dX7_faultOfPart_66 : decode prog_9_method_9_code 66 = .ok (.iload_n 2, 1) := by decide +kernel
theorem dX7_faultOfPart_67 : decode prog_9_method_9_code 67 = .ok (.iconst (-1), 1) := by decide +kernel
theorem dX7_faultOfPart_68 : decode prog_9_method_9_code 68 = .ok (.if_icmp .ne 10, 3) := by decide +kernel
theorem dX7_faultOfPart_71 : decode prog_9_method_9_code 71 = .ok (.aload_n 0, 1) := by decide +kernel
theorem dX7_faultOfPart_72 : decode prog_9_method_9_code 72 = .ok (.invokevirtual 78, 3) := by decide +kernel
theorem dX7_faultOfPart_75 : decode prog_9_method_9_code 75 = .ok (.goto 4, 3) := by decide +kernel
theorem dX7_faultOfPart_78 : decode prog_9_method_9_code 78 = .ok (.iload_n 2, 1) := by decide +kernel
theorem dX7_faultOfPart_79 : decode prog_9_method_9_code 79 = .ok (.ireturn, 1) := by decide +kernel
def m_X7_faultOfPart_J65 (N : Nat)  (a0 : Nat) (si0 : Int32) (M : mM) : Option (Int32 × mM) :=
  if si0 = (-1) then (
    (oO M a0 7).bind fun _ =>
    (m_X7_faultOfWanted N a0 M).bind fun x3 =>
    some (x3.1, x3.2)) else (
    some (si0, M))
set_option maxHeartbeats 4000000 in
set_option maxRecDepth 100000 in
theorem t_X7_faultOfPart_J65 {X : mX} {L0 : Launch} {res : Int32 × mM} {N : Nat} (C : CX X RX7 "faultOfPart" prog_9_method_9_code 3 (some .int)) (E : EX X L0 3 65 0 0 (some (.int res.1)) res.2)   (a0 : Nat) (si0 : Int32) (M : mM) (hf : m_X7_faultOfPart_J65 N  a0 si0 M = some res) : EV X 3 65 [(0, .ref a0)] [.int si0] 0 0 M := by
  unfold m_X7_faultOfPart_J65 at hf
  refine ev_istore_n (l' := [(2, .int si0), (0, .ref a0)]) C dX7_faultOfPart_65 rfl (by decide) rfl ?_
  refine ev_iload_n C dX7_faultOfPart_66 rfl (q := 0) rfl ?_
  refine ev_iconst (v := (-1)) C dX7_faultOfPart_67 (by decide) ?_
  refine ev_icmp_ne (tgt := 78) C dX7_faultOfPart_68 (by decide) (fun hc => ?_) (fun hc => ?_)
  · have hf := oie hf hc
    refine ev_iload_n C dX7_faultOfPart_78 rfl (q := 0) rfl ?_
    obtain rfl := Option.some.inj hf
    exact ev_iret C E (Nat.le_refl 0) (Nat.le_refl 0) dX7_faultOfPart_79
  · have hf := oit hf hc
    refine ev_aload_n C dX7_faultOfPart_71 rfl (q := 1) rfl ?_
    obtain ⟨_, e1, hf⟩ := obnd hf
    obtain ⟨fs2, e1⟩ := oO_eq e1
    obtain ⟨x3, e4, hf⟩ := obnd hf
    refine ev_callV0 (As := []) (st := []) C rfl e1 (t_X7_faultOfWanted e4) rfl hd_X7_faultOfWanted rfl kw_738 kw_740 kw_79 kw_14 kw_741 (mRoom.of E (Nat.le_of_ble_eq_true rfl) (Nat.le_of_ble_eq_true rfl) (Nat.le_refl 0) (Nat.le_refl 0)) (Nat.le_of_ble_eq_true rfl) dX7_faultOfPart_72 ?_
    refine ev_goto (tgt := 79) C dX7_faultOfPart_75 (by decide) ?_
    obtain rfl := Option.some.inj hf
    exact ev_iret C E (Nat.le_refl 0) (Nat.le_refl 0) dX7_faultOfPart_79
def m_X7_faultOfPart_J51 (N : Nat)  (a0 : Nat) (si0 : Int32) (M : mM) : Option (Int32 × mM) :=
  if si0 = (-1) then (
    (oO M a0 7).bind fun _ =>
    (m_X7_faultOfPrice N a0 M).bind fun x3 =>
    m_X7_faultOfPart_J65 N  a0 x3.1 x3.2) else (
    m_X7_faultOfPart_J65 N  a0 si0 M)
set_option maxHeartbeats 4000000 in
set_option maxRecDepth 100000 in
theorem t_X7_faultOfPart_J51 {X : mX} {L0 : Launch} {res : Int32 × mM} {N : Nat} (C : CX X RX7 "faultOfPart" prog_9_method_9_code 3 (some .int)) (E : EX X L0 3 65 0 0 (some (.int res.1)) res.2)   (a0 : Nat) (si0 : Int32) (M : mM) (hf : m_X7_faultOfPart_J51 N  a0 si0 M = some res) : EV X 3 51 [(0, .ref a0)] [.int si0] 0 0 M := by
  unfold m_X7_faultOfPart_J51 at hf
  refine ev_istore_n (l' := [(2, .int si0), (0, .ref a0)]) C dX7_faultOfPart_51 rfl (by decide) rfl ?_
  refine ev_iload_n C dX7_faultOfPart_52 rfl (q := 0) rfl ?_
  refine ev_iconst (v := (-1)) C dX7_faultOfPart_53 (by decide) ?_
  refine ev_icmp_ne (tgt := 64) C dX7_faultOfPart_54 (by decide) (fun hc => ?_) (fun hc => ?_)
  · have hf := oie hf hc
    refine ev_iload_n C dX7_faultOfPart_64 rfl (q := 0) rfl ?_
    refine ev_sub [1] rfl ?_
    exact t_X7_faultOfPart_J65 C E   a0 si0 M hf
  · have hf := oit hf hc
    refine ev_aload_n C dX7_faultOfPart_57 rfl (q := 1) rfl ?_
    obtain ⟨_, e1, hf⟩ := obnd hf
    obtain ⟨fs2, e1⟩ := oO_eq e1
    obtain ⟨x3, e4, hf⟩ := obnd hf
    refine ev_callV0 (As := []) (st := []) C rfl e1 (t_X7_faultOfPrice e4) rfl hd_X7_faultOfPrice rfl kw_730 kw_732 kw_79 kw_12 kw_733 (mRoom.of E (Nat.le_of_ble_eq_true rfl) (Nat.le_of_ble_eq_true rfl) (Nat.le_refl 0) (Nat.le_refl 0)) (Nat.le_of_ble_eq_true rfl) dX7_faultOfPart_58 ?_
    refine ev_goto (tgt := 65) C dX7_faultOfPart_61 (by decide) ?_
    refine ev_sub [1] rfl ?_
    exact t_X7_faultOfPart_J65 C E   a0 x3.1 x3.2 hf
def m_X7_faultOfPart_J35 (N : Nat)  (a0 : Nat) (si0 : Int32) (M : mM) : Option (Int32 × mM) :=
  if si0 = (-1) then (
    (oO M a0 7).bind fun _ =>
    (m_X7_faultOfSign a0 58 M).bind fun x3 =>
    m_X7_faultOfPart_J51 N  a0 x3.1 x3.2) else (
    m_X7_faultOfPart_J51 N  a0 si0 M)
set_option maxHeartbeats 4000000 in
set_option maxRecDepth 100000 in
theorem t_X7_faultOfPart_J35 {X : mX} {L0 : Launch} {res : Int32 × mM} {N : Nat} (C : CX X RX7 "faultOfPart" prog_9_method_9_code 3 (some .int)) (E : EX X L0 3 65 0 0 (some (.int res.1)) res.2)   (a0 : Nat) (si0 : Int32) (M : mM) (hf : m_X7_faultOfPart_J35 N  a0 si0 M = some res) : EV X 3 35 [(0, .ref a0)] [.int si0] 0 0 M := by
  unfold m_X7_faultOfPart_J35 at hf
  refine ev_istore_n (l' := [(2, .int si0), (0, .ref a0)]) C dX7_faultOfPart_35 rfl (by decide) rfl ?_
  refine ev_iload_n C dX7_faultOfPart_36 rfl (q := 0) rfl ?_
  refine ev_iconst (v := (-1)) C dX7_faultOfPart_37 (by decide) ?_
  refine ev_icmp_ne (tgt := 50) C dX7_faultOfPart_38 (by decide) (fun hc => ?_) (fun hc => ?_)
  · have hf := oie hf hc
    refine ev_iload_n C dX7_faultOfPart_50 rfl (q := 0) rfl ?_
    refine ev_sub [1] rfl ?_
    exact t_X7_faultOfPart_J51 C E   a0 si0 M hf
  · have hf := oit hf hc
    refine ev_aload_n C dX7_faultOfPart_41 rfl (q := 1) rfl ?_
    refine ev_bipush (v := 58) C dX7_faultOfPart_42 (by decide) ?_
    obtain ⟨_, e1, hf⟩ := obnd hf
    obtain ⟨fs2, e1⟩ := oO_eq e1
    obtain ⟨x3, e4, hf⟩ := obnd hf
    refine ev_callV0 (As := [.int 58]) (st := []) C rfl e1 (t_X7_faultOfSign e4) rfl hd_X7_faultOfSign rfl kw_722 kw_724 kw_79 kw_10 kw_725 (mRoom.of E (Nat.le_of_ble_eq_true rfl) (Nat.le_of_ble_eq_true rfl) (Nat.le_refl 0) (Nat.le_refl 0)) (Nat.le_of_ble_eq_true rfl) dX7_faultOfPart_44 ?_
    refine ev_goto (tgt := 51) C dX7_faultOfPart_47 (by decide) ?_
    refine ev_sub [1] rfl ?_
    exact t_X7_faultOfPart_J51 C E   a0 x3.1 x3.2 hf
def m_X7_faultOfPart_J21 (N : Nat)  (a0 : Nat) (si0 : Int32) (M : mM) : Option (Int32 × mM) :=
  if si0 = (-1) then (
    (oO M a0 7).bind fun _ =>
    (m_X7_faultOfLegs N a0 M).bind fun x3 =>
    m_X7_faultOfPart_J35 N  a0 x3.1 x3.2) else (
    m_X7_faultOfPart_J35 N  a0 si0 M)
set_option maxHeartbeats 4000000 in
set_option maxRecDepth 100000 in
theorem t_X7_faultOfPart_J21 {X : mX} {L0 : Launch} {res : Int32 × mM} {N : Nat} (C : CX X RX7 "faultOfPart" prog_9_method_9_code 3 (some .int)) (E : EX X L0 3 65 0 0 (some (.int res.1)) res.2)   (a0 : Nat) (si0 : Int32) (M : mM) (hf : m_X7_faultOfPart_J21 N  a0 si0 M = some res) : EV X 3 21 [(0, .ref a0)] [.int si0] 0 0 M := by
  unfold m_X7_faultOfPart_J21 at hf
  refine ev_istore_n (l' := [(2, .int si0), (0, .ref a0)]) C dX7_faultOfPart_21 rfl (by decide) rfl ?_
  refine ev_iload_n C dX7_faultOfPart_22 rfl (q := 0) rfl ?_
  refine ev_iconst (v := (-1)) C dX7_faultOfPart_23 (by decide) ?_
  refine ev_icmp_ne (tgt := 34) C dX7_faultOfPart_24 (by decide) (fun hc => ?_) (fun hc => ?_)
  · have hf := oie hf hc
    refine ev_iload_n C dX7_faultOfPart_34 rfl (q := 0) rfl ?_
    refine ev_sub [1] rfl ?_
    exact t_X7_faultOfPart_J35 C E   a0 si0 M hf
  · have hf := oit hf hc
    refine ev_aload_n C dX7_faultOfPart_27 rfl (q := 1) rfl ?_
    obtain ⟨_, e1, hf⟩ := obnd hf
    obtain ⟨fs2, e1⟩ := oO_eq e1
    obtain ⟨x3, e4, hf⟩ := obnd hf
    refine ev_callV0 (As := []) (st := []) C rfl e1 (t_X7_faultOfLegs e4) rfl hd_X7_faultOfLegs rfl kw_726 kw_728 kw_79 kw_11 kw_729 (mRoom.of E (Nat.le_of_ble_eq_true rfl) (Nat.le_of_ble_eq_true rfl) (Nat.le_refl 0) (Nat.le_refl 0)) (Nat.le_of_ble_eq_true rfl) dX7_faultOfPart_28 ?_
    refine ev_goto (tgt := 35) C dX7_faultOfPart_31 (by decide) ?_
    refine ev_sub [1] rfl ?_
    exact t_X7_faultOfPart_J35 C E   a0 x3.1 x3.2 hf
def m_X7_faultOfPart (N : Nat) (a0 : Nat) (a1 : Nat) (M : mM) : Option (Int32 × mM) :=
  (oO M a0 7).bind fun _ =>
  (m_X7_faultOfName N a0 a1 M).bind fun x3 =>
  if x3.1 = (-1) then (
    (oO x3.2 a0 7).bind fun _ =>
    (m_X7_faultOfSign a0 61 x3.2).bind fun x7 =>
    m_X7_faultOfPart_J21 N  a0 x7.1 x7.2) else (
    m_X7_faultOfPart_J21 N  a0 x3.1 x3.2)
set_option maxHeartbeats 4000000 in
set_option maxRecDepth 100000 in
theorem t_X7_faultOfPart {L0 : Launch} {M : mM} {N : Nat} {a0 : Nat} {a1 : Nat} {res : Int32 × mM} (hf : m_X7_faultOfPart N a0 a1 M = some res) : CT L0 yX7_faultOfPart prog_9_method_9_code 3 (some .int) 3 65 0 0 [.ref a0, .ref a1] M (some (.int res.1)) res.2 := by
  refine CT.of (by decide +kernel) (Nat.le_of_ble_eq_true rfl) fun X C E => ?_
  have C : CX X RX7 "faultOfPart" prog_9_method_9_code 3 (some .int) := C
  show EV X 3 0 [(0, .ref a0), (1, .ref a1)] [] 0 0 M
  unfold m_X7_faultOfPart at hf
  refine ev_aload_n C dX7_faultOfPart_0 rfl (q := 0) rfl ?_
  refine ev_aload_n C dX7_faultOfPart_1 rfl (q := 1) rfl ?_
  obtain ⟨_, e1, hf⟩ := obnd hf
  obtain ⟨fs2, e1⟩ := oO_eq e1
  obtain ⟨x3, e4, hf⟩ := obnd hf
  refine ev_callV0 (As := [.ref a1]) (st := []) C rfl e1 (t_X7_faultOfName e4) rfl hd_X7_faultOfName rfl kw_703 kw_705 kw_79 kw_7 kw_706 (mRoom.of E (Nat.le_of_ble_eq_true rfl) (Nat.le_of_ble_eq_true rfl) (Nat.le_refl 0) (Nat.le_refl 0)) (Nat.le_of_ble_eq_true rfl) dX7_faultOfPart_2 ?_
  refine ev_istore_n (l' := [(2, .int x3.1), (0, .ref a0), (1, .ref a1)]) C dX7_faultOfPart_5 rfl (by decide) rfl ?_
  refine ev_iload_n C dX7_faultOfPart_6 rfl (q := 0) rfl ?_
  refine ev_iconst (v := (-1)) C dX7_faultOfPart_7 (by decide) ?_
  refine ev_icmp_ne (tgt := 20) C dX7_faultOfPart_8 (by decide) (fun hc => ?_) (fun hc => ?_)
  · have hf := oie hf hc
    refine ev_iload_n C dX7_faultOfPart_20 rfl (q := 0) rfl ?_
    refine ev_sub [1] rfl ?_
    exact t_X7_faultOfPart_J21 C E   a0 x3.1 x3.2 hf
  · have hf := oit hf hc
    refine ev_aload_n C dX7_faultOfPart_11 rfl (q := 1) rfl ?_
    refine ev_bipush (v := 61) C dX7_faultOfPart_12 (by decide) ?_
    obtain ⟨_, e5, hf⟩ := obnd hf
    obtain ⟨fs6, e5⟩ := oO_eq e5
    obtain ⟨x7, e8, hf⟩ := obnd hf
    refine ev_callV0 (As := [.int 61]) (st := []) C rfl e5 (t_X7_faultOfSign e8) rfl hd_X7_faultOfSign rfl kw_722 kw_724 kw_79 kw_10 kw_725 (mRoom.of E (Nat.le_of_ble_eq_true rfl) (Nat.le_of_ble_eq_true rfl) (Nat.le_refl 0) (Nat.le_refl 0)) (Nat.le_of_ble_eq_true rfl) dX7_faultOfPart_14 ?_
    refine ev_goto (tgt := 21) C dX7_faultOfPart_17 (by decide) ?_
    refine ev_sub [1] rfl ?_
    exact t_X7_faultOfPart_J21 C E   a0 x7.1 x7.2 hf
