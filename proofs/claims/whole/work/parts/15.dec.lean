/-! FareLimits lays(III)I -/
theorem dX11_lays_0 : decode prog_1_method_40_code 0 = .ok (.iload_n 1, 1) := by decide +kernel
theorem dX11_lays_1 : decode prog_1_method_40_code 1 = .ok (.iconst 3, 1) := by decide +kernel
theorem dX11_lays_2 : decode prog_1_method_40_code 2 = .ok (.invokestatic 91, 3) := by decide +kernel
theorem dX11_lays_5 : decode prog_1_method_40_code 5 = .ok (.ifCond .eq 19, 3) := by decide +kernel
theorem dX11_lays_8 : decode prog_1_method_40_code 8 = .ok (.iload_n 3, 1) := by decide +kernel
theorem dX11_lays_9 : decode prog_1_method_40_code 9 = .ok (.iconst (-1), 1) := by decide +kernel
theorem dX11_lays_10 : decode prog_1_method_40_code 10 = .ok (.if_icmp .eq 16, 3) := by decide +kernel
theorem dX11_lays_13 : decode prog_1_method_40_code 13 = .ok (.aload_n 0, 1) := by decide +kernel
theorem dX11_lays_14 : decode prog_1_method_40_code 14 = .ok (.getfield 12, 3) := by decide +kernel
theorem dX11_lays_17 : decode prog_1_method_40_code 17 = .ok (.iload_n 3, 1) := by decide +kernel
theorem dX11_lays_18 : decode prog_1_method_40_code 18 = .ok (.invokevirtual 112, 3) := by decide +kernel
theorem dX11_lays_21 : decode prog_1_method_40_code 21 = .ok (.ifCond .ne 5, 3) := by decide +kernel
theorem dX11_lays_24 : decode prog_1_method_40_code 24 = .ok (.iconst (-1), 1) := by decide +kernel
theorem dX11_lays_25 : decode prog_1_method_40_code 25 = .ok (.ireturn, 1) := by decide +kernel
theorem dX11_lays_26 : decode prog_1_method_40_code 26 = .ok (.aload_n 0, 1) := by decide +kernel
theorem dX11_lays_27 : decode prog_1_method_40_code 27 = .ok (.getfield 67, 3) := by decide +kernel
theorem dX11_lays_30 : decode prog_1_method_40_code 30 = .ok (.iload_n 1, 1) := by decide +kernel
theorem dX11_lays_31 : decode prog_1_method_40_code 31 = .ok (.aaload, 1) := by decide +kernel
theorem dX11_lays_32 : decode prog_1_method_40_code 32 = .ok (.astore 4, 2) := by decide +kernel
theorem dX11_lays_34 : decode prog_1_method_40_code 34 = .ok (.aload 4, 2) := by decide +kernel
theorem dX11_lays_36 : decode prog_1_method_40_code 36 = .ok (.getfield 332, 3) := by decide +kernel
theorem dX11_lays_39 : decode prog_1_method_40_code 39 = .ok (.bipush (-11), 2) := by decide +kernel
theorem dX11_lays_41 : decode prog_1_method_40_code 41 = .ok (.if_icmp .ne 6, 3) := by decide +kernel
theorem dX11_lays_44 : decode prog_1_method_40_code 44 = .ok (.bipush (-11), 2) := by decide +kernel
theorem dX11_lays_46 : decode prog_1_method_40_code 46 = .ok (.ireturn, 1) := by decide +kernel
theorem dX11_lays_47 : decode prog_1_method_40_code 47 = .ok (.iload_n 2, 1) := by decide +kernel
theorem dX11_lays_48 : decode prog_1_method_40_code 48 = .ok (.aload 4, 2) := by decide +kernel
theorem dX11_lays_50 : decode prog_1_method_40_code 50 = .ok (.getfield 332, 3) := by decide +kernel
theorem dX11_lays_53 : decode prog_1_method_40_code 53 = .ok (.iconst 1, 1) := by decide +kernel
theorem dX11_lays_54 : decode prog_1_method_40_code 54 = .ok (.isub, 1) := by decide +kernel
theorem dX11_lays_55 : decode prog_1_method_40_code 55 = .ok (.invokestatic 91, 3) := by decide +kernel
theorem dX11_lays_58 : decode prog_1_method_40_code 58 = .ok (.ifCond .ne 6, 3) := by decide +kernel
theorem dX11_lays_61 : decode prog_1_method_40_code 61 = .ok (.bipush (-12), 2) := by decide +kernel
theorem dX11_lays_63 : decode prog_1_method_40_code 63 = .ok (.ireturn, 1) := by decide +kernel
theorem dX11_lays_64 : decode prog_1_method_40_code 64 = .ok (.iload_n 3, 1) := by decide +kernel
theorem dX11_lays_65 : decode prog_1_method_40_code 65 = .ok (.iconst (-1), 1) := by decide +kernel
theorem dX11_lays_66 : decode prog_1_method_40_code 66 = .ok (.if_icmp .eq 29, 3) := by decide +kernel
theorem dX11_lays_69 : decode prog_1_method_40_code 69 = .ok (.aload_n 0, 1) := by decide +kernel
theorem dX11_lays_70 : decode prog_1_method_40_code 70 = .ok (.getfield 12, 3) := by decide +kernel
theorem dX11_lays_73 : decode prog_1_method_40_code 73 = .ok (.getfield 99, 3) := by decide +kernel
theorem dX11_lays_76 : decode prog_1_method_40_code 76 = .ok (.iload_n 3, 1) := by decide +kernel
theorem dX11_lays_77 : decode prog_1_method_40_code 77 = .ok (.aaload, 1) := by decide +kernel
theorem dX11_lays_78 : decode prog_1_method_40_code 78 = .ok (.getfield 116, 3) := by decide +kernel
theorem dX11_lays_81 : decode prog_1_method_40_code 81 = .ok (.aload 4, 2) := by decide +kernel
theorem dX11_lays_83 : decode prog_1_method_40_code 83 = .ok (.getfield 333, 3) := by decide +kernel
theorem dX11_lays_86 : decode prog_1_method_40_code 86 = .ok (.invokevirtual 334, 3) := by decide +kernel
theorem dX11_lays_89 : decode prog_1_method_40_code 89 = .ok (.ifCond .ne 6, 3) := by decide +kernel
theorem dX11_lays_92 : decode prog_1_method_40_code 92 = .ok (.bipush (-16), 2) := by decide +kernel
theorem dX11_lays_94 : decode prog_1_method_40_code 94 = .ok (.ireturn, 1) := by decide +kernel
theorem dX11_lays_95 : decode prog_1_method_40_code 95 = .ok (.aload 4, 2) := by decide +kernel
theorem dX11_lays_97 : decode prog_1_method_40_code 97 = .ok (.getfield 338, 3) := by decide +kernel
theorem dX11_lays_100 : decode prog_1_method_40_code 100 = .ok (.iload_n 2, 1) := by decide +kernel
theorem dX11_lays_101 : decode prog_1_method_40_code 101 = .ok (.iload_n 3, 1) := by decide +kernel
theorem dX11_lays_102 : decode prog_1_method_40_code 102 = .ok (.iconst (-1), 1) := by decide +kernel
theorem dX11_lays_103 : decode prog_1_method_40_code 103 = .ok (.if_icmp .ne 8, 3) := by decide +kernel
theorem dX11_lays_106 : decode prog_1_method_40_code 106 = .ok (.bipush (-5), 2) := by decide +kernel
theorem dX11_lays_108 : decode prog_1_method_40_code 108 = .ok (.goto 4, 3) := by decide +kernel
theorem dX11_lays_111 : decode prog_1_method_40_code 111 = .ok (.iload_n 3, 1) := by decide +kernel
theorem dX11_lays_112 : decode prog_1_method_40_code 112 = .ok (.iastore, 1) := by decide +kernel
theorem dX11_lays_113 : decode prog_1_method_40_code 113 = .ok (.iconst 1, 1) := by decide +kernel
theorem dX11_lays_114 : decode prog_1_method_40_code 114 = .ok (.ireturn, 1) := by decide +kernel
def m_X11_lays_J95 (N : Nat)  (i2 : Int32) (i3 : Int32) (a4 : Nat) (M : mM) : Option (Int32 × mM) :=
  (fR M a4 8 2).bind fun x1 =>
  if i3 = (-1) then (
    (uI 0 .int M x1 i2 (-5)).bind fun M5 =>
    some (1, M5)) else (
    (uI 0 .int M x1 i2 i3).bind fun M3 =>
    some (1, M3))
set_option maxHeartbeats 4000000 in
set_option maxRecDepth 100000 in
theorem t_X11_lays_J95 {X : mX} {L0 : Launch} {res : Int32 × mM} {N : Nat} (C : CX X RX11 "lays" prog_1_method_40_code 5 (some .int)) (E : EX X L0 1 23 0 0 (some (.int res.1)) res.2)   (i2 : Int32) (i3 : Int32) (a4 : Nat) (M : mM) (hf : m_X11_lays_J95 N  i2 i3 a4 M = some res) : EV X 5 95 [(2, .int i2), (3, .int i3), (4, .ref a4)] [] 0 0 M := by
  unfold m_X11_lays_J95 at hf
  refine ev_aload C dX11_lays_95 (q := 2) rfl ?_
  obtain ⟨x1, e2, hf⟩ := obnd hf
  refine ev_get (k := 2) C ok_8 dX11_lays_97 (by decide) kw_379 (fR_V e2) ?_
  refine ev_iload_n C dX11_lays_100 rfl (q := 0) rfl ?_
  refine ev_iload_n C dX11_lays_101 rfl (q := 1) rfl ?_
  refine ev_iconst (v := (-1)) C dX11_lays_102 (by decide) ?_
  refine ev_icmp_ne (tgt := 111) C dX11_lays_103 (by decide) (fun hc => ?_) (fun hc => ?_)
  · have hf := oie hf hc
    refine ev_iload_n C dX11_lays_111 rfl (q := 1) rfl ?_
    obtain ⟨M3, e4, hf⟩ := obnd hf
    refine ev_iast C dX11_lays_112 e4 ?_
    refine ev_iconst (v := 1) C dX11_lays_113 (by decide) ?_
    obtain rfl := Option.some.inj hf
    exact ev_iret C E (Nat.le_refl 0) (Nat.le_refl 0) dX11_lays_114
  · have hf := oit hf hc
    refine ev_bipush (v := (-5)) C dX11_lays_106 (by decide) ?_
    refine ev_goto (tgt := 112) C dX11_lays_108 (by decide) ?_
    obtain ⟨M5, e6, hf⟩ := obnd hf
    refine ev_iast C dX11_lays_112 e6 ?_
    refine ev_iconst (v := 1) C dX11_lays_113 (by decide) ?_
    obtain rfl := Option.some.inj hf
    exact ev_iret C E (Nat.le_refl 0) (Nat.le_refl 0) dX11_lays_114
def m_X11_lays_J26 (N : Nat)  (a0 : Nat) (i1 : Int32) (i2 : Int32) (i3 : Int32) (M : mM) : Option (Int32 × mM) :=
  (fR M a0 11 9).bind fun x1 =>
  (aR 7 M x1 i1).bind fun x3 =>
  (fI M x3 8 1).bind fun x5 =>
  if x5 = (-11) then (
    some ((-11), M)) else (
    (fI M x3 8 1).bind fun x7 =>
    (m_X11_within i2 (x7 - 1)).bind fun x9 =>
    if x9 = 0 then (
      some ((-12), M)) else (
      if i3 = (-1) then (
        m_X11_lays_J95 N  i2 i3 x3 M) else (
        (fR M a0 11 0).bind fun x11 =>
        (fR M x11 5 0).bind fun x13 =>
        (aR 5 M x13 i3).bind fun x15 =>
        (fR M x15 3 0).bind fun x17 =>
        (fR M x3 8 0).bind fun x19 =>
        (oif (x17 < 4)).bind fun _ =>
        (m_X3_isOf N x17 x19 M).bind fun x22 =>
        if x22 = 0 then (
          some ((-16), M)) else (
          m_X11_lays_J95 N  i2 i3 x3 M))))
set_option maxHeartbeats 4000000 in
set_option maxRecDepth 100000 in
theorem t_X11_lays_J26 {X : mX} {L0 : Launch} {res : Int32 × mM} {N : Nat} (C : CX X RX11 "lays" prog_1_method_40_code 5 (some .int)) (E : EX X L0 1 23 0 0 (some (.int res.1)) res.2)   (a0 : Nat) (i1 : Int32) (i2 : Int32) (i3 : Int32) (M : mM) (hf : m_X11_lays_J26 N  a0 i1 i2 i3 M = some res) : EV X 5 26 [(0, .ref a0), (1, .int i1), (2, .int i2), (3, .int i3)] [] 0 0 M := by
  unfold m_X11_lays_J26 at hf
  refine ev_aload_n C dX11_lays_26 rfl (q := 0) rfl ?_
  obtain ⟨x1, e2, hf⟩ := obnd hf
  refine ev_get (k := 9) C ok_11 dX11_lays_27 (by decide) kw_401 (fR_V e2) ?_
  refine ev_iload_n C dX11_lays_30 rfl (q := 1) rfl ?_
  obtain ⟨x3, e4, hf⟩ := obnd hf
  refine ev_aldr C (t := 7) rfl rfl dX11_lays_31 e4 ?_
  refine ev_astore (l' := [(4, .ref x3), (0, .ref a0), (1, .int i1), (2, .int i2), (3, .int i3)]) C dX11_lays_32 (by decide) rfl ?_
  refine ev_aload C dX11_lays_34 (q := 0) rfl ?_
  obtain ⟨x5, e6, hf⟩ := obnd hf
  refine ev_get (k := 1) C ok_8 dX11_lays_36 (by decide) kw_377 (fI_V e6) ?_
  refine ev_bipush (v := (-11)) C dX11_lays_39 (by decide) ?_
  refine ev_icmp_ne (tgt := 47) C dX11_lays_41 (by decide) (fun hc => ?_) (fun hc => ?_)
  · have hf := oie hf hc
    refine ev_iload_n C dX11_lays_47 rfl (q := 3) rfl ?_
    refine ev_aload C dX11_lays_48 (q := 0) rfl ?_
    obtain ⟨x7, e8, hf⟩ := obnd hf
    refine ev_get (k := 1) C ok_8 dX11_lays_50 (by decide) kw_377 (fI_V e8) ?_
    refine ev_iconst (v := 1) C dX11_lays_53 (by decide) ?_
    refine ev_isub C dX11_lays_54 ?_
    obtain ⟨x9, e10, hf⟩ := obnd hf
    refine ev_callS0 (As := [.int i2, .int (x7 - 1)]) (st := []) C (t_X11_within e10) hd_X11_within rfl kw_435 kw_436 kw_70 kw_437 (mRoom.of E (Nat.le_of_ble_eq_true rfl) (Nat.le_of_ble_eq_true rfl) (Nat.le_refl 0) (Nat.le_refl 0)) (Nat.le_of_ble_eq_true rfl) dX11_lays_55 ?_
    refine ev_if_ne (tgt := 64) C dX11_lays_58 (by decide) (fun hc => ?_) (fun hc => ?_)
    · have hf := oie hf hc
      refine ev_iload_n C dX11_lays_64 rfl (q := 4) rfl ?_
      refine ev_iconst (v := (-1)) C dX11_lays_65 (by decide) ?_
      refine ev_icmp_eq (tgt := 95) C dX11_lays_66 (by decide) (fun hc => ?_) (fun hc => ?_)
      · have hf := oit hf hc
        refine ev_sub [3, 4, 0] rfl ?_
        exact t_X11_lays_J95 C E   i2 i3 x3 M hf
      · have hf := oie hf hc
        refine ev_aload_n C dX11_lays_69 rfl (q := 1) rfl ?_
        obtain ⟨x11, e12, hf⟩ := obnd hf
        refine ev_get (k := 0) C ok_11 dX11_lays_70 (by decide) kw_392 (fR_V e12) ?_
        obtain ⟨x13, e14, hf⟩ := obnd hf
        refine ev_get (k := 0) C ok_5 dX11_lays_73 (by decide) kw_177 (fR_V e14) ?_
        refine ev_iload_n C dX11_lays_76 rfl (q := 4) rfl ?_
        obtain ⟨x15, e16, hf⟩ := obnd hf
        refine ev_aldr C (t := 5) rfl rfl dX11_lays_77 e16 ?_
        obtain ⟨x17, e18, hf⟩ := obnd hf
        refine ev_get (k := 0) C ok_3 dX11_lays_78 (by decide) kw_149 (fR_V e18) ?_
        refine ev_aload C dX11_lays_81 (q := 0) rfl ?_
        obtain ⟨x19, e20, hf⟩ := obnd hf
        refine ev_get (k := 0) C ok_8 dX11_lays_83 (by decide) kw_375 (fR_V e20) ?_
        obtain ⟨_, e21, hf⟩ := obnd hf
        obtain ⟨x22, e23, hf⟩ := obnd hf
        refine ev_callK0 (As := [.ref x19]) (st := []) C (oif_eq e21) (t_X3_isOf e23) rfl hd_X3_isOf rfl kw_1082 kw_1083 kw_75 kw_1084 kw_1085 (mRoom.of E (Nat.le_of_ble_eq_true rfl) (Nat.le_of_ble_eq_true rfl) (Nat.le_refl 0) (Nat.le_refl 0)) (Nat.le_of_ble_eq_true rfl) dX11_lays_86 ?_
        refine ev_if_ne (tgt := 95) C dX11_lays_89 (by decide) (fun hc => ?_) (fun hc => ?_)
        · have hf := oie hf hc
          refine ev_sub [3, 4, 0] rfl ?_
          exact t_X11_lays_J95 C E   i2 i3 x3 M hf
        · have hf := oit hf hc
          refine ev_bipush (v := (-16)) C dX11_lays_92 (by decide) ?_
          obtain rfl := Option.some.inj hf
          exact ev_iret C E (Nat.le_refl 0) (Nat.le_refl 0) dX11_lays_94
    · have hf := oit hf hc
      refine ev_bipush (v := (-12)) C dX11_lays_61 (by decide) ?_
      obtain rfl := Option.some.inj hf
      exact ev_iret C E (Nat.le_refl 0) (Nat.le_refl 0) dX11_lays_63
  · have hf := oit hf hc
    refine ev_bipush (v := (-11)) C dX11_lays_44 (by decide) ?_
    obtain rfl := Option.some.inj hf
    exact ev_iret C E (Nat.le_refl 0) (Nat.le_refl 0) dX11_lays_46
def m_X11_lays (N : Nat) (a0 : Nat) (i1 : Int32) (i2 : Int32) (i3 : Int32) (M : mM) : Option (Int32 × mM) :=
  (m_X11_within i1 3).bind fun x1 =>
  if x1 = 0 then (
    some ((-1), M)) else (
    if i3 = (-1) then (
      m_X11_lays_J26 N  a0 i1 i2 i3 M) else (
      (fR M a0 11 0).bind fun x3 =>
      (oO M x3 5).bind fun _ =>
      (m_X5_hasFare x3 i3 M).bind fun x7 =>
      if x7 = 0 then (
        some ((-1), M)) else (
        m_X11_lays_J26 N  a0 i1 i2 i3 M)))
set_option maxHeartbeats 4000000 in
set_option maxRecDepth 100000 in
theorem t_X11_lays {L0 : Launch} {M : mM} {N : Nat} {a0 : Nat} {i1 : Int32} {i2 : Int32} {i3 : Int32} {res : Int32 × mM} (hf : m_X11_lays N a0 i1 i2 i3 M = some res) : CT L0 yX11_lays prog_1_method_40_code 5 (some .int) 1 23 0 0 [.ref a0, .int i1, .int i2, .int i3] M (some (.int res.1)) res.2 := by
  refine CT.of (by decide +kernel) (Nat.le_of_ble_eq_true rfl) fun X C E => ?_
  have C : CX X RX11 "lays" prog_1_method_40_code 5 (some .int) := C
  show EV X 5 0 [(0, .ref a0), (1, .int i1), (2, .int i2), (3, .int i3)] [] 0 0 M
  unfold m_X11_lays at hf
  refine ev_iload_n C dX11_lays_0 rfl (q := 1) rfl ?_
  refine ev_iconst (v := 3) C dX11_lays_1 (by decide) ?_
  obtain ⟨x1, e2, hf⟩ := obnd hf
  refine ev_callS0 (As := [.int i1, .int 3]) (st := []) C (t_X11_within e2) hd_X11_within rfl kw_435 kw_436 kw_70 kw_437 (mRoom.of E (Nat.le_of_ble_eq_true rfl) (Nat.le_of_ble_eq_true rfl) (Nat.le_refl 0) (Nat.le_refl 0)) (Nat.le_of_ble_eq_true rfl) dX11_lays_2 ?_
  refine ev_if_eq (tgt := 24) C dX11_lays_5 (by decide) (fun hc => ?_) (fun hc => ?_)
  · have hf := oit hf hc
    refine ev_iconst (v := (-1)) C dX11_lays_24 (by decide) ?_
    obtain rfl := Option.some.inj hf
    exact ev_iret C E (Nat.le_refl 0) (Nat.le_refl 0) dX11_lays_25
  · have hf := oie hf hc
    refine ev_iload_n C dX11_lays_8 rfl (q := 3) rfl ?_
    refine ev_iconst (v := (-1)) C dX11_lays_9 (by decide) ?_
    refine ev_icmp_eq (tgt := 26) C dX11_lays_10 (by decide) (fun hc => ?_) (fun hc => ?_)
    · have hf := oit hf hc
      exact t_X11_lays_J26 C E   a0 i1 i2 i3 M hf
    · have hf := oie hf hc
      refine ev_aload_n C dX11_lays_13 rfl (q := 0) rfl ?_
      obtain ⟨x3, e4, hf⟩ := obnd hf
      refine ev_get (k := 0) C ok_11 dX11_lays_14 (by decide) kw_392 (fR_V e4) ?_
      refine ev_iload_n C dX11_lays_17 rfl (q := 3) rfl ?_
      obtain ⟨_, e5, hf⟩ := obnd hf
      obtain ⟨fs6, e5⟩ := oO_eq e5
      obtain ⟨x7, e8, hf⟩ := obnd hf
      refine ev_callV0 (As := [.int i3]) (st := []) C rfl e5 (t_X5_hasFare e8) rfl hd_X5_hasFare rfl kw_451 kw_452 kw_71 kw_453 kw_454 (mRoom.of E (Nat.le_of_ble_eq_true rfl) (Nat.le_of_ble_eq_true rfl) (Nat.le_refl 0) (Nat.le_refl 0)) (Nat.le_of_ble_eq_true rfl) dX11_lays_18 ?_
      refine ev_if_ne (tgt := 26) C dX11_lays_21 (by decide) (fun hc => ?_) (fun hc => ?_)
      · have hf := oie hf hc
        exact t_X11_lays_J26 C E   a0 i1 i2 i3 M hf
      · have hf := oit hf hc
        refine ev_iconst (v := (-1)) C dX11_lays_24 (by decide) ?_
        obtain rfl := Option.some.inj hf
        exact ev_iret C E (Nat.le_refl 0) (Nat.le_refl 0) dX11_lays_25
/-! FareLimits laid(II)I -/
theorem dX11_laid_0 : decode prog_1_method_41_code 0 = .ok (.iload_n 1, 1) := by decide +kernel
theorem dX11_laid_1 : decode prog_1_method_41_code 1 = .ok (.iconst 3, 1) := by decide +kernel
theorem dX11_laid_2 : decode prog_1_method_41_code 2 = .ok (.invokestatic 91, 3) := by decide +kernel
theorem dX11_laid_5 : decode prog_1_method_41_code 5 = .ok (.ifCond .ne 5, 3) := by decide +kernel
theorem dX11_laid_8 : decode prog_1_method_41_code 8 = .ok (.iconst (-1), 1) := by decide +kernel
theorem dX11_laid_9 : decode prog_1_method_41_code 9 = .ok (.ireturn, 1) := by decide +kernel
theorem dX11_laid_10 : decode prog_1_method_41_code 10 = .ok (.aload_n 0, 1) := by decide +kernel
theorem dX11_laid_11 : decode prog_1_method_41_code 11 = .ok (.getfield 67, 3) := by decide +kernel
theorem dX11_laid_14 : decode prog_1_method_41_code 14 = .ok (.iload_n 1, 1) := by decide +kernel
theorem dX11_laid_15 : decode prog_1_method_41_code 15 = .ok (.aaload, 1) := by decide +kernel
theorem dX11_laid_16 : decode prog_1_method_41_code 16 = .ok (.astore_n 3, 1) := by decide +kernel
theorem dX11_laid_17 : decode prog_1_method_41_code 17 = .ok (.aload_n 3, 1) := by decide +kernel
theorem dX11_laid_18 : decode prog_1_method_41_code 18 = .ok (.getfield 332, 3) := by decide +kernel
theorem dX11_laid_21 : decode prog_1_method_41_code 21 = .ok (.bipush (-11), 2) := by decide +kernel
theorem dX11_laid_23 : decode prog_1_method_41_code 23 = .ok (.if_icmp .ne 6, 3) := by decide +kernel
theorem dX11_laid_26 : decode prog_1_method_41_code 26 = .ok (.bipush (-11), 2) := by decide +kernel
theorem dX11_laid_28 : decode prog_1_method_41_code 28 = .ok (.ireturn, 1) := by decide +kernel
theorem dX11_laid_29 : decode prog_1_method_41_code 29 = .ok (.iload_n 2, 1) := by decide +kernel
theorem dX11_laid_30 : decode prog_1_method_41_code 30 = .ok (.aload_n 3, 1) := by decide +kernel
theorem dX11_laid_31 : decode prog_1_method_41_code 31 = .ok (.getfield 332, 3) := by decide +kernel
theorem dX11_laid_34 : decode prog_1_method_41_code 34 = .ok (.iconst 1, 1) := by decide +kernel
theorem dX11_laid_35 : decode prog_1_method_41_code 35 = .ok (.isub, 1) := by decide +kernel
theorem dX11_laid_36 : decode prog_1_method_41_code 36 = .ok (.invokestatic 91, 3) := by decide +kernel
theorem dX11_laid_39 : decode prog_1_method_41_code 39 = .ok (.ifCond .eq 12, 3) := by decide +kernel
theorem dX11_laid_42 : decode prog_1_method_41_code 42 = .ok (.aload_n 3, 1) := by decide +kernel
theorem dX11_laid_43 : decode prog_1_method_41_code 43 = .ok (.getfield 338, 3) := by decide +kernel
theorem dX11_laid_46 : decode prog_1_method_41_code 46 = .ok (.iload_n 2, 1) := by decide +kernel
theorem dX11_laid_47 : decode prog_1_method_41_code 47 = .ok (.iaload, 1) := by decide +kernel
theorem dX11_laid_48 : decode prog_1_method_41_code 48 = .ok (.goto 5, 3) := by decide +kernel
theorem dX11_laid_51 : decode prog_1_method_41_code 51 = .ok (.bipush (-12), 2) := by decide +kernel
theorem dX11_laid_53 : decode prog_1_method_41_code 53 = .ok (.ireturn, 1) := by decide +kernel
def m_X11_laid (a0 : Nat) (i1 : Int32) (i2 : Int32) (M : mM) : Option (Int32) :=
  (m_X11_within i1 3).bind fun x1 =>
  if x1 = 0 then (
    some (-1)) else (
    (fR M a0 11 9).bind fun x3 =>
    (aR 7 M x3 i1).bind fun x5 =>
    (fI M x5 8 1).bind fun x7 =>
    if x7 = (-11) then (
      some (-11)) else (
      (fI M x5 8 1).bind fun x9 =>
      (m_X11_within i2 (x9 - 1)).bind fun x11 =>
      if x11 = 0 then (
        some (-12)) else (
        (fR M x5 8 2).bind fun x13 =>
        (aI 0 M x13 i2).bind fun x15 =>
        some x15)))
set_option maxHeartbeats 4000000 in
set_option maxRecDepth 100000 in
theorem t_X11_laid {L0 : Launch} {M : mM} {a0 : Nat} {i1 : Int32} {i2 : Int32} {res : Int32} (hf : m_X11_laid a0 i1 i2 M = some res) : CT L0 yX11_laid prog_1_method_41_code 4 (some .int) 1 21 0 0 [.ref a0, .int i1, .int i2] M (some (.int res)) M := by
  refine CT.of (by decide +kernel) (Nat.le_of_ble_eq_true rfl) fun X C E => ?_
  have C : CX X RX11 "laid" prog_1_method_41_code 4 (some .int) := C
  show EV X 4 0 [(0, .ref a0), (1, .int i1), (2, .int i2)] [] 0 0 M
  unfold m_X11_laid at hf
  refine ev_iload_n C dX11_laid_0 rfl (q := 1) rfl ?_
  refine ev_iconst (v := 3) C dX11_laid_1 (by decide) ?_
  obtain ⟨x1, e2, hf⟩ := obnd hf
  refine ev_callS0 (As := [.int i1, .int 3]) (st := []) C (t_X11_within e2) hd_X11_within rfl kw_435 kw_436 kw_70 kw_437 (mRoom.of E (Nat.le_of_ble_eq_true rfl) (Nat.le_of_ble_eq_true rfl) (Nat.le_refl 0) (Nat.le_refl 0)) (Nat.le_of_ble_eq_true rfl) dX11_laid_2 ?_
  refine ev_if_ne (tgt := 10) C dX11_laid_5 (by decide) (fun hc => ?_) (fun hc => ?_)
  · have hf := oie hf hc
    refine ev_aload_n C dX11_laid_10 rfl (q := 0) rfl ?_
    obtain ⟨x3, e4, hf⟩ := obnd hf
    refine ev_get (k := 9) C ok_11 dX11_laid_11 (by decide) kw_401 (fR_V e4) ?_
    refine ev_iload_n C dX11_laid_14 rfl (q := 1) rfl ?_
    obtain ⟨x5, e6, hf⟩ := obnd hf
    refine ev_aldr C (t := 7) rfl rfl dX11_laid_15 e6 ?_
    refine ev_astore_n (l' := [(3, .ref x5), (0, .ref a0), (1, .int i1), (2, .int i2)]) C dX11_laid_16 rfl (by decide) rfl ?_
    refine ev_aload_n C dX11_laid_17 rfl (q := 0) rfl ?_
    obtain ⟨x7, e8, hf⟩ := obnd hf
    refine ev_get (k := 1) C ok_8 dX11_laid_18 (by decide) kw_377 (fI_V e8) ?_
    refine ev_bipush (v := (-11)) C dX11_laid_21 (by decide) ?_
    refine ev_icmp_ne (tgt := 29) C dX11_laid_23 (by decide) (fun hc => ?_) (fun hc => ?_)
    · have hf := oie hf hc
      refine ev_iload_n C dX11_laid_29 rfl (q := 3) rfl ?_
      refine ev_aload_n C dX11_laid_30 rfl (q := 0) rfl ?_
      obtain ⟨x9, e10, hf⟩ := obnd hf
      refine ev_get (k := 1) C ok_8 dX11_laid_31 (by decide) kw_377 (fI_V e10) ?_
      refine ev_iconst (v := 1) C dX11_laid_34 (by decide) ?_
      refine ev_isub C dX11_laid_35 ?_
      obtain ⟨x11, e12, hf⟩ := obnd hf
      refine ev_callS0 (As := [.int i2, .int (x9 - 1)]) (st := []) C (t_X11_within e12) hd_X11_within rfl kw_435 kw_436 kw_70 kw_437 (mRoom.of E (Nat.le_of_ble_eq_true rfl) (Nat.le_of_ble_eq_true rfl) (Nat.le_refl 0) (Nat.le_refl 0)) (Nat.le_of_ble_eq_true rfl) dX11_laid_36 ?_
      refine ev_if_eq (tgt := 51) C dX11_laid_39 (by decide) (fun hc => ?_) (fun hc => ?_)
      · have hf := oit hf hc
        refine ev_bipush (v := (-12)) C dX11_laid_51 (by decide) ?_
        obtain rfl := Option.some.inj hf
        exact ev_iret C E (Nat.le_refl 0) (Nat.le_refl 0) dX11_laid_53
      · have hf := oie hf hc
        refine ev_aload_n C dX11_laid_42 rfl (q := 0) rfl ?_
        obtain ⟨x13, e14, hf⟩ := obnd hf
        refine ev_get (k := 2) C ok_8 dX11_laid_43 (by decide) kw_379 (fR_V e14) ?_
        refine ev_iload_n C dX11_laid_46 rfl (q := 3) rfl ?_
        obtain ⟨x15, e16, hf⟩ := obnd hf
        refine ev_iald C dX11_laid_47 e16 ?_
        refine ev_goto (tgt := 53) C dX11_laid_48 (by decide) ?_
        obtain rfl := Option.some.inj hf
        exact ev_iret C E (Nat.le_refl 0) (Nat.le_refl 0) dX11_laid_53
    · have hf := oit hf hc
      refine ev_bipush (v := (-11)) C dX11_laid_26 (by decide) ?_
      obtain rfl := Option.some.inj hf
      exact ev_iret C E (Nat.le_refl 0) (Nat.le_refl 0) dX11_laid_28
  · have hf := oit hf hc
    refine ev_iconst (v := (-1)) C dX11_laid_8 (by decide) ?_
    obtain rfl := Option.some.inj hf
    exact ev_iret C E (Nat.le_refl 0) (Nat.le_refl 0) dX11_laid_9
/-! FareLimits$Tray become(LFareLimits$Tray;)V -/
theorem dX8_become_0 : decode prog_10_method_3_code 0 = .ok (.aload_n 0, 1) := by decide +kernel
theorem dX8_become_1 : decode prog_10_method_3_code 1 = .ok (.aload_n 1, 1) := by decide +kernel
theorem dX8_become_2 : decode prog_10_method_3_code 2 = .ok (.getfield 15, 3) := by decide +kernel
theorem dX8_become_5 : decode prog_10_method_3_code 5 = .ok (.putfield 15, 3) := by decide +kernel
theorem dX8_become_8 : decode prog_10_method_3_code 8 = .ok (.aload_n 0, 1) := by decide +kernel
theorem dX8_become_9 : decode prog_10_method_3_code 9 = .ok (.aload_n 1, 1) := by decide +kernel
theorem dX8_become_10 : decode prog_10_method_3_code 10 = .ok (.getfield 20, 3) := by decide +kernel
theorem dX8_become_13 : decode prog_10_method_3_code 13 = .ok (.putfield 20, 3) := by decide +kernel
theorem dX8_become_16 : decode prog_10_method_3_code 16 = .ok (.aload_n 1, 1) := by decide +kernel
theorem dX8_become_17 : decode prog_10_method_3_code 17 = .ok (.getfield 24, 3) := by decide +kernel
theorem dX8_become_20 : decode prog_10_method_3_code 20 = .ok (.iconst 0, 1) := by decide +kernel
theorem dX8_become_21 : decode prog_10_method_3_code 21 = .ok (.aload_n 0, 1) := by decide +kernel
theorem dX8_become_22 : decode prog_10_method_3_code 22 = .ok (.getfield 24, 3) := by decide +kernel
theorem dX8_become_25 : decode prog_10_method_3_code 25 = .ok (.iconst 0, 1) := by decide +kernel
theorem dX8_become_26 : decode prog_10_method_3_code 26 = .ok (.bipush 20, 2) := by decide +kernel
theorem dX8_become_28 : decode prog_10_method_3_code 28 = .ok (.invokestatic 34, 3) := by decide +kernel
theorem dX8_become_31 : decode prog_10_method_3_code 31 = .ok (.return_, 1) := by decide +kernel
def m_X8_become (a0 : Nat) (a1 : Nat) (M : mM) : Option (mM) :=
  (fR M a1 8 0).bind fun x1 =>
  (sV M a0 8 0 (.ref x1)).bind fun M3 =>
  (fI M3 a1 8 1).bind fun x5 =>
  (sV M3 a0 8 1 (.int x5)).bind fun M7 =>
  (fR M7 a1 8 2).bind fun x9 =>
  (fR M7 a0 8 2).bind fun x11 =>
  (cpI M7 x9 0 x11 0 20).bind fun M13 =>
  some M13
set_option maxHeartbeats 4000000 in
set_option maxRecDepth 100000 in
theorem t_X8_become {L0 : Launch} {M : mM} {a0 : Nat} {a1 : Nat} {res : mM} (hf : m_X8_become a0 a1 M = some res) : CT L0 yX8_become prog_10_method_3_code 2 none 1 40 0 0 [.ref a0, .ref a1] M none res := by
  refine CT.of (by decide +kernel) (Nat.le_of_ble_eq_true rfl) fun X C E => ?_
  have C : CX X RX8 "become" prog_10_method_3_code 2 none := C
  show EV X 2 0 [(0, .ref a0), (1, .ref a1)] [] 0 0 M
  unfold m_X8_become at hf
  refine ev_aload_n C dX8_become_0 rfl (q := 0) rfl ?_
  refine ev_aload_n C dX8_become_1 rfl (q := 1) rfl ?_
  obtain ⟨x1, e2, hf⟩ := obnd hf
  refine ev_get (k := 0) C ok_8 dX8_become_2 (by decide) kw_374 (fR_V e2) ?_
  obtain ⟨M3, e4, hf⟩ := obnd hf
  refine ev_put (k := 0) C ok_8 dX8_become_5 (by decide) kw_374 rfl ⟨rfl, rfl⟩ e4 ?_
  refine ev_aload_n C dX8_become_8 rfl (q := 0) rfl ?_
  refine ev_aload_n C dX8_become_9 rfl (q := 1) rfl ?_
  obtain ⟨x5, e6, hf⟩ := obnd hf
  refine ev_get (k := 1) C ok_8 dX8_become_10 (by decide) kw_376 (fI_V e6) ?_
  obtain ⟨M7, e8, hf⟩ := obnd hf
  refine ev_put (k := 1) C ok_8 dX8_become_13 (by decide) kw_376 rfl ⟨rfl, rfl⟩ e8 ?_
  refine ev_aload_n C dX8_become_16 rfl (q := 1) rfl ?_
  obtain ⟨x9, e10, hf⟩ := obnd hf
  refine ev_get (k := 2) C ok_8 dX8_become_17 (by decide) kw_378 (fR_V e10) ?_
  refine ev_iconst (v := 0) C dX8_become_20 (by decide) ?_
  refine ev_aload_n C dX8_become_21 rfl (q := 0) rfl ?_
  obtain ⟨x11, e12, hf⟩ := obnd hf
  refine ev_get (k := 2) C ok_8 dX8_become_22 (by decide) kw_378 (fR_V e12) ?_
  refine ev_iconst (v := 0) C dX8_become_25 (by decide) ?_
  refine ev_bipush (v := 20) C dX8_become_26 (by decide) ?_
  obtain ⟨M13, e14, hf⟩ := obnd hf
  refine ev_cpI C kw_1099 kw_872 kw_871 kw_94 (mfr E (by decide)) (mlo E (by decide)) (Nat.le_of_ble_eq_true rfl) dX8_become_28 e14 ?_
  obtain rfl := Option.some.inj hf
  exact ev_vret C E (Nat.le_refl 0) (Nat.le_refl 0) dX8_become_31
/-! FareLimits like(II)I -/
theorem dX11_like_0 : decode prog_1_method_42_code 0 = .ok (.iload_n 1, 1) := by decide +kernel
theorem dX11_like_1 : decode prog_1_method_42_code 1 = .ok (.iconst 3, 1) := by decide +kernel
theorem dX11_like_2 : decode prog_1_method_42_code 2 = .ok (.invokestatic 91, 3) := by decide +kernel
theorem dX11_like_5 : decode prog_1_method_42_code 5 = .ok (.ifCond .eq 11, 3) := by decide +kernel
theorem dX11_like_8 : decode prog_1_method_42_code 8 = .ok (.iload_n 2, 1) := by decide +kernel
theorem dX11_like_9 : decode prog_1_method_42_code 9 = .ok (.iconst 3, 1) := by decide +kernel
theorem dX11_like_10 : decode prog_1_method_42_code 10 = .ok (.invokestatic 91, 3) := by decide +kernel
theorem dX11_like_13 : decode prog_1_method_42_code 13 = .ok (.ifCond .ne 5, 3) := by decide +kernel
theorem dX11_like_16 : decode prog_1_method_42_code 16 = .ok (.iconst (-1), 1) := by decide +kernel
theorem dX11_like_17 : decode prog_1_method_42_code 17 = .ok (.ireturn, 1) := by decide +kernel
theorem dX11_like_18 : decode prog_1_method_42_code 18 = .ok (.aload_n 0, 1) := by decide +kernel
theorem dX11_like_19 : decode prog_1_method_42_code 19 = .ok (.getfield 67, 3) := by decide +kernel
theorem dX11_like_22 : decode prog_1_method_42_code 22 = .ok (.iload_n 2, 1) := by decide +kernel
theorem dX11_like_23 : decode prog_1_method_42_code 23 = .ok (.aaload, 1) := by decide +kernel
theorem dX11_like_24 : decode prog_1_method_42_code 24 = .ok (.getfield 332, 3) := by decide +kernel
theorem dX11_like_27 : decode prog_1_method_42_code 27 = .ok (.bipush (-11), 2) := by decide +kernel
theorem dX11_like_29 : decode prog_1_method_42_code 29 = .ok (.if_icmp .ne 6, 3) := by decide +kernel
theorem dX11_like_32 : decode prog_1_method_42_code 32 = .ok (.bipush (-11), 2) := by decide +kernel
theorem dX11_like_34 : decode prog_1_method_42_code 34 = .ok (.ireturn, 1) := by decide +kernel
theorem dX11_like_35 : decode prog_1_method_42_code 35 = .ok (.aload_n 0, 1) := by decide +kernel
theorem dX11_like_36 : decode prog_1_method_42_code 36 = .ok (.getfield 67, 3) := by decide +kernel
theorem dX11_like_39 : decode prog_1_method_42_code 39 = .ok (.iload_n 1, 1) := by decide +kernel
theorem dX11_like_40 : decode prog_1_method_42_code 40 = .ok (.aaload, 1) := by decide +kernel
theorem dX11_like_41 : decode prog_1_method_42_code 41 = .ok (.aload_n 0, 1) := by decide +kernel
theorem dX11_like_42 : decode prog_1_method_42_code 42 = .ok (.getfield 67, 3) := by decide +kernel
theorem dX11_like_45 : decode prog_1_method_42_code 45 = .ok (.iload_n 2, 1) := by decide +kernel
theorem dX11_like_46 : decode prog_1_method_42_code 46 = .ok (.aaload, 1) := by decide +kernel
theorem dX11_like_47 : decode prog_1_method_42_code 47 = .ok (.invokevirtual 340, 3) := by decide +kernel
theorem dX11_like_50 : decode prog_1_method_42_code 50 = .ok (.aload_n 0, 1) := by decide +kernel
theorem dX11_like_51 : decode prog_1_method_42_code 51 = .ok (.getfield 67, 3) := by decide +kernel
theorem dX11_like_54 : decode prog_1_method_42_code 54 = .ok (.iload_n 1, 1) := by decide +kernel
theorem dX11_like_55 : decode prog_1_method_42_code 55 = .ok (.aaload, 1) := by decide +kernel
theorem dX11_like_56 : decode prog_1_method_42_code 56 = .ok (.getfield 332, 3) := by decide +kernel
theorem dX11_like_59 : decode prog_1_method_42_code 59 = .ok (.ireturn, 1) := by decide +kernel
def m_X11_like (a0 : Nat) (i1 : Int32) (i2 : Int32) (M : mM) : Option (Int32 × mM) :=
  (m_X11_within i1 3).bind fun x1 =>
  if x1 = 0 then (
    some ((-1), M)) else (
    (m_X11_within i2 3).bind fun x3 =>
    if x3 = 0 then (
      some ((-1), M)) else (
      (fR M a0 11 9).bind fun x5 =>
      (aR 7 M x5 i2).bind fun x7 =>
      (fI M x7 8 1).bind fun x9 =>
      if x9 = (-11) then (
        some ((-11), M)) else (
        (fR M a0 11 9).bind fun x11 =>
        (aR 7 M x11 i1).bind fun x13 =>
        (fR M a0 11 9).bind fun x15 =>
        (aR 7 M x15 i2).bind fun x17 =>
        (oO M x13 8).bind fun _ =>
        (m_X8_become x13 x17 M).bind fun x21 =>
        (fR x21 a0 11 9).bind fun x23 =>
        (aR 7 x21 x23 i1).bind fun x25 =>
        (fI x21 x25 8 1).bind fun x27 =>
        some (x27, x21))))
set_option maxHeartbeats 4000000 in
set_option maxRecDepth 100000 in
theorem t_X11_like {L0 : Launch} {M : mM} {a0 : Nat} {i1 : Int32} {i2 : Int32} {res : Int32 × mM} (hf : m_X11_like a0 i1 i2 M = some res) : CT L0 yX11_like prog_1_method_42_code 3 (some .int) 2 61 0 0 [.ref a0, .int i1, .int i2] M (some (.int res.1)) res.2 := by
  refine CT.of (by decide +kernel) (Nat.le_of_ble_eq_true rfl) fun X C E => ?_
  have C : CX X RX11 "like" prog_1_method_42_code 3 (some .int) := C
  show EV X 3 0 [(0, .ref a0), (1, .int i1), (2, .int i2)] [] 0 0 M
  unfold m_X11_like at hf
  refine ev_iload_n C dX11_like_0 rfl (q := 1) rfl ?_
  refine ev_iconst (v := 3) C dX11_like_1 (by decide) ?_
  obtain ⟨x1, e2, hf⟩ := obnd hf
  refine ev_callS0 (As := [.int i1, .int 3]) (st := []) C (t_X11_within e2) hd_X11_within rfl kw_435 kw_436 kw_70 kw_437 (mRoom.of E (Nat.le_of_ble_eq_true rfl) (Nat.le_of_ble_eq_true rfl) (Nat.le_refl 0) (Nat.le_refl 0)) (Nat.le_of_ble_eq_true rfl) dX11_like_2 ?_
  refine ev_if_eq (tgt := 16) C dX11_like_5 (by decide) (fun hc => ?_) (fun hc => ?_)
  · have hf := oit hf hc
    refine ev_iconst (v := (-1)) C dX11_like_16 (by decide) ?_
    obtain rfl := Option.some.inj hf
    exact ev_iret C E (Nat.le_refl 0) (Nat.le_refl 0) dX11_like_17
  · have hf := oie hf hc
    refine ev_iload_n C dX11_like_8 rfl (q := 2) rfl ?_
    refine ev_iconst (v := 3) C dX11_like_9 (by decide) ?_
    obtain ⟨x3, e4, hf⟩ := obnd hf
    refine ev_callS0 (As := [.int i2, .int 3]) (st := []) C (t_X11_within e4) hd_X11_within rfl kw_435 kw_436 kw_70 kw_437 (mRoom.of E (Nat.le_of_ble_eq_true rfl) (Nat.le_of_ble_eq_true rfl) (Nat.le_refl 0) (Nat.le_refl 0)) (Nat.le_of_ble_eq_true rfl) dX11_like_10 ?_
    refine ev_if_ne (tgt := 18) C dX11_like_13 (by decide) (fun hc => ?_) (fun hc => ?_)
    · have hf := oie hf hc
      refine ev_aload_n C dX11_like_18 rfl (q := 0) rfl ?_
      obtain ⟨x5, e6, hf⟩ := obnd hf
      refine ev_get (k := 9) C ok_11 dX11_like_19 (by decide) kw_401 (fR_V e6) ?_
      refine ev_iload_n C dX11_like_22 rfl (q := 2) rfl ?_
      obtain ⟨x7, e8, hf⟩ := obnd hf
      refine ev_aldr C (t := 7) rfl rfl dX11_like_23 e8 ?_
      obtain ⟨x9, e10, hf⟩ := obnd hf
      refine ev_get (k := 1) C ok_8 dX11_like_24 (by decide) kw_377 (fI_V e10) ?_
      refine ev_bipush (v := (-11)) C dX11_like_27 (by decide) ?_
      refine ev_icmp_ne (tgt := 35) C dX11_like_29 (by decide) (fun hc => ?_) (fun hc => ?_)
      · have hf := oie hf hc
        refine ev_aload_n C dX11_like_35 rfl (q := 0) rfl ?_
        obtain ⟨x11, e12, hf⟩ := obnd hf
        refine ev_get (k := 9) C ok_11 dX11_like_36 (by decide) kw_401 (fR_V e12) ?_
        refine ev_iload_n C dX11_like_39 rfl (q := 1) rfl ?_
        obtain ⟨x13, e14, hf⟩ := obnd hf
        refine ev_aldr C (t := 7) rfl rfl dX11_like_40 e14 ?_
        refine ev_aload_n C dX11_like_41 rfl (q := 0) rfl ?_
        obtain ⟨x15, e16, hf⟩ := obnd hf
        refine ev_get (k := 9) C ok_11 dX11_like_42 (by decide) kw_401 (fR_V e16) ?_
        refine ev_iload_n C dX11_like_45 rfl (q := 2) rfl ?_
        obtain ⟨x17, e18, hf⟩ := obnd hf
        refine ev_aldr C (t := 7) rfl rfl dX11_like_46 e18 ?_
        obtain ⟨_, e19, hf⟩ := obnd hf
        obtain ⟨fs20, e19⟩ := oO_eq e19
        obtain ⟨x21, e22, hf⟩ := obnd hf
        refine ev_callV0 (As := [.ref x17]) (st := []) C rfl e19 (t_X8_become e22) rfl hd_X8_become rfl kw_1095 kw_1096 kw_85 kw_1097 kw_1098 (mRoom.of E (Nat.le_of_ble_eq_true rfl) (Nat.le_of_ble_eq_true rfl) (Nat.le_refl 0) (Nat.le_refl 0)) (Nat.le_of_ble_eq_true rfl) dX11_like_47 ?_
        refine ev_aload_n C dX11_like_50 rfl (q := 0) rfl ?_
        obtain ⟨x23, e24, hf⟩ := obnd hf
        refine ev_get (k := 9) C ok_11 dX11_like_51 (by decide) kw_401 (fR_V e24) ?_
        refine ev_iload_n C dX11_like_54 rfl (q := 1) rfl ?_
        obtain ⟨x25, e26, hf⟩ := obnd hf
        refine ev_aldr C (t := 7) rfl rfl dX11_like_55 e26 ?_
        obtain ⟨x27, e28, hf⟩ := obnd hf
        refine ev_get (k := 1) C ok_8 dX11_like_56 (by decide) kw_377 (fI_V e28) ?_
        obtain rfl := Option.some.inj hf
        exact ev_iret C E (Nat.le_refl 0) (Nat.le_refl 0) dX11_like_59
      · have hf := oit hf hc
        refine ev_bipush (v := (-11)) C dX11_like_32 (by decide) ?_
        obtain rfl := Option.some.inj hf
        exact ev_iret C E (Nat.le_refl 0) (Nat.le_refl 0) dX11_like_34
    · have hf := oit hf hc
      refine ev_iconst (v := (-1)) C dX11_like_16 (by decide) ?_
      obtain rfl := Option.some.inj hf
      exact ev_iret C E (Nat.le_refl 0) (Nat.le_refl 0) dX11_like_17
/-! FareLimits list(II)I -/
theorem dX11_list_0 : decode prog_1_method_43_code 0 = .ok (.iload_n 1, 1) := by decide +kernel
theorem dX11_list_1 : decode prog_1_method_43_code 1 = .ok (.iconst 3, 1) := by decide +kernel
theorem dX11_list_2 : decode prog_1_method_43_code 2 = .ok (.invokestatic 91, 3) := by decide +kernel
theorem dX11_list_5 : decode prog_1_method_43_code 5 = .ok (.ifCond .ne 5, 3) := by decide +kernel
theorem dX11_list_8 : decode prog_1_method_43_code 8 = .ok (.iconst (-1), 1) := by decide +kernel
theorem dX11_list_9 : decode prog_1_method_43_code 9 = .ok (.ireturn, 1) := by decide +kernel
theorem dX11_list_10 : decode prog_1_method_43_code 10 = .ok (.iload_n 2, 1) := by decide +kernel
theorem dX11_list_11 : decode prog_1_method_43_code 11 = .ok (.bipush 31, 2) := by decide +kernel
theorem dX11_list_13 : decode prog_1_method_43_code 13 = .ok (.if_icmp .le 6, 3) := by decide +kernel
theorem dX11_list_16 : decode prog_1_method_43_code 16 = .ok (.bipush (-2), 2) := by decide +kernel
theorem dX11_list_18 : decode prog_1_method_43_code 18 = .ok (.ireturn, 1) := by decide +kernel
theorem dX11_list_19 : decode prog_1_method_43_code 19 = .ok (.iload_n 2, 1) := by decide +kernel
theorem dX11_list_20 : decode prog_1_method_43_code 20 = .ok (.ifCond .ge 6, 3) := by decide +kernel
theorem dX11_list_23 : decode prog_1_method_43_code 23 = .ok (.bipush (-14), 2) := by decide +kernel
theorem dX11_list_25 : decode prog_1_method_43_code 25 = .ok (.ireturn, 1) := by decide +kernel
theorem dX11_list_26 : decode prog_1_method_43_code 26 = .ok (.aload_n 0, 1) := by decide +kernel
theorem dX11_list_27 : decode prog_1_method_43_code 27 = .ok (.getfield 74, 3) := by decide +kernel
theorem dX11_list_30 : decode prog_1_method_43_code 30 = .ok (.iload_n 1, 1) := by decide +kernel
theorem dX11_list_31 : decode prog_1_method_43_code 31 = .ok (.aaload, 1) := by decide +kernel
theorem dX11_list_32 : decode prog_1_method_43_code 32 = .ok (.lconst 0, 1) := by decide +kernel
theorem dX11_list_33 : decode prog_1_method_43_code 33 = .ok (.invokestatic 344, 3) := by decide +kernel
theorem dX11_list_36 : decode prog_1_method_43_code 36 = .ok (.aload_n 0, 1) := by decide +kernel
theorem dX11_list_37 : decode prog_1_method_43_code 37 = .ok (.getfield 77, 3) := by decide +kernel
theorem dX11_list_40 : decode prog_1_method_43_code 40 = .ok (.iload_n 1, 1) := by decide +kernel
theorem dX11_list_41 : decode prog_1_method_43_code 41 = .ok (.iload_n 2, 1) := by decide +kernel
theorem dX11_list_42 : decode prog_1_method_43_code 42 = .ok (.iastore, 1) := by decide +kernel
theorem dX11_list_43 : decode prog_1_method_43_code 43 = .ok (.iconst 1, 1) := by decide +kernel
theorem dX11_list_44 : decode prog_1_method_43_code 44 = .ok (.ireturn, 1) := by decide +kernel
def m_X11_list (N : Nat) (a0 : Nat) (i1 : Int32) (i2 : Int32) (M : mM) : Option (Int32 × mM) :=
  (m_X11_within i1 3).bind fun x1 =>
  if x1 = 0 then (
    some ((-1), M)) else (
    if i2 ≤ 31 then (
      if 0 ≤ i2 then (
        (fR M a0 11 10).bind fun x3 =>
        (aR 9 M x3 i1).bind fun x5 =>
        (m_J7_fill_d0a16 N x5 0 M).bind fun x7 =>
        (fR x7 a0 11 11).bind fun x9 =>
        (uI 0 .int x7 x9 i1 i2).bind fun M11 =>
        some (1, M11)) else (
        some ((-14), M))) else (
      some ((-2), M)))
set_option maxHeartbeats 4000000 in
set_option maxRecDepth 100000 in
theorem t_X11_list {L0 : Launch} {M : mM} {N : Nat} {a0 : Nat} {i1 : Int32} {i2 : Int32} {res : Int32 × mM} (hf : m_X11_list N a0 i1 i2 M = some res) : CT L0 yX11_list prog_1_method_43_code 3 (some .int) 1 24 0 0 [.ref a0, .int i1, .int i2] M (some (.int res.1)) res.2 := by
  refine CT.of (by decide +kernel) (Nat.le_of_ble_eq_true rfl) fun X C E => ?_
  have C : CX X RX11 "list" prog_1_method_43_code 3 (some .int) := C
  show EV X 3 0 [(0, .ref a0), (1, .int i1), (2, .int i2)] [] 0 0 M
  unfold m_X11_list at hf
  refine ev_iload_n C dX11_list_0 rfl (q := 1) rfl ?_
  refine ev_iconst (v := 3) C dX11_list_1 (by decide) ?_
  obtain ⟨x1, e2, hf⟩ := obnd hf
  refine ev_callS0 (As := [.int i1, .int 3]) (st := []) C (t_X11_within e2) hd_X11_within rfl kw_435 kw_436 kw_70 kw_437 (mRoom.of E (Nat.le_of_ble_eq_true rfl) (Nat.le_of_ble_eq_true rfl) (Nat.le_refl 0) (Nat.le_refl 0)) (Nat.le_of_ble_eq_true rfl) dX11_list_2 ?_
  refine ev_if_ne (tgt := 10) C dX11_list_5 (by decide) (fun hc => ?_) (fun hc => ?_)
  · have hf := oie hf hc
    refine ev_iload_n C dX11_list_10 rfl (q := 2) rfl ?_
    refine ev_bipush (v := 31) C dX11_list_11 (by decide) ?_
    refine ev_icmp_le (tgt := 19) C dX11_list_13 (by decide) (fun hc => ?_) (fun hc => ?_)
    · have hf := oit hf hc
      refine ev_iload_n C dX11_list_19 rfl (q := 2) rfl ?_
      refine ev_if_ge (tgt := 26) C dX11_list_20 (by decide) (fun hc => ?_) (fun hc => ?_)
      · have hf := oit hf hc
        refine ev_aload_n C dX11_list_26 rfl (q := 0) rfl ?_
        obtain ⟨x3, e4, hf⟩ := obnd hf
        refine ev_get (k := 10) C ok_11 dX11_list_27 (by decide) kw_402 (fR_V e4) ?_
        refine ev_iload_n C dX11_list_30 rfl (q := 1) rfl ?_
        obtain ⟨x5, e6, hf⟩ := obnd hf
        refine ev_aldr C (t := 9) rfl rfl dX11_list_31 e6 ?_
        refine ev_lconst (v := 0) C dX11_list_32 (by decide) ?_
        obtain ⟨x7, e8, hf⟩ := obnd hf
        refine ev_callS0 (As := [.ref x5, .long 0]) (st := []) C (t_J7_fill_d0a16 e8) hd_J7_fill_d0a16 rfl kw_1104 kw_552 kw_86 kw_553 (mRoom.of E (Nat.le_of_ble_eq_true rfl) (Nat.le_of_ble_eq_true rfl) (Nat.le_refl 0) (Nat.le_refl 0)) (Nat.le_of_ble_eq_true rfl) dX11_list_33 ?_
        refine ev_aload_n C dX11_list_36 rfl (q := 0) rfl ?_
        obtain ⟨x9, e10, hf⟩ := obnd hf
        refine ev_get (k := 11) C ok_11 dX11_list_37 (by decide) kw_403 (fR_V e10) ?_
        refine ev_iload_n C dX11_list_40 rfl (q := 1) rfl ?_
        refine ev_iload_n C dX11_list_41 rfl (q := 2) rfl ?_
        obtain ⟨M11, e12, hf⟩ := obnd hf
        refine ev_iast C dX11_list_42 e12 ?_
        refine ev_iconst (v := 1) C dX11_list_43 (by decide) ?_
        obtain rfl := Option.some.inj hf
        exact ev_iret C E (Nat.le_refl 0) (Nat.le_refl 0) dX11_list_44
      · have hf := oie hf hc
        refine ev_bipush (v := (-14)) C dX11_list_23 (by decide) ?_
        obtain rfl := Option.some.inj hf
        exact ev_iret C E (Nat.le_refl 0) (Nat.le_refl 0) dX11_list_25
    · have hf := oie hf hc
      refine ev_bipush (v := (-2)) C dX11_list_16 (by decide) ?_
      obtain rfl := Option.some.inj hf
      exact ev_iret C E (Nat.le_refl 0) (Nat.le_refl 0) dX11_list_18
  · have hf := oit hf hc
    refine ev_iconst (v := (-1)) C dX11_list_8 (by decide) ?_
    obtain rfl := Option.some.inj hf
    exact ev_iret C E (Nat.le_refl 0) (Nat.le_refl 0) dX11_list_9
/-! FareLimits set(IIJ)I -/
theorem dX11_set_0 : decode prog_1_method_44_code 0 = .ok (.iload_n 1, 1) := by decide +kernel
theorem dX11_set_1 : decode prog_1_method_44_code 1 = .ok (.iconst 3, 1) := by decide +kernel
theorem dX11_set_2 : decode prog_1_method_44_code 2 = .ok (.invokestatic 91, 3) := by decide +kernel
theorem dX11_set_5 : decode prog_1_method_44_code 5 = .ok (.ifCond .ne 5, 3) := by decide +kernel
theorem dX11_set_8 : decode prog_1_method_44_code 8 = .ok (.iconst (-1), 1) := by decide +kernel
theorem dX11_set_9 : decode prog_1_method_44_code 9 = .ok (.ireturn, 1) := by decide +kernel
theorem dX11_set_10 : decode prog_1_method_44_code 10 = .ok (.aload_n 0, 1) := by decide +kernel
theorem dX11_set_11 : decode prog_1_method_44_code 11 = .ok (.getfield 77, 3) := by decide +kernel
theorem dX11_set_14 : decode prog_1_method_44_code 14 = .ok (.iload_n 1, 1) := by decide +kernel
theorem dX11_set_15 : decode prog_1_method_44_code 15 = .ok (.iaload, 1) := by decide +kernel
theorem dX11_set_16 : decode prog_1_method_44_code 16 = .ok (.bipush (-11), 2) := by decide +kernel
theorem dX11_set_18 : decode prog_1_method_44_code 18 = .ok (.if_icmp .ne 6, 3) := by decide +kernel
theorem dX11_set_21 : decode prog_1_method_44_code 21 = .ok (.bipush (-11), 2) := by decide +kernel
theorem dX11_set_23 : decode prog_1_method_44_code 23 = .ok (.ireturn, 1) := by decide +kernel
theorem dX11_set_24 : decode prog_1_method_44_code 24 = .ok (.iload_n 2, 1) := by decide +kernel
theorem dX11_set_25 : decode prog_1_method_44_code 25 = .ok (.aload_n 0, 1) := by decide +kernel
theorem dX11_set_26 : decode prog_1_method_44_code 26 = .ok (.getfield 77, 3) := by decide +kernel
theorem dX11_set_29 : decode prog_1_method_44_code 29 = .ok (.iload_n 1, 1) := by decide +kernel
theorem dX11_set_30 : decode prog_1_method_44_code 30 = .ok (.iaload, 1) := by decide +kernel
theorem dX11_set_31 : decode prog_1_method_44_code 31 = .ok (.iconst 1, 1) := by decide +kernel
theorem dX11_set_32 : decode prog_1_method_44_code 32 = .ok (.isub, 1) := by decide +kernel
theorem dX11_set_33 : decode prog_1_method_44_code 33 = .ok (.invokestatic 91, 3) := by decide +kernel
theorem dX11_set_36 : decode prog_1_method_44_code 36 = .ok (.ifCond .ne 6, 3) := by decide +kernel
theorem dX11_set_39 : decode prog_1_method_44_code 39 = .ok (.bipush (-12), 2) := by decide +kernel
theorem dX11_set_41 : decode prog_1_method_44_code 41 = .ok (.ireturn, 1) := by decide +kernel
theorem dX11_set_42 : decode prog_1_method_44_code 42 = .ok (.aload_n 0, 1) := by decide +kernel
theorem dX11_set_43 : decode prog_1_method_44_code 43 = .ok (.getfield 74, 3) := by decide +kernel
theorem dX11_set_46 : decode prog_1_method_44_code 46 = .ok (.iload_n 1, 1) := by decide +kernel
theorem dX11_set_47 : decode prog_1_method_44_code 47 = .ok (.aaload, 1) := by decide +kernel
theorem dX11_set_48 : decode prog_1_method_44_code 48 = .ok (.iload_n 2, 1) := by decide +kernel
theorem dX11_set_49 : decode prog_1_method_44_code 49 = .ok (.lload_n 3, 1) := by decide +kernel
theorem dX11_set_50 : decode prog_1_method_44_code 50 = .ok (.lastore, 1) := by decide +kernel
theorem dX11_set_51 : decode prog_1_method_44_code 51 = .ok (.iconst 1, 1) := by decide +kernel
theorem dX11_set_52 : decode prog_1_method_44_code 52 = .ok (.ireturn, 1) := by decide +kernel
def m_X11_set (a0 : Nat) (i1 : Int32) (i2 : Int32) (j3 : Int64) (M : mM) : Option (Int32 × mM) :=
  (m_X11_within i1 3).bind fun x1 =>
  if x1 = 0 then (
    some ((-1), M)) else (
    (fR M a0 11 11).bind fun x3 =>
    (aI 0 M x3 i1).bind fun x5 =>
    if x5 = (-11) then (
      some ((-11), M)) else (
      (fR M a0 11 11).bind fun x7 =>
      (aI 0 M x7 i1).bind fun x9 =>
      (m_X11_within i2 (x9 - 1)).bind fun x11 =>
      if x11 = 0 then (
        some ((-12), M)) else (
        (fR M a0 11 10).bind fun x13 =>
        (aR 9 M x13 i1).bind fun x15 =>
        (uL M x15 i2 j3).bind fun M17 =>
        some (1, M17))))
set_option maxHeartbeats 4000000 in
set_option maxRecDepth 100000 in
theorem t_X11_set {L0 : Launch} {M : mM} {a0 : Nat} {i1 : Int32} {i2 : Int32} {j3 : Int64} {res : Int32 × mM} (hf : m_X11_set a0 i1 i2 j3 M = some res) : CT L0 yX11_set prog_1_method_44_code 5 (some .int) 1 21 0 0 [.ref a0, .int i1, .int i2, .long j3] M (some (.int res.1)) res.2 := by
  refine CT.of (by decide +kernel) (Nat.le_of_ble_eq_true rfl) fun X C E => ?_
  have C : CX X RX11 "set" prog_1_method_44_code 5 (some .int) := C
  show EV X 5 0 [(0, .ref a0), (1, .int i1), (2, .int i2), (3, .long j3)] [] 0 0 M
  unfold m_X11_set at hf
  refine ev_iload_n C dX11_set_0 rfl (q := 1) rfl ?_
  refine ev_iconst (v := 3) C dX11_set_1 (by decide) ?_
  obtain ⟨x1, e2, hf⟩ := obnd hf
  refine ev_callS0 (As := [.int i1, .int 3]) (st := []) C (t_X11_within e2) hd_X11_within rfl kw_435 kw_436 kw_70 kw_437 (mRoom.of E (Nat.le_of_ble_eq_true rfl) (Nat.le_of_ble_eq_true rfl) (Nat.le_refl 0) (Nat.le_refl 0)) (Nat.le_of_ble_eq_true rfl) dX11_set_2 ?_
  refine ev_if_ne (tgt := 10) C dX11_set_5 (by decide) (fun hc => ?_) (fun hc => ?_)
  · have hf := oie hf hc
    refine ev_aload_n C dX11_set_10 rfl (q := 0) rfl ?_
    obtain ⟨x3, e4, hf⟩ := obnd hf
    refine ev_get (k := 11) C ok_11 dX11_set_11 (by decide) kw_403 (fR_V e4) ?_
    refine ev_iload_n C dX11_set_14 rfl (q := 1) rfl ?_
    obtain ⟨x5, e6, hf⟩ := obnd hf
    refine ev_iald C dX11_set_15 e6 ?_
    refine ev_bipush (v := (-11)) C dX11_set_16 (by decide) ?_
    refine ev_icmp_ne (tgt := 24) C dX11_set_18 (by decide) (fun hc => ?_) (fun hc => ?_)
    · have hf := oie hf hc
      refine ev_iload_n C dX11_set_24 rfl (q := 2) rfl ?_
      refine ev_aload_n C dX11_set_25 rfl (q := 0) rfl ?_
      obtain ⟨x7, e8, hf⟩ := obnd hf
      refine ev_get (k := 11) C ok_11 dX11_set_26 (by decide) kw_403 (fR_V e8) ?_
      refine ev_iload_n C dX11_set_29 rfl (q := 1) rfl ?_
      obtain ⟨x9, e10, hf⟩ := obnd hf
      refine ev_iald C dX11_set_30 e10 ?_
      refine ev_iconst (v := 1) C dX11_set_31 (by decide) ?_
      refine ev_isub C dX11_set_32 ?_
      obtain ⟨x11, e12, hf⟩ := obnd hf
      refine ev_callS0 (As := [.int i2, .int (x9 - 1)]) (st := []) C (t_X11_within e12) hd_X11_within rfl kw_435 kw_436 kw_70 kw_437 (mRoom.of E (Nat.le_of_ble_eq_true rfl) (Nat.le_of_ble_eq_true rfl) (Nat.le_refl 0) (Nat.le_refl 0)) (Nat.le_of_ble_eq_true rfl) dX11_set_33 ?_
      refine ev_if_ne (tgt := 42) C dX11_set_36 (by decide) (fun hc => ?_) (fun hc => ?_)
      · have hf := oie hf hc
        refine ev_aload_n C dX11_set_42 rfl (q := 0) rfl ?_
        obtain ⟨x13, e14, hf⟩ := obnd hf
        refine ev_get (k := 10) C ok_11 dX11_set_43 (by decide) kw_402 (fR_V e14) ?_
        refine ev_iload_n C dX11_set_46 rfl (q := 1) rfl ?_
        obtain ⟨x15, e16, hf⟩ := obnd hf
        refine ev_aldr C (t := 9) rfl rfl dX11_set_47 e16 ?_
        refine ev_iload_n C dX11_set_48 rfl (q := 2) rfl ?_
        refine ev_lload_n C dX11_set_49 rfl (q := 3) rfl ?_
        obtain ⟨M17, e18, hf⟩ := obnd hf
        refine ev_last C dX11_set_50 e18 ?_
        refine ev_iconst (v := 1) C dX11_set_51 (by decide) ?_
        obtain rfl := Option.some.inj hf
        exact ev_iret C E (Nat.le_refl 0) (Nat.le_refl 0) dX11_set_52
      · have hf := oit hf hc
        refine ev_bipush (v := (-12)) C dX11_set_39 (by decide) ?_
        obtain rfl := Option.some.inj hf
        exact ev_iret C E (Nat.le_refl 0) (Nat.le_refl 0) dX11_set_41
    · have hf := oit hf hc
      refine ev_bipush (v := (-11)) C dX11_set_21 (by decide) ?_
      obtain rfl := Option.some.inj hf
      exact ev_iret C E (Nat.le_refl 0) (Nat.le_refl 0) dX11_set_23
  · have hf := oit hf hc
    refine ev_iconst (v := (-1)) C dX11_set_8 (by decide) ?_
    obtain rfl := Option.some.inj hf
    exact ev_iret C E (Nat.le_refl 0) (Nat.le_refl 0) dX11_set_9
/-! FareLimits get(II)J -/
theorem dX11_get_0 : decode prog_1_method_45_code 0 = .ok (.iload_n 1, 1) := by decide +kernel
theorem dX11_get_1 : decode prog_1_method_45_code 1 = .ok (.iconst 3, 1) := by decide +kernel
theorem dX11_get_2 : decode prog_1_method_45_code 2 = .ok (.invokestatic 91, 3) := by decide +kernel
theorem dX11_get_5 : decode prog_1_method_45_code 5 = .ok (.ifCond .eq 29, 3) := by decide +kernel
theorem dX11_get_8 : decode prog_1_method_45_code 8 = .ok (.iload_n 2, 1) := by decide +kernel
theorem dX11_get_9 : decode prog_1_method_45_code 9 = .ok (.aload_n 0, 1) := by decide +kernel
theorem dX11_get_10 : decode prog_1_method_45_code 10 = .ok (.getfield 77, 3) := by decide +kernel
theorem dX11_get_13 : decode prog_1_method_45_code 13 = .ok (.iload_n 1, 1) := by decide +kernel
theorem dX11_get_14 : decode prog_1_method_45_code 14 = .ok (.iaload, 1) := by decide +kernel
theorem dX11_get_15 : decode prog_1_method_45_code 15 = .ok (.iconst 1, 1) := by decide +kernel
theorem dX11_get_16 : decode prog_1_method_45_code 16 = .ok (.isub, 1) := by decide +kernel
theorem dX11_get_17 : decode prog_1_method_45_code 17 = .ok (.invokestatic 91, 3) := by decide +kernel
theorem dX11_get_20 : decode prog_1_method_45_code 20 = .ok (.ifCond .eq 14, 3) := by decide +kernel
theorem dX11_get_23 : decode prog_1_method_45_code 23 = .ok (.aload_n 0, 1) := by decide +kernel
theorem dX11_get_24 : decode prog_1_method_45_code 24 = .ok (.getfield 74, 3) := by decide +kernel
theorem dX11_get_27 : decode prog_1_method_45_code 27 = .ok (.iload_n 1, 1) := by decide +kernel
theorem dX11_get_28 : decode prog_1_method_45_code 28 = .ok (.aaload, 1) := by decide +kernel
theorem dX11_get_29 : decode prog_1_method_45_code 29 = .ok (.iload_n 2, 1) := by decide +kernel
theorem dX11_get_30 : decode prog_1_method_45_code 30 = .ok (.laload, 1) := by decide +kernel
theorem dX11_get_31 : decode prog_1_method_45_code 31 = .ok (.goto 6, 3) := by decide +kernel
theorem dX11_get_34 : decode prog_1_method_45_code 34 = .ok (.ldc2_w 152, 3) := by decide +kernel
theorem dX11_get_37 : decode prog_1_method_45_code 37 = .ok (.lreturn, 1) := by decide +kernel
def m_X11_get (a0 : Nat) (i1 : Int32) (i2 : Int32) (M : mM) : Option (Int64) :=
  (m_X11_within i1 3).bind fun x1 =>
  if x1 = 0 then (
    some (-9223372036854775808)) else (
    (fR M a0 11 11).bind fun x3 =>
    (aI 0 M x3 i1).bind fun x5 =>
    (m_X11_within i2 (x5 - 1)).bind fun x7 =>
    if x7 = 0 then (
      some (-9223372036854775808)) else (
      (fR M a0 11 10).bind fun x9 =>
      (aR 9 M x9 i1).bind fun x11 =>
      (aL M x11 i2).bind fun x13 =>
      some x13))
set_option maxHeartbeats 4000000 in
set_option maxRecDepth 100000 in
theorem t_X11_get {L0 : Launch} {M : mM} {a0 : Nat} {i1 : Int32} {i2 : Int32} {res : Int64} (hf : m_X11_get a0 i1 i2 M = some res) : CT L0 yX11_get prog_1_method_45_code 3 (some .long) 1 21 0 0 [.ref a0, .int i1, .int i2] M (some (.long res)) M := by
  refine CT.of (by decide +kernel) (Nat.le_of_ble_eq_true rfl) fun X C E => ?_
  have C : CX X RX11 "get" prog_1_method_45_code 3 (some .long) := C
  show EV X 3 0 [(0, .ref a0), (1, .int i1), (2, .int i2)] [] 0 0 M
  unfold m_X11_get at hf
  refine ev_iload_n C dX11_get_0 rfl (q := 1) rfl ?_
  refine ev_iconst (v := 3) C dX11_get_1 (by decide) ?_
  obtain ⟨x1, e2, hf⟩ := obnd hf
  refine ev_callS0 (As := [.int i1, .int 3]) (st := []) C (t_X11_within e2) hd_X11_within rfl kw_435 kw_436 kw_70 kw_437 (mRoom.of E (Nat.le_of_ble_eq_true rfl) (Nat.le_of_ble_eq_true rfl) (Nat.le_refl 0) (Nat.le_refl 0)) (Nat.le_of_ble_eq_true rfl) dX11_get_2 ?_
  refine ev_if_eq (tgt := 34) C dX11_get_5 (by decide) (fun hc => ?_) (fun hc => ?_)
  · have hf := oit hf hc
    refine ev_ldc2 (v := (-9223372036854775808)) C dX11_get_34 kw_493 ?_
    obtain rfl := Option.some.inj hf
    exact ev_lret C E (Nat.le_refl 0) (Nat.le_refl 0) dX11_get_37
  · have hf := oie hf hc
    refine ev_iload_n C dX11_get_8 rfl (q := 2) rfl ?_
    refine ev_aload_n C dX11_get_9 rfl (q := 0) rfl ?_
    obtain ⟨x3, e4, hf⟩ := obnd hf
    refine ev_get (k := 11) C ok_11 dX11_get_10 (by decide) kw_403 (fR_V e4) ?_
    refine ev_iload_n C dX11_get_13 rfl (q := 1) rfl ?_
    obtain ⟨x5, e6, hf⟩ := obnd hf
    refine ev_iald C dX11_get_14 e6 ?_
    refine ev_iconst (v := 1) C dX11_get_15 (by decide) ?_
    refine ev_isub C dX11_get_16 ?_
    obtain ⟨x7, e8, hf⟩ := obnd hf
    refine ev_callS0 (As := [.int i2, .int (x5 - 1)]) (st := []) C (t_X11_within e8) hd_X11_within rfl kw_435 kw_436 kw_70 kw_437 (mRoom.of E (Nat.le_of_ble_eq_true rfl) (Nat.le_of_ble_eq_true rfl) (Nat.le_refl 0) (Nat.le_refl 0)) (Nat.le_of_ble_eq_true rfl) dX11_get_17 ?_
    refine ev_if_eq (tgt := 34) C dX11_get_20 (by decide) (fun hc => ?_) (fun hc => ?_)
    · have hf := oit hf hc
      refine ev_ldc2 (v := (-9223372036854775808)) C dX11_get_34 kw_493 ?_
      obtain rfl := Option.some.inj hf
      exact ev_lret C E (Nat.le_refl 0) (Nat.le_refl 0) dX11_get_37
    · have hf := oie hf hc
      refine ev_aload_n C dX11_get_23 rfl (q := 0) rfl ?_
      obtain ⟨x9, e10, hf⟩ := obnd hf
      refine ev_get (k := 10) C ok_11 dX11_get_24 (by decide) kw_402 (fR_V e10) ?_
      refine ev_iload_n C dX11_get_27 rfl (q := 1) rfl ?_
      obtain ⟨x11, e12, hf⟩ := obnd hf
      refine ev_aldr C (t := 9) rfl rfl dX11_get_28 e12 ?_
      refine ev_iload_n C dX11_get_29 rfl (q := 2) rfl ?_
      obtain ⟨x13, e14, hf⟩ := obnd hf
      refine ev_lald C dX11_get_30 e14 ?_
      refine ev_goto (tgt := 37) C dX11_get_31 (by decide) ?_
      obtain rfl := Option.some.inj hf
      exact ev_lret C E (Nat.le_refl 0) (Nat.le_refl 0) dX11_get_37
/-! FareLimits judge(III)I -/
theorem dX11_judge_0 : decode prog_1_method_46_code 0 = .ok (.iload_n 1, 1) := by decide +kernel
theorem dX11_judge_1 : decode prog_1_method_46_code 1 = .ok (.bipush 20, 2) := by decide +kernel
theorem dX11_judge_3 : decode prog_1_method_46_code 3 = .ok (.invokestatic 91, 3) := by decide +kernel
theorem dX11_judge_6 : decode prog_1_method_46_code 6 = .ok (.ifCond .eq 11, 3) := by decide +kernel
theorem dX11_judge_9 : decode prog_1_method_46_code 9 = .ok (.iload_n 2, 1) := by decide +kernel
theorem dX11_judge_10 : decode prog_1_method_46_code 10 = .ok (.iconst 3, 1) := by decide +kernel
theorem dX11_judge_11 : decode prog_1_method_46_code 11 = .ok (.invokestatic 91, 3) := by decide +kernel
theorem dX11_judge_14 : decode prog_1_method_46_code 14 = .ok (.ifCond .ne 5, 3) := by decide +kernel
theorem dX11_judge_17 : decode prog_1_method_46_code 17 = .ok (.iconst (-1), 1) := by decide +kernel
theorem dX11_judge_18 : decode prog_1_method_46_code 18 = .ok (.ireturn, 1) := by decide +kernel
theorem dX11_judge_19 : decode prog_1_method_46_code 19 = .ok (.aload_n 0, 1) := by decide +kernel
theorem dX11_judge_20 : decode prog_1_method_46_code 20 = .ok (.getfield 77, 3) := by decide +kernel
theorem dX11_judge_23 : decode prog_1_method_46_code 23 = .ok (.iload_n 2, 1) := by decide +kernel
theorem dX11_judge_24 : decode prog_1_method_46_code 24 = .ok (.iaload, 1) := by decide +kernel
theorem dX11_judge_25 : decode prog_1_method_46_code 25 = .ok (.istore 4, 2) := by decide +kernel
theorem dX11_judge_27 : decode prog_1_method_46_code 27 = .ok (.iload 4, 2) := by decide +kernel
theorem dX11_judge_29 : decode prog_1_method_46_code 29 = .ok (.bipush (-11), 2) := by decide +kernel
theorem dX11_judge_31 : decode prog_1_method_46_code 31 = .ok (.if_icmp .ne 6, 3) := by decide +kernel
theorem dX11_judge_34 : decode prog_1_method_46_code 34 = .ok (.bipush (-11), 2) := by decide +kernel
theorem dX11_judge_36 : decode prog_1_method_46_code 36 = .ok (.ireturn, 1) := by decide +kernel
theorem dX11_judge_37 : decode prog_1_method_46_code 37 = .ok (.iload_n 3, 1) := by decide +kernel
theorem dX11_judge_38 : decode prog_1_method_46_code 38 = .ok (.iload 4, 2) := by decide +kernel
theorem dX11_judge_40 : decode prog_1_method_46_code 40 = .ok (.invokestatic 91, 3) := by decide +kernel
theorem dX11_judge_43 : decode prog_1_method_46_code 43 = .ok (.ifCond .ne 6, 3) := by decide +kernel
theorem dX11_judge_46 : decode prog_1_method_46_code 46 = .ok (.bipush (-12), 2) := by decide +kernel
theorem dX11_judge_48 : decode prog_1_method_46_code 48 = .ok (.ireturn, 1) := by decide +kernel
theorem dX11_judge_49 : decode prog_1_method_46_code 49 = .ok (.aload_n 0, 1) := by decide +kernel
theorem dX11_judge_50 : decode prog_1_method_46_code 50 = .ok (.getfield 24, 3) := by decide +kernel
theorem dX11_judge_53 : decode prog_1_method_46_code 53 = .ok (.iload_n 1, 1) := by decide +kernel
theorem dX11_judge_54 : decode prog_1_method_46_code 54 = .ok (.invokevirtual 158, 3) := by decide +kernel
theorem dX11_judge_57 : decode prog_1_method_46_code 57 = .ok (.astore 5, 2) := by decide +kernel
theorem dX11_judge_59 : decode prog_1_method_46_code 59 = .ok (.iconst 0, 1) := by decide +kernel
theorem dX11_judge_60 : decode prog_1_method_46_code 60 = .ok (.istore 6, 2) := by decide +kernel
theorem dX11_judge_62 : decode prog_1_method_46_code 62 = .ok (.iload 6, 2) := by decide +kernel
theorem dX11_judge_64 : decode prog_1_method_46_code 64 = .ok (.aload_n 0, 1) := by decide +kernel
theorem dX11_judge_65 : decode prog_1_method_46_code 65 = .ok (.getfield 12, 3) := by decide +kernel
theorem dX11_judge_68 : decode prog_1_method_46_code 68 = .ok (.getfield 138, 3) := by decide +kernel
theorem dX11_judge_71 : decode prog_1_method_46_code 71 = .ok (.iconst 0, 1) := by decide +kernel
theorem dX11_judge_72 : decode prog_1_method_46_code 72 = .ok (.iaload, 1) := by decide +kernel
theorem dX11_judge_73 : decode prog_1_method_46_code 73 = .ok (.if_icmp .gt 50, 3) := by decide +kernel
theorem dX11_judge_76 : decode prog_1_method_46_code 76 = .ok (.iload_n 3, 1) := by decide +kernel
theorem dX11_judge_77 : decode prog_1_method_46_code 77 = .ok (.iload 6, 2) := by decide +kernel
theorem dX11_judge_79 : decode prog_1_method_46_code 79 = .ok (.iadd, 1) := by decide +kernel
theorem dX11_judge_80 : decode prog_1_method_46_code 80 = .ok (.iload 4, 2) := by decide +kernel
theorem dX11_judge_82 : decode prog_1_method_46_code 82 = .ok (.if_icmp .lt 9, 3) := by decide +kernel
theorem dX11_judge_85 : decode prog_1_method_46_code 85 = .ok (.bipush 100, 2) := by decide +kernel
theorem dX11_judge_87 : decode prog_1_method_46_code 87 = .ok (.iload 6, 2) := by decide +kernel
theorem dX11_judge_89 : decode prog_1_method_46_code 89 = .ok (.iadd, 1) := by decide +kernel
theorem dX11_judge_90 : decode prog_1_method_46_code 90 = .ok (.ireturn, 1) := by decide +kernel
theorem dX11_judge_91 : decode prog_1_method_46_code 91 = .ok (.aload_n 0, 1) := by decide +kernel
theorem dX11_judge_92 : decode prog_1_method_46_code 92 = .ok (.getfield 74, 3) := by decide +kernel
theorem dX11_judge_95 : decode prog_1_method_46_code 95 = .ok (.iload_n 2, 1) := by decide +kernel
theorem dX11_judge_96 : decode prog_1_method_46_code 96 = .ok (.aaload, 1) := by decide +kernel
theorem dX11_judge_97 : decode prog_1_method_46_code 97 = .ok (.iload_n 3, 1) := by decide +kernel
theorem dX11_judge_98 : decode prog_1_method_46_code 98 = .ok (.iload 6, 2) := by decide +kernel
theorem dX11_judge_100 : decode prog_1_method_46_code 100 = .ok (.iadd, 1) := by decide +kernel
theorem dX11_judge_101 : decode prog_1_method_46_code 101 = .ok (.laload, 1) := by decide +kernel
theorem dX11_judge_102 : decode prog_1_method_46_code 102 = .ok (.aload 5, 2) := by decide +kernel
theorem dX11_judge_104 : decode prog_1_method_46_code 104 = .ok (.iload 6, 2) := by decide +kernel
theorem dX11_judge_106 : decode prog_1_method_46_code 106 = .ok (.daload, 1) := by decide +kernel
theorem dX11_judge_107 : decode prog_1_method_46_code 107 = .ok (.invokestatic 148, 3) := by decide +kernel
theorem dX11_judge_110 : decode prog_1_method_46_code 110 = .ok (.lcmp, 1) := by decide +kernel
theorem dX11_judge_111 : decode prog_1_method_46_code 111 = .ok (.ifCond .eq 6, 3) := by decide +kernel
theorem dX11_judge_114 : decode prog_1_method_46_code 114 = .ok (.iload 6, 2) := by decide +kernel
theorem dX11_judge_116 : decode prog_1_method_46_code 116 = .ok (.ireturn, 1) := by decide +kernel
theorem dX11_judge_117 : decode prog_1_method_46_code 117 = .ok (.iinc 6 1, 3) := by decide +kernel
theorem dX11_judge_120 : decode prog_1_method_46_code 120 = .ok (.goto (-58), 3) := by decide +kernel
theorem dX11_judge_123 : decode prog_1_method_46_code 123 = .ok (.bipush (-5), 2) := by decide +kernel
theorem dX11_judge_125 : decode prog_1_method_46_code 125 = .ok (.ireturn, 1) := by decide +kernel
def m_X11_judge_L62 (N : Nat)  : Nat → Nat → Int32 → Int32 → Int32 → Nat → Int32 → mM → Option (Int32 × mM)
  | 0, _, _, _, _, _, _, _ => none
  | n + 1, a0, i2, i3, i4, a5, i6, M =>
    (fR M a0 11 0).bind fun x1 =>
    (fR M x1 5 2).bind fun x3 =>
    (aI 0 M x3 0).bind fun x5 =>
    if x5 < i6 then (
      some ((-5), M)) else (
      if (i3 + i6) < i4 then (
        (fR M a0 11 10).bind fun x7 =>
        (aR 9 M x7 i2).bind fun x9 =>
        (aL M x9 (i3 + i6)).bind fun x11 =>
        (aD M a5 i6).bind fun x13 =>
        (m_X9_bitsOfDouble N x13).bind fun x15 =>
        if (lg_cmp x11 x15) = 0 then (
          (m_X11_judge_L62 N  n) a0 i2 i3 i4 a5 (i6 + 1) M) else (
          some (i6, M))) else (
        some (100 + i6, M)))
set_option maxHeartbeats 4000000 in
set_option maxRecDepth 100000 in
theorem t_X11_judge_L62 {X : mX} {L0 : Launch} {res : Int32 × mM} {N : Nat} (C : CX X RX11 "judge" prog_1_method_46_code 7 (some .int)) (E : EX X L0 3 76 0 0 (some (.int res.1)) res.2)   : ∀ (n : Nat) (a0 : Nat) (i2 : Int32) (i3 : Int32) (i4 : Int32) (a5 : Nat) (i6 : Int32) (M : mM), m_X11_judge_L62 N  n a0 i2 i3 i4 a5 i6 M = some res → EV X 7 62 [(0, .ref a0), (2, .int i2), (3, .int i3), (4, .int i4), (5, .ref a5), (6, .int i6)] [] 0 0 M := by
  intro n
  induction n with
  | zero => intro a0 i2 i3 i4 a5 i6 M hf; cases (show (none : Option (Int32 × mM)) = some res from hf)
  | succ n ih =>
    intro a0 i2 i3 i4 a5 i6 M hf
    rw [m_X11_judge_L62] at hf
    refine ev_iload C dX11_judge_62 (q := 5) rfl ?_
    refine ev_aload_n C dX11_judge_64 rfl (q := 0) rfl ?_
    obtain ⟨x1, e2, hf⟩ := obnd hf
    refine ev_get (k := 0) C ok_11 dX11_judge_65 (by decide) kw_392 (fR_V e2) ?_
    obtain ⟨x3, e4, hf⟩ := obnd hf
    refine ev_get (k := 2) C ok_5 dX11_judge_68 (by decide) kw_190 (fR_V e4) ?_
    refine ev_iconst (v := 0) C dX11_judge_71 (by decide) ?_
    obtain ⟨x5, e6, hf⟩ := obnd hf
    refine ev_iald C dX11_judge_72 e6 ?_
    refine ev_icmp_gt (tgt := 123) C dX11_judge_73 (by decide) (fun hc => ?_) (fun hc => ?_)
    · have hf := oit hf hc
      refine ev_bipush (v := (-5)) C dX11_judge_123 (by decide) ?_
      obtain rfl := Option.some.inj hf
      exact ev_iret C E (Nat.le_refl 0) (Nat.le_refl 0) dX11_judge_125
    · have hf := oie hf hc
      refine ev_iload_n C dX11_judge_76 rfl (q := 2) rfl ?_
      refine ev_iload C dX11_judge_77 (q := 5) rfl ?_
      refine ev_iadd C dX11_judge_79 ?_
      refine ev_iload C dX11_judge_80 (q := 3) rfl ?_
      refine ev_icmp_lt (tgt := 91) C dX11_judge_82 (by decide) (fun hc => ?_) (fun hc => ?_)
      · have hf := oit hf hc
        refine ev_aload_n C dX11_judge_91 rfl (q := 0) rfl ?_
        obtain ⟨x7, e8, hf⟩ := obnd hf
        refine ev_get (k := 10) C ok_11 dX11_judge_92 (by decide) kw_402 (fR_V e8) ?_
        refine ev_iload_n C dX11_judge_95 rfl (q := 1) rfl ?_
        obtain ⟨x9, e10, hf⟩ := obnd hf
        refine ev_aldr C (t := 9) rfl rfl dX11_judge_96 e10 ?_
        refine ev_iload_n C dX11_judge_97 rfl (q := 2) rfl ?_
        refine ev_iload C dX11_judge_98 (q := 5) rfl ?_
        refine ev_iadd C dX11_judge_100 ?_
        obtain ⟨x11, e12, hf⟩ := obnd hf
        refine ev_lald C dX11_judge_101 e12 ?_
        refine ev_aload C dX11_judge_102 (q := 4) rfl ?_
        refine ev_iload C dX11_judge_104 (q := 5) rfl ?_
        obtain ⟨x13, e14, hf⟩ := obnd hf
        refine ev_dald C dX11_judge_106 e14 ?_
        obtain ⟨x15, e16, hf⟩ := obnd hf
        refine ev_callS0 (As := [.double x13]) (st := [.long x11]) C (t_X9_bitsOfDouble e16) hd_X9_bitsOfDouble rfl kw_486 kw_487 kw_77 kw_488 (mRoom.of E (Nat.le_of_ble_eq_true rfl) (Nat.le_of_ble_eq_true rfl) (Nat.le_refl 0) (Nat.le_refl 0)) (Nat.le_of_ble_eq_true rfl) dX11_judge_107 ?_
        refine ev_lcmp C dX11_judge_110 ?_
        refine ev_if_eq (tgt := 117) C dX11_judge_111 (by decide) (fun hc => ?_) (fun hc => ?_)
        · have hf := oit hf hc
          refine ev_iinc (v := i6 + 1) (l' := [(6, .int (i6 + 1)), (0, .ref a0), (2, .int i2), (3, .int i3), (4, .int i4), (5, .ref a5)]) C dX11_judge_117 (q := 5) rfl rfl (by decide) rfl ?_
          refine ev_goto (tgt := 62) C dX11_judge_120 (by decide) ?_
          refine ev_sub [1, 2, 3, 4, 5, 0] rfl ?_
          exact ih a0 i2 i3 i4 a5 (i6 + 1) M hf
        · have hf := oie hf hc
          refine ev_iload C dX11_judge_114 (q := 5) rfl ?_
          obtain rfl := Option.some.inj hf
          exact ev_iret C E (Nat.le_refl 0) (Nat.le_refl 0) dX11_judge_116
      · have hf := oie hf hc
        refine ev_bipush (v := 100) C dX11_judge_85 (by decide) ?_
        refine ev_iload C dX11_judge_87 (q := 5) rfl ?_
        refine ev_iadd C dX11_judge_89 ?_
        obtain rfl := Option.some.inj hf
        exact ev_iret C E (Nat.le_refl 0) (Nat.le_refl 0) dX11_judge_90
def m_X11_judge (N : Nat) (a0 : Nat) (i1 : Int32) (i2 : Int32) (i3 : Int32) (M : mM) : Option (Int32 × mM) :=
  (m_X11_within i1 20).bind fun x1 =>
  if x1 = 0 then (
    some ((-1), M)) else (
    (m_X11_within i2 3).bind fun x3 =>
    if x3 = 0 then (
      some ((-1), M)) else (
      (fR M a0 11 11).bind fun x5 =>
      (aI 0 M x5 i2).bind fun x7 =>
      if x7 = (-11) then (
        some ((-11), M)) else (
        (m_X11_within i3 x7).bind fun x9 =>
        if x9 = 0 then (
          some ((-12), M)) else (
          (fR M a0 11 3).bind fun x11 =>
          (oO M x11 10).bind fun _ =>
          (m_X10_row N x11 i1 M).bind fun x15 =>
          m_X11_judge_L62 N  N a0 i2 i3 x7 x15.1 0 x15.2))))
set_option maxHeartbeats 4000000 in
set_option maxRecDepth 100000 in
theorem t_X11_judge {L0 : Launch} {M : mM} {N : Nat} {a0 : Nat} {i1 : Int32} {i2 : Int32} {i3 : Int32} {res : Int32 × mM} (hf : m_X11_judge N a0 i1 i2 i3 M = some res) : CT L0 yX11_judge prog_1_method_46_code 7 (some .int) 3 76 0 0 [.ref a0, .int i1, .int i2, .int i3] M (some (.int res.1)) res.2 := by
  refine CT.of (by decide +kernel) (Nat.le_of_ble_eq_true rfl) fun X C E => ?_
  have C : CX X RX11 "judge" prog_1_method_46_code 7 (some .int) := C
  show EV X 7 0 [(0, .ref a0), (1, .int i1), (2, .int i2), (3, .int i3)] [] 0 0 M
  unfold m_X11_judge at hf
  refine ev_iload_n C dX11_judge_0 rfl (q := 1) rfl ?_
  refine ev_bipush (v := 20) C dX11_judge_1 (by decide) ?_
  obtain ⟨x1, e2, hf⟩ := obnd hf
  refine ev_callS0 (As := [.int i1, .int 20]) (st := []) C (t_X11_within e2) hd_X11_within rfl kw_435 kw_436 kw_70 kw_437 (mRoom.of E (Nat.le_of_ble_eq_true rfl) (Nat.le_of_ble_eq_true rfl) (Nat.le_refl 0) (Nat.le_refl 0)) (Nat.le_of_ble_eq_true rfl) dX11_judge_3 ?_
  refine ev_if_eq (tgt := 17) C dX11_judge_6 (by decide) (fun hc => ?_) (fun hc => ?_)
  · have hf := oit hf hc
    refine ev_iconst (v := (-1)) C dX11_judge_17 (by decide) ?_
    obtain rfl := Option.some.inj hf
    exact ev_iret C E (Nat.le_refl 0) (Nat.le_refl 0) dX11_judge_18
  · have hf := oie hf hc
    refine ev_iload_n C dX11_judge_9 rfl (q := 2) rfl ?_
    refine ev_iconst (v := 3) C dX11_judge_10 (by decide) ?_
    obtain ⟨x3, e4, hf⟩ := obnd hf
    refine ev_callS0 (As := [.int i2, .int 3]) (st := []) C (t_X11_within e4) hd_X11_within rfl kw_435 kw_436 kw_70 kw_437 (mRoom.of E (Nat.le_of_ble_eq_true rfl) (Nat.le_of_ble_eq_true rfl) (Nat.le_refl 0) (Nat.le_refl 0)) (Nat.le_of_ble_eq_true rfl) dX11_judge_11 ?_
    refine ev_if_ne (tgt := 19) C dX11_judge_14 (by decide) (fun hc => ?_) (fun hc => ?_)
    · have hf := oie hf hc
      refine ev_aload_n C dX11_judge_19 rfl (q := 0) rfl ?_
      obtain ⟨x5, e6, hf⟩ := obnd hf
      refine ev_get (k := 11) C ok_11 dX11_judge_20 (by decide) kw_403 (fR_V e6) ?_
      refine ev_iload_n C dX11_judge_23 rfl (q := 2) rfl ?_
      obtain ⟨x7, e8, hf⟩ := obnd hf
      refine ev_iald C dX11_judge_24 e8 ?_
      refine ev_istore (l' := [(4, .int x7), (0, .ref a0), (1, .int i1), (2, .int i2), (3, .int i3)]) C dX11_judge_25 (by decide) rfl ?_
      refine ev_iload C dX11_judge_27 (q := 0) rfl ?_
      refine ev_bipush (v := (-11)) C dX11_judge_29 (by decide) ?_
      refine ev_icmp_ne (tgt := 37) C dX11_judge_31 (by decide) (fun hc => ?_) (fun hc => ?_)
      · have hf := oie hf hc
        refine ev_iload_n C dX11_judge_37 rfl (q := 4) rfl ?_
        refine ev_iload C dX11_judge_38 (q := 0) rfl ?_
        obtain ⟨x9, e10, hf⟩ := obnd hf
        refine ev_callS0 (As := [.int i3, .int x7]) (st := []) C (t_X11_within e10) hd_X11_within rfl kw_435 kw_436 kw_70 kw_437 (mRoom.of E (Nat.le_of_ble_eq_true rfl) (Nat.le_of_ble_eq_true rfl) (Nat.le_refl 0) (Nat.le_refl 0)) (Nat.le_of_ble_eq_true rfl) dX11_judge_40 ?_
        refine ev_if_ne (tgt := 49) C dX11_judge_43 (by decide) (fun hc => ?_) (fun hc => ?_)
        · have hf := oie hf hc
          refine ev_aload_n C dX11_judge_49 rfl (q := 1) rfl ?_
          obtain ⟨x11, e12, hf⟩ := obnd hf
          refine ev_get (k := 3) C ok_11 dX11_judge_50 (by decide) kw_395 (fR_V e12) ?_
          refine ev_iload_n C dX11_judge_53 rfl (q := 2) rfl ?_
          obtain ⟨_, e13, hf⟩ := obnd hf
          obtain ⟨fs14, e13⟩ := oO_eq e13
          obtain ⟨x15, e16, hf⟩ := obnd hf
          refine ev_callV0 (As := [.int i1]) (st := []) C rfl e13 (t_X10_row e16) rfl hd_X10_row rfl kw_511 kw_512 kw_76 kw_513 kw_514 (mRoom.of E (Nat.le_of_ble_eq_true rfl) (Nat.le_of_ble_eq_true rfl) (Nat.le_refl 0) (Nat.le_refl 0)) (Nat.le_of_ble_eq_true rfl) dX11_judge_54 ?_
          refine ev_astore (l' := [(5, .ref x15.1), (4, .int x7), (0, .ref a0), (1, .int i1), (2, .int i2), (3, .int i3)]) C dX11_judge_57 (by decide) rfl ?_
          refine ev_iconst (v := 0) C dX11_judge_59 (by decide) ?_
          refine ev_istore (l' := [(6, .int 0), (5, .ref x15.1), (4, .int x7), (0, .ref a0), (1, .int i1), (2, .int i2), (3, .int i3)]) C dX11_judge_60 (by decide) rfl ?_
          refine ev_sub [3, 5, 6, 2, 1, 0] rfl ?_
          exact t_X11_judge_L62 C E   N a0 i2 i3 x7 x15.1 0 x15.2 hf
        · have hf := oit hf hc
          refine ev_bipush (v := (-12)) C dX11_judge_46 (by decide) ?_
          obtain rfl := Option.some.inj hf
          exact ev_iret C E (Nat.le_refl 0) (Nat.le_refl 0) dX11_judge_48
      · have hf := oit hf hc
        refine ev_bipush (v := (-11)) C dX11_judge_34 (by decide) ?_
        obtain rfl := Option.some.inj hf
        exact ev_iret C E (Nat.le_refl 0) (Nat.le_refl 0) dX11_judge_36
    · have hf := oit hf hc
      refine ev_iconst (v := (-1)) C dX11_judge_17 (by decide) ?_
      obtain rfl := Option.some.inj hf
      exact ev_iret C E (Nat.le_refl 0) (Nat.le_refl 0) dX11_judge_18
/-! FareLimits$Plan greatestPrice()I -/
theorem dX5_greatestPrice_0 : decode prog_7_method_6_code 0 = .ok (.iconst 0, 1) := by decide +kernel
theorem dX5_greatestPrice_1 : decode prog_7_method_6_code 1 = .ok (.istore_n 1, 1) := by decide +kernel
theorem dX5_greatestPrice_2 : decode prog_7_method_6_code 2 = .ok (.iconst 0, 1) := by decide +kernel
theorem dX5_greatestPrice_3 : decode prog_7_method_6_code 3 = .ok (.istore_n 2, 1) := by decide +kernel
theorem dX5_greatestPrice_4 : decode prog_7_method_6_code 4 = .ok (.iload_n 2, 1) := by decide +kernel
theorem dX5_greatestPrice_5 : decode prog_7_method_6_code 5 = .ok (.aload_n 0, 1) := by decide +kernel
theorem dX5_greatestPrice_6 : decode prog_7_method_6_code 6 = .ok (.getfield 37, 3) := by decide +kernel
theorem dX5_greatestPrice_9 : decode prog_7_method_6_code 9 = .ok (.if_icmp .ge 23, 3) := by decide +kernel
theorem dX5_greatestPrice_12 : decode prog_7_method_6_code 12 = .ok (.iload_n 1, 1) := by decide +kernel
theorem dX5_greatestPrice_13 : decode prog_7_method_6_code 13 = .ok (.aload_n 0, 1) := by decide +kernel
theorem dX5_greatestPrice_14 : decode prog_7_method_6_code 14 = .ok (.getfield 11, 3) := by decide +kernel
theorem dX5_greatestPrice_17 : decode prog_7_method_6_code 17 = .ok (.iload_n 2, 1) := by decide +kernel
theorem dX5_greatestPrice_18 : decode prog_7_method_6_code 18 = .ok (.aaload, 1) := by decide +kernel
theorem dX5_greatestPrice_19 : decode prog_7_method_6_code 19 = .ok (.getfield 52, 3) := by decide +kernel
theorem dX5_greatestPrice_22 : decode prog_7_method_6_code 22 = .ok (.invokestatic 55, 3) := by decide +kernel
theorem dX5_greatestPrice_25 : decode prog_7_method_6_code 25 = .ok (.istore_n 1, 1) := by decide +kernel
theorem dX5_greatestPrice_26 : decode prog_7_method_6_code 26 = .ok (.iinc 2 1, 3) := by decide +kernel
theorem dX5_greatestPrice_29 : decode prog_7_method_6_code 29 = .ok (.goto (-25), 3) := by decide +kernel
theorem dX5_greatestPrice_32 : decode prog_7_method_6_code 32 = .ok (.iload_n 1, 1) := by decide +kernel
theorem dX5_greatestPrice_33 : decode prog_7_method_6_code 33 = .ok (.ireturn, 1) := by decide +kernel
def m_X5_greatestPrice_L4 (N : Nat) (M : mM)  : Nat → Nat → Int32 → Int32 → Option (Int32)
  | 0, _, _, _ => none
  | n + 1, a0, i1, i2 =>
    (fI M a0 5 1).bind fun x1 =>
    if x1 ≤ i2 then (
      some i1) else (
      (fR M a0 5 0).bind fun x3 =>
      (aR 5 M x3 i2).bind fun x5 =>
      (fI M x5 3 1).bind fun x7 =>
      (m_X5_greatestPrice_L4 N M  n) a0 (iMax i1 x7) (i2 + 1))
set_option maxHeartbeats 4000000 in
set_option maxRecDepth 100000 in
theorem t_X5_greatestPrice_L4 {X : mX} {M : mM} {L0 : Launch} {res : Int32} {N : Nat} (C : CX X RX5 "greatestPrice" prog_7_method_6_code 3 (some .int)) (E : EX X L0 1 40 0 0 (some (.int res)) M)   : ∀ (n : Nat) (a0 : Nat) (i1 : Int32) (i2 : Int32), m_X5_greatestPrice_L4 N M  n a0 i1 i2 = some res → EV X 3 4 [(0, .ref a0), (1, .int i1), (2, .int i2)] [] 0 0 M := by
  intro n
  induction n with
  | zero => intro a0 i1 i2 hf; cases (show (none : Option (Int32)) = some res from hf)
  | succ n ih =>
    intro a0 i1 i2 hf
    rw [m_X5_greatestPrice_L4] at hf
    refine ev_iload_n C dX5_greatestPrice_4 rfl (q := 2) rfl ?_
    refine ev_aload_n C dX5_greatestPrice_5 rfl (q := 0) rfl ?_
    obtain ⟨x1, e2, hf⟩ := obnd hf
    refine ev_get (k := 1) C ok_5 dX5_greatestPrice_6 (by decide) kw_182 (fI_V e2) ?_
    refine ev_icmp_ge (tgt := 32) C dX5_greatestPrice_9 (by decide) (fun hc => ?_) (fun hc => ?_)
    · have hf := oit hf hc
      refine ev_iload_n C dX5_greatestPrice_32 rfl (q := 1) rfl ?_
      obtain rfl := Option.some.inj hf
      exact ev_iret C E (Nat.le_refl 0) (Nat.le_refl 0) dX5_greatestPrice_33
    · have hf := oie hf hc
      refine ev_iload_n C dX5_greatestPrice_12 rfl (q := 1) rfl ?_
      refine ev_aload_n C dX5_greatestPrice_13 rfl (q := 0) rfl ?_
      obtain ⟨x3, e4, hf⟩ := obnd hf
      refine ev_get (k := 0) C ok_5 dX5_greatestPrice_14 (by decide) kw_176 (fR_V e4) ?_
      refine ev_iload_n C dX5_greatestPrice_17 rfl (q := 2) rfl ?_
      obtain ⟨x5, e6, hf⟩ := obnd hf
      refine ev_aldr C (t := 5) rfl rfl dX5_greatestPrice_18 e6 ?_
      obtain ⟨x7, e8, hf⟩ := obnd hf
      refine ev_get (k := 1) C ok_3 dX5_greatestPrice_19 (by decide) kw_154 (fI_V e8) ?_
      refine ev_mmax C kw_1129 kw_530 kw_90 kw_531 (mfr E (by decide)) (mlo E (by decide)) (Nat.zero_le _) (Nat.zero_le _) (Nat.le_of_ble_eq_true rfl) dX5_greatestPrice_22 ?_
      refine ev_istore_n (l' := [(1, .int (iMax i1 x7)), (0, .ref a0), (2, .int i2)]) C dX5_greatestPrice_25 rfl (by decide) rfl ?_
      refine ev_iinc (v := i2 + 1) (l' := [(2, .int (i2 + 1)), (1, .int (iMax i1 x7)), (0, .ref a0)]) C dX5_greatestPrice_26 (q := 2) rfl rfl (by decide) rfl ?_
      refine ev_goto (tgt := 4) C dX5_greatestPrice_29 (by decide) ?_
      refine ev_sub [2, 1, 0] rfl ?_
      exact ih a0 (iMax i1 x7) (i2 + 1) hf
def m_X5_greatestPrice (N : Nat) (a0 : Nat) (M : mM) : Option (Int32) :=
  m_X5_greatestPrice_L4 N M  N a0 0 0
set_option maxHeartbeats 4000000 in
set_option maxRecDepth 100000 in
theorem t_X5_greatestPrice {L0 : Launch} {M : mM} {N : Nat} {a0 : Nat} {res : Int32} (hf : m_X5_greatestPrice N a0 M = some res) : CT L0 yX5_greatestPrice prog_7_method_6_code 3 (some .int) 1 40 0 0 [.ref a0] M (some (.int res)) M := by
  refine CT.of (by decide +kernel) (Nat.le_of_ble_eq_true rfl) fun X C E => ?_
  have C : CX X RX5 "greatestPrice" prog_7_method_6_code 3 (some .int) := C
  show EV X 3 0 [(0, .ref a0)] [] 0 0 M
  unfold m_X5_greatestPrice at hf
  refine ev_iconst (v := 0) C dX5_greatestPrice_0 (by decide) ?_
  refine ev_istore_n (l' := [(1, .int 0), (0, .ref a0)]) C dX5_greatestPrice_1 rfl (by decide) rfl ?_
  refine ev_iconst (v := 0) C dX5_greatestPrice_2 (by decide) ?_
  refine ev_istore_n (l' := [(2, .int 0), (1, .int 0), (0, .ref a0)]) C dX5_greatestPrice_3 rfl (by decide) rfl ?_
  refine ev_sub [2, 1, 0] rfl ?_
  exact t_X5_greatestPrice_L4 C E   N a0 0 0 hf
/-! FareLimits$Plan unlikePrices()I -/
theorem dX5_unlikePrices_0 : decode prog_7_method_5_code 0 = .ok (.iconst 0, 1) := by decide +kernel
theorem dX5_unlikePrices_1 : decode prog_7_method_5_code 1 = .ok (.istore_n 1, 1) := by decide +kernel
theorem dX5_unlikePrices_2 : decode prog_7_method_5_code 2 = .ok (.iconst 0, 1) := by decide +kernel
theorem dX5_unlikePrices_3 : decode prog_7_method_5_code 3 = .ok (.istore_n 2, 1) := by decide +kernel
theorem dX5_unlikePrices_4 : decode prog_7_method_5_code 4 = .ok (.iload_n 2, 1) := by decide +kernel
theorem dX5_unlikePrices_5 : decode prog_7_method_5_code 5 = .ok (.aload_n 0, 1) := by decide +kernel
theorem dX5_unlikePrices_6 : decode prog_7_method_5_code 6 = .ok (.getfield 37, 3) := by decide +kernel
theorem dX5_unlikePrices_9 : decode prog_7_method_5_code 9 = .ok (.if_icmp .ge 70, 3) := by decide +kernel
theorem dX5_unlikePrices_12 : decode prog_7_method_5_code 12 = .ok (.iconst 1, 1) := by decide +kernel
theorem dX5_unlikePrices_13 : decode prog_7_method_5_code 13 = .ok (.istore_n 3, 1) := by decide +kernel
theorem dX5_unlikePrices_14 : decode prog_7_method_5_code 14 = .ok (.iconst 0, 1) := by decide +kernel
theorem dX5_unlikePrices_15 : decode prog_7_method_5_code 15 = .ok (.istore 4, 2) := by decide +kernel
theorem dX5_unlikePrices_17 : decode prog_7_method_5_code 17 = .ok (.iload 4, 2) := by decide +kernel
theorem dX5_unlikePrices_19 : decode prog_7_method_5_code 19 = .ok (.iload_n 2, 1) := by decide +kernel
theorem dX5_unlikePrices_20 : decode prog_7_method_5_code 20 = .ok (.if_icmp .ge 41, 3) := by decide +kernel
theorem dX5_unlikePrices_23 : decode prog_7_method_5_code 23 = .ok (.iload_n 3, 1) := by decide +kernel
theorem dX5_unlikePrices_24 : decode prog_7_method_5_code 24 = .ok (.ifCond .eq 29, 3) := by decide +kernel
theorem dX5_unlikePrices_27 : decode prog_7_method_5_code 27 = .ok (.aload_n 0, 1) := by decide +kernel
theorem dX5_unlikePrices_28 : decode prog_7_method_5_code 28 = .ok (.getfield 11, 3) := by decide +kernel
theorem dX5_unlikePrices_31 : decode prog_7_method_5_code 31 = .ok (.iload 4, 2) := by decide +kernel
theorem dX5_unlikePrices_33 : decode prog_7_method_5_code 33 = .ok (.aaload, 1) := by decide +kernel
theorem dX5_unlikePrices_34 : decode prog_7_method_5_code 34 = .ok (.getfield 52, 3) := by decide +kernel
theorem dX5_unlikePrices_37 : decode prog_7_method_5_code 37 = .ok (.aload_n 0, 1) := by decide +kernel
theorem dX5_unlikePrices_38 : decode prog_7_method_5_code 38 = .ok (.getfield 11, 3) := by decide +kernel
theorem dX5_unlikePrices_41 : decode prog_7_method_5_code 41 = .ok (.iload_n 2, 1) := by decide +kernel
theorem dX5_unlikePrices_42 : decode prog_7_method_5_code 42 = .ok (.aaload, 1) := by decide +kernel
theorem dX5_unlikePrices_43 : decode prog_7_method_5_code 43 = .ok (.getfield 52, 3) := by decide +kernel
theorem dX5_unlikePrices_46 : decode prog_7_method_5_code 46 = .ok (.if_icmp .eq 7, 3) := by decide +kernel
theorem dX5_unlikePrices_49 : decode prog_7_method_5_code 49 = .ok (.iconst 1, 1) := by decide +kernel
theorem dX5_unlikePrices_50 : decode prog_7_method_5_code 50 = .ok (.goto 4, 3) := by decide +kernel
theorem dX5_unlikePrices_53 : decode prog_7_method_5_code 53 = .ok (.iconst 0, 1) := by decide +kernel
theorem dX5_unlikePrices_54 : decode prog_7_method_5_code 54 = .ok (.istore_n 3, 1) := by decide +kernel
theorem dX5_unlikePrices_55 : decode prog_7_method_5_code 55 = .ok (.iinc 4 1, 3) := by decide +kernel
theorem dX5_unlikePrices_58 : decode prog_7_method_5_code 58 = .ok (.goto (-41), 3) := by decide +kernel
theorem dX5_unlikePrices_61 : decode prog_7_method_5_code 61 = .ok (.iload_n 1, 1) := by decide +kernel
theorem dX5_unlikePrices_62 : decode prog_7_method_5_code 62 = .ok (.iload_n 3, 1) := by decide +kernel
theorem dX5_unlikePrices_63 : decode prog_7_method_5_code 63 = .ok (.ifCond .eq 7, 3) := by decide +kernel
theorem dX5_unlikePrices_66 : decode prog_7_method_5_code 66 = .ok (.iconst 1, 1) := by decide +kernel
theorem dX5_unlikePrices_67 : decode prog_7_method_5_code 67 = .ok (.goto 4, 3) := by decide +kernel
theorem dX5_unlikePrices_70 : decode prog_7_method_5_code 70 = .ok (.iconst 0, 1) := by decide +kernel
theorem dX5_unlikePrices_71 : decode prog_7_method_5_code 71 = .ok (.iadd, 1) := by decide +kernel
theorem dX5_unlikePrices_72 : decode prog_7_method_5_code 72 = .ok (.istore_n 1, 1) := by decide +kernel
theorem dX5_unlikePrices_73 : decode prog_7_method_5_code 73 = .ok (.iinc 2 1, 3) := by decide +kernel
theorem dX5_unlikePrices_76 : decode prog_7_method_5_code 76 = .ok (.goto (-72), 3) := by decide +kernel
theorem dX5_unlikePrices_79 : decode prog_7_method_5_code 79 = .ok (.iload_n 1, 1) := by decide +kernel
theorem dX5_unlikePrices_80 : decode prog_7_method_5_code 80 = .ok (.ireturn, 1) := by decide +kernel
def m_X5_unlikePrices_J71 (N : Nat) (M : mM) (k4 : Nat → Int32 → Int32 → Option (Int32)) (a0 : Nat) (i2 : Int32) (si0 : Int32) (si1 : Int32) : Option (Int32) :=
  k4 a0 (si0 + si1) (i2 + 1)
set_option maxHeartbeats 4000000 in
set_option maxRecDepth 100000 in
theorem t_X5_unlikePrices_J71 {X : mX} {M : mM} {L0 : Launch} {res : Int32} {N : Nat} (C : CX X RX5 "unlikePrices" prog_7_method_5_code 5 (some .int)) (E : EX X L0 0 0 0 0 (some (.int res)) M) (k4 : Nat → Int32 → Int32 → Option (Int32)) (Hk4 : ∀ (a0 : Nat) (i1 : Int32) (i2 : Int32), k4 a0 i1 i2 = some res → EV X 5 4 [(0, .ref a0), (1, .int i1), (2, .int i2)] [] 0 0 M) (a0 : Nat) (i2 : Int32) (si0 : Int32) (si1 : Int32) (hf : m_X5_unlikePrices_J71 N M k4 a0 i2 si0 si1 = some res) : EV X 5 71 [(0, .ref a0), (2, .int i2)] [.int si1, .int si0] 0 0 M := by
  unfold m_X5_unlikePrices_J71 at hf
  refine ev_iadd C dX5_unlikePrices_71 ?_
  refine ev_istore_n (l' := [(1, .int (si0 + si1)), (0, .ref a0), (2, .int i2)]) C dX5_unlikePrices_72 rfl (by decide) rfl ?_
  refine ev_iinc (v := i2 + 1) (l' := [(2, .int (i2 + 1)), (1, .int (si0 + si1)), (0, .ref a0)]) C dX5_unlikePrices_73 (q := 2) rfl rfl (by decide) rfl ?_
  refine ev_goto (tgt := 4) C dX5_unlikePrices_76 (by decide) ?_
  refine ev_sub [2, 1, 0] rfl ?_
  exact Hk4 a0 (si0 + si1) (i2 + 1) hf
def m_X5_unlikePrices_J54 (N : Nat) (M : mM) (k17 : Nat → Int32 → Int32 → Int32 → Int32 → Option (Int32)) (a0 : Nat) (i1 : Int32) (i2 : Int32) (i4 : Int32) (si0 : Int32) : Option (Int32) :=
  k17 a0 i1 i2 si0 (i4 + 1)
set_option maxHeartbeats 4000000 in
set_option maxRecDepth 100000 in
theorem t_X5_unlikePrices_J54 {X : mX} {M : mM} {L0 : Launch} {res : Int32} {N : Nat} (C : CX X RX5 "unlikePrices" prog_7_method_5_code 5 (some .int)) (E : EX X L0 0 0 0 0 (some (.int res)) M) (k17 : Nat → Int32 → Int32 → Int32 → Int32 → Option (Int32)) (Hk17 : ∀ (a0 : Nat) (i1 : Int32) (i2 : Int32) (i3 : Int32) (i4 : Int32), k17 a0 i1 i2 i3 i4 = some res → EV X 5 17 [(0, .ref a0), (1, .int i1), (2, .int i2), (3, .int i3), (4, .int i4)] [] 0 0 M) (a0 : Nat) (i1 : Int32) (i2 : Int32) (i4 : Int32) (si0 : Int32) (hf : m_X5_unlikePrices_J54 N M k17 a0 i1 i2 i4 si0 = some res) : EV X 5 54 [(0, .ref a0), (1, .int i1), (2, .int i2), (4, .int i4)] [.int si0] 0 0 M := by
  unfold m_X5_unlikePrices_J54 at hf
  refine ev_istore_n (l' := [(3, .int si0), (0, .ref a0), (1, .int i1), (2, .int i2), (4, .int i4)]) C dX5_unlikePrices_54 rfl (by decide) rfl ?_
  refine ev_iinc (v := i4 + 1) (l' := [(4, .int (i4 + 1)), (3, .int si0), (0, .ref a0), (1, .int i1), (2, .int i2)]) C dX5_unlikePrices_55 (q := 4) rfl rfl (by decide) rfl ?_
  refine ev_goto (tgt := 17) C dX5_unlikePrices_58 (by decide) ?_
  refine ev_sub [2, 3, 4, 1, 0] rfl ?_
  exact Hk17 a0 i1 i2 si0 (i4 + 1) hf
def m_X5_unlikePrices_J53 (N : Nat) (M : mM) (k17 : Nat → Int32 → Int32 → Int32 → Int32 → Option (Int32)) (a0 : Nat) (i1 : Int32) (i2 : Int32) (i4 : Int32) : Option (Int32) :=
  m_X5_unlikePrices_J54 N M k17 a0 i1 i2 i4 0
set_option maxHeartbeats 4000000 in
set_option maxRecDepth 100000 in
theorem t_X5_unlikePrices_J53 {X : mX} {M : mM} {L0 : Launch} {res : Int32} {N : Nat} (C : CX X RX5 "unlikePrices" prog_7_method_5_code 5 (some .int)) (E : EX X L0 0 0 0 0 (some (.int res)) M) (k17 : Nat → Int32 → Int32 → Int32 → Int32 → Option (Int32)) (Hk17 : ∀ (a0 : Nat) (i1 : Int32) (i2 : Int32) (i3 : Int32) (i4 : Int32), k17 a0 i1 i2 i3 i4 = some res → EV X 5 17 [(0, .ref a0), (1, .int i1), (2, .int i2), (3, .int i3), (4, .int i4)] [] 0 0 M) (a0 : Nat) (i1 : Int32) (i2 : Int32) (i4 : Int32) (hf : m_X5_unlikePrices_J53 N M k17 a0 i1 i2 i4 = some res) : EV X 5 53 [(0, .ref a0), (1, .int i1), (2, .int i2), (4, .int i4)] [] 0 0 M := by
  unfold m_X5_unlikePrices_J53 at hf
  refine ev_iconst (v := 0) C dX5_unlikePrices_53 (by decide) ?_
  exact t_X5_unlikePrices_J54 C E k17 Hk17 a0 i1 i2 i4 0 hf
def m_X5_unlikePrices_L17 (N : Nat) (M : mM) (k4 : Nat → Int32 → Int32 → Option (Int32)) : Nat → Nat → Int32 → Int32 → Int32 → Int32 → Option (Int32)
  | 0, _, _, _, _, _ => none
  | n + 1, a0, i1, i2, i3, i4 =>
    if i2 ≤ i4 then (
      if i3 = 0 then (
        m_X5_unlikePrices_J71 N M k4 a0 i2 i1 0) else (
        m_X5_unlikePrices_J71 N M k4 a0 i2 i1 1)) else (
      if i3 = 0 then (
        m_X5_unlikePrices_J53 N M (m_X5_unlikePrices_L17 N M k4  n) a0 i1 i2 i4) else (
        (fR M a0 5 0).bind fun x1 =>
        (aR 5 M x1 i4).bind fun x3 =>
        (fI M x3 3 1).bind fun x5 =>
        (fR M a0 5 0).bind fun x7 =>
        (aR 5 M x7 i2).bind fun x9 =>
        (fI M x9 3 1).bind fun x11 =>
        if x5 = x11 then (
          m_X5_unlikePrices_J53 N M (m_X5_unlikePrices_L17 N M k4  n) a0 i1 i2 i4) else (
          m_X5_unlikePrices_J54 N M (m_X5_unlikePrices_L17 N M k4  n) a0 i1 i2 i4 1)))
set_option maxHeartbeats 4000000 in
set_option maxRecDepth 100000 in
theorem t_X5_unlikePrices_L17 {X : mX} {M : mM} {L0 : Launch} {res : Int32} {N : Nat} (C : CX X RX5 "unlikePrices" prog_7_method_5_code 5 (some .int)) (E : EX X L0 0 0 0 0 (some (.int res)) M) (k4 : Nat → Int32 → Int32 → Option (Int32)) (Hk4 : ∀ (a0 : Nat) (i1 : Int32) (i2 : Int32), k4 a0 i1 i2 = some res → EV X 5 4 [(0, .ref a0), (1, .int i1), (2, .int i2)] [] 0 0 M) : ∀ (n : Nat) (a0 : Nat) (i1 : Int32) (i2 : Int32) (i3 : Int32) (i4 : Int32), m_X5_unlikePrices_L17 N M k4 n a0 i1 i2 i3 i4 = some res → EV X 5 17 [(0, .ref a0), (1, .int i1), (2, .int i2), (3, .int i3), (4, .int i4)] [] 0 0 M := by
  intro n
  induction n with
  | zero => intro a0 i1 i2 i3 i4 hf; cases (show (none : Option (Int32)) = some res from hf)
  | succ n ih =>
    intro a0 i1 i2 i3 i4 hf
    rw [m_X5_unlikePrices_L17] at hf
    refine ev_iload C dX5_unlikePrices_17 (q := 4) rfl ?_
    refine ev_iload_n C dX5_unlikePrices_19 rfl (q := 2) rfl ?_
    refine ev_icmp_ge (tgt := 61) C dX5_unlikePrices_20 (by decide) (fun hc => ?_) (fun hc => ?_)
    · have hf := oit hf hc
      refine ev_iload_n C dX5_unlikePrices_61 rfl (q := 1) rfl ?_
      refine ev_iload_n C dX5_unlikePrices_62 rfl (q := 3) rfl ?_
      refine ev_if_eq (tgt := 70) C dX5_unlikePrices_63 (by decide) (fun hc => ?_) (fun hc => ?_)
      · have hf := oit hf hc
        refine ev_iconst (v := 0) C dX5_unlikePrices_70 (by decide) ?_
        refine ev_sub [0, 2] rfl ?_
        exact t_X5_unlikePrices_J71 C E k4 Hk4 a0 i2 i1 0 hf
      · have hf := oie hf hc
        refine ev_iconst (v := 1) C dX5_unlikePrices_66 (by decide) ?_
        refine ev_goto (tgt := 71) C dX5_unlikePrices_67 (by decide) ?_
        refine ev_sub [0, 2] rfl ?_
        exact t_X5_unlikePrices_J71 C E k4 Hk4 a0 i2 i1 1 hf
    · have hf := oie hf hc
      refine ev_iload_n C dX5_unlikePrices_23 rfl (q := 3) rfl ?_
      refine ev_if_eq (tgt := 53) C dX5_unlikePrices_24 (by decide) (fun hc => ?_) (fun hc => ?_)
      · have hf := oit hf hc
        refine ev_sub [0, 1, 2, 4] rfl ?_
        exact t_X5_unlikePrices_J53 C E (m_X5_unlikePrices_L17 N M k4  n) ih a0 i1 i2 i4 hf
      · have hf := oie hf hc
        refine ev_aload_n C dX5_unlikePrices_27 rfl (q := 0) rfl ?_
        obtain ⟨x1, e2, hf⟩ := obnd hf
        refine ev_get (k := 0) C ok_5 dX5_unlikePrices_28 (by decide) kw_176 (fR_V e2) ?_
        refine ev_iload C dX5_unlikePrices_31 (q := 4) rfl ?_
        obtain ⟨x3, e4, hf⟩ := obnd hf
        refine ev_aldr C (t := 5) rfl rfl dX5_unlikePrices_33 e4 ?_
        obtain ⟨x5, e6, hf⟩ := obnd hf
        refine ev_get (k := 1) C ok_3 dX5_unlikePrices_34 (by decide) kw_154 (fI_V e6) ?_
        refine ev_aload_n C dX5_unlikePrices_37 rfl (q := 0) rfl ?_
        obtain ⟨x7, e8, hf⟩ := obnd hf
        refine ev_get (k := 0) C ok_5 dX5_unlikePrices_38 (by decide) kw_176 (fR_V e8) ?_
        refine ev_iload_n C dX5_unlikePrices_41 rfl (q := 2) rfl ?_
        obtain ⟨x9, e10, hf⟩ := obnd hf
        refine ev_aldr C (t := 5) rfl rfl dX5_unlikePrices_42 e10 ?_
        obtain ⟨x11, e12, hf⟩ := obnd hf
        refine ev_get (k := 1) C ok_3 dX5_unlikePrices_43 (by decide) kw_154 (fI_V e12) ?_
        refine ev_icmp_eq (tgt := 53) C dX5_unlikePrices_46 (by decide) (fun hc => ?_) (fun hc => ?_)
        · have hf := oit hf hc
          refine ev_sub [0, 1, 2, 4] rfl ?_
          exact t_X5_unlikePrices_J53 C E (m_X5_unlikePrices_L17 N M k4  n) ih a0 i1 i2 i4 hf
        · have hf := oie hf hc
          refine ev_iconst (v := 1) C dX5_unlikePrices_49 (by decide) ?_
          refine ev_goto (tgt := 54) C dX5_unlikePrices_50 (by decide) ?_
          refine ev_sub [0, 1, 2, 4] rfl ?_
          exact t_X5_unlikePrices_J54 C E (m_X5_unlikePrices_L17 N M k4  n) ih a0 i1 i2 i4 1 hf
def m_X5_unlikePrices_L4 (N : Nat) (M : mM)  : Nat → Nat → Int32 → Int32 → Option (Int32)
  | 0, _, _, _ => none
  | n + 1, a0, i1, i2 =>
    (fI M a0 5 1).bind fun x1 =>
    if x1 ≤ i2 then (
      some i1) else (
      m_X5_unlikePrices_L17 N M (m_X5_unlikePrices_L4 N M  n) N a0 i1 i2 1 0)
set_option maxHeartbeats 4000000 in
set_option maxRecDepth 100000 in
theorem t_X5_unlikePrices_L4 {X : mX} {M : mM} {L0 : Launch} {res : Int32} {N : Nat} (C : CX X RX5 "unlikePrices" prog_7_method_5_code 5 (some .int)) (E : EX X L0 0 0 0 0 (some (.int res)) M)   : ∀ (n : Nat) (a0 : Nat) (i1 : Int32) (i2 : Int32), m_X5_unlikePrices_L4 N M  n a0 i1 i2 = some res → EV X 5 4 [(0, .ref a0), (1, .int i1), (2, .int i2)] [] 0 0 M := by
  intro n
  induction n with
  | zero => intro a0 i1 i2 hf; cases (show (none : Option (Int32)) = some res from hf)
  | succ n ih =>
    intro a0 i1 i2 hf
    rw [m_X5_unlikePrices_L4] at hf
    refine ev_iload_n C dX5_unlikePrices_4 rfl (q := 2) rfl ?_
    refine ev_aload_n C dX5_unlikePrices_5 rfl (q := 0) rfl ?_
    obtain ⟨x1, e2, hf⟩ := obnd hf
    refine ev_get (k := 1) C ok_5 dX5_unlikePrices_6 (by decide) kw_182 (fI_V e2) ?_
    refine ev_icmp_ge (tgt := 79) C dX5_unlikePrices_9 (by decide) (fun hc => ?_) (fun hc => ?_)
    · have hf := oit hf hc
      refine ev_iload_n C dX5_unlikePrices_79 rfl (q := 1) rfl ?_
      obtain rfl := Option.some.inj hf
      exact ev_iret C E (Nat.le_refl 0) (Nat.le_refl 0) dX5_unlikePrices_80
    · have hf := oie hf hc
      refine ev_iconst (v := 1) C dX5_unlikePrices_12 (by decide) ?_
      refine ev_istore_n (l' := [(3, .int 1), (0, .ref a0), (1, .int i1), (2, .int i2)]) C dX5_unlikePrices_13 rfl (by decide) rfl ?_
      refine ev_iconst (v := 0) C dX5_unlikePrices_14 (by decide) ?_
      refine ev_istore (l' := [(4, .int 0), (3, .int 1), (0, .ref a0), (1, .int i1), (2, .int i2)]) C dX5_unlikePrices_15 (by decide) rfl ?_
      refine ev_sub [2, 3, 4, 1, 0] rfl ?_
      exact t_X5_unlikePrices_L17 C E (m_X5_unlikePrices_L4 N M  n) ih N a0 i1 i2 1 0 hf
def m_X5_unlikePrices (N : Nat) (a0 : Nat) (M : mM) : Option (Int32) :=
  m_X5_unlikePrices_L4 N M  N a0 0 0
set_option maxHeartbeats 4000000 in
set_option maxRecDepth 100000 in
theorem t_X5_unlikePrices {L0 : Launch} {M : mM} {N : Nat} {a0 : Nat} {res : Int32} (hf : m_X5_unlikePrices N a0 M = some res) : CT L0 yX5_unlikePrices prog_7_method_5_code 5 (some .int) 0 0 0 0 [.ref a0] M (some (.int res)) M := by
  refine CT.of (by decide +kernel) (Nat.le_of_ble_eq_true rfl) fun X C E => ?_
  have C : CX X RX5 "unlikePrices" prog_7_method_5_code 5 (some .int) := C
  show EV X 5 0 [(0, .ref a0)] [] 0 0 M
  unfold m_X5_unlikePrices at hf
  refine ev_iconst (v := 0) C dX5_unlikePrices_0 (by decide) ?_
  refine ev_istore_n (l' := [(1, .int 0), (0, .ref a0)]) C dX5_unlikePrices_1 rfl (by decide) rfl ?_
  refine ev_iconst (v := 0) C dX5_unlikePrices_2 (by decide) ?_
  refine ev_istore_n (l' := [(2, .int 0), (1, .int 0), (0, .ref a0)]) C dX5_unlikePrices_3 rfl (by decide) rfl ?_
  refine ev_sub [2, 1, 0] rfl ?_
  exact t_X5_unlikePrices_L4 C E   N a0 0 0 hf
/-! FareLimits told(I)I -/
theorem dX11_told_0 : decode prog_1_method_47_code 0 = .ok (.iload_n 1, 1) := by decide +kernel
theorem dX11_told_1 : decode prog_1_method_47_code 1 = .ok (.iconst 1, 1) := by decide +kernel
theorem dX11_told_2 : decode prog_1_method_47_code 2 = .ok (.if_icmp .lt 20, 3) := by decide +kernel
theorem dX11_told_5 : decode prog_1_method_47_code 5 = .ok (.iload_n 1, 1) := by decide +kernel
theorem dX11_told_6 : decode prog_1_method_47_code 6 = .ok (.iconst 4, 1) := by decide +kernel
theorem dX11_told_7 : decode prog_1_method_47_code 7 = .ok (.if_icmp .gt 15, 3) := by decide +kernel
theorem dX11_told_10 : decode prog_1_method_47_code 10 = .ok (.aload_n 0, 1) := by decide +kernel
theorem dX11_told_11 : decode prog_1_method_47_code 11 = .ok (.getfield 12, 3) := by decide +kernel
theorem dX11_told_14 : decode prog_1_method_47_code 14 = .ok (.getfield 138, 3) := by decide +kernel
theorem dX11_told_17 : decode prog_1_method_47_code 17 = .ok (.iload_n 1, 1) := by decide +kernel
theorem dX11_told_18 : decode prog_1_method_47_code 18 = .ok (.iconst 1, 1) := by decide +kernel
theorem dX11_told_19 : decode prog_1_method_47_code 19 = .ok (.isub, 1) := by decide +kernel
theorem dX11_told_20 : decode prog_1_method_47_code 20 = .ok (.iaload, 1) := by decide +kernel
theorem dX11_told_21 : decode prog_1_method_47_code 21 = .ok (.ireturn, 1) := by decide +kernel
theorem dX11_told_22 : decode prog_1_method_47_code 22 = .ok (.iload_n 1, 1) := by decide +kernel
theorem dX11_told_23 : decode prog_1_method_47_code 23 = .ok (.bipush 10, 2) := by decide +kernel
theorem dX11_told_25 : decode prog_1_method_47_code 25 = .ok (.if_icmp .lt 25, 3) := by decide +kernel
theorem dX11_told_28 : decode prog_1_method_47_code 28 = .ok (.iload_n 1, 1) := by decide +kernel
theorem dX11_told_29 : decode prog_1_method_47_code 29 = .ok (.bipush 14, 2) := by decide +kernel
theorem dX11_told_31 : decode prog_1_method_47_code 31 = .ok (.if_icmp .ge 19, 3) := by decide +kernel
theorem dX11_told_34 : decode prog_1_method_47_code 34 = .ok (.aload_n 0, 1) := by decide +kernel
theorem dX11_told_35 : decode prog_1_method_47_code 35 = .ok (.getfield 12, 3) := by decide +kernel
theorem dX11_told_38 : decode prog_1_method_47_code 38 = .ok (.getfield 202, 3) := by decide +kernel
theorem dX11_told_41 : decode prog_1_method_47_code 41 = .ok (.getfield 206, 3) := by decide +kernel
theorem dX11_told_44 : decode prog_1_method_47_code 44 = .ok (.iload_n 1, 1) := by decide +kernel
theorem dX11_told_45 : decode prog_1_method_47_code 45 = .ok (.bipush 10, 2) := by decide +kernel
theorem dX11_told_47 : decode prog_1_method_47_code 47 = .ok (.isub, 1) := by decide +kernel
theorem dX11_told_48 : decode prog_1_method_47_code 48 = .ok (.iaload, 1) := by decide +kernel
theorem dX11_told_49 : decode prog_1_method_47_code 49 = .ok (.ireturn, 1) := by decide +kernel
theorem dX11_told_50 : decode prog_1_method_47_code 50 = .ok (.iload_n 1, 1) := by decide +kernel
theorem dX11_told_51 : decode prog_1_method_47_code 51 = .ok (.bipush 20, 2) := by decide +kernel
theorem dX11_told_53 : decode prog_1_method_47_code 53 = .ok (.if_icmp .lt 25, 3) := by decide +kernel
theorem dX11_told_56 : decode prog_1_method_47_code 56 = .ok (.iload_n 1, 1) := by decide +kernel
theorem dX11_told_57 : decode prog_1_method_47_code 57 = .ok (.bipush 24, 2) := by decide +kernel
theorem dX11_told_59 : decode prog_1_method_47_code 59 = .ok (.if_icmp .ge 19, 3) := by decide +kernel
theorem dX11_told_62 : decode prog_1_method_47_code 62 = .ok (.aload_n 0, 1) := by decide +kernel
theorem dX11_told_63 : decode prog_1_method_47_code 63 = .ok (.getfield 12, 3) := by decide +kernel
theorem dX11_told_66 : decode prog_1_method_47_code 66 = .ok (.getfield 202, 3) := by decide +kernel
theorem dX11_told_69 : decode prog_1_method_47_code 69 = .ok (.getfield 211, 3) := by decide +kernel
theorem dX11_told_72 : decode prog_1_method_47_code 72 = .ok (.iload_n 1, 1) := by decide +kernel
theorem dX11_told_73 : decode prog_1_method_47_code 73 = .ok (.bipush 20, 2) := by decide +kernel
theorem dX11_told_75 : decode prog_1_method_47_code 75 = .ok (.isub, 1) := by decide +kernel
theorem dX11_told_76 : decode prog_1_method_47_code 76 = .ok (.iaload, 1) := by decide +kernel
theorem dX11_told_77 : decode prog_1_method_47_code 77 = .ok (.ireturn, 1) := by decide +kernel
theorem dX11_told_78 : decode prog_1_method_47_code 78 = .ok (.iload_n 1, 1) := by decide +kernel
theorem dX11_told_79 : decode prog_1_method_47_code 79 = .ok (.bipush 30, 2) := by decide +kernel
theorem dX11_told_81 : decode prog_1_method_47_code 81 = .ok (.if_icmp .lt 33, 3) := by decide +kernel
theorem dX11_told_84 : decode prog_1_method_47_code 84 = .ok (.iload_n 1, 1) := by decide +kernel
theorem dX11_told_85 : decode prog_1_method_47_code 85 = .ok (.bipush 30, 2) := by decide +kernel
theorem dX11_told_87 : decode prog_1_method_47_code 87 = .ok (.aload_n 0, 1) := by decide +kernel
theorem dX11_told_88 : decode prog_1_method_47_code 88 = .ok (.getfield 12, 3) := by decide +kernel
theorem dX11_told_91 : decode prog_1_method_47_code 91 = .ok (.getfield 95, 3) := by decide +kernel
theorem dX11_told_94 : decode prog_1_method_47_code 94 = .ok (.iadd, 1) := by decide +kernel
theorem dX11_told_95 : decode prog_1_method_47_code 95 = .ok (.if_icmp .ge 19, 3) := by decide +kernel
theorem dX11_told_98 : decode prog_1_method_47_code 98 = .ok (.aload_n 0, 1) := by decide +kernel
theorem dX11_told_99 : decode prog_1_method_47_code 99 = .ok (.getfield 12, 3) := by decide +kernel
theorem dX11_told_102 : decode prog_1_method_47_code 102 = .ok (.getfield 99, 3) := by decide +kernel
theorem dX11_told_105 : decode prog_1_method_47_code 105 = .ok (.iload_n 1, 1) := by decide +kernel
theorem dX11_told_106 : decode prog_1_method_47_code 106 = .ok (.bipush 30, 2) := by decide +kernel
theorem dX11_told_108 : decode prog_1_method_47_code 108 = .ok (.isub, 1) := by decide +kernel
theorem dX11_told_109 : decode prog_1_method_47_code 109 = .ok (.aaload, 1) := by decide +kernel
theorem dX11_told_110 : decode prog_1_method_47_code 110 = .ok (.getfield 141, 3) := by decide +kernel
theorem dX11_told_113 : decode prog_1_method_47_code 113 = .ok (.ireturn, 1) := by decide +kernel
theorem dX11_told_114 : decode prog_1_method_47_code 114 = .ok (.iload_n 1, 1) := by decide +kernel
theorem dX11_told_115 : decode prog_1_method_47_code 115 = .ok (.tableswitch 104 0 9 #[53, 104, 104, 104, 104, 61, 72, 80, 88, 96], 53) := by decide +kernel
theorem dX11_told_168 : decode prog_1_method_47_code 168 = .ok (.aload_n 0, 1) := by decide +kernel
theorem dX11_told_169 : decode prog_1_method_47_code 169 = .ok (.getfield 12, 3) := by decide +kernel
theorem dX11_told_172 : decode prog_1_method_47_code 172 = .ok (.getfield 95, 3) := by decide +kernel
theorem dX11_told_175 : decode prog_1_method_47_code 175 = .ok (.ireturn, 1) := by decide +kernel
theorem dX11_told_176 : decode prog_1_method_47_code 176 = .ok (.aload_n 0, 1) := by decide +kernel
theorem dX11_told_177 : decode prog_1_method_47_code 177 = .ok (.getfield 12, 3) := by decide +kernel
theorem dX11_told_180 : decode prog_1_method_47_code 180 = .ok (.getfield 202, 3) := by decide +kernel
theorem dX11_told_183 : decode prog_1_method_47_code 183 = .ok (.getfield 249, 3) := by decide +kernel
theorem dX11_told_186 : decode prog_1_method_47_code 186 = .ok (.ireturn, 1) := by decide +kernel
theorem dX11_told_187 : decode prog_1_method_47_code 187 = .ok (.aload_n 0, 1) := by decide +kernel
theorem dX11_told_188 : decode prog_1_method_47_code 188 = .ok (.getfield 45, 3) := by decide +kernel
theorem dX11_told_191 : decode prog_1_method_47_code 191 = .ok (.getfield 217, 3) := by decide +kernel
theorem dX11_told_194 : decode prog_1_method_47_code 194 = .ok (.ireturn, 1) := by decide +kernel
theorem dX11_told_195 : decode prog_1_method_47_code 195 = .ok (.aload_n 0, 1) := by decide +kernel
theorem dX11_told_196 : decode prog_1_method_47_code 196 = .ok (.getfield 61, 3) := by decide +kernel
theorem dX11_told_199 : decode prog_1_method_47_code 199 = .ok (.invokevirtual 286, 3) := by decide +kernel
theorem dX11_told_202 : decode prog_1_method_47_code 202 = .ok (.ireturn, 1) := by decide +kernel
theorem dX11_told_203 : decode prog_1_method_47_code 203 = .ok (.aload_n 0, 1) := by decide +kernel
theorem dX11_told_204 : decode prog_1_method_47_code 204 = .ok (.getfield 12, 3) := by decide +kernel
theorem dX11_told_207 : decode prog_1_method_47_code 207 = .ok (.invokevirtual 347, 3) := by decide +kernel
theorem dX11_told_210 : decode prog_1_method_47_code 210 = .ok (.ireturn, 1) := by decide +kernel
theorem dX11_told_211 : decode prog_1_method_47_code 211 = .ok (.aload_n 0, 1) := by decide +kernel
theorem dX11_told_212 : decode prog_1_method_47_code 212 = .ok (.getfield 12, 3) := by decide +kernel
theorem dX11_told_215 : decode prog_1_method_47_code 215 = .ok (.invokevirtual 350, 3) := by decide +kernel
theorem dX11_told_218 : decode prog_1_method_47_code 218 = .ok (.ireturn, 1) := by decide +kernel
theorem dX11_told_219 : decode prog_1_method_47_code 219 = .ok (.iconst (-1), 1) := by decide +kernel
theorem dX11_told_220 : decode prog_1_method_47_code 220 = .ok (.ireturn, 1) := by decide +kernel
def m_X11_told_J114 (N : Nat) (M : mM)  (a0 : Nat) (i1 : Int32) : Option (Int32) :=
  if i1 = 0 then (
    (fR M a0 11 0).bind fun x29 =>
    (fI M x29 5 1).bind fun x31 =>
    some x31) else (
    if i1 = 1 then (
      some (-1)) else (
      if i1 = 2 then (
        some (-1)) else (
        if i1 = 3 then (
          some (-1)) else (
          if i1 = 4 then (
            some (-1)) else (
            if i1 = 5 then (
              (fR M a0 11 0).bind fun x23 =>
              (fR M x23 5 3).bind fun x25 =>
              (fI M x25 4 3).bind fun x27 =>
              some x27) else (
              if i1 = 6 then (
                (fR M a0 11 6).bind fun x19 =>
                (fI M x19 7 1).bind fun x21 =>
                some x21) else (
                if i1 = 7 then (
                  (fR M a0 11 8).bind fun x13 =>
                  (oO M x13 0).bind fun _ =>
                  (m_J4_length_8abf5 x13 M).bind fun x17 =>
                  some x17) else (
                  if i1 = 8 then (
                    (fR M a0 11 0).bind fun x7 =>
                    (oO M x7 5).bind fun _ =>
                    (m_X5_unlikePrices N x7 M).bind fun x11 =>
                    some x11) else (
                    if i1 = 9 then (
                      (fR M a0 11 0).bind fun x1 =>
                      (oO M x1 5).bind fun _ =>
                      (m_X5_greatestPrice N x1 M).bind fun x5 =>
                      some x5) else (
                      some (-1)))))))))))
set_option maxHeartbeats 4000000 in
set_option maxRecDepth 100000 in
theorem t_X11_told_J114 {X : mX} {M : mM} {L0 : Launch} {res : Int32} {N : Nat} (C : CX X RX11 "told" prog_1_method_47_code 2 (some .int)) (E : EX X L0 2 62 0 0 (some (.int res)) M)   (a0 : Nat) (i1 : Int32) (hf : m_X11_told_J114 N M  a0 i1 = some res) : EV X 2 114 [(0, .ref a0), (1, .int i1)] [] 0 0 M := by
  unfold m_X11_told_J114 at hf
  refine ev_iload_n C dX11_told_114 rfl (q := 1) rfl ?_
  by_cases h0 : i1 = 0
  · have hf := oit hf h0
    refine ev_tableIn (off := 53) (tgt := 168) C dX11_told_115 (by rw [h0]; decide) (by rw [h0]; decide) (by rw [h0]; rfl) (by decide) ?_
    refine ev_aload_n C dX11_told_168 rfl (q := 0) rfl ?_
    obtain ⟨x29, e30, hf⟩ := obnd hf
    refine ev_get (k := 0) C ok_11 dX11_told_169 (by decide) kw_392 (fR_V e30) ?_
    obtain ⟨x31, e32, hf⟩ := obnd hf
    refine ev_get (k := 1) C ok_5 dX11_told_172 (by decide) kw_183 (fI_V e32) ?_
    obtain rfl := Option.some.inj hf
    exact ev_iret C E (Nat.le_refl 0) (Nat.le_refl 0) dX11_told_175
  · have hf := oie hf h0
    by_cases h1 : i1 = 1
    · have hf := oit hf h1
      refine ev_tableIn (off := 104) (tgt := 219) C dX11_told_115 (by rw [h1]; decide) (by rw [h1]; decide) (by rw [h1]; rfl) (by decide) ?_
      refine ev_iconst (v := (-1)) C dX11_told_219 (by decide) ?_
      obtain rfl := Option.some.inj hf
      exact ev_iret C E (Nat.le_refl 0) (Nat.le_refl 0) dX11_told_220
    · have hf := oie hf h1
      by_cases h2 : i1 = 2
      · have hf := oit hf h2
        refine ev_tableIn (off := 104) (tgt := 219) C dX11_told_115 (by rw [h2]; decide) (by rw [h2]; decide) (by rw [h2]; rfl) (by decide) ?_
        refine ev_iconst (v := (-1)) C dX11_told_219 (by decide) ?_
        obtain rfl := Option.some.inj hf
        exact ev_iret C E (Nat.le_refl 0) (Nat.le_refl 0) dX11_told_220
      · have hf := oie hf h2
        by_cases h3 : i1 = 3
        · have hf := oit hf h3
          refine ev_tableIn (off := 104) (tgt := 219) C dX11_told_115 (by rw [h3]; decide) (by rw [h3]; decide) (by rw [h3]; rfl) (by decide) ?_
          refine ev_iconst (v := (-1)) C dX11_told_219 (by decide) ?_
          obtain rfl := Option.some.inj hf
          exact ev_iret C E (Nat.le_refl 0) (Nat.le_refl 0) dX11_told_220
        · have hf := oie hf h3
          by_cases h4 : i1 = 4
          · have hf := oit hf h4
            refine ev_tableIn (off := 104) (tgt := 219) C dX11_told_115 (by rw [h4]; decide) (by rw [h4]; decide) (by rw [h4]; rfl) (by decide) ?_
            refine ev_iconst (v := (-1)) C dX11_told_219 (by decide) ?_
            obtain rfl := Option.some.inj hf
            exact ev_iret C E (Nat.le_refl 0) (Nat.le_refl 0) dX11_told_220
          · have hf := oie hf h4
            by_cases h5 : i1 = 5
            · have hf := oit hf h5
              refine ev_tableIn (off := 61) (tgt := 176) C dX11_told_115 (by rw [h5]; decide) (by rw [h5]; decide) (by rw [h5]; rfl) (by decide) ?_
              refine ev_aload_n C dX11_told_176 rfl (q := 0) rfl ?_
              obtain ⟨x23, e24, hf⟩ := obnd hf
              refine ev_get (k := 0) C ok_11 dX11_told_177 (by decide) kw_392 (fR_V e24) ?_
              obtain ⟨x25, e26, hf⟩ := obnd hf
              refine ev_get (k := 3) C ok_5 dX11_told_180 (by decide) kw_193 (fR_V e26) ?_
              obtain ⟨x27, e28, hf⟩ := obnd hf
              refine ev_get (k := 3) C ok_4 dX11_told_183 (by decide) kw_130 (fI_V e28) ?_
              obtain rfl := Option.some.inj hf
              exact ev_iret C E (Nat.le_refl 0) (Nat.le_refl 0) dX11_told_186
            · have hf := oie hf h5
              by_cases h6 : i1 = 6
              · have hf := oit hf h6
                refine ev_tableIn (off := 72) (tgt := 187) C dX11_told_115 (by rw [h6]; decide) (by rw [h6]; decide) (by rw [h6]; rfl) (by decide) ?_
                refine ev_aload_n C dX11_told_187 rfl (q := 0) rfl ?_
                obtain ⟨x19, e20, hf⟩ := obnd hf
                refine ev_get (k := 6) C ok_11 dX11_told_188 (by decide) kw_398 (fR_V e20) ?_
                obtain ⟨x21, e22, hf⟩ := obnd hf
                refine ev_get (k := 1) C ok_7 dX11_told_191 (by decide) kw_266 (fI_V e22) ?_
                obtain rfl := Option.some.inj hf
                exact ev_iret C E (Nat.le_refl 0) (Nat.le_refl 0) dX11_told_194
              · have hf := oie hf h6
                by_cases h7 : i1 = 7
                · have hf := oit hf h7
                  refine ev_tableIn (off := 80) (tgt := 195) C dX11_told_115 (by rw [h7]; decide) (by rw [h7]; decide) (by rw [h7]; rfl) (by decide) ?_
                  refine ev_aload_n C dX11_told_195 rfl (q := 0) rfl ?_
                  obtain ⟨x13, e14, hf⟩ := obnd hf
                  refine ev_get (k := 8) C ok_11 dX11_told_196 (by decide) kw_400 (fR_V e14) ?_
                  obtain ⟨_, e15, hf⟩ := obnd hf
                  obtain ⟨fs16, e15⟩ := oO_eq e15
                  obtain ⟨x17, e18, hf⟩ := obnd hf
                  refine ev_callV0 (As := []) (st := []) C rfl e15 (t_J4_length_8abf5 e18) rfl hd_J4_length_8abf5 rfl kw_986 kw_987 kw_82 kw_988 kw_989 (mRoom.of E (Nat.le_of_ble_eq_true rfl) (Nat.le_of_ble_eq_true rfl) (Nat.le_refl 0) (Nat.le_refl 0)) (Nat.le_of_ble_eq_true rfl) dX11_told_199 ?_
                  obtain rfl := Option.some.inj hf
                  exact ev_iret C E (Nat.le_refl 0) (Nat.le_refl 0) dX11_told_202
                · have hf := oie hf h7
                  by_cases h8 : i1 = 8
                  · have hf := oit hf h8
                    refine ev_tableIn (off := 88) (tgt := 203) C dX11_told_115 (by rw [h8]; decide) (by rw [h8]; decide) (by rw [h8]; rfl) (by decide) ?_
                    refine ev_aload_n C dX11_told_203 rfl (q := 0) rfl ?_
                    obtain ⟨x7, e8, hf⟩ := obnd hf
                    refine ev_get (k := 0) C ok_11 dX11_told_204 (by decide) kw_392 (fR_V e8) ?_
                    obtain ⟨_, e9, hf⟩ := obnd hf
                    obtain ⟨fs10, e9⟩ := oO_eq e9
                    obtain ⟨x11, e12, hf⟩ := obnd hf
                    refine ev_callV0 (As := []) (st := []) C rfl e9 (t_X5_unlikePrices e12) rfl hd_X5_unlikePrices rfl kw_1121 kw_1122 kw_71 kw_1123 kw_1124 (mRoom.of E (Nat.le_of_ble_eq_true rfl) (Nat.le_of_ble_eq_true rfl) (Nat.le_refl 0) (Nat.le_refl 0)) (Nat.le_of_ble_eq_true rfl) dX11_told_207 ?_
                    obtain rfl := Option.some.inj hf
                    exact ev_iret C E (Nat.le_refl 0) (Nat.le_refl 0) dX11_told_210
                  · have hf := oie hf h8
                    by_cases h9 : i1 = 9
                    · have hf := oit hf h9
                      refine ev_tableIn (off := 96) (tgt := 211) C dX11_told_115 (by rw [h9]; decide) (by rw [h9]; decide) (by rw [h9]; rfl) (by decide) ?_
                      refine ev_aload_n C dX11_told_211 rfl (q := 0) rfl ?_
                      obtain ⟨x1, e2, hf⟩ := obnd hf
                      refine ev_get (k := 0) C ok_11 dX11_told_212 (by decide) kw_392 (fR_V e2) ?_
                      obtain ⟨_, e3, hf⟩ := obnd hf
                      obtain ⟨fs4, e3⟩ := oO_eq e3
                      obtain ⟨x5, e6, hf⟩ := obnd hf
                      refine ev_callV0 (As := []) (st := []) C rfl e3 (t_X5_greatestPrice e6) rfl hd_X5_greatestPrice rfl kw_1125 kw_1126 kw_71 kw_1127 kw_1128 (mRoom.of E (Nat.le_of_ble_eq_true rfl) (Nat.le_of_ble_eq_true rfl) (Nat.le_refl 0) (Nat.le_refl 0)) (Nat.le_of_ble_eq_true rfl) dX11_told_215 ?_
                      obtain rfl := Option.some.inj hf
                      exact ev_iret C E (Nat.le_refl 0) (Nat.le_refl 0) dX11_told_218
                    · have hf := oie hf h9
                      refine ev_tableOut (tgt := 219) C dX11_told_115 (tab_out (lo := 0) (n := 10) (lt_s (lt_s (lt_s (lt_s (lt_s (lt_s (lt_s (lt_s (lt_s (lt_s lt_0 h0) h1) h2) h3) h4) h5) h6) h7) h8) h9) (by decide) (by decide)) (by decide) ?_
                      refine ev_iconst (v := (-1)) C dX11_told_219 (by decide) ?_
                      obtain rfl := Option.some.inj hf
                      exact ev_iret C E (Nat.le_refl 0) (Nat.le_refl 0) dX11_told_220
def m_X11_told_J78 (N : Nat) (M : mM)  (a0 : Nat) (i1 : Int32) : Option (Int32) :=
  if i1 < 30 then (
    m_X11_told_J114 N M  a0 i1) else (
    (fR M a0 11 0).bind fun x1 =>
    (fI M x1 5 1).bind fun x3 =>
    if (30 + x3) ≤ i1 then (
      m_X11_told_J114 N M  a0 i1) else (
      (fR M a0 11 0).bind fun x5 =>
      (fR M x5 5 0).bind fun x7 =>
      (aR 5 M x7 (i1 - 30)).bind fun x9 =>
      (fI M x9 3 2).bind fun x11 =>
      some x11))
set_option maxHeartbeats 4000000 in
set_option maxRecDepth 100000 in
theorem t_X11_told_J78 {X : mX} {M : mM} {L0 : Launch} {res : Int32} {N : Nat} (C : CX X RX11 "told" prog_1_method_47_code 2 (some .int)) (E : EX X L0 2 62 0 0 (some (.int res)) M)   (a0 : Nat) (i1 : Int32) (hf : m_X11_told_J78 N M  a0 i1 = some res) : EV X 2 78 [(0, .ref a0), (1, .int i1)] [] 0 0 M := by
  unfold m_X11_told_J78 at hf
  refine ev_iload_n C dX11_told_78 rfl (q := 1) rfl ?_
  refine ev_bipush (v := 30) C dX11_told_79 (by decide) ?_
  refine ev_icmp_lt (tgt := 114) C dX11_told_81 (by decide) (fun hc => ?_) (fun hc => ?_)
  · have hf := oit hf hc
    exact t_X11_told_J114 C E   a0 i1 hf
  · have hf := oie hf hc
    refine ev_iload_n C dX11_told_84 rfl (q := 1) rfl ?_
    refine ev_bipush (v := 30) C dX11_told_85 (by decide) ?_
    refine ev_aload_n C dX11_told_87 rfl (q := 0) rfl ?_
    obtain ⟨x1, e2, hf⟩ := obnd hf
    refine ev_get (k := 0) C ok_11 dX11_told_88 (by decide) kw_392 (fR_V e2) ?_
    obtain ⟨x3, e4, hf⟩ := obnd hf
    refine ev_get (k := 1) C ok_5 dX11_told_91 (by decide) kw_183 (fI_V e4) ?_
    refine ev_iadd C dX11_told_94 ?_
    refine ev_icmp_ge (tgt := 114) C dX11_told_95 (by decide) (fun hc => ?_) (fun hc => ?_)
    · have hf := oit hf hc
      exact t_X11_told_J114 C E   a0 i1 hf
    · have hf := oie hf hc
      refine ev_aload_n C dX11_told_98 rfl (q := 0) rfl ?_
      obtain ⟨x5, e6, hf⟩ := obnd hf
      refine ev_get (k := 0) C ok_11 dX11_told_99 (by decide) kw_392 (fR_V e6) ?_
      obtain ⟨x7, e8, hf⟩ := obnd hf
      refine ev_get (k := 0) C ok_5 dX11_told_102 (by decide) kw_177 (fR_V e8) ?_
      refine ev_iload_n C dX11_told_105 rfl (q := 1) rfl ?_
      refine ev_bipush (v := 30) C dX11_told_106 (by decide) ?_
      refine ev_isub C dX11_told_108 ?_
      obtain ⟨x9, e10, hf⟩ := obnd hf
      refine ev_aldr C (t := 5) rfl rfl dX11_told_109 e10 ?_
      obtain ⟨x11, e12, hf⟩ := obnd hf
      refine ev_get (k := 2) C ok_3 dX11_told_110 (by decide) kw_159 (fI_V e12) ?_
      obtain rfl := Option.some.inj hf
      exact ev_iret C E (Nat.le_refl 0) (Nat.le_refl 0) dX11_told_113
def m_X11_told_J50 (N : Nat) (M : mM)  (a0 : Nat) (i1 : Int32) : Option (Int32) :=
  if i1 < 20 then (
    m_X11_told_J78 N M  a0 i1) else (
    if 24 ≤ i1 then (
      m_X11_told_J78 N M  a0 i1) else (
      (fR M a0 11 0).bind fun x1 =>
      (fR M x1 5 3).bind fun x3 =>
      (fR M x3 4 1).bind fun x5 =>
      (aI 0 M x5 (i1 - 20)).bind fun x7 =>
      some x7))
set_option maxHeartbeats 4000000 in
set_option maxRecDepth 100000 in
theorem t_X11_told_J50 {X : mX} {M : mM} {L0 : Launch} {res : Int32} {N : Nat} (C : CX X RX11 "told" prog_1_method_47_code 2 (some .int)) (E : EX X L0 2 62 0 0 (some (.int res)) M)   (a0 : Nat) (i1 : Int32) (hf : m_X11_told_J50 N M  a0 i1 = some res) : EV X 2 50 [(0, .ref a0), (1, .int i1)] [] 0 0 M := by
  unfold m_X11_told_J50 at hf
  refine ev_iload_n C dX11_told_50 rfl (q := 1) rfl ?_
  refine ev_bipush (v := 20) C dX11_told_51 (by decide) ?_
  refine ev_icmp_lt (tgt := 78) C dX11_told_53 (by decide) (fun hc => ?_) (fun hc => ?_)
  · have hf := oit hf hc
    exact t_X11_told_J78 C E   a0 i1 hf
  · have hf := oie hf hc
    refine ev_iload_n C dX11_told_56 rfl (q := 1) rfl ?_
    refine ev_bipush (v := 24) C dX11_told_57 (by decide) ?_
    refine ev_icmp_ge (tgt := 78) C dX11_told_59 (by decide) (fun hc => ?_) (fun hc => ?_)
    · have hf := oit hf hc
      exact t_X11_told_J78 C E   a0 i1 hf
    · have hf := oie hf hc
      refine ev_aload_n C dX11_told_62 rfl (q := 0) rfl ?_
      obtain ⟨x1, e2, hf⟩ := obnd hf
      refine ev_get (k := 0) C ok_11 dX11_told_63 (by decide) kw_392 (fR_V e2) ?_
      obtain ⟨x3, e4, hf⟩ := obnd hf
      refine ev_get (k := 3) C ok_5 dX11_told_66 (by decide) kw_193 (fR_V e4) ?_
      obtain ⟨x5, e6, hf⟩ := obnd hf
      refine ev_get (k := 1) C ok_4 dX11_told_69 (by decide) kw_125 (fR_V e6) ?_
      refine ev_iload_n C dX11_told_72 rfl (q := 1) rfl ?_
      refine ev_bipush (v := 20) C dX11_told_73 (by decide) ?_
      refine ev_isub C dX11_told_75 ?_
      obtain ⟨x7, e8, hf⟩ := obnd hf
      refine ev_iald C dX11_told_76 e8 ?_
      obtain rfl := Option.some.inj hf
      exact ev_iret C E (Nat.le_refl 0) (Nat.le_refl 0) dX11_told_77
def m_X11_told_J22 (N : Nat) (M : mM)  (a0 : Nat) (i1 : Int32) : Option (Int32) :=
  if i1 < 10 then (
    m_X11_told_J50 N M  a0 i1) else (
    if 14 ≤ i1 then (
      m_X11_told_J50 N M  a0 i1) else (
      (fR M a0 11 0).bind fun x1 =>
      (fR M x1 5 3).bind fun x3 =>
      (fR M x3 4 0).bind fun x5 =>
      (aI 0 M x5 (i1 - 10)).bind fun x7 =>
      some x7))
set_option maxHeartbeats 4000000 in
set_option maxRecDepth 100000 in
theorem t_X11_told_J22 {X : mX} {M : mM} {L0 : Launch} {res : Int32} {N : Nat} (C : CX X RX11 "told" prog_1_method_47_code 2 (some .int)) (E : EX X L0 2 62 0 0 (some (.int res)) M)   (a0 : Nat) (i1 : Int32) (hf : m_X11_told_J22 N M  a0 i1 = some res) : EV X 2 22 [(0, .ref a0), (1, .int i1)] [] 0 0 M := by
  unfold m_X11_told_J22 at hf
  refine ev_iload_n C dX11_told_22 rfl (q := 1) rfl ?_
  refine ev_bipush (v := 10) C dX11_told_23 (by decide) ?_
  refine ev_icmp_lt (tgt := 50) C dX11_told_25 (by decide) (fun hc => ?_) (fun hc => ?_)
  · have hf := oit hf hc
    exact t_X11_told_J50 C E   a0 i1 hf
  · have hf := oie hf hc
    refine ev_iload_n C dX11_told_28 rfl (q := 1) rfl ?_
    refine ev_bipush (v := 14) C dX11_told_29 (by decide) ?_
    refine ev_icmp_ge (tgt := 50) C dX11_told_31 (by decide) (fun hc => ?_) (fun hc => ?_)
    · have hf := oit hf hc
      exact t_X11_told_J50 C E   a0 i1 hf
    · have hf := oie hf hc
      refine ev_aload_n C dX11_told_34 rfl (q := 0) rfl ?_
      obtain ⟨x1, e2, hf⟩ := obnd hf
      refine ev_get (k := 0) C ok_11 dX11_told_35 (by decide) kw_392 (fR_V e2) ?_
      obtain ⟨x3, e4, hf⟩ := obnd hf
      refine ev_get (k := 3) C ok_5 dX11_told_38 (by decide) kw_193 (fR_V e4) ?_
      obtain ⟨x5, e6, hf⟩ := obnd hf
      refine ev_get (k := 0) C ok_4 dX11_told_41 (by decide) kw_123 (fR_V e6) ?_
      refine ev_iload_n C dX11_told_44 rfl (q := 1) rfl ?_
      refine ev_bipush (v := 10) C dX11_told_45 (by decide) ?_
      refine ev_isub C dX11_told_47 ?_
      obtain ⟨x7, e8, hf⟩ := obnd hf
      refine ev_iald C dX11_told_48 e8 ?_
      obtain rfl := Option.some.inj hf
      exact ev_iret C E (Nat.le_refl 0) (Nat.le_refl 0) dX11_told_49
def m_X11_told (N : Nat) (a0 : Nat) (i1 : Int32) (M : mM) : Option (Int32) :=
  if i1 < 1 then (
    m_X11_told_J22 N M  a0 i1) else (
    if 4 < i1 then (
      m_X11_told_J22 N M  a0 i1) else (
      (fR M a0 11 0).bind fun x1 =>
      (fR M x1 5 2).bind fun x3 =>
      (aI 0 M x3 (i1 - 1)).bind fun x5 =>
      some x5))
set_option maxHeartbeats 4000000 in
set_option maxRecDepth 100000 in
theorem t_X11_told {L0 : Launch} {M : mM} {N : Nat} {a0 : Nat} {i1 : Int32} {res : Int32} (hf : m_X11_told N a0 i1 M = some res) : CT L0 yX11_told prog_1_method_47_code 2 (some .int) 2 62 0 0 [.ref a0, .int i1] M (some (.int res)) M := by
  refine CT.of (by decide +kernel) (Nat.le_of_ble_eq_true rfl) fun X C E => ?_
  have C : CX X RX11 "told" prog_1_method_47_code 2 (some .int) := C
  show EV X 2 0 [(0, .ref a0), (1, .int i1)] [] 0 0 M
  unfold m_X11_told at hf
  refine ev_iload_n C dX11_told_0 rfl (q := 1) rfl ?_
  refine ev_iconst (v := 1) C dX11_told_1 (by decide) ?_
  refine ev_icmp_lt (tgt := 22) C dX11_told_2 (by decide) (fun hc => ?_) (fun hc => ?_)
  · have hf := oit hf hc
    exact t_X11_told_J22 C E   a0 i1 hf
  · have hf := oie hf hc
    refine ev_iload_n C dX11_told_5 rfl (q := 1) rfl ?_
    refine ev_iconst (v := 4) C dX11_told_6 (by decide) ?_
    refine ev_icmp_gt (tgt := 22) C dX11_told_7 (by decide) (fun hc => ?_) (fun hc => ?_)
    · have hf := oit hf hc
      exact t_X11_told_J22 C E   a0 i1 hf
    · have hf := oie hf hc
      refine ev_aload_n C dX11_told_10 rfl (q := 0) rfl ?_
      obtain ⟨x1, e2, hf⟩ := obnd hf
      refine ev_get (k := 0) C ok_11 dX11_told_11 (by decide) kw_392 (fR_V e2) ?_
      obtain ⟨x3, e4, hf⟩ := obnd hf
      refine ev_get (k := 2) C ok_5 dX11_told_14 (by decide) kw_190 (fR_V e4) ?_
      refine ev_iload_n C dX11_told_17 rfl (q := 1) rfl ?_
      refine ev_iconst (v := 1) C dX11_told_18 (by decide) ?_
      refine ev_isub C dX11_told_19 ?_
      obtain ⟨x5, e6, hf⟩ := obnd hf
      refine ev_iald C dX11_told_20 e6 ?_
      obtain rfl := Option.some.inj hf
      exact ev_iret C E (Nat.le_refl 0) (Nat.le_refl 0) dX11_told_21
/-! FareLimits$Fare become(LFareLimits$Fare;)V -/
theorem dX2_become_0 : decode prog_4_method_3_code 0 = .ok (.aload_n 0, 1) := by decide +kernel
theorem dX2_become_1 : decode prog_4_method_3_code 1 = .ok (.aload_n 1, 1) := by decide +kernel
theorem dX2_become_2 : decode prog_4_method_3_code 2 = .ok (.getfield 15, 3) := by decide +kernel
theorem dX2_become_5 : decode prog_4_method_3_code 5 = .ok (.putfield 15, 3) := by decide +kernel
theorem dX2_become_8 : decode prog_4_method_3_code 8 = .ok (.aload_n 0, 1) := by decide +kernel
theorem dX2_become_9 : decode prog_4_method_3_code 9 = .ok (.aload_n 1, 1) := by decide +kernel
theorem dX2_become_10 : decode prog_4_method_3_code 10 = .ok (.getfield 24, 3) := by decide +kernel
theorem dX2_become_13 : decode prog_4_method_3_code 13 = .ok (.putfield 24, 3) := by decide +kernel
theorem dX2_become_16 : decode prog_4_method_3_code 16 = .ok (.aload_n 0, 1) := by decide +kernel
theorem dX2_become_17 : decode prog_4_method_3_code 17 = .ok (.aload_n 1, 1) := by decide +kernel
theorem dX2_become_18 : decode prog_4_method_3_code 18 = .ok (.getfield 28, 3) := by decide +kernel
theorem dX2_become_21 : decode prog_4_method_3_code 21 = .ok (.putfield 28, 3) := by decide +kernel
theorem dX2_become_24 : decode prog_4_method_3_code 24 = .ok (.aload_n 1, 1) := by decide +kernel
theorem dX2_become_25 : decode prog_4_method_3_code 25 = .ok (.getfield 20, 3) := by decide +kernel
theorem dX2_become_28 : decode prog_4_method_3_code 28 = .ok (.iconst 0, 1) := by decide +kernel
theorem dX2_become_29 : decode prog_4_method_3_code 29 = .ok (.aload_n 0, 1) := by decide +kernel
theorem dX2_become_30 : decode prog_4_method_3_code 30 = .ok (.getfield 20, 3) := by decide +kernel
theorem dX2_become_33 : decode prog_4_method_3_code 33 = .ok (.iconst 0, 1) := by decide +kernel
theorem dX2_become_34 : decode prog_4_method_3_code 34 = .ok (.iconst 4, 1) := by decide +kernel
theorem dX2_become_35 : decode prog_4_method_3_code 35 = .ok (.invokestatic 37, 3) := by decide +kernel
theorem dX2_become_38 : decode prog_4_method_3_code 38 = .ok (.return_, 1) := by decide +kernel
def m_X2_become (a0 : Nat) (a1 : Nat) (M : mM) : Option (mM) :=
  (fR M a1 3 0).bind fun x1 =>
  (sV M a0 3 0 (.ref x1)).bind fun M3 =>
  (fI M3 a1 3 1).bind fun x5 =>
  (sV M3 a0 3 1 (.int x5)).bind fun M7 =>
  (fI M7 a1 3 2).bind fun x9 =>
  (sV M7 a0 3 2 (.int x9)).bind fun M11 =>
  (fR M11 a1 3 3).bind fun x13 =>
  (fR M11 a0 3 3).bind fun x15 =>
  (cpI M11 x13 0 x15 0 4).bind fun M17 =>
  some M17
set_option maxHeartbeats 4000000 in
set_option maxRecDepth 100000 in
theorem t_X2_become {L0 : Launch} {M : mM} {a0 : Nat} {a1 : Nat} {res : mM} (hf : m_X2_become a0 a1 M = some res) : CT L0 yX2_become prog_4_method_3_code 2 none 1 40 0 0 [.ref a0, .ref a1] M none res := by
  refine CT.of (by decide +kernel) (Nat.le_of_ble_eq_true rfl) fun X C E => ?_
  have C : CX X RX2 "become" prog_4_method_3_code 2 none := C
  show EV X 2 0 [(0, .ref a0), (1, .ref a1)] [] 0 0 M
  unfold m_X2_become at hf
  refine ev_aload_n C dX2_become_0 rfl (q := 0) rfl ?_
  refine ev_aload_n C dX2_become_1 rfl (q := 1) rfl ?_
  obtain ⟨x1, e2, hf⟩ := obnd hf
  refine ev_get (k := 0) C ok_3 dX2_become_2 (by decide) kw_148 (fR_V e2) ?_
  obtain ⟨M3, e4, hf⟩ := obnd hf
  refine ev_put (k := 0) C ok_3 dX2_become_5 (by decide) kw_148 rfl ⟨rfl, rfl⟩ e4 ?_
  refine ev_aload_n C dX2_become_8 rfl (q := 0) rfl ?_
  refine ev_aload_n C dX2_become_9 rfl (q := 1) rfl ?_
  obtain ⟨x5, e6, hf⟩ := obnd hf
  refine ev_get (k := 1) C ok_3 dX2_become_10 (by decide) kw_151 (fI_V e6) ?_
  obtain ⟨M7, e8, hf⟩ := obnd hf
  refine ev_put (k := 1) C ok_3 dX2_become_13 (by decide) kw_151 rfl ⟨rfl, rfl⟩ e8 ?_
  refine ev_aload_n C dX2_become_16 rfl (q := 0) rfl ?_
  refine ev_aload_n C dX2_become_17 rfl (q := 1) rfl ?_
  obtain ⟨x9, e10, hf⟩ := obnd hf
  refine ev_get (k := 2) C ok_3 dX2_become_18 (by decide) kw_157 (fI_V e10) ?_
  obtain ⟨M11, e12, hf⟩ := obnd hf
  refine ev_put (k := 2) C ok_3 dX2_become_21 (by decide) kw_157 rfl ⟨rfl, rfl⟩ e12 ?_
  refine ev_aload_n C dX2_become_24 rfl (q := 1) rfl ?_
  obtain ⟨x13, e14, hf⟩ := obnd hf
  refine ev_get (k := 3) C ok_3 dX2_become_25 (by decide) kw_160 (fR_V e14) ?_
  refine ev_iconst (v := 0) C dX2_become_28 (by decide) ?_
  refine ev_aload_n C dX2_become_29 rfl (q := 0) rfl ?_
  obtain ⟨x15, e16, hf⟩ := obnd hf
  refine ev_get (k := 3) C ok_3 dX2_become_30 (by decide) kw_160 (fR_V e16) ?_
  refine ev_iconst (v := 0) C dX2_become_33 (by decide) ?_
  refine ev_iconst (v := 4) C dX2_become_34 (by decide) ?_
  obtain ⟨M17, e18, hf⟩ := obnd hf
  refine ev_cpI C kw_1142 kw_872 kw_871 kw_94 (mfr E (by decide)) (mlo E (by decide)) (Nat.le_of_ble_eq_true rfl) dX2_become_35 e18 ?_
  obtain rfl := Option.some.inj hf
  exact ev_vret C E (Nat.le_refl 0) (Nat.le_refl 0) dX2_become_38
/-! FareLimits$Network become(LFareLimits$Network;)V -/
theorem dX4_become_0 : decode prog_6_method_2_code 0 = .ok (.aload_n 1, 1) := by decide +kernel
theorem dX4_become_1 : decode prog_6_method_2_code 1 = .ok (.getfield 9, 3) := by decide +kernel
theorem dX4_become_4 : decode prog_6_method_2_code 4 = .ok (.iconst 0, 1) := by decide +kernel
theorem dX4_become_5 : decode prog_6_method_2_code 5 = .ok (.aload_n 0, 1) := by decide +kernel
theorem dX4_become_6 : decode prog_6_method_2_code 6 = .ok (.getfield 9, 3) := by decide +kernel
theorem dX4_become_9 : decode prog_6_method_2_code 9 = .ok (.iconst 0, 1) := by decide +kernel
theorem dX4_become_10 : decode prog_6_method_2_code 10 = .ok (.iconst 4, 1) := by decide +kernel
theorem dX4_become_11 : decode prog_6_method_2_code 11 = .ok (.invokestatic 24, 3) := by decide +kernel
theorem dX4_become_14 : decode prog_6_method_2_code 14 = .ok (.aload_n 1, 1) := by decide +kernel
theorem dX4_become_15 : decode prog_6_method_2_code 15 = .ok (.getfield 15, 3) := by decide +kernel
theorem dX4_become_18 : decode prog_6_method_2_code 18 = .ok (.iconst 0, 1) := by decide +kernel
theorem dX4_become_19 : decode prog_6_method_2_code 19 = .ok (.aload_n 0, 1) := by decide +kernel
theorem dX4_become_20 : decode prog_6_method_2_code 20 = .ok (.getfield 15, 3) := by decide +kernel
theorem dX4_become_23 : decode prog_6_method_2_code 23 = .ok (.iconst 0, 1) := by decide +kernel
theorem dX4_become_24 : decode prog_6_method_2_code 24 = .ok (.iconst 4, 1) := by decide +kernel
theorem dX4_become_25 : decode prog_6_method_2_code 25 = .ok (.invokestatic 24, 3) := by decide +kernel
theorem dX4_become_28 : decode prog_6_method_2_code 28 = .ok (.iconst 0, 1) := by decide +kernel
theorem dX4_become_29 : decode prog_6_method_2_code 29 = .ok (.istore_n 2, 1) := by decide +kernel
theorem dX4_become_30 : decode prog_6_method_2_code 30 = .ok (.iload_n 2, 1) := by decide +kernel
theorem dX4_become_31 : decode prog_6_method_2_code 31 = .ok (.bipush 12, 2) := by decide +kernel
theorem dX4_become_33 : decode prog_6_method_2_code 33 = .ok (.if_icmp .ge 21, 3) := by decide +kernel
theorem dX4_become_36 : decode prog_6_method_2_code 36 = .ok (.aload_n 0, 1) := by decide +kernel
theorem dX4_become_37 : decode prog_6_method_2_code 37 = .ok (.getfield 20, 3) := by decide +kernel
theorem dX4_become_40 : decode prog_6_method_2_code 40 = .ok (.iload_n 2, 1) := by decide +kernel
theorem dX4_become_41 : decode prog_6_method_2_code 41 = .ok (.aload_n 1, 1) := by decide +kernel
theorem dX4_become_42 : decode prog_6_method_2_code 42 = .ok (.getfield 20, 3) := by decide +kernel
theorem dX4_become_45 : decode prog_6_method_2_code 45 = .ok (.iload_n 2, 1) := by decide +kernel
theorem dX4_become_46 : decode prog_6_method_2_code 46 = .ok (.aaload, 1) := by decide +kernel
theorem dX4_become_47 : decode prog_6_method_2_code 47 = .ok (.aastore, 1) := by decide +kernel
theorem dX4_become_48 : decode prog_6_method_2_code 48 = .ok (.iinc 2 1, 3) := by decide +kernel
theorem dX4_become_51 : decode prog_6_method_2_code 51 = .ok (.goto (-21), 3) := by decide +kernel
theorem dX4_become_54 : decode prog_6_method_2_code 54 = .ok (.aload_n 0, 1) := by decide +kernel
theorem dX4_become_55 : decode prog_6_method_2_code 55 = .ok (.aload_n 1, 1) := by decide +kernel
theorem dX4_become_56 : decode prog_6_method_2_code 56 = .ok (.getfield 30, 3) := by decide +kernel
theorem dX4_become_59 : decode prog_6_method_2_code 59 = .ok (.putfield 30, 3) := by decide +kernel
theorem dX4_become_62 : decode prog_6_method_2_code 62 = .ok (.return_, 1) := by decide +kernel
def m_X4_become_L30 (N : Nat)  : Nat → Nat → Nat → Int32 → mM → Option (mM)
  | 0, _, _, _, _ => none
  | n + 1, a0, a1, i2, M =>
    if 12 ≤ i2 then (
      (fI M a1 4 3).bind fun x1 =>
      (sV M a0 4 3 (.int x1)).bind fun M3 =>
      some M3) else (
      (fR M a0 4 2).bind fun x5 =>
      (fR M a1 4 2).bind fun x7 =>
      (aQ 6 M x7 i2).bind fun x9 =>
      (uQ 6 6 M x5 i2 x9).bind fun M11 =>
      (m_X4_become_L30 N  n) a0 a1 (i2 + 1) M11)
set_option maxHeartbeats 4000000 in
set_option maxRecDepth 100000 in
theorem t_X4_become_L30 {X : mX} {L0 : Launch} {res : mM} {N : Nat} (C : CX X RX4 "become" prog_6_method_2_code 3 none) (E : EX X L0 1 40 0 0 none res)   : ∀ (n : Nat) (a0 : Nat) (a1 : Nat) (i2 : Int32) (M : mM), m_X4_become_L30 N  n a0 a1 i2 M = some res → EV X 3 30 [(0, .ref a0), (1, .ref a1), (2, .int i2)] [] 0 0 M := by
  intro n
  induction n with
  | zero => intro a0 a1 i2 M hf; cases (show (none : Option (mM)) = some res from hf)
  | succ n ih =>
    intro a0 a1 i2 M hf
    rw [m_X4_become_L30] at hf
    refine ev_iload_n C dX4_become_30 rfl (q := 2) rfl ?_
    refine ev_bipush (v := 12) C dX4_become_31 (by decide) ?_
    refine ev_icmp_ge (tgt := 54) C dX4_become_33 (by decide) (fun hc => ?_) (fun hc => ?_)
    · have hf := oit hf hc
      refine ev_aload_n C dX4_become_54 rfl (q := 0) rfl ?_
      refine ev_aload_n C dX4_become_55 rfl (q := 1) rfl ?_
      obtain ⟨x1, e2, hf⟩ := obnd hf
      refine ev_get (k := 3) C ok_4 dX4_become_56 (by decide) kw_128 (fI_V e2) ?_
      obtain ⟨M3, e4, hf⟩ := obnd hf
      refine ev_put (k := 3) C ok_4 dX4_become_59 (by decide) kw_128 rfl ⟨rfl, rfl⟩ e4 ?_
      obtain rfl := Option.some.inj hf
      exact ev_vret C E (Nat.le_refl 0) (Nat.le_refl 0) dX4_become_62
    · have hf := oie hf hc
      refine ev_aload_n C dX4_become_36 rfl (q := 0) rfl ?_
      obtain ⟨x5, e6, hf⟩ := obnd hf
      refine ev_get (k := 2) C ok_4 dX4_become_37 (by decide) kw_126 (fR_V e6) ?_
      refine ev_iload_n C dX4_become_40 rfl (q := 2) rfl ?_
      refine ev_aload_n C dX4_become_41 rfl (q := 1) rfl ?_
      obtain ⟨x7, e8, hf⟩ := obnd hf
      refine ev_get (k := 2) C ok_4 dX4_become_42 (by decide) kw_126 (fR_V e8) ?_
      refine ev_iload_n C dX4_become_45 rfl (q := 2) rfl ?_
      obtain ⟨x9, e10, hf⟩ := obnd hf
      refine ev_aldq C (t := 6) rfl rfl dX4_become_46 e10 ?_
      obtain ⟨M11, e12, hf⟩ := obnd hf
      refine ev_astq C (t := 6) (ci := 6) rfl rfl dX4_become_47 e12 ?_
      refine ev_iinc (v := i2 + 1) (l' := [(2, .int (i2 + 1)), (0, .ref a0), (1, .ref a1)]) C dX4_become_48 (q := 2) rfl rfl (by decide) rfl ?_
      refine ev_goto (tgt := 30) C dX4_become_51 (by decide) ?_
      refine ev_sub [1, 2, 0] rfl ?_
      exact ih a0 a1 (i2 + 1) M11 hf
def m_X4_become (N : Nat) (a0 : Nat) (a1 : Nat) (M : mM) : Option (mM) :=
  (fR M a1 4 0).bind fun x1 =>
  (fR M a0 4 0).bind fun x3 =>
  (cpI M x1 0 x3 0 4).bind fun M5 =>
  (fR M5 a1 4 1).bind fun x7 =>
  (fR M5 a0 4 1).bind fun x9 =>
  (cpI M5 x7 0 x9 0 4).bind fun M11 =>
  m_X4_become_L30 N  N a0 a1 0 M11
set_option maxHeartbeats 4000000 in
set_option maxRecDepth 100000 in
theorem t_X4_become {L0 : Launch} {M : mM} {N : Nat} {a0 : Nat} {a1 : Nat} {res : mM} (hf : m_X4_become N a0 a1 M = some res) : CT L0 yX4_become prog_6_method_2_code 3 none 1 40 0 0 [.ref a0, .ref a1] M none res := by
  refine CT.of (by decide +kernel) (Nat.le_of_ble_eq_true rfl) fun X C E => ?_
  have C : CX X RX4 "become" prog_6_method_2_code 3 none := C
  show EV X 3 0 [(0, .ref a0), (1, .ref a1)] [] 0 0 M
  unfold m_X4_become at hf
  refine ev_aload_n C dX4_become_0 rfl (q := 1) rfl ?_
  obtain ⟨x1, e2, hf⟩ := obnd hf
  refine ev_get (k := 0) C ok_4 dX4_become_1 (by decide) kw_122 (fR_V e2) ?_
  refine ev_iconst (v := 0) C dX4_become_4 (by decide) ?_
  refine ev_aload_n C dX4_become_5 rfl (q := 0) rfl ?_
  obtain ⟨x3, e4, hf⟩ := obnd hf
  refine ev_get (k := 0) C ok_4 dX4_become_6 (by decide) kw_122 (fR_V e4) ?_
  refine ev_iconst (v := 0) C dX4_become_9 (by decide) ?_
  refine ev_iconst (v := 4) C dX4_become_10 (by decide) ?_
  obtain ⟨M5, e6, hf⟩ := obnd hf
  refine ev_cpI C kw_1148 kw_872 kw_871 kw_94 (mfr E (by decide)) (mlo E (by decide)) (Nat.le_of_ble_eq_true rfl) dX4_become_11 e6 ?_
  refine ev_aload_n C dX4_become_14 rfl (q := 1) rfl ?_
  obtain ⟨x7, e8, hf⟩ := obnd hf
  refine ev_get (k := 1) C ok_4 dX4_become_15 (by decide) kw_124 (fR_V e8) ?_
  refine ev_iconst (v := 0) C dX4_become_18 (by decide) ?_
  refine ev_aload_n C dX4_become_19 rfl (q := 0) rfl ?_
  obtain ⟨x9, e10, hf⟩ := obnd hf
  refine ev_get (k := 1) C ok_4 dX4_become_20 (by decide) kw_124 (fR_V e10) ?_
  refine ev_iconst (v := 0) C dX4_become_23 (by decide) ?_
  refine ev_iconst (v := 4) C dX4_become_24 (by decide) ?_
  obtain ⟨M11, e12, hf⟩ := obnd hf
  refine ev_cpI C kw_1148 kw_872 kw_871 kw_94 (mfr E (by decide)) (mlo E (by decide)) (Nat.le_of_ble_eq_true rfl) dX4_become_25 e12 ?_
  refine ev_iconst (v := 0) C dX4_become_28 (by decide) ?_
  refine ev_istore_n (l' := [(2, .int 0), (0, .ref a0), (1, .ref a1)]) C dX4_become_29 rfl (by decide) rfl ?_
  refine ev_sub [1, 2, 0] rfl ?_
  exact t_X4_become_L30 C E   N a0 a1 0 M11 hf
/-! FareLimits$Plan become(LFareLimits$Plan;)V -/
theorem dX5_become_0 : decode prog_7_method_2_code 0 = .ok (.iconst 0, 1) := by decide +kernel
theorem dX5_become_1 : decode prog_7_method_2_code 1 = .ok (.istore_n 2, 1) := by decide +kernel
theorem dX5_become_2 : decode prog_7_method_2_code 2 = .ok (.iload_n 2, 1) := by decide +kernel
theorem dX5_become_3 : decode prog_7_method_2_code 3 = .ok (.bipush 6, 2) := by decide +kernel
theorem dX5_become_5 : decode prog_7_method_2_code 5 = .ok (.if_icmp .ge 24, 3) := by decide +kernel
theorem dX5_become_8 : decode prog_7_method_2_code 8 = .ok (.aload_n 0, 1) := by decide +kernel
theorem dX5_become_9 : decode prog_7_method_2_code 9 = .ok (.getfield 11, 3) := by decide +kernel
theorem dX5_become_12 : decode prog_7_method_2_code 12 = .ok (.iload_n 2, 1) := by decide +kernel
theorem dX5_become_13 : decode prog_7_method_2_code 13 = .ok (.aaload, 1) := by decide +kernel
theorem dX5_become_14 : decode prog_7_method_2_code 14 = .ok (.aload_n 1, 1) := by decide +kernel
theorem dX5_become_15 : decode prog_7_method_2_code 15 = .ok (.getfield 11, 3) := by decide +kernel
theorem dX5_become_18 : decode prog_7_method_2_code 18 = .ok (.iload_n 2, 1) := by decide +kernel
theorem dX5_become_19 : decode prog_7_method_2_code 19 = .ok (.aaload, 1) := by decide +kernel
theorem dX5_become_20 : decode prog_7_method_2_code 20 = .ok (.invokevirtual 33, 3) := by decide +kernel
theorem dX5_become_23 : decode prog_7_method_2_code 23 = .ok (.iinc 2 1, 3) := by decide +kernel
theorem dX5_become_26 : decode prog_7_method_2_code 26 = .ok (.goto (-24), 3) := by decide +kernel
theorem dX5_become_29 : decode prog_7_method_2_code 29 = .ok (.aload_n 0, 1) := by decide +kernel
theorem dX5_become_30 : decode prog_7_method_2_code 30 = .ok (.aload_n 1, 1) := by decide +kernel
theorem dX5_become_31 : decode prog_7_method_2_code 31 = .ok (.getfield 37, 3) := by decide +kernel
theorem dX5_become_34 : decode prog_7_method_2_code 34 = .ok (.putfield 37, 3) := by decide +kernel
theorem dX5_become_37 : decode prog_7_method_2_code 37 = .ok (.aload_n 1, 1) := by decide +kernel
theorem dX5_become_38 : decode prog_7_method_2_code 38 = .ok (.getfield 17, 3) := by decide +kernel
theorem dX5_become_41 : decode prog_7_method_2_code 41 = .ok (.iconst 0, 1) := by decide +kernel
theorem dX5_become_42 : decode prog_7_method_2_code 42 = .ok (.aload_n 0, 1) := by decide +kernel
theorem dX5_become_43 : decode prog_7_method_2_code 43 = .ok (.getfield 17, 3) := by decide +kernel
theorem dX5_become_46 : decode prog_7_method_2_code 46 = .ok (.iconst 0, 1) := by decide +kernel
theorem dX5_become_47 : decode prog_7_method_2_code 47 = .ok (.aload_n 0, 1) := by decide +kernel
theorem dX5_become_48 : decode prog_7_method_2_code 48 = .ok (.getfield 17, 3) := by decide +kernel
theorem dX5_become_51 : decode prog_7_method_2_code 51 = .ok (.arraylength, 1) := by decide +kernel
theorem dX5_become_52 : decode prog_7_method_2_code 52 = .ok (.invokestatic 40, 3) := by decide +kernel
theorem dX5_become_55 : decode prog_7_method_2_code 55 = .ok (.aload_n 0, 1) := by decide +kernel
theorem dX5_become_56 : decode prog_7_method_2_code 56 = .ok (.getfield 24, 3) := by decide +kernel
theorem dX5_become_59 : decode prog_7_method_2_code 59 = .ok (.aload_n 1, 1) := by decide +kernel
theorem dX5_become_60 : decode prog_7_method_2_code 60 = .ok (.getfield 24, 3) := by decide +kernel
theorem dX5_become_63 : decode prog_7_method_2_code 63 = .ok (.invokevirtual 46, 3) := by decide +kernel
theorem dX5_become_66 : decode prog_7_method_2_code 66 = .ok (.aload_n 0, 1) := by decide +kernel
theorem dX5_become_67 : decode prog_7_method_2_code 67 = .ok (.aload_n 1, 1) := by decide +kernel
theorem dX5_become_68 : decode prog_7_method_2_code 68 = .ok (.getfield 28, 3) := by decide +kernel
theorem dX5_become_71 : decode prog_7_method_2_code 71 = .ok (.putfield 28, 3) := by decide +kernel
theorem dX5_become_74 : decode prog_7_method_2_code 74 = .ok (.return_, 1) := by decide +kernel
def m_X5_become_L2 (N : Nat)  : Nat → Nat → Nat → Int32 → mM → Option (mM)
  | 0, _, _, _, _ => none
  | n + 1, a0, a1, i2, M =>
    if 6 ≤ i2 then (
      (fI M a1 5 1).bind fun x1 =>
      (sV M a0 5 1 (.int x1)).bind fun M3 =>
      (fR M3 a1 5 2).bind fun x5 =>
      (fR M3 a0 5 2).bind fun x7 =>
      (fR M3 a0 5 2).bind fun x9 =>
      (aN 0 M3 x9).bind fun x11 =>
      (cpI M3 x5 0 x7 0 x11).bind fun M13 =>
      (fR M13 a0 5 3).bind fun x15 =>
      (fR M13 a1 5 3).bind fun x17 =>
      (oO M13 x15 4).bind fun _ =>
      (m_X4_become N x15 x17 M13).bind fun x21 =>
      (fI x21 a1 5 4).bind fun x23 =>
      (sV x21 a0 5 4 (.int x23)).bind fun M25 =>
      some M25) else (
      (fR M a0 5 0).bind fun x27 =>
      (aR 5 M x27 i2).bind fun x29 =>
      (fR M a1 5 0).bind fun x31 =>
      (aR 5 M x31 i2).bind fun x33 =>
      (oO M x29 3).bind fun _ =>
      (m_X2_become x29 x33 M).bind fun x37 =>
      (m_X5_become_L2 N  n) a0 a1 (i2 + 1) x37)
set_option maxHeartbeats 4000000 in
set_option maxRecDepth 100000 in
theorem t_X5_become_L2 {X : mX} {L0 : Launch} {res : mM} {N : Nat} (C : CX X RX5 "become" prog_7_method_2_code 3 none) (E : EX X L0 2 62 0 0 none res)   : ∀ (n : Nat) (a0 : Nat) (a1 : Nat) (i2 : Int32) (M : mM), m_X5_become_L2 N  n a0 a1 i2 M = some res → EV X 3 2 [(0, .ref a0), (1, .ref a1), (2, .int i2)] [] 0 0 M := by
  intro n
  induction n with
  | zero => intro a0 a1 i2 M hf; cases (show (none : Option (mM)) = some res from hf)
  | succ n ih =>
    intro a0 a1 i2 M hf
    rw [m_X5_become_L2] at hf
    refine ev_iload_n C dX5_become_2 rfl (q := 2) rfl ?_
    refine ev_bipush (v := 6) C dX5_become_3 (by decide) ?_
    refine ev_icmp_ge (tgt := 29) C dX5_become_5 (by decide) (fun hc => ?_) (fun hc => ?_)
    · have hf := oit hf hc
      refine ev_aload_n C dX5_become_29 rfl (q := 0) rfl ?_
      refine ev_aload_n C dX5_become_30 rfl (q := 1) rfl ?_
      obtain ⟨x1, e2, hf⟩ := obnd hf
      refine ev_get (k := 1) C ok_5 dX5_become_31 (by decide) kw_182 (fI_V e2) ?_
      obtain ⟨M3, e4, hf⟩ := obnd hf
      refine ev_put (k := 1) C ok_5 dX5_become_34 (by decide) kw_182 rfl ⟨rfl, rfl⟩ e4 ?_
      refine ev_aload_n C dX5_become_37 rfl (q := 1) rfl ?_
      obtain ⟨x5, e6, hf⟩ := obnd hf
      refine ev_get (k := 2) C ok_5 dX5_become_38 (by decide) kw_187 (fR_V e6) ?_
      refine ev_iconst (v := 0) C dX5_become_41 (by decide) ?_
      refine ev_aload_n C dX5_become_42 rfl (q := 0) rfl ?_
      obtain ⟨x7, e8, hf⟩ := obnd hf
      refine ev_get (k := 2) C ok_5 dX5_become_43 (by decide) kw_187 (fR_V e8) ?_
      refine ev_iconst (v := 0) C dX5_become_46 (by decide) ?_
      refine ev_aload_n C dX5_become_47 rfl (q := 0) rfl ?_
      obtain ⟨x9, e10, hf⟩ := obnd hf
      refine ev_get (k := 2) C ok_5 dX5_become_48 (by decide) kw_187 (fR_V e10) ?_
      obtain ⟨x11, e12, hf⟩ := obnd hf
      refine ev_alen (t := 0) C rfl dX5_become_51 e12 ?_
      obtain ⟨M13, e14, hf⟩ := obnd hf
      refine ev_cpI C kw_1143 kw_872 kw_871 kw_94 (mfr E (by decide)) (mlo E (by decide)) (Nat.le_of_ble_eq_true rfl) dX5_become_52 e14 ?_
      refine ev_aload_n C dX5_become_55 rfl (q := 0) rfl ?_
      obtain ⟨x15, e16, hf⟩ := obnd hf
      refine ev_get (k := 3) C ok_5 dX5_become_56 (by decide) kw_192 (fR_V e16) ?_
      refine ev_aload_n C dX5_become_59 rfl (q := 1) rfl ?_
      obtain ⟨x17, e18, hf⟩ := obnd hf
      refine ev_get (k := 3) C ok_5 dX5_become_60 (by decide) kw_192 (fR_V e18) ?_
      obtain ⟨_, e19, hf⟩ := obnd hf
      obtain ⟨fs20, e19⟩ := oO_eq e19
      obtain ⟨x21, e22, hf⟩ := obnd hf
      refine ev_callV0 (As := [.ref x17]) (st := []) C rfl e19 (t_X4_become e22) rfl hd_X4_become rfl kw_1144 kw_1145 kw_72 kw_1146 kw_1147 (mRoom.of E (Nat.le_of_ble_eq_true rfl) (Nat.le_of_ble_eq_true rfl) (Nat.le_refl 0) (Nat.le_refl 0)) (Nat.le_of_ble_eq_true rfl) dX5_become_63 ?_
      refine ev_aload_n C dX5_become_66 rfl (q := 0) rfl ?_
      refine ev_aload_n C dX5_become_67 rfl (q := 1) rfl ?_
      obtain ⟨x23, e24, hf⟩ := obnd hf
      refine ev_get (k := 4) C ok_5 dX5_become_68 (by decide) kw_194 (fI_V e24) ?_
      obtain ⟨M25, e26, hf⟩ := obnd hf
      refine ev_put (k := 4) C ok_5 dX5_become_71 (by decide) kw_194 rfl ⟨rfl, rfl⟩ e26 ?_
      obtain rfl := Option.some.inj hf
      exact ev_vret C E (Nat.le_refl 0) (Nat.le_refl 0) dX5_become_74
    · have hf := oie hf hc
      refine ev_aload_n C dX5_become_8 rfl (q := 0) rfl ?_
      obtain ⟨x27, e28, hf⟩ := obnd hf
      refine ev_get (k := 0) C ok_5 dX5_become_9 (by decide) kw_176 (fR_V e28) ?_
      refine ev_iload_n C dX5_become_12 rfl (q := 2) rfl ?_
      obtain ⟨x29, e30, hf⟩ := obnd hf
      refine ev_aldr C (t := 5) rfl rfl dX5_become_13 e30 ?_
      refine ev_aload_n C dX5_become_14 rfl (q := 1) rfl ?_
      obtain ⟨x31, e32, hf⟩ := obnd hf
      refine ev_get (k := 0) C ok_5 dX5_become_15 (by decide) kw_176 (fR_V e32) ?_
      refine ev_iload_n C dX5_become_18 rfl (q := 2) rfl ?_
      obtain ⟨x33, e34, hf⟩ := obnd hf
      refine ev_aldr C (t := 5) rfl rfl dX5_become_19 e34 ?_
      obtain ⟨_, e35, hf⟩ := obnd hf
      obtain ⟨fs36, e35⟩ := oO_eq e35
      obtain ⟨x37, e38, hf⟩ := obnd hf
      refine ev_callV0 (As := [.ref x33]) (st := []) C rfl e35 (t_X2_become e38) rfl hd_X2_become rfl kw_1138 kw_1139 kw_73 kw_1140 kw_1141 (mRoom.of E (Nat.le_of_ble_eq_true rfl) (Nat.le_of_ble_eq_true rfl) (Nat.le_refl 0) (Nat.le_refl 0)) (Nat.le_of_ble_eq_true rfl) dX5_become_20 ?_
      refine ev_iinc (v := i2 + 1) (l' := [(2, .int (i2 + 1)), (0, .ref a0), (1, .ref a1)]) C dX5_become_23 (q := 2) rfl rfl (by decide) rfl ?_
      refine ev_goto (tgt := 2) C dX5_become_26 (by decide) ?_
      refine ev_sub [1, 2, 0] rfl ?_
      exact ih a0 a1 (i2 + 1) x37 hf
def m_X5_become (N : Nat) (a0 : Nat) (a1 : Nat) (M : mM) : Option (mM) :=
  m_X5_become_L2 N  N a0 a1 0 M
set_option maxHeartbeats 4000000 in
set_option maxRecDepth 100000 in
theorem t_X5_become {L0 : Launch} {M : mM} {N : Nat} {a0 : Nat} {a1 : Nat} {res : mM} (hf : m_X5_become N a0 a1 M = some res) : CT L0 yX5_become prog_7_method_2_code 3 none 2 62 0 0 [.ref a0, .ref a1] M none res := by
  refine CT.of (by decide +kernel) (Nat.le_of_ble_eq_true rfl) fun X C E => ?_
  have C : CX X RX5 "become" prog_7_method_2_code 3 none := C
  show EV X 3 0 [(0, .ref a0), (1, .ref a1)] [] 0 0 M
  unfold m_X5_become at hf
  refine ev_iconst (v := 0) C dX5_become_0 (by decide) ?_
  refine ev_istore_n (l' := [(2, .int 0), (0, .ref a0), (1, .ref a1)]) C dX5_become_1 rfl (by decide) rfl ?_
  refine ev_sub [1, 2, 0] rfl ?_
  exact t_X5_become_L2 C E   N a0 a1 0 M hf
/-! FareLimits image()I -/
theorem dX11_image_0 : decode prog_1_method_48_code 0 = .ok (.aload_n 0, 1) := by decide +kernel
theorem dX11_image_1 : decode prog_1_method_48_code 1 = .ok (.getfield 16, 3) := by decide +kernel
theorem dX11_image_4 : decode prog_1_method_48_code 4 = .ok (.aload_n 0, 1) := by decide +kernel
theorem dX11_image_5 : decode prog_1_method_48_code 5 = .ok (.getfield 12, 3) := by decide +kernel
theorem dX11_image_8 : decode prog_1_method_48_code 8 = .ok (.invokevirtual 353, 3) := by decide +kernel
theorem dX11_image_11 : decode prog_1_method_48_code 11 = .ok (.aload_n 0, 1) := by decide +kernel
theorem dX11_image_12 : decode prog_1_method_48_code 12 = .ok (.iconst 1, 1) := by decide +kernel
theorem dX11_image_13 : decode prog_1_method_48_code 13 = .ok (.putfield 355, 3) := by decide +kernel
theorem dX11_image_16 : decode prog_1_method_48_code 16 = .ok (.aload_n 0, 1) := by decide +kernel
theorem dX11_image_17 : decode prog_1_method_48_code 17 = .ok (.getfield 12, 3) := by decide +kernel
theorem dX11_image_20 : decode prog_1_method_48_code 20 = .ok (.getfield 95, 3) := by decide +kernel
theorem dX11_image_23 : decode prog_1_method_48_code 23 = .ok (.ireturn, 1) := by decide +kernel
def m_X11_image (N : Nat) (a0 : Nat) (M : mM) : Option (Int32 × mM) :=
  (fR M a0 11 1).bind fun x1 =>
  (fR M a0 11 0).bind fun x3 =>
  (oO M x1 5).bind fun _ =>
  (m_X5_become N x1 x3 M).bind fun x7 =>
  (sZ x7 a0 11 2 1).bind fun M9 =>
  (fR M9 a0 11 0).bind fun x11 =>
  (fI M9 x11 5 1).bind fun x13 =>
  some (x13, M9)
set_option maxHeartbeats 4000000 in
set_option maxRecDepth 100000 in
theorem t_X11_image {L0 : Launch} {M : mM} {N : Nat} {a0 : Nat} {res : Int32 × mM} (hf : m_X11_image N a0 M = some res) : CT L0 yX11_image prog_1_method_48_code 1 (some .int) 3 84 0 0 [.ref a0] M (some (.int res.1)) res.2 := by
  refine CT.of (by decide +kernel) (Nat.le_of_ble_eq_true rfl) fun X C E => ?_
  have C : CX X RX11 "image" prog_1_method_48_code 1 (some .int) := C
  show EV X 1 0 [(0, .ref a0)] [] 0 0 M
  unfold m_X11_image at hf
  refine ev_aload_n C dX11_image_0 rfl (q := 0) rfl ?_
  obtain ⟨x1, e2, hf⟩ := obnd hf
  refine ev_get (k := 1) C ok_11 dX11_image_1 (by decide) kw_393 (fR_V e2) ?_
  refine ev_aload_n C dX11_image_4 rfl (q := 0) rfl ?_
  obtain ⟨x3, e4, hf⟩ := obnd hf
  refine ev_get (k := 0) C ok_11 dX11_image_5 (by decide) kw_392 (fR_V e4) ?_
  obtain ⟨_, e5, hf⟩ := obnd hf
  obtain ⟨fs6, e5⟩ := oO_eq e5
  obtain ⟨x7, e8, hf⟩ := obnd hf
  refine ev_callV0 (As := [.ref x3]) (st := []) C rfl e5 (t_X5_become e8) rfl hd_X5_become rfl kw_1134 kw_1135 kw_71 kw_1136 kw_1137 (mRoom.of E (Nat.le_of_ble_eq_true rfl) (Nat.le_of_ble_eq_true rfl) (Nat.le_refl 0) (Nat.le_refl 0)) (Nat.le_of_ble_eq_true rfl) dX11_image_8 ?_
  refine ev_aload_n C dX11_image_11 rfl (q := 0) rfl ?_
  refine ev_iconst (v := 1) C dX11_image_12 (by decide) ?_
  obtain ⟨M9, e10, hf⟩ := obnd hf
  refine ev_put (k := 2) C ok_11 dX11_image_13 (by decide) kw_394 rfl (sZ_fit e10) (sZ_V e10) ?_
  refine ev_aload_n C dX11_image_16 rfl (q := 0) rfl ?_
  obtain ⟨x11, e12, hf⟩ := obnd hf
  refine ev_get (k := 0) C ok_11 dX11_image_17 (by decide) kw_392 (fR_V e12) ?_
  obtain ⟨x13, e14, hf⟩ := obnd hf
  refine ev_get (k := 1) C ok_5 dX11_image_20 (by decide) kw_183 (fI_V e14) ?_
  obtain rfl := Option.some.inj hf
  exact ev_iret C E (Nat.le_refl 0) (Nat.le_refl 0) dX11_image_23
/-! FareLimits undo()I -/
theorem dX11_undo_0 : decode prog_1_method_49_code 0 = .ok (.aload_n 0, 1) := by decide +kernel
theorem dX11_undo_1 : decode prog_1_method_49_code 1 = .ok (.getfield 355, 3) := by decide +kernel
theorem dX11_undo_4 : decode prog_1_method_49_code 4 = .ok (.ifCond .ne 6, 3) := by decide +kernel
theorem dX11_undo_7 : decode prog_1_method_49_code 7 = .ok (.bipush (-3), 2) := by decide +kernel
theorem dX11_undo_9 : decode prog_1_method_49_code 9 = .ok (.ireturn, 1) := by decide +kernel
theorem dX11_undo_10 : decode prog_1_method_49_code 10 = .ok (.aload_n 0, 1) := by decide +kernel
theorem dX11_undo_11 : decode prog_1_method_49_code 11 = .ok (.getfield 12, 3) := by decide +kernel
theorem dX11_undo_14 : decode prog_1_method_49_code 14 = .ok (.aload_n 0, 1) := by decide +kernel
theorem dX11_undo_15 : decode prog_1_method_49_code 15 = .ok (.getfield 16, 3) := by decide +kernel
theorem dX11_undo_18 : decode prog_1_method_49_code 18 = .ok (.invokevirtual 353, 3) := by decide +kernel
theorem dX11_undo_21 : decode prog_1_method_49_code 21 = .ok (.aload_n 0, 1) := by decide +kernel
theorem dX11_undo_22 : decode prog_1_method_49_code 22 = .ok (.getfield 24, 3) := by decide +kernel
theorem dX11_undo_25 : decode prog_1_method_49_code 25 = .ok (.invokevirtual 109, 3) := by decide +kernel
theorem dX11_undo_28 : decode prog_1_method_49_code 28 = .ok (.aload_n 0, 1) := by decide +kernel
theorem dX11_undo_29 : decode prog_1_method_49_code 29 = .ok (.getfield 12, 3) := by decide +kernel
theorem dX11_undo_32 : decode prog_1_method_49_code 32 = .ok (.getfield 95, 3) := by decide +kernel
theorem dX11_undo_35 : decode prog_1_method_49_code 35 = .ok (.ireturn, 1) := by decide +kernel
def m_X11_undo (N : Nat) (a0 : Nat) (M : mM) : Option (Int32 × mM) :=
  (fI M a0 11 2).bind fun x1 =>
  if x1 = 0 then (
    some ((-3), M)) else (
    (fR M a0 11 0).bind fun x3 =>
    (fR M a0 11 1).bind fun x5 =>
    (oO M x3 5).bind fun _ =>
    (m_X5_become N x3 x5 M).bind fun x9 =>
    (fR x9 a0 11 3).bind fun x11 =>
    (oO x9 x11 10).bind fun _ =>
    (m_X10_forget x11 x9).bind fun x15 =>
    (fR x15 a0 11 0).bind fun x17 =>
    (fI x15 x17 5 1).bind fun x19 =>
    some (x19, x15))
set_option maxHeartbeats 4000000 in
set_option maxRecDepth 100000 in
theorem t_X11_undo {L0 : Launch} {M : mM} {N : Nat} {a0 : Nat} {res : Int32 × mM} (hf : m_X11_undo N a0 M = some res) : CT L0 yX11_undo prog_1_method_49_code 1 (some .int) 3 84 0 0 [.ref a0] M (some (.int res.1)) res.2 := by
  refine CT.of (by decide +kernel) (Nat.le_of_ble_eq_true rfl) fun X C E => ?_
  have C : CX X RX11 "undo" prog_1_method_49_code 1 (some .int) := C
  show EV X 1 0 [(0, .ref a0)] [] 0 0 M
  unfold m_X11_undo at hf
  refine ev_aload_n C dX11_undo_0 rfl (q := 0) rfl ?_
  obtain ⟨x1, e2, hf⟩ := obnd hf
  refine ev_get (k := 2) C ok_11 dX11_undo_1 (by decide) kw_394 (fI_V e2) ?_
  refine ev_if_ne (tgt := 10) C dX11_undo_4 (by decide) (fun hc => ?_) (fun hc => ?_)
  · have hf := oie hf hc
    refine ev_aload_n C dX11_undo_10 rfl (q := 0) rfl ?_
    obtain ⟨x3, e4, hf⟩ := obnd hf
    refine ev_get (k := 0) C ok_11 dX11_undo_11 (by decide) kw_392 (fR_V e4) ?_
    refine ev_aload_n C dX11_undo_14 rfl (q := 0) rfl ?_
    obtain ⟨x5, e6, hf⟩ := obnd hf
    refine ev_get (k := 1) C ok_11 dX11_undo_15 (by decide) kw_393 (fR_V e6) ?_
    obtain ⟨_, e7, hf⟩ := obnd hf
    obtain ⟨fs8, e7⟩ := oO_eq e7
    obtain ⟨x9, e10, hf⟩ := obnd hf
    refine ev_callV0 (As := [.ref x5]) (st := []) C rfl e7 (t_X5_become e10) rfl hd_X5_become rfl kw_1134 kw_1135 kw_71 kw_1136 kw_1137 (mRoom.of E (Nat.le_of_ble_eq_true rfl) (Nat.le_of_ble_eq_true rfl) (Nat.le_refl 0) (Nat.le_refl 0)) (Nat.le_of_ble_eq_true rfl) dX11_undo_18 ?_
    refine ev_aload_n C dX11_undo_21 rfl (q := 0) rfl ?_
    obtain ⟨x11, e12, hf⟩ := obnd hf
    refine ev_get (k := 3) C ok_11 dX11_undo_22 (by decide) kw_395 (fR_V e12) ?_
    obtain ⟨_, e13, hf⟩ := obnd hf
    obtain ⟨fs14, e13⟩ := oO_eq e13
    obtain ⟨x15, e16, hf⟩ := obnd hf
    refine ev_callV0 (As := []) (st := []) C rfl e13 (t_X10_forget e16) rfl hd_X10_forget rfl kw_443 kw_444 kw_76 kw_445 kw_446 (mRoom.of E (Nat.le_of_ble_eq_true rfl) (Nat.le_of_ble_eq_true rfl) (Nat.le_refl 0) (Nat.le_refl 0)) (Nat.le_of_ble_eq_true rfl) dX11_undo_25 ?_
    refine ev_aload_n C dX11_undo_28 rfl (q := 0) rfl ?_
    obtain ⟨x17, e18, hf⟩ := obnd hf
    refine ev_get (k := 0) C ok_11 dX11_undo_29 (by decide) kw_392 (fR_V e18) ?_
    obtain ⟨x19, e20, hf⟩ := obnd hf
    refine ev_get (k := 1) C ok_5 dX11_undo_32 (by decide) kw_183 (fI_V e20) ?_
    obtain rfl := Option.some.inj hf
    exact ev_iret C E (Nat.le_refl 0) (Nat.le_refl 0) dX11_undo_35
  · have hf := oit hf hc
    refine ev_bipush (v := (-3)) C dX11_undo_7 (by decide) ?_
    obtain rfl := Option.some.inj hf
    exact ev_iret C E (Nat.le_refl 0) (Nat.le_refl 0) dX11_undo_9
/-! FareLimitsModel <init>()V -/
theorem dX12_init_0 : decode prog_14_method_1_code 0 = .ok (.aload_n 0, 1) := by decide +kernel
theorem dX12_init_1 : decode prog_14_method_1_code 1 = .ok (.invokespecial 3, 3) := by decide +kernel
theorem dX12_init_4 : decode prog_14_method_1_code 4 = .ok (.aload_n 0, 1) := by decide +kernel
theorem dX12_init_5 : decode prog_14_method_1_code 5 = .ok (.sipush 129, 3) := by decide +kernel
theorem dX12_init_8 : decode prog_14_method_1_code 8 = .ok (.newarray .int, 2) := by decide +kernel
theorem dX12_init_10 : decode prog_14_method_1_code 10 = .ok (.putfield 9, 3) := by decide +kernel
theorem dX12_init_13 : decode prog_14_method_1_code 13 = .ok (.aload_n 0, 1) := by decide +kernel
theorem dX12_init_14 : decode prog_14_method_1_code 14 = .ok (.sipush 129, 3) := by decide +kernel
theorem dX12_init_17 : decode prog_14_method_1_code 17 = .ok (.newarray .int, 2) := by decide +kernel
theorem dX12_init_19 : decode prog_14_method_1_code 19 = .ok (.putfield 15, 3) := by decide +kernel
theorem dX12_init_22 : decode prog_14_method_1_code 22 = .ok (.aload_n 0, 1) := by decide +kernel
theorem dX12_init_23 : decode prog_14_method_1_code 23 = .ok (.bipush 120, 2) := by decide +kernel
theorem dX12_init_25 : decode prog_14_method_1_code 25 = .ok (.newarray .int, 2) := by decide +kernel
theorem dX12_init_27 : decode prog_14_method_1_code 27 = .ok (.putfield 18, 3) := by decide +kernel
theorem dX12_init_30 : decode prog_14_method_1_code 30 = .ok (.aload_n 0, 1) := by decide +kernel
theorem dX12_init_31 : decode prog_14_method_1_code 31 = .ok (.sipush 260, 3) := by decide +kernel
theorem dX12_init_34 : decode prog_14_method_1_code 34 = .ok (.newarray .int, 2) := by decide +kernel
theorem dX12_init_36 : decode prog_14_method_1_code 36 = .ok (.putfield 21, 3) := by decide +kernel
theorem dX12_init_39 : decode prog_14_method_1_code 39 = .ok (.aload_n 0, 1) := by decide +kernel
theorem dX12_init_40 : decode prog_14_method_1_code 40 = .ok (.iconst 4, 1) := by decide +kernel
theorem dX12_init_41 : decode prog_14_method_1_code 41 = .ok (.newarray .int, 2) := by decide +kernel
theorem dX12_init_43 : decode prog_14_method_1_code 43 = .ok (.dup, 1) := by decide +kernel
theorem dX12_init_44 : decode prog_14_method_1_code 44 = .ok (.iconst 0, 1) := by decide +kernel
theorem dX12_init_45 : decode prog_14_method_1_code 45 = .ok (.iconst (-1), 1) := by decide +kernel
theorem dX12_init_46 : decode prog_14_method_1_code 46 = .ok (.iastore, 1) := by decide +kernel
theorem dX12_init_47 : decode prog_14_method_1_code 47 = .ok (.dup, 1) := by decide +kernel
theorem dX12_init_48 : decode prog_14_method_1_code 48 = .ok (.iconst 1, 1) := by decide +kernel
theorem dX12_init_49 : decode prog_14_method_1_code 49 = .ok (.iconst (-1), 1) := by decide +kernel
theorem dX12_init_50 : decode prog_14_method_1_code 50 = .ok (.iastore, 1) := by decide +kernel
theorem dX12_init_51 : decode prog_14_method_1_code 51 = .ok (.dup, 1) := by decide +kernel
theorem dX12_init_52 : decode prog_14_method_1_code 52 = .ok (.iconst 2, 1) := by decide +kernel
theorem dX12_init_53 : decode prog_14_method_1_code 53 = .ok (.iconst (-1), 1) := by decide +kernel
theorem dX12_init_54 : decode prog_14_method_1_code 54 = .ok (.iastore, 1) := by decide +kernel
theorem dX12_init_55 : decode prog_14_method_1_code 55 = .ok (.dup, 1) := by decide +kernel
theorem dX12_init_56 : decode prog_14_method_1_code 56 = .ok (.iconst 3, 1) := by decide +kernel
theorem dX12_init_57 : decode prog_14_method_1_code 57 = .ok (.iconst (-1), 1) := by decide +kernel
theorem dX12_init_58 : decode prog_14_method_1_code 58 = .ok (.iastore, 1) := by decide +kernel
theorem dX12_init_59 : decode prog_14_method_1_code 59 = .ok (.putfield 24, 3) := by decide +kernel
theorem dX12_init_62 : decode prog_14_method_1_code 62 = .ok (.aload_n 0, 1) := by decide +kernel
theorem dX12_init_63 : decode prog_14_method_1_code 63 = .ok (.iconst 4, 1) := by decide +kernel
theorem dX12_init_64 : decode prog_14_method_1_code 64 = .ok (.newarray .int, 2) := by decide +kernel
theorem dX12_init_66 : decode prog_14_method_1_code 66 = .ok (.putfield 27, 3) := by decide +kernel
theorem dX12_init_69 : decode prog_14_method_1_code 69 = .ok (.aload_n 0, 1) := by decide +kernel
theorem dX12_init_70 : decode prog_14_method_1_code 70 = .ok (.bipush 80, 2) := by decide +kernel
theorem dX12_init_72 : decode prog_14_method_1_code 72 = .ok (.newarray .int, 2) := by decide +kernel
theorem dX12_init_74 : decode prog_14_method_1_code 74 = .ok (.putfield 30, 3) := by decide +kernel
theorem dX12_init_77 : decode prog_14_method_1_code 77 = .ok (.aload_n 0, 1) := by decide +kernel
theorem dX12_init_78 : decode prog_14_method_1_code 78 = .ok (.iconst 4, 1) := by decide +kernel
theorem dX12_init_79 : decode prog_14_method_1_code 79 = .ok (.newarray .int, 2) := by decide +kernel
theorem dX12_init_81 : decode prog_14_method_1_code 81 = .ok (.dup, 1) := by decide +kernel
theorem dX12_init_82 : decode prog_14_method_1_code 82 = .ok (.iconst 0, 1) := by decide +kernel
theorem dX12_init_83 : decode prog_14_method_1_code 83 = .ok (.iconst (-1), 1) := by decide +kernel
theorem dX12_init_84 : decode prog_14_method_1_code 84 = .ok (.iastore, 1) := by decide +kernel
theorem dX12_init_85 : decode prog_14_method_1_code 85 = .ok (.dup, 1) := by decide +kernel
theorem dX12_init_86 : decode prog_14_method_1_code 86 = .ok (.iconst 1, 1) := by decide +kernel
theorem dX12_init_87 : decode prog_14_method_1_code 87 = .ok (.iconst (-1), 1) := by decide +kernel
theorem dX12_init_88 : decode prog_14_method_1_code 88 = .ok (.iastore, 1) := by decide +kernel
theorem dX12_init_89 : decode prog_14_method_1_code 89 = .ok (.dup, 1) := by decide +kernel
theorem dX12_init_90 : decode prog_14_method_1_code 90 = .ok (.iconst 2, 1) := by decide +kernel
theorem dX12_init_91 : decode prog_14_method_1_code 91 = .ok (.iconst (-1), 1) := by decide +kernel
theorem dX12_init_92 : decode prog_14_method_1_code 92 = .ok (.iastore, 1) := by decide +kernel
theorem dX12_init_93 : decode prog_14_method_1_code 93 = .ok (.dup, 1) := by decide +kernel
theorem dX12_init_94 : decode prog_14_method_1_code 94 = .ok (.iconst 3, 1) := by decide +kernel
theorem dX12_init_95 : decode prog_14_method_1_code 95 = .ok (.iconst (-1), 1) := by decide +kernel
theorem dX12_init_96 : decode prog_14_method_1_code 96 = .ok (.iastore, 1) := by decide +kernel
theorem dX12_init_97 : decode prog_14_method_1_code 97 = .ok (.putfield 33, 3) := by decide +kernel
theorem dX12_init_100 : decode prog_14_method_1_code 100 = .ok (.aload_n 0, 1) := by decide +kernel
theorem dX12_init_101 : decode prog_14_method_1_code 101 = .ok (.bipush 124, 2) := by decide +kernel
theorem dX12_init_103 : decode prog_14_method_1_code 103 = .ok (.newarray .long, 2) := by decide +kernel
theorem dX12_init_105 : decode prog_14_method_1_code 105 = .ok (.putfield 36, 3) := by decide +kernel
theorem dX12_init_108 : decode prog_14_method_1_code 108 = .ok (.aload_n 0, 1) := by decide +kernel
theorem dX12_init_109 : decode prog_14_method_1_code 109 = .ok (.sipush 651, 3) := by decide +kernel
theorem dX12_init_112 : decode prog_14_method_1_code 112 = .ok (.newarray .double, 2) := by decide +kernel
theorem dX12_init_114 : decode prog_14_method_1_code 114 = .ok (.putfield 40, 3) := by decide +kernel
theorem dX12_init_117 : decode prog_14_method_1_code 117 = .ok (.aload_n 0, 1) := by decide +kernel
theorem dX12_init_118 : decode prog_14_method_1_code 118 = .ok (.bipush 41, 2) := by decide +kernel
theorem dX12_init_120 : decode prog_14_method_1_code 120 = .ok (.newarray .double, 2) := by decide +kernel
theorem dX12_init_122 : decode prog_14_method_1_code 122 = .ok (.putfield 44, 3) := by decide +kernel
theorem dX12_init_125 : decode prog_14_method_1_code 125 = .ok (.aload_n 0, 1) := by decide +kernel
theorem dX12_init_126 : decode prog_14_method_1_code 126 = .ok (.bipush 41, 2) := by decide +kernel
theorem dX12_init_128 : decode prog_14_method_1_code 128 = .ok (.newarray .double, 2) := by decide +kernel
theorem dX12_init_130 : decode prog_14_method_1_code 130 = .ok (.putfield 47, 3) := by decide +kernel
theorem dX12_init_133 : decode prog_14_method_1_code 133 = .ok (.aload_n 0, 1) := by decide +kernel
theorem dX12_init_134 : decode prog_14_method_1_code 134 = .ok (.bipush 31, 2) := by decide +kernel
theorem dX12_init_136 : decode prog_14_method_1_code 136 = .ok (.newarray .long, 2) := by decide +kernel
theorem dX12_init_138 : decode prog_14_method_1_code 138 = .ok (.putfield 50, 3) := by decide +kernel
theorem dX12_init_141 : decode prog_14_method_1_code 141 = .ok (.aload_n 0, 1) := by decide +kernel
theorem dX12_init_142 : decode prog_14_method_1_code 142 = .ok (.bipush 31, 2) := by decide +kernel
theorem dX12_init_144 : decode prog_14_method_1_code 144 = .ok (.newarray .boolean, 2) := by decide +kernel
theorem dX12_init_146 : decode prog_14_method_1_code 146 = .ok (.putfield 53, 3) := by decide +kernel
theorem dX12_init_149 : decode prog_14_method_1_code 149 = .ok (.aload_n 0, 1) := by decide +kernel
theorem dX12_init_150 : decode prog_14_method_1_code 150 = .ok (.bipush 41, 2) := by decide +kernel
theorem dX12_init_152 : decode prog_14_method_1_code 152 = .ok (.newarray .long, 2) := by decide +kernel
theorem dX12_init_154 : decode prog_14_method_1_code 154 = .ok (.putfield 57, 3) := by decide +kernel
theorem dX12_init_157 : decode prog_14_method_1_code 157 = .ok (.aload_n 0, 1) := by decide +kernel
theorem dX12_init_158 : decode prog_14_method_1_code 158 = .ok (.bipush 6, 2) := by decide +kernel
theorem dX12_init_160 : decode prog_14_method_1_code 160 = .ok (.newarray .int, 2) := by decide +kernel
theorem dX12_init_162 : decode prog_14_method_1_code 162 = .ok (.putfield 60, 3) := by decide +kernel
theorem dX12_init_165 : decode prog_14_method_1_code 165 = .ok (.aload_n 0, 1) := by decide +kernel
theorem dX12_init_166 : decode prog_14_method_1_code 166 = .ok (.bipush 12, 2) := by decide +kernel
theorem dX12_init_168 : decode prog_14_method_1_code 168 = .ok (.newarray .boolean, 2) := by decide +kernel
theorem dX12_init_170 : decode prog_14_method_1_code 170 = .ok (.putfield 63, 3) := by decide +kernel
theorem dX12_init_173 : decode prog_14_method_1_code 173 = .ok (.aload_n 0, 1) := by decide +kernel
theorem dX12_init_174 : decode prog_14_method_1_code 174 = .ok (.bipush 6, 2) := by decide +kernel
theorem dX12_init_176 : decode prog_14_method_1_code 176 = .ok (.newarray .int, 2) := by decide +kernel
theorem dX12_init_178 : decode prog_14_method_1_code 178 = .ok (.putfield 66, 3) := by decide +kernel
theorem dX12_init_181 : decode prog_14_method_1_code 181 = .ok (.aload_n 0, 1) := by decide +kernel
theorem dX12_init_182 : decode prog_14_method_1_code 182 = .ok (.sipush 129, 3) := by decide +kernel
theorem dX12_init_185 : decode prog_14_method_1_code 185 = .ok (.newarray .int, 2) := by decide +kernel
theorem dX12_init_187 : decode prog_14_method_1_code 187 = .ok (.putfield 69, 3) := by decide +kernel
theorem dX12_init_190 : decode prog_14_method_1_code 190 = .ok (.aload_n 0, 1) := by decide +kernel
theorem dX12_init_191 : decode prog_14_method_1_code 191 = .ok (.getfield 9, 3) := by decide +kernel
theorem dX12_init_194 : decode prog_14_method_1_code 194 = .ok (.iconst 1, 1) := by decide +kernel
theorem dX12_init_195 : decode prog_14_method_1_code 195 = .ok (.bipush 10, 2) := by decide +kernel
theorem dX12_init_197 : decode prog_14_method_1_code 197 = .ok (.iastore, 1) := by decide +kernel
theorem dX12_init_198 : decode prog_14_method_1_code 198 = .ok (.aload_n 0, 1) := by decide +kernel
theorem dX12_init_199 : decode prog_14_method_1_code 199 = .ok (.getfield 9, 3) := by decide +kernel
theorem dX12_init_202 : decode prog_14_method_1_code 202 = .ok (.iconst 4, 1) := by decide +kernel
theorem dX12_init_203 : decode prog_14_method_1_code 203 = .ok (.sipush 500, 3) := by decide +kernel
theorem dX12_init_206 : decode prog_14_method_1_code 206 = .ok (.iastore, 1) := by decide +kernel
theorem dX12_init_207 : decode prog_14_method_1_code 207 = .ok (.aload_n 0, 1) := by decide +kernel
theorem dX12_init_208 : decode prog_14_method_1_code 208 = .ok (.getfield 9, 3) := by decide +kernel
theorem dX12_init_211 : decode prog_14_method_1_code 211 = .ok (.sipush 128, 3) := by decide +kernel
theorem dX12_init_214 : decode prog_14_method_1_code 214 = .ok (.iconst 1, 1) := by decide +kernel
theorem dX12_init_215 : decode prog_14_method_1_code 215 = .ok (.iastore, 1) := by decide +kernel
theorem dX12_init_216 : decode prog_14_method_1_code 216 = .ok (.iconst 0, 1) := by decide +kernel
theorem dX12_init_217 : decode prog_14_method_1_code 217 = .ok (.istore_n 1, 1) := by decide +kernel
theorem dX12_init_218 : decode prog_14_method_1_code 218 = .ok (.iload_n 1, 1) := by decide +kernel
theorem dX12_init_219 : decode prog_14_method_1_code 219 = .ok (.iconst 4, 1) := by decide +kernel
theorem dX12_init_220 : decode prog_14_method_1_code 220 = .ok (.if_icmp .ge 31, 3) := by decide +kernel
theorem dX12_init_223 : decode prog_14_method_1_code 223 = .ok (.aload_n 0, 1) := by decide +kernel
theorem dX12_init_224 : decode prog_14_method_1_code 224 = .ok (.getfield 9, 3) := by decide +kernel
theorem dX12_init_227 : decode prog_14_method_1_code 227 = .ok (.bipush 42, 2) := by decide +kernel
theorem dX12_init_229 : decode prog_14_method_1_code 229 = .ok (.iload_n 1, 1) := by decide +kernel
theorem dX12_init_230 : decode prog_14_method_1_code 230 = .ok (.iadd, 1) := by decide +kernel
theorem dX12_init_231 : decode prog_14_method_1_code 231 = .ok (.bipush 100, 2) := by decide +kernel
theorem dX12_init_233 : decode prog_14_method_1_code 233 = .ok (.iastore, 1) := by decide +kernel
theorem dX12_init_234 : decode prog_14_method_1_code 234 = .ok (.aload_n 0, 1) := by decide +kernel
theorem dX12_init_235 : decode prog_14_method_1_code 235 = .ok (.getfield 9, 3) := by decide +kernel
theorem dX12_init_238 : decode prog_14_method_1_code 238 = .ok (.bipush 46, 2) := by decide +kernel
theorem dX12_init_240 : decode prog_14_method_1_code 240 = .ok (.iload_n 1, 1) := by decide +kernel
theorem dX12_init_241 : decode prog_14_method_1_code 241 = .ok (.iadd, 1) := by decide +kernel
theorem dX12_init_242 : decode prog_14_method_1_code 242 = .ok (.bipush 10, 2) := by decide +kernel
theorem dX12_init_244 : decode prog_14_method_1_code 244 = .ok (.iastore, 1) := by decide +kernel
theorem dX12_init_245 : decode prog_14_method_1_code 245 = .ok (.iinc 1 1, 3) := by decide +kernel
theorem dX12_init_248 : decode prog_14_method_1_code 248 = .ok (.goto (-30), 3) := by decide +kernel
theorem dX12_init_251 : decode prog_14_method_1_code 251 = .ok (.return_, 1) := by decide +kernel
def m_X12_init_L218 (N : Nat) (mc ms : Nat)  : Nat → Nat → Int32 → mM → Nat → Nat → Option (mM)
  | 0, _, _, _, _, _ => none
  | n + 1, a0, i1, M, kc, ks =>
    if 4 ≤ i1 then (
      some M) else (
      (fR M a0 12 0).bind fun x1 =>
      (uI 0 .int M x1 (42 + i1) 100).bind fun M3 =>
      (fR M3 a0 12 0).bind fun x5 =>
      (uI 0 .int M3 x5 (46 + i1) 10).bind fun M7 =>
      (m_X12_init_L218 N mc ms  n) a0 (i1 + 1) M7 kc ks)
set_option maxHeartbeats 4000000 in
set_option maxRecDepth 100000 in
theorem t_X12_init_L218 {X : mX} {L0 : Launch} {res : mM} {N : Nat} {mc ms : Nat} (C : CX X RX12 "<init>" prog_14_method_1_code 2 none) (E : EX X L0 1 20 mc ms none res)   : ∀ (n : Nat) (a0 : Nat) (i1 : Int32) (M : mM) (kc ks : Nat) (hk : kc ≤ mc ∧ ks ≤ ms), m_X12_init_L218 N mc ms  n a0 i1 M kc ks = some res → EV X 2 218 [(0, .ref a0), (1, .int i1)] [] kc ks M := by
  intro n
  induction n with
  | zero => intro a0 i1 M kc ks hk hf; cases (show (none : Option (mM)) = some res from hf)
  | succ n ih =>
    intro a0 i1 M kc ks hk hf
    rw [m_X12_init_L218] at hf
    refine ev_iload_n C dX12_init_218 rfl (q := 1) rfl ?_
    refine ev_iconst (v := 4) C dX12_init_219 (by decide) ?_
    refine ev_icmp_ge (tgt := 251) C dX12_init_220 (by decide) (fun hc => ?_) (fun hc => ?_)
    · have hf := oit hf hc
      obtain rfl := Option.some.inj hf
      exact ev_vret C E hk.1 hk.2 dX12_init_251
    · have hf := oie hf hc
      refine ev_aload_n C dX12_init_223 rfl (q := 0) rfl ?_
      obtain ⟨x1, e2, hf⟩ := obnd hf
      refine ev_get (k := 0) C ok_12 dX12_init_224 (by decide) kw_1159 (fR_V e2) ?_
      refine ev_bipush (v := 42) C dX12_init_227 (by decide) ?_
      refine ev_iload_n C dX12_init_229 rfl (q := 1) rfl ?_
      refine ev_iadd C dX12_init_230 ?_
      refine ev_bipush (v := 100) C dX12_init_231 (by decide) ?_
      obtain ⟨M3, e4, hf⟩ := obnd hf
      refine ev_iast C dX12_init_233 e4 ?_
      refine ev_aload_n C dX12_init_234 rfl (q := 0) rfl ?_
      obtain ⟨x5, e6, hf⟩ := obnd hf
      refine ev_get (k := 0) C ok_12 dX12_init_235 (by decide) kw_1159 (fR_V e6) ?_
      refine ev_bipush (v := 46) C dX12_init_238 (by decide) ?_
      refine ev_iload_n C dX12_init_240 rfl (q := 1) rfl ?_
      refine ev_iadd C dX12_init_241 ?_
      refine ev_bipush (v := 10) C dX12_init_242 (by decide) ?_
      obtain ⟨M7, e8, hf⟩ := obnd hf
      refine ev_iast C dX12_init_244 e8 ?_
      refine ev_iinc (v := i1 + 1) (l' := [(1, .int (i1 + 1)), (0, .ref a0)]) C dX12_init_245 (q := 1) rfl rfl (by decide) rfl ?_
      refine ev_goto (tgt := 218) C dX12_init_248 (by decide) ?_
      refine ev_sub [1, 0] rfl ?_
      exact ih a0 (i1 + 1) M7 kc ks hk hf
def m_X12_init (N : Nat) (mc ms : Nat) (a0 : Nat) (M : mM) : Option (mM) :=
  (oif (0 + 1 ≤ mc ∧ 0 + 129 ≤ ms)).bind fun _ =>
  (sV (M ++ [.inl (0, 129, .inl (fun _ => 0))]) a0 12 0 (.ref M.length)).bind fun M1 =>
  (oif ((0 + 1) + 1 ≤ mc ∧ (0 + 129) + 129 ≤ ms)).bind fun _ =>
  (sV (M1 ++ [.inl (0, 129, .inl (fun _ => 0))]) a0 12 1 (.ref M1.length)).bind fun M3 =>
  (oif (((0 + 1) + 1) + 1 ≤ mc ∧ ((0 + 129) + 129) + 120 ≤ ms)).bind fun _ =>
  (sV (M3 ++ [.inl (0, 120, .inl (fun _ => 0))]) a0 12 4 (.ref M3.length)).bind fun M5 =>
  (oif ((((0 + 1) + 1) + 1) + 1 ≤ mc ∧ (((0 + 129) + 129) + 120) + 260 ≤ ms)).bind fun _ =>
  (sV (M5 ++ [.inl (0, 260, .inl (fun _ => 0))]) a0 12 6 (.ref M5.length)).bind fun M7 =>
  (oif (((((0 + 1) + 1) + 1) + 1) + 1 ≤ mc ∧ ((((0 + 129) + 129) + 120) + 260) + 4 ≤ ms)).bind fun _ =>
  (uI 0 .int (M7 ++ [.inl (0, 4, .inl (fun _ => 0))]) M7.length 0 (-1)).bind fun M9 =>
  (uI 0 .int M9 M7.length 1 (-1)).bind fun M11 =>
  (uI 0 .int M11 M7.length 2 (-1)).bind fun M13 =>
  (uI 0 .int M13 M7.length 3 (-1)).bind fun M15 =>
  (sV M15 a0 12 7 (.ref M7.length)).bind fun M17 =>
  (oif ((((((0 + 1) + 1) + 1) + 1) + 1) + 1 ≤ mc ∧ (((((0 + 129) + 129) + 120) + 260) + 4) + 4 ≤ ms)).bind fun _ =>
  (sV (M17 ++ [.inl (0, 4, .inl (fun _ => 0))]) a0 12 8 (.ref M17.length)).bind fun M19 =>
  (oif (((((((0 + 1) + 1) + 1) + 1) + 1) + 1) + 1 ≤ mc ∧ ((((((0 + 129) + 129) + 120) + 260) + 4) + 4) + 80 ≤ ms)).bind fun _ =>
  (sV (M19 ++ [.inl (0, 80, .inl (fun _ => 0))]) a0 12 9 (.ref M19.length)).bind fun M21 =>
  (oif ((((((((0 + 1) + 1) + 1) + 1) + 1) + 1) + 1) + 1 ≤ mc ∧ (((((((0 + 129) + 129) + 120) + 260) + 4) + 4) + 80) + 4 ≤ ms)).bind fun _ =>
  (uI 0 .int (M21 ++ [.inl (0, 4, .inl (fun _ => 0))]) M21.length 0 (-1)).bind fun M23 =>
  (uI 0 .int M23 M21.length 1 (-1)).bind fun M25 =>
  (uI 0 .int M25 M21.length 2 (-1)).bind fun M27 =>
  (uI 0 .int M27 M21.length 3 (-1)).bind fun M29 =>
  (sV M29 a0 12 10 (.ref M21.length)).bind fun M31 =>
  (oif (((((((((0 + 1) + 1) + 1) + 1) + 1) + 1) + 1) + 1) + 1 ≤ mc ∧ ((((((((0 + 129) + 129) + 120) + 260) + 4) + 4) + 80) + 4) + 124 ≤ ms)).bind fun _ =>
  (sV (M31 ++ [.inl (1, 124, .inr (.inl (fun _ => 0)))]) a0 12 11 (.ref M31.length)).bind fun M33 =>
  (oif ((((((((((0 + 1) + 1) + 1) + 1) + 1) + 1) + 1) + 1) + 1) + 1 ≤ mc ∧ (((((((((0 + 129) + 129) + 120) + 260) + 4) + 4) + 80) + 4) + 124) + 651 ≤ ms)).bind fun _ =>
  (sV (M33 ++ [.inl (2, 651, .inr (.inr (.inr (.inl (fun _ => 0)))))]) a0 12 12 (.ref M33.length)).bind fun M35 =>
  (oif (((((((((((0 + 1) + 1) + 1) + 1) + 1) + 1) + 1) + 1) + 1) + 1) + 1 ≤ mc ∧ ((((((((((0 + 129) + 129) + 120) + 260) + 4) + 4) + 80) + 4) + 124) + 651) + 41 ≤ ms)).bind fun _ =>
  (sV (M35 ++ [.inl (2, 41, .inr (.inr (.inr (.inl (fun _ => 0)))))]) a0 12 13 (.ref M35.length)).bind fun M37 =>
  (oif ((((((((((((0 + 1) + 1) + 1) + 1) + 1) + 1) + 1) + 1) + 1) + 1) + 1) + 1 ≤ mc ∧ (((((((((((0 + 129) + 129) + 120) + 260) + 4) + 4) + 80) + 4) + 124) + 651) + 41) + 41 ≤ ms)).bind fun _ =>
  (sV (M37 ++ [.inl (2, 41, .inr (.inr (.inr (.inl (fun _ => 0)))))]) a0 12 14 (.ref M37.length)).bind fun M39 =>
  (oif (((((((((((((0 + 1) + 1) + 1) + 1) + 1) + 1) + 1) + 1) + 1) + 1) + 1) + 1) + 1 ≤ mc ∧ ((((((((((((0 + 129) + 129) + 120) + 260) + 4) + 4) + 80) + 4) + 124) + 651) + 41) + 41) + 31 ≤ ms)).bind fun _ =>
  (sV (M39 ++ [.inl (1, 31, .inr (.inl (fun _ => 0)))]) a0 12 16 (.ref M39.length)).bind fun M41 =>
  (oif ((((((((((((((0 + 1) + 1) + 1) + 1) + 1) + 1) + 1) + 1) + 1) + 1) + 1) + 1) + 1) + 1 ≤ mc ∧ (((((((((((((0 + 129) + 129) + 120) + 260) + 4) + 4) + 80) + 4) + 124) + 651) + 41) + 41) + 31) + 31 ≤ ms)).bind fun _ =>
  (sV (M41 ++ [.inl (3, 31, .inl (fun _ => 0))]) a0 12 17 (.ref M41.length)).bind fun M43 =>
  (oif (((((((((((((((0 + 1) + 1) + 1) + 1) + 1) + 1) + 1) + 1) + 1) + 1) + 1) + 1) + 1) + 1) + 1 ≤ mc ∧ ((((((((((((((0 + 129) + 129) + 120) + 260) + 4) + 4) + 80) + 4) + 124) + 651) + 41) + 41) + 31) + 31) + 41 ≤ ms)).bind fun _ =>
  (sV (M43 ++ [.inl (1, 41, .inr (.inl (fun _ => 0)))]) a0 12 18 (.ref M43.length)).bind fun M45 =>
  (oif ((((((((((((((((0 + 1) + 1) + 1) + 1) + 1) + 1) + 1) + 1) + 1) + 1) + 1) + 1) + 1) + 1) + 1) + 1 ≤ mc ∧ (((((((((((((((0 + 129) + 129) + 120) + 260) + 4) + 4) + 80) + 4) + 124) + 651) + 41) + 41) + 31) + 31) + 41) + 6 ≤ ms)).bind fun _ =>
  (sV (M45 ++ [.inl (0, 6, .inl (fun _ => 0))]) a0 12 19 (.ref M45.length)).bind fun M47 =>
  (oif (((((((((((((((((0 + 1) + 1) + 1) + 1) + 1) + 1) + 1) + 1) + 1) + 1) + 1) + 1) + 1) + 1) + 1) + 1) + 1 ≤ mc ∧ ((((((((((((((((0 + 129) + 129) + 120) + 260) + 4) + 4) + 80) + 4) + 124) + 651) + 41) + 41) + 31) + 31) + 41) + 6) + 12 ≤ ms)).bind fun _ =>
  (sV (M47 ++ [.inl (3, 12, .inl (fun _ => 0))]) a0 12 23 (.ref M47.length)).bind fun M49 =>
  (oif ((((((((((((((((((0 + 1) + 1) + 1) + 1) + 1) + 1) + 1) + 1) + 1) + 1) + 1) + 1) + 1) + 1) + 1) + 1) + 1) + 1 ≤ mc ∧ (((((((((((((((((0 + 129) + 129) + 120) + 260) + 4) + 4) + 80) + 4) + 124) + 651) + 41) + 41) + 31) + 31) + 41) + 6) + 12) + 6 ≤ ms)).bind fun _ =>
  (sV (M49 ++ [.inl (0, 6, .inl (fun _ => 0))]) a0 12 26 (.ref M49.length)).bind fun M51 =>
  (oif (((((((((((((((((((0 + 1) + 1) + 1) + 1) + 1) + 1) + 1) + 1) + 1) + 1) + 1) + 1) + 1) + 1) + 1) + 1) + 1) + 1) + 1 ≤ mc ∧ ((((((((((((((((((0 + 129) + 129) + 120) + 260) + 4) + 4) + 80) + 4) + 124) + 651) + 41) + 41) + 31) + 31) + 41) + 6) + 12) + 6) + 129 ≤ ms)).bind fun _ =>
  (sV (M51 ++ [.inl (0, 129, .inl (fun _ => 0))]) a0 12 27 (.ref M51.length)).bind fun M53 =>
  (fR M53 a0 12 0).bind fun x55 =>
  (uI 0 .int M53 x55 1 10).bind fun M57 =>
  (fR M57 a0 12 0).bind fun x59 =>
  (uI 0 .int M57 x59 4 500).bind fun M61 =>
  (fR M61 a0 12 0).bind fun x63 =>
  (uI 0 .int M61 x63 128 1).bind fun M65 =>
  m_X12_init_L218 N mc ms  N a0 0 M65 (((((((((((((((((((0 + 1) + 1) + 1) + 1) + 1) + 1) + 1) + 1) + 1) + 1) + 1) + 1) + 1) + 1) + 1) + 1) + 1) + 1) + 1) (((((((((((((((((((0 + 129) + 129) + 120) + 260) + 4) + 4) + 80) + 4) + 124) + 651) + 41) + 41) + 31) + 31) + 41) + 6) + 12) + 6) + 129)
set_option maxHeartbeats 4000000 in
set_option maxRecDepth 100000 in
theorem t_X12_init {L0 : Launch} {M : mM} {N : Nat} {mc ms : Nat} {a0 : Nat} {res : mM} (hf : m_X12_init N mc ms a0 M = some res) : CT L0 yX12_init prog_14_method_1_code 2 none 1 20 mc ms [.ref a0] M none res := by
  refine CT.of (by decide +kernel) (Nat.le_of_ble_eq_true rfl) fun X C E => ?_
  have C : CX X RX12 "<init>" prog_14_method_1_code 2 none := C
  show EV X 2 0 [(0, .ref a0)] [] 0 0 M
  unfold m_X12_init at hf
  have hk : 0 ≤ mc ∧ 0 ≤ ms := ⟨Nat.zero_le _, Nat.zero_le _⟩
  refine ev_aload_n C dX12_init_0 rfl (q := 0) rfl ?_
  refine ev_objInit C kw_1158 kw_104 kw_105 (mfr E (by decide)) (mlo E (by decide)) (Nat.le_of_ble_eq_true rfl) dX12_init_1 ?_
  refine ev_aload_n C dX12_init_4 rfl (q := 0) rfl ?_
  refine ev_sipush (v := 129) C dX12_init_5 (by decide) ?_
  obtain ⟨_, hk, hf⟩ := obnd hf
  have hk := oif_eq hk
  refine ev_newa_i (N := 129) C dX12_init_8 kw_140 (by decide) (by decide) (by decide) (mcap E hk).1 (mcap E hk).2 ?_
  obtain ⟨M1, e2, hf⟩ := obnd hf
  refine ev_putF (k := 0) C ok_12 dX12_init_10 (by decide) kw_1159 rfl rfl ⟨rfl, rfl⟩ e2 ?_
  refine ev_aload_n C dX12_init_13 rfl (q := 0) rfl ?_
  refine ev_sipush (v := 129) C dX12_init_14 (by decide) ?_
  obtain ⟨_, hk, hf⟩ := obnd hf
  have hk := oif_eq hk
  refine ev_newa_i (N := 129) C dX12_init_17 kw_140 (by decide) (by decide) (by decide) (mcap E hk).1 (mcap E hk).2 ?_
  obtain ⟨M3, e4, hf⟩ := obnd hf
  refine ev_putF (k := 1) C ok_12 dX12_init_19 (by decide) kw_1160 rfl rfl ⟨rfl, rfl⟩ e4 ?_
  refine ev_aload_n C dX12_init_22 rfl (q := 0) rfl ?_
  refine ev_bipush (v := 120) C dX12_init_23 (by decide) ?_
  obtain ⟨_, hk, hf⟩ := obnd hf
  have hk := oif_eq hk
  refine ev_newa_i (N := 120) C dX12_init_25 kw_140 (by decide) (by decide) (by decide) (mcap E hk).1 (mcap E hk).2 ?_
  obtain ⟨M5, e6, hf⟩ := obnd hf
  refine ev_putF (k := 4) C ok_12 dX12_init_27 (by decide) kw_1163 rfl rfl ⟨rfl, rfl⟩ e6 ?_
  refine ev_aload_n C dX12_init_30 rfl (q := 0) rfl ?_
  refine ev_sipush (v := 260) C dX12_init_31 (by decide) ?_
  obtain ⟨_, hk, hf⟩ := obnd hf
  have hk := oif_eq hk
  refine ev_newa_i (N := 260) C dX12_init_34 kw_140 (by decide) (by decide) (by decide) (mcap E hk).1 (mcap E hk).2 ?_
  obtain ⟨M7, e8, hf⟩ := obnd hf
  refine ev_putF (k := 6) C ok_12 dX12_init_36 (by decide) kw_1165 rfl rfl ⟨rfl, rfl⟩ e8 ?_
  refine ev_aload_n C dX12_init_39 rfl (q := 0) rfl ?_
  refine ev_iconst (v := 4) C dX12_init_40 (by decide) ?_
  obtain ⟨_, hk, hf⟩ := obnd hf
  have hk := oif_eq hk
  refine ev_newa_i (N := 4) C dX12_init_41 kw_140 (by decide) (by decide) (by decide) (mcap E hk).1 (mcap E hk).2 ?_
  refine ev_dup C dX12_init_43 rfl ?_
  refine ev_iconst (v := 0) C dX12_init_44 (by decide) ?_
  refine ev_iconst (v := (-1)) C dX12_init_45 (by decide) ?_
  obtain ⟨M9, e10, hf⟩ := obnd hf
  refine ev_iast C dX12_init_46 e10 ?_
  refine ev_dup C dX12_init_47 rfl ?_
  refine ev_iconst (v := 1) C dX12_init_48 (by decide) ?_
  refine ev_iconst (v := (-1)) C dX12_init_49 (by decide) ?_
  obtain ⟨M11, e12, hf⟩ := obnd hf
  refine ev_iast C dX12_init_50 e12 ?_
  refine ev_dup C dX12_init_51 rfl ?_
  refine ev_iconst (v := 2) C dX12_init_52 (by decide) ?_
  refine ev_iconst (v := (-1)) C dX12_init_53 (by decide) ?_
  obtain ⟨M13, e14, hf⟩ := obnd hf
  refine ev_iast C dX12_init_54 e14 ?_
  refine ev_dup C dX12_init_55 rfl ?_
  refine ev_iconst (v := 3) C dX12_init_56 (by decide) ?_
  refine ev_iconst (v := (-1)) C dX12_init_57 (by decide) ?_
  obtain ⟨M15, e16, hf⟩ := obnd hf
  refine ev_iast C dX12_init_58 e16 ?_
  obtain ⟨M17, e18, hf⟩ := obnd hf
  refine ev_putF (k := 7) C ok_12 dX12_init_59 (by decide) kw_1166 rfl rfl ⟨rfl, rfl⟩ e18 ?_
  refine ev_aload_n C dX12_init_62 rfl (q := 0) rfl ?_
  refine ev_iconst (v := 4) C dX12_init_63 (by decide) ?_
  obtain ⟨_, hk, hf⟩ := obnd hf
  have hk := oif_eq hk
  refine ev_newa_i (N := 4) C dX12_init_64 kw_140 (by decide) (by decide) (by decide) (mcap E hk).1 (mcap E hk).2 ?_
  obtain ⟨M19, e20, hf⟩ := obnd hf
  refine ev_putF (k := 8) C ok_12 dX12_init_66 (by decide) kw_1167 rfl rfl ⟨rfl, rfl⟩ e20 ?_
  refine ev_aload_n C dX12_init_69 rfl (q := 0) rfl ?_
  refine ev_bipush (v := 80) C dX12_init_70 (by decide) ?_
  obtain ⟨_, hk, hf⟩ := obnd hf
  have hk := oif_eq hk
  refine ev_newa_i (N := 80) C dX12_init_72 kw_140 (by decide) (by decide) (by decide) (mcap E hk).1 (mcap E hk).2 ?_
  obtain ⟨M21, e22, hf⟩ := obnd hf
  refine ev_putF (k := 9) C ok_12 dX12_init_74 (by decide) kw_1168 rfl rfl ⟨rfl, rfl⟩ e22 ?_
  refine ev_aload_n C dX12_init_77 rfl (q := 0) rfl ?_
  refine ev_iconst (v := 4) C dX12_init_78 (by decide) ?_
  obtain ⟨_, hk, hf⟩ := obnd hf
  have hk := oif_eq hk
  refine ev_newa_i (N := 4) C dX12_init_79 kw_140 (by decide) (by decide) (by decide) (mcap E hk).1 (mcap E hk).2 ?_
  refine ev_dup C dX12_init_81 rfl ?_
  refine ev_iconst (v := 0) C dX12_init_82 (by decide) ?_
  refine ev_iconst (v := (-1)) C dX12_init_83 (by decide) ?_
  obtain ⟨M23, e24, hf⟩ := obnd hf
  refine ev_iast C dX12_init_84 e24 ?_
  refine ev_dup C dX12_init_85 rfl ?_
  refine ev_iconst (v := 1) C dX12_init_86 (by decide) ?_
  refine ev_iconst (v := (-1)) C dX12_init_87 (by decide) ?_
  obtain ⟨M25, e26, hf⟩ := obnd hf
  refine ev_iast C dX12_init_88 e26 ?_
  refine ev_dup C dX12_init_89 rfl ?_
  refine ev_iconst (v := 2) C dX12_init_90 (by decide) ?_
  refine ev_iconst (v := (-1)) C dX12_init_91 (by decide) ?_
  obtain ⟨M27, e28, hf⟩ := obnd hf
  refine ev_iast C dX12_init_92 e28 ?_
  refine ev_dup C dX12_init_93 rfl ?_
  refine ev_iconst (v := 3) C dX12_init_94 (by decide) ?_
  refine ev_iconst (v := (-1)) C dX12_init_95 (by decide) ?_
  obtain ⟨M29, e30, hf⟩ := obnd hf
  refine ev_iast C dX12_init_96 e30 ?_
  obtain ⟨M31, e32, hf⟩ := obnd hf
  refine ev_putF (k := 10) C ok_12 dX12_init_97 (by decide) kw_1169 rfl rfl ⟨rfl, rfl⟩ e32 ?_
  refine ev_aload_n C dX12_init_100 rfl (q := 0) rfl ?_
  refine ev_bipush (v := 124) C dX12_init_101 (by decide) ?_
  obtain ⟨_, hk, hf⟩ := obnd hf
  have hk := oif_eq hk
  refine ev_newa_j (N := 124) C dX12_init_103 kw_243 (by decide) (by decide) (by decide) (mcap E hk).1 (mcap E hk).2 ?_
  obtain ⟨M33, e34, hf⟩ := obnd hf
  refine ev_putF (k := 11) C ok_12 dX12_init_105 (by decide) kw_1170 rfl rfl ⟨rfl, rfl⟩ e34 ?_
  refine ev_aload_n C dX12_init_108 rfl (q := 0) rfl ?_
  refine ev_sipush (v := 651) C dX12_init_109 (by decide) ?_
  obtain ⟨_, hk, hf⟩ := obnd hf
  have hk := oif_eq hk
  refine ev_newa_d (N := 651) C dX12_init_112 kw_229 (by decide) (by decide) (by decide) (mcap E hk).1 (mcap E hk).2 ?_
  obtain ⟨M35, e36, hf⟩ := obnd hf
  refine ev_putF (k := 12) C ok_12 dX12_init_114 (by decide) kw_1171 rfl rfl ⟨rfl, rfl⟩ e36 ?_
  refine ev_aload_n C dX12_init_117 rfl (q := 0) rfl ?_
  refine ev_bipush (v := 41) C dX12_init_118 (by decide) ?_
  obtain ⟨_, hk, hf⟩ := obnd hf
  have hk := oif_eq hk
  refine ev_newa_d (N := 41) C dX12_init_120 kw_229 (by decide) (by decide) (by decide) (mcap E hk).1 (mcap E hk).2 ?_
  obtain ⟨M37, e38, hf⟩ := obnd hf
  refine ev_putF (k := 13) C ok_12 dX12_init_122 (by decide) kw_1172 rfl rfl ⟨rfl, rfl⟩ e38 ?_
  refine ev_aload_n C dX12_init_125 rfl (q := 0) rfl ?_
  refine ev_bipush (v := 41) C dX12_init_126 (by decide) ?_
  obtain ⟨_, hk, hf⟩ := obnd hf
  have hk := oif_eq hk
  refine ev_newa_d (N := 41) C dX12_init_128 kw_229 (by decide) (by decide) (by decide) (mcap E hk).1 (mcap E hk).2 ?_
  obtain ⟨M39, e40, hf⟩ := obnd hf
  refine ev_putF (k := 14) C ok_12 dX12_init_130 (by decide) kw_1173 rfl rfl ⟨rfl, rfl⟩ e40 ?_
  refine ev_aload_n C dX12_init_133 rfl (q := 0) rfl ?_
  refine ev_bipush (v := 31) C dX12_init_134 (by decide) ?_
  obtain ⟨_, hk, hf⟩ := obnd hf
  have hk := oif_eq hk
  refine ev_newa_j (N := 31) C dX12_init_136 kw_243 (by decide) (by decide) (by decide) (mcap E hk).1 (mcap E hk).2 ?_
  obtain ⟨M41, e42, hf⟩ := obnd hf
  refine ev_putF (k := 16) C ok_12 dX12_init_138 (by decide) kw_1175 rfl rfl ⟨rfl, rfl⟩ e42 ?_
  refine ev_aload_n C dX12_init_141 rfl (q := 0) rfl ?_
  refine ev_bipush (v := 31) C dX12_init_142 (by decide) ?_
  obtain ⟨_, hk, hf⟩ := obnd hf
  have hk := oif_eq hk
  refine ev_newa_z (N := 31) C dX12_init_144 kw_1247 (by decide) (by decide) (by decide) (mcap E hk).1 (mcap E hk).2 ?_
  obtain ⟨M43, e44, hf⟩ := obnd hf
  refine ev_putF (k := 17) C ok_12 dX12_init_146 (by decide) kw_1176 rfl rfl ⟨rfl, rfl⟩ e44 ?_
  refine ev_aload_n C dX12_init_149 rfl (q := 0) rfl ?_
  refine ev_bipush (v := 41) C dX12_init_150 (by decide) ?_
  obtain ⟨_, hk, hf⟩ := obnd hf
  have hk := oif_eq hk
  refine ev_newa_j (N := 41) C dX12_init_152 kw_243 (by decide) (by decide) (by decide) (mcap E hk).1 (mcap E hk).2 ?_
  obtain ⟨M45, e46, hf⟩ := obnd hf
  refine ev_putF (k := 18) C ok_12 dX12_init_154 (by decide) kw_1177 rfl rfl ⟨rfl, rfl⟩ e46 ?_
  refine ev_aload_n C dX12_init_157 rfl (q := 0) rfl ?_
  refine ev_bipush (v := 6) C dX12_init_158 (by decide) ?_
  obtain ⟨_, hk, hf⟩ := obnd hf
  have hk := oif_eq hk
  refine ev_newa_i (N := 6) C dX12_init_160 kw_140 (by decide) (by decide) (by decide) (mcap E hk).1 (mcap E hk).2 ?_
  obtain ⟨M47, e48, hf⟩ := obnd hf
  refine ev_putF (k := 19) C ok_12 dX12_init_162 (by decide) kw_1178 rfl rfl ⟨rfl, rfl⟩ e48 ?_
  refine ev_aload_n C dX12_init_165 rfl (q := 0) rfl ?_
  refine ev_bipush (v := 12) C dX12_init_166 (by decide) ?_
  obtain ⟨_, hk, hf⟩ := obnd hf
  have hk := oif_eq hk
  refine ev_newa_z (N := 12) C dX12_init_168 kw_1247 (by decide) (by decide) (by decide) (mcap E hk).1 (mcap E hk).2 ?_
  obtain ⟨M49, e50, hf⟩ := obnd hf
  refine ev_putF (k := 23) C ok_12 dX12_init_170 (by decide) kw_1182 rfl rfl ⟨rfl, rfl⟩ e50 ?_
  refine ev_aload_n C dX12_init_173 rfl (q := 0) rfl ?_
  refine ev_bipush (v := 6) C dX12_init_174 (by decide) ?_
  obtain ⟨_, hk, hf⟩ := obnd hf
  have hk := oif_eq hk
  refine ev_newa_i (N := 6) C dX12_init_176 kw_140 (by decide) (by decide) (by decide) (mcap E hk).1 (mcap E hk).2 ?_
  obtain ⟨M51, e52, hf⟩ := obnd hf
  refine ev_putF (k := 26) C ok_12 dX12_init_178 (by decide) kw_1185 rfl rfl ⟨rfl, rfl⟩ e52 ?_
  refine ev_aload_n C dX12_init_181 rfl (q := 0) rfl ?_
  refine ev_sipush (v := 129) C dX12_init_182 (by decide) ?_
  obtain ⟨_, hk, hf⟩ := obnd hf
  have hk := oif_eq hk
  refine ev_newa_i (N := 129) C dX12_init_185 kw_140 (by decide) (by decide) (by decide) (mcap E hk).1 (mcap E hk).2 ?_
  obtain ⟨M53, e54, hf⟩ := obnd hf
  refine ev_putF (k := 27) C ok_12 dX12_init_187 (by decide) kw_1186 rfl rfl ⟨rfl, rfl⟩ e54 ?_
  refine ev_aload_n C dX12_init_190 rfl (q := 0) rfl ?_
  obtain ⟨x55, e56, hf⟩ := obnd hf
  refine ev_get (k := 0) C ok_12 dX12_init_191 (by decide) kw_1159 (fR_V e56) ?_
  refine ev_iconst (v := 1) C dX12_init_194 (by decide) ?_
  refine ev_bipush (v := 10) C dX12_init_195 (by decide) ?_
  obtain ⟨M57, e58, hf⟩ := obnd hf
  refine ev_iast C dX12_init_197 e58 ?_
  refine ev_aload_n C dX12_init_198 rfl (q := 0) rfl ?_
  obtain ⟨x59, e60, hf⟩ := obnd hf
  refine ev_get (k := 0) C ok_12 dX12_init_199 (by decide) kw_1159 (fR_V e60) ?_
  refine ev_iconst (v := 4) C dX12_init_202 (by decide) ?_
  refine ev_sipush (v := 500) C dX12_init_203 (by decide) ?_
  obtain ⟨M61, e62, hf⟩ := obnd hf
  refine ev_iast C dX12_init_206 e62 ?_
  refine ev_aload_n C dX12_init_207 rfl (q := 0) rfl ?_
  obtain ⟨x63, e64, hf⟩ := obnd hf
  refine ev_get (k := 0) C ok_12 dX12_init_208 (by decide) kw_1159 (fR_V e64) ?_
  refine ev_sipush (v := 128) C dX12_init_211 (by decide) ?_
  refine ev_iconst (v := 1) C dX12_init_214 (by decide) ?_
  obtain ⟨M65, e66, hf⟩ := obnd hf
  refine ev_iast C dX12_init_215 e66 ?_
  refine ev_iconst (v := 0) C dX12_init_216 (by decide) ?_
  refine ev_istore_n (l' := [(1, .int 0), (0, .ref a0)]) C dX12_init_217 rfl (by decide) rfl ?_
  refine ev_sub [1, 0] rfl ?_
  exact t_X12_init_L218 C E   N a0 0 M65 (((((((((((((((((((0 + 1) + 1) + 1) + 1) + 1) + 1) + 1) + 1) + 1) + 1) + 1) + 1) + 1) + 1) + 1) + 1) + 1) + 1) + 1) (((((((((((((((((((0 + 129) + 129) + 120) + 260) + 4) + 4) + 80) + 4) + 124) + 651) + 41) + 41) + 31) + 31) + 41) + 6) + 12) + 6) + 129) hk hf
