/-! FareLimitsModel replay(I)I -/
theorem dX12_replay_0 : decode prog_14_method_85_code 0 = .ok (.iload_n 1, 1) := by decide +kernel
theorem dX12_replay_1 : decode prog_14_method_85_code 1 = .ok (.i2l, 1) := by decide +kernel
theorem dX12_replay_2 : decode prog_14_method_85_code 2 = .ok (.lconst 0, 1) := by decide +kernel
theorem dX12_replay_3 : decode prog_14_method_85_code 3 = .ok (.ldc2_w 307, 3) := by decide +kernel
theorem dX12_replay_6 : decode prog_14_method_85_code 6 = .ok (.invokestatic 72, 3) := by decide +kernel
theorem dX12_replay_9 : decode prog_14_method_85_code 9 = .ok (.ifCond .ne 5, 3) := by decide +kernel
theorem dX12_replay_12 : decode prog_14_method_85_code 12 = .ok (.iconst (-1), 1) := by decide +kernel
theorem dX12_replay_13 : decode prog_14_method_85_code 13 = .ok (.ireturn, 1) := by decide +kernel
theorem dX12_replay_14 : decode prog_14_method_85_code 14 = .ok (.aload_n 0, 1) := by decide +kernel
theorem dX12_replay_15 : decode prog_14_method_85_code 15 = .ok (.iconst 0, 1) := by decide +kernel
theorem dX12_replay_16 : decode prog_14_method_85_code 16 = .ok (.invokevirtual 309, 3) := by decide +kernel
theorem dX12_replay_19 : decode prog_14_method_85_code 19 = .ok (.istore_n 2, 1) := by decide +kernel
theorem dX12_replay_20 : decode prog_14_method_85_code 20 = .ok (.iload_n 2, 1) := by decide +kernel
theorem dX12_replay_21 : decode prog_14_method_85_code 21 = .ok (.ifCond .ge 5, 3) := by decide +kernel
theorem dX12_replay_24 : decode prog_14_method_85_code 24 = .ok (.iload_n 2, 1) := by decide +kernel
theorem dX12_replay_25 : decode prog_14_method_85_code 25 = .ok (.ireturn, 1) := by decide +kernel
theorem dX12_replay_26 : decode prog_14_method_85_code 26 = .ok (.iload_n 1, 1) := by decide +kernel
theorem dX12_replay_27 : decode prog_14_method_85_code 27 = .ok (.ifCond .ne 10, 3) := by decide +kernel
theorem dX12_replay_30 : decode prog_14_method_85_code 30 = .ok (.aload_n 0, 1) := by decide +kernel
theorem dX12_replay_31 : decode prog_14_method_85_code 31 = .ok (.getfield 211, 3) := by decide +kernel
theorem dX12_replay_34 : decode prog_14_method_85_code 34 = .ok (.goto 51, 3) := by decide +kernel
theorem dX12_replay_37 : decode prog_14_method_85_code 37 = .ok (.iload_n 1, 1) := by decide +kernel
theorem dX12_replay_38 : decode prog_14_method_85_code 38 = .ok (.iconst 1, 1) := by decide +kernel
theorem dX12_replay_39 : decode prog_14_method_85_code 39 = .ok (.if_icmp .ne 17, 3) := by decide +kernel
theorem dX12_replay_42 : decode prog_14_method_85_code 42 = .ok (.aload_n 0, 1) := by decide +kernel
theorem dX12_replay_43 : decode prog_14_method_85_code 43 = .ok (.getfield 9, 3) := by decide +kernel
theorem dX12_replay_46 : decode prog_14_method_85_code 46 = .ok (.iconst 1, 1) := by decide +kernel
theorem dX12_replay_47 : decode prog_14_method_85_code 47 = .ok (.iaload, 1) := by decide +kernel
theorem dX12_replay_48 : decode prog_14_method_85_code 48 = .ok (.aload_n 0, 1) := by decide +kernel
theorem dX12_replay_49 : decode prog_14_method_85_code 49 = .ok (.getfield 201, 3) := by decide +kernel
theorem dX12_replay_52 : decode prog_14_method_85_code 52 = .ok (.isub, 1) := by decide +kernel
theorem dX12_replay_53 : decode prog_14_method_85_code 53 = .ok (.goto 32, 3) := by decide +kernel
theorem dX12_replay_56 : decode prog_14_method_85_code 56 = .ok (.iload_n 1, 1) := by decide +kernel
theorem dX12_replay_57 : decode prog_14_method_85_code 57 = .ok (.iconst 2, 1) := by decide +kernel
theorem dX12_replay_58 : decode prog_14_method_85_code 58 = .ok (.if_icmp .ne 10, 3) := by decide +kernel
theorem dX12_replay_61 : decode prog_14_method_85_code 61 = .ok (.aload_n 0, 1) := by decide +kernel
theorem dX12_replay_62 : decode prog_14_method_85_code 62 = .ok (.getfield 201, 3) := by decide +kernel
theorem dX12_replay_65 : decode prog_14_method_85_code 65 = .ok (.goto 20, 3) := by decide +kernel
theorem dX12_replay_68 : decode prog_14_method_85_code 68 = .ok (.iload_n 1, 1) := by decide +kernel
theorem dX12_replay_69 : decode prog_14_method_85_code 69 = .ok (.iconst 3, 1) := by decide +kernel
theorem dX12_replay_70 : decode prog_14_method_85_code 70 = .ok (.if_icmp .ne 7, 3) := by decide +kernel
theorem dX12_replay_73 : decode prog_14_method_85_code 73 = .ok (.iload_n 2, 1) := by decide +kernel
theorem dX12_replay_74 : decode prog_14_method_85_code 74 = .ok (.goto 11, 3) := by decide +kernel
theorem dX12_replay_77 : decode prog_14_method_85_code 77 = .ok (.aload_n 0, 1) := by decide +kernel
theorem dX12_replay_78 : decode prog_14_method_85_code 78 = .ok (.aload_n 0, 1) := by decide +kernel
theorem dX12_replay_79 : decode prog_14_method_85_code 79 = .ok (.getfield 304, 3) := by decide +kernel
theorem dX12_replay_82 : decode prog_14_method_85_code 82 = .ok (.invokevirtual 312, 3) := by decide +kernel
theorem dX12_replay_85 : decode prog_14_method_85_code 85 = .ok (.ireturn, 1) := by decide +kernel
def m_X12_replay (N : Nat) (a0 : Nat) (i1 : Int32) (M : mM) : Option (Int32 × mM) :=
  (m_X12_in i1.toInt64 0 4).bind fun x1 =>
  if x1 = 0 then (
    some ((-1), M)) else (
    (oO M a0 12).bind fun _ =>
    (m_X12_goes N a0 0 M).bind fun x5 =>
    if 0 ≤ x5.1 then (
      if i1 = 0 then (
        (fI x5.2 a0 12 21).bind fun x21 =>
        some (x21, x5.2)) else (
        if i1 = 1 then (
          (fR x5.2 a0 12 0).bind fun x15 =>
          (aI 0 x5.2 x15 1).bind fun x17 =>
          (fI x5.2 a0 12 20).bind fun x19 =>
          some (x17 - x19, x5.2)) else (
          if i1 = 2 then (
            (fI x5.2 a0 12 20).bind fun x13 =>
            some (x13, x5.2)) else (
            if i1 = 3 then (
              some (x5.1, x5.2)) else (
              (fI x5.2 a0 12 28).bind fun x7 =>
              (oO x5.2 a0 12).bind fun _ =>
              (m_X12_behind N a0 x7 x5.2).bind fun x11 =>
              some (x11, x5.2)))))) else (
      some (x5.1, x5.2)))
set_option maxHeartbeats 4000000 in
set_option maxRecDepth 100000 in
theorem t_X12_replay {L0 : Launch} {M : mM} {N : Nat} {a0 : Nat} {i1 : Int32} {res : Int32 × mM} (hf : m_X12_replay N a0 i1 M = some res) : CT L0 yX12_replay prog_14_method_85_code 3 (some .int) 6 145 0 0 [.ref a0, .int i1] M (some (.int res.1)) res.2 := by
  refine CT.of (by decide +kernel) (Nat.le_of_ble_eq_true rfl) fun X C E => ?_
  have C : CX X RX12 "replay" prog_14_method_85_code 3 (some .int) := C
  show EV X 3 0 [(0, .ref a0), (1, .int i1)] [] 0 0 M
  unfold m_X12_replay at hf
  refine ev_iload_n C dX12_replay_0 rfl (q := 1) rfl ?_
  refine ev_i2l C dX12_replay_1 ?_
  refine ev_lconst (v := 0) C dX12_replay_2 (by decide) ?_
  refine ev_ldc2 (v := 4) C dX12_replay_3 kw_1603 ?_
  obtain ⟨x1, e2, hf⟩ := obnd hf
  refine ev_callS0 (As := [.long i1.toInt64, .long 0, .long 4]) (st := []) C (t_X12_in e2) hd_X12_in rfl kw_1253 kw_1254 kw_87 kw_1255 (mRoom.of E (Nat.le_of_ble_eq_true rfl) (Nat.le_of_ble_eq_true rfl) (Nat.le_refl 0) (Nat.le_refl 0)) (Nat.le_of_ble_eq_true rfl) dX12_replay_6 ?_
  refine ev_if_ne (tgt := 14) C dX12_replay_9 (by decide) (fun hc => ?_) (fun hc => ?_)
  · have hf := oie hf hc
    refine ev_aload_n C dX12_replay_14 rfl (q := 0) rfl ?_
    refine ev_iconst (v := 0) C dX12_replay_15 (by decide) ?_
    obtain ⟨_, e3, hf⟩ := obnd hf
    obtain ⟨fs4, e3⟩ := oO_eq e3
    obtain ⟨x5, e6, hf⟩ := obnd hf
    refine ev_callV0 (As := [.int 0]) (st := []) C rfl e3 (t_X12_goes e6) rfl hd_X12_goes rfl kw_1604 kw_1606 kw_87 kw_61 kw_1607 (mRoom.of E (Nat.le_of_ble_eq_true rfl) (Nat.le_of_ble_eq_true rfl) (Nat.le_refl 0) (Nat.le_refl 0)) (Nat.le_of_ble_eq_true rfl) dX12_replay_16 ?_
    refine ev_istore_n (l' := [(2, .int x5.1), (0, .ref a0), (1, .int i1)]) C dX12_replay_19 rfl (by decide) rfl ?_
    refine ev_iload_n C dX12_replay_20 rfl (q := 0) rfl ?_
    refine ev_if_ge (tgt := 26) C dX12_replay_21 (by decide) (fun hc => ?_) (fun hc => ?_)
    · have hf := oit hf hc
      refine ev_iload_n C dX12_replay_26 rfl (q := 2) rfl ?_
      refine ev_if_ne (tgt := 37) C dX12_replay_27 (by decide) (fun hc => ?_) (fun hc => ?_)
      · have hf := oie hf hc
        refine ev_iload_n C dX12_replay_37 rfl (q := 2) rfl ?_
        refine ev_iconst (v := 1) C dX12_replay_38 (by decide) ?_
        refine ev_icmp_ne (tgt := 56) C dX12_replay_39 (by decide) (fun hc => ?_) (fun hc => ?_)
        · have hf := oie hf hc
          refine ev_iload_n C dX12_replay_56 rfl (q := 2) rfl ?_
          refine ev_iconst (v := 2) C dX12_replay_57 (by decide) ?_
          refine ev_icmp_ne (tgt := 68) C dX12_replay_58 (by decide) (fun hc => ?_) (fun hc => ?_)
          · have hf := oie hf hc
            refine ev_iload_n C dX12_replay_68 rfl (q := 2) rfl ?_
            refine ev_iconst (v := 3) C dX12_replay_69 (by decide) ?_
            refine ev_icmp_ne (tgt := 77) C dX12_replay_70 (by decide) (fun hc => ?_) (fun hc => ?_)
            · have hf := oie hf hc
              refine ev_aload_n C dX12_replay_77 rfl (q := 1) rfl ?_
              refine ev_aload_n C dX12_replay_78 rfl (q := 1) rfl ?_
              obtain ⟨x7, e8, hf⟩ := obnd hf
              refine ev_get (k := 28) C ok_12 dX12_replay_79 (by decide) kw_1187 (fI_V e8) ?_
              obtain ⟨_, e9, hf⟩ := obnd hf
              obtain ⟨fs10, e9⟩ := oO_eq e9
              obtain ⟨x11, e12, hf⟩ := obnd hf
              refine ev_callV0 (As := [.int x7]) (st := []) C rfl e9 (t_X12_behind e12) rfl hd_X12_behind rfl kw_1612 kw_1614 kw_87 kw_63 kw_1615 (mRoom.of E (Nat.le_of_ble_eq_true rfl) (Nat.le_of_ble_eq_true rfl) (Nat.le_refl 0) (Nat.le_refl 0)) (Nat.le_of_ble_eq_true rfl) dX12_replay_82 ?_
              obtain rfl := Option.some.inj hf
              exact ev_iret C E (Nat.le_refl 0) (Nat.le_refl 0) dX12_replay_85
            · have hf := oit hf hc
              refine ev_iload_n C dX12_replay_73 rfl (q := 0) rfl ?_
              refine ev_goto (tgt := 85) C dX12_replay_74 (by decide) ?_
              obtain rfl := Option.some.inj hf
              exact ev_iret C E (Nat.le_refl 0) (Nat.le_refl 0) dX12_replay_85
          · have hf := oit hf hc
            refine ev_aload_n C dX12_replay_61 rfl (q := 1) rfl ?_
            obtain ⟨x13, e14, hf⟩ := obnd hf
            refine ev_get (k := 20) C ok_12 dX12_replay_62 (by decide) kw_1179 (fI_V e14) ?_
            refine ev_goto (tgt := 85) C dX12_replay_65 (by decide) ?_
            obtain rfl := Option.some.inj hf
            exact ev_iret C E (Nat.le_refl 0) (Nat.le_refl 0) dX12_replay_85
        · have hf := oit hf hc
          refine ev_aload_n C dX12_replay_42 rfl (q := 1) rfl ?_
          obtain ⟨x15, e16, hf⟩ := obnd hf
          refine ev_get (k := 0) C ok_12 dX12_replay_43 (by decide) kw_1159 (fR_V e16) ?_
          refine ev_iconst (v := 1) C dX12_replay_46 (by decide) ?_
          obtain ⟨x17, e18, hf⟩ := obnd hf
          refine ev_iald C dX12_replay_47 e18 ?_
          refine ev_aload_n C dX12_replay_48 rfl (q := 1) rfl ?_
          obtain ⟨x19, e20, hf⟩ := obnd hf
          refine ev_get (k := 20) C ok_12 dX12_replay_49 (by decide) kw_1179 (fI_V e20) ?_
          refine ev_isub C dX12_replay_52 ?_
          refine ev_goto (tgt := 85) C dX12_replay_53 (by decide) ?_
          obtain rfl := Option.some.inj hf
          exact ev_iret C E (Nat.le_refl 0) (Nat.le_refl 0) dX12_replay_85
      · have hf := oit hf hc
        refine ev_aload_n C dX12_replay_30 rfl (q := 1) rfl ?_
        obtain ⟨x21, e22, hf⟩ := obnd hf
        refine ev_get (k := 21) C ok_12 dX12_replay_31 (by decide) kw_1180 (fI_V e22) ?_
        refine ev_goto (tgt := 85) C dX12_replay_34 (by decide) ?_
        obtain rfl := Option.some.inj hf
        exact ev_iret C E (Nat.le_refl 0) (Nat.le_refl 0) dX12_replay_85
    · have hf := oie hf hc
      refine ev_iload_n C dX12_replay_24 rfl (q := 0) rfl ?_
      obtain rfl := Option.some.inj hf
      exact ev_iret C E (Nat.le_refl 0) (Nat.le_refl 0) dX12_replay_25
  · have hf := oit hf hc
    refine ev_iconst (v := (-1)) C dX12_replay_12 (by decide) ?_
    obtain rfl := Option.some.inj hf
    exact ev_iret C E (Nat.le_refl 0) (Nat.le_refl 0) dX12_replay_13
/-! FareLimitsModel byHand(I)I -/
theorem dX12_byHand_0 : decode prog_14_method_86_code 0 = .ok (.iload_n 1, 1) := by decide +kernel
theorem dX12_byHand_1 : decode prog_14_method_86_code 1 = .ok (.i2l, 1) := by decide +kernel
theorem dX12_byHand_2 : decode prog_14_method_86_code 2 = .ok (.lconst 0, 1) := by decide +kernel
theorem dX12_byHand_3 : decode prog_14_method_86_code 3 = .ok (.ldc2_w 78, 3) := by decide +kernel
theorem dX12_byHand_6 : decode prog_14_method_86_code 6 = .ok (.invokestatic 72, 3) := by decide +kernel
theorem dX12_byHand_9 : decode prog_14_method_86_code 9 = .ok (.ifCond .ne 5, 3) := by decide +kernel
theorem dX12_byHand_12 : decode prog_14_method_86_code 12 = .ok (.iconst (-1), 1) := by decide +kernel
theorem dX12_byHand_13 : decode prog_14_method_86_code 13 = .ok (.ireturn, 1) := by decide +kernel
theorem dX12_byHand_14 : decode prog_14_method_86_code 14 = .ok (.aload_n 0, 1) := by decide +kernel
theorem dX12_byHand_15 : decode prog_14_method_86_code 15 = .ok (.iconst 1, 1) := by decide +kernel
theorem dX12_byHand_16 : decode prog_14_method_86_code 16 = .ok (.invokevirtual 309, 3) := by decide +kernel
theorem dX12_byHand_19 : decode prog_14_method_86_code 19 = .ok (.istore_n 2, 1) := by decide +kernel
theorem dX12_byHand_20 : decode prog_14_method_86_code 20 = .ok (.iload_n 2, 1) := by decide +kernel
theorem dX12_byHand_21 : decode prog_14_method_86_code 21 = .ok (.ifCond .ge 5, 3) := by decide +kernel
theorem dX12_byHand_24 : decode prog_14_method_86_code 24 = .ok (.iload_n 2, 1) := by decide +kernel
theorem dX12_byHand_25 : decode prog_14_method_86_code 25 = .ok (.ireturn, 1) := by decide +kernel
theorem dX12_byHand_26 : decode prog_14_method_86_code 26 = .ok (.iload_n 1, 1) := by decide +kernel
theorem dX12_byHand_27 : decode prog_14_method_86_code 27 = .ok (.ifCond .ne 10, 3) := by decide +kernel
theorem dX12_byHand_30 : decode prog_14_method_86_code 30 = .ok (.aload_n 0, 1) := by decide +kernel
theorem dX12_byHand_31 : decode prog_14_method_86_code 31 = .ok (.getfield 211, 3) := by decide +kernel
theorem dX12_byHand_34 : decode prog_14_method_86_code 34 = .ok (.goto 35, 3) := by decide +kernel
theorem dX12_byHand_37 : decode prog_14_method_86_code 37 = .ok (.iload_n 1, 1) := by decide +kernel
theorem dX12_byHand_38 : decode prog_14_method_86_code 38 = .ok (.iconst 1, 1) := by decide +kernel
theorem dX12_byHand_39 : decode prog_14_method_86_code 39 = .ok (.if_icmp .ne 17, 3) := by decide +kernel
theorem dX12_byHand_42 : decode prog_14_method_86_code 42 = .ok (.aload_n 0, 1) := by decide +kernel
theorem dX12_byHand_43 : decode prog_14_method_86_code 43 = .ok (.getfield 9, 3) := by decide +kernel
theorem dX12_byHand_46 : decode prog_14_method_86_code 46 = .ok (.iconst 1, 1) := by decide +kernel
theorem dX12_byHand_47 : decode prog_14_method_86_code 47 = .ok (.iaload, 1) := by decide +kernel
theorem dX12_byHand_48 : decode prog_14_method_86_code 48 = .ok (.aload_n 0, 1) := by decide +kernel
theorem dX12_byHand_49 : decode prog_14_method_86_code 49 = .ok (.getfield 201, 3) := by decide +kernel
theorem dX12_byHand_52 : decode prog_14_method_86_code 52 = .ok (.isub, 1) := by decide +kernel
theorem dX12_byHand_53 : decode prog_14_method_86_code 53 = .ok (.goto 16, 3) := by decide +kernel
theorem dX12_byHand_56 : decode prog_14_method_86_code 56 = .ok (.iload_n 1, 1) := by decide +kernel
theorem dX12_byHand_57 : decode prog_14_method_86_code 57 = .ok (.iconst 2, 1) := by decide +kernel
theorem dX12_byHand_58 : decode prog_14_method_86_code 58 = .ok (.if_icmp .ne 10, 3) := by decide +kernel
theorem dX12_byHand_61 : decode prog_14_method_86_code 61 = .ok (.aload_n 0, 1) := by decide +kernel
theorem dX12_byHand_62 : decode prog_14_method_86_code 62 = .ok (.getfield 201, 3) := by decide +kernel
theorem dX12_byHand_65 : decode prog_14_method_86_code 65 = .ok (.goto 4, 3) := by decide +kernel
theorem dX12_byHand_68 : decode prog_14_method_86_code 68 = .ok (.iload_n 2, 1) := by decide +kernel
theorem dX12_byHand_69 : decode prog_14_method_86_code 69 = .ok (.ireturn, 1) := by decide +kernel
def m_X12_byHand (N : Nat) (a0 : Nat) (i1 : Int32) (M : mM) : Option (Int32 × mM) :=
  (m_X12_in i1.toInt64 0 3).bind fun x1 =>
  if x1 = 0 then (
    some ((-1), M)) else (
    (oO M a0 12).bind fun _ =>
    (m_X12_goes N a0 1 M).bind fun x5 =>
    if 0 ≤ x5.1 then (
      if i1 = 0 then (
        (fI x5.2 a0 12 21).bind fun x15 =>
        some (x15, x5.2)) else (
        if i1 = 1 then (
          (fR x5.2 a0 12 0).bind fun x9 =>
          (aI 0 x5.2 x9 1).bind fun x11 =>
          (fI x5.2 a0 12 20).bind fun x13 =>
          some (x11 - x13, x5.2)) else (
          if i1 = 2 then (
            (fI x5.2 a0 12 20).bind fun x7 =>
            some (x7, x5.2)) else (
            some (x5.1, x5.2))))) else (
      some (x5.1, x5.2)))
set_option maxHeartbeats 4000000 in
set_option maxRecDepth 100000 in
theorem t_X12_byHand {L0 : Launch} {M : mM} {N : Nat} {a0 : Nat} {i1 : Int32} {res : Int32 × mM} (hf : m_X12_byHand N a0 i1 M = some res) : CT L0 yX12_byHand prog_14_method_86_code 3 (some .int) 6 145 0 0 [.ref a0, .int i1] M (some (.int res.1)) res.2 := by
  refine CT.of (by decide +kernel) (Nat.le_of_ble_eq_true rfl) fun X C E => ?_
  have C : CX X RX12 "byHand" prog_14_method_86_code 3 (some .int) := C
  show EV X 3 0 [(0, .ref a0), (1, .int i1)] [] 0 0 M
  unfold m_X12_byHand at hf
  refine ev_iload_n C dX12_byHand_0 rfl (q := 1) rfl ?_
  refine ev_i2l C dX12_byHand_1 ?_
  refine ev_lconst (v := 0) C dX12_byHand_2 (by decide) ?_
  refine ev_ldc2 (v := 3) C dX12_byHand_3 kw_1252 ?_
  obtain ⟨x1, e2, hf⟩ := obnd hf
  refine ev_callS0 (As := [.long i1.toInt64, .long 0, .long 3]) (st := []) C (t_X12_in e2) hd_X12_in rfl kw_1253 kw_1254 kw_87 kw_1255 (mRoom.of E (Nat.le_of_ble_eq_true rfl) (Nat.le_of_ble_eq_true rfl) (Nat.le_refl 0) (Nat.le_refl 0)) (Nat.le_of_ble_eq_true rfl) dX12_byHand_6 ?_
  refine ev_if_ne (tgt := 14) C dX12_byHand_9 (by decide) (fun hc => ?_) (fun hc => ?_)
  · have hf := oie hf hc
    refine ev_aload_n C dX12_byHand_14 rfl (q := 0) rfl ?_
    refine ev_iconst (v := 1) C dX12_byHand_15 (by decide) ?_
    obtain ⟨_, e3, hf⟩ := obnd hf
    obtain ⟨fs4, e3⟩ := oO_eq e3
    obtain ⟨x5, e6, hf⟩ := obnd hf
    refine ev_callV0 (As := [.int 1]) (st := []) C rfl e3 (t_X12_goes e6) rfl hd_X12_goes rfl kw_1604 kw_1606 kw_87 kw_61 kw_1607 (mRoom.of E (Nat.le_of_ble_eq_true rfl) (Nat.le_of_ble_eq_true rfl) (Nat.le_refl 0) (Nat.le_refl 0)) (Nat.le_of_ble_eq_true rfl) dX12_byHand_16 ?_
    refine ev_istore_n (l' := [(2, .int x5.1), (0, .ref a0), (1, .int i1)]) C dX12_byHand_19 rfl (by decide) rfl ?_
    refine ev_iload_n C dX12_byHand_20 rfl (q := 0) rfl ?_
    refine ev_if_ge (tgt := 26) C dX12_byHand_21 (by decide) (fun hc => ?_) (fun hc => ?_)
    · have hf := oit hf hc
      refine ev_iload_n C dX12_byHand_26 rfl (q := 2) rfl ?_
      refine ev_if_ne (tgt := 37) C dX12_byHand_27 (by decide) (fun hc => ?_) (fun hc => ?_)
      · have hf := oie hf hc
        refine ev_iload_n C dX12_byHand_37 rfl (q := 2) rfl ?_
        refine ev_iconst (v := 1) C dX12_byHand_38 (by decide) ?_
        refine ev_icmp_ne (tgt := 56) C dX12_byHand_39 (by decide) (fun hc => ?_) (fun hc => ?_)
        · have hf := oie hf hc
          refine ev_iload_n C dX12_byHand_56 rfl (q := 2) rfl ?_
          refine ev_iconst (v := 2) C dX12_byHand_57 (by decide) ?_
          refine ev_icmp_ne (tgt := 68) C dX12_byHand_58 (by decide) (fun hc => ?_) (fun hc => ?_)
          · have hf := oie hf hc
            refine ev_iload_n C dX12_byHand_68 rfl (q := 0) rfl ?_
            obtain rfl := Option.some.inj hf
            exact ev_iret C E (Nat.le_refl 0) (Nat.le_refl 0) dX12_byHand_69
          · have hf := oit hf hc
            refine ev_aload_n C dX12_byHand_61 rfl (q := 1) rfl ?_
            obtain ⟨x7, e8, hf⟩ := obnd hf
            refine ev_get (k := 20) C ok_12 dX12_byHand_62 (by decide) kw_1179 (fI_V e8) ?_
            refine ev_goto (tgt := 69) C dX12_byHand_65 (by decide) ?_
            obtain rfl := Option.some.inj hf
            exact ev_iret C E (Nat.le_refl 0) (Nat.le_refl 0) dX12_byHand_69
        · have hf := oit hf hc
          refine ev_aload_n C dX12_byHand_42 rfl (q := 1) rfl ?_
          obtain ⟨x9, e10, hf⟩ := obnd hf
          refine ev_get (k := 0) C ok_12 dX12_byHand_43 (by decide) kw_1159 (fR_V e10) ?_
          refine ev_iconst (v := 1) C dX12_byHand_46 (by decide) ?_
          obtain ⟨x11, e12, hf⟩ := obnd hf
          refine ev_iald C dX12_byHand_47 e12 ?_
          refine ev_aload_n C dX12_byHand_48 rfl (q := 1) rfl ?_
          obtain ⟨x13, e14, hf⟩ := obnd hf
          refine ev_get (k := 20) C ok_12 dX12_byHand_49 (by decide) kw_1179 (fI_V e14) ?_
          refine ev_isub C dX12_byHand_52 ?_
          refine ev_goto (tgt := 69) C dX12_byHand_53 (by decide) ?_
          obtain rfl := Option.some.inj hf
          exact ev_iret C E (Nat.le_refl 0) (Nat.le_refl 0) dX12_byHand_69
      · have hf := oit hf hc
        refine ev_aload_n C dX12_byHand_30 rfl (q := 1) rfl ?_
        obtain ⟨x15, e16, hf⟩ := obnd hf
        refine ev_get (k := 21) C ok_12 dX12_byHand_31 (by decide) kw_1180 (fI_V e16) ?_
        refine ev_goto (tgt := 69) C dX12_byHand_34 (by decide) ?_
        obtain rfl := Option.some.inj hf
        exact ev_iret C E (Nat.le_refl 0) (Nat.le_refl 0) dX12_byHand_69
    · have hf := oie hf hc
      refine ev_iload_n C dX12_byHand_24 rfl (q := 0) rfl ?_
      obtain rfl := Option.some.inj hf
      exact ev_iret C E (Nat.le_refl 0) (Nat.le_refl 0) dX12_byHand_25
  · have hf := oit hf hc
    refine ev_iconst (v := (-1)) C dX12_byHand_12 (by decide) ?_
    obtain rfl := Option.some.inj hf
    exact ev_iret C E (Nat.le_refl 0) (Nat.le_refl 0) dX12_byHand_13
/-! FareLimitsModel writes(I)V -/
theorem dX12_writes_0 : decode prog_14_method_87_code 0 = .ok (.aload_n 0, 1) := by decide +kernel
theorem dX12_writes_1 : decode prog_14_method_87_code 1 = .ok (.getfield 21, 3) := by decide +kernel
theorem dX12_writes_4 : decode prog_14_method_87_code 4 = .ok (.aload_n 0, 1) := by decide +kernel
theorem dX12_writes_5 : decode prog_14_method_87_code 5 = .ok (.dup, 1) := by decide +kernel
theorem dX12_writes_6 : decode prog_14_method_87_code 6 = .ok (.getfield 315, 3) := by decide +kernel
theorem dX12_writes_9 : decode prog_14_method_87_code 9 = .ok (.dup_x1, 1) := by decide +kernel
theorem dX12_writes_10 : decode prog_14_method_87_code 10 = .ok (.iconst 1, 1) := by decide +kernel
theorem dX12_writes_11 : decode prog_14_method_87_code 11 = .ok (.iadd, 1) := by decide +kernel
theorem dX12_writes_12 : decode prog_14_method_87_code 12 = .ok (.putfield 315, 3) := by decide +kernel
theorem dX12_writes_15 : decode prog_14_method_87_code 15 = .ok (.iload_n 1, 1) := by decide +kernel
theorem dX12_writes_16 : decode prog_14_method_87_code 16 = .ok (.iastore, 1) := by decide +kernel
theorem dX12_writes_17 : decode prog_14_method_87_code 17 = .ok (.return_, 1) := by decide +kernel
def m_X12_writes (a0 : Nat) (i1 : Int32) (M : mM) : Option (mM) :=
  (fR M a0 12 6).bind fun x1 =>
  (fI M a0 12 5).bind fun x3 =>
  (sV M a0 12 5 (.int (x3 + 1))).bind fun M5 =>
  (uI 0 .int M5 x1 x3 i1).bind fun M7 =>
  some M7
set_option maxHeartbeats 4000000 in
set_option maxRecDepth 100000 in
theorem t_X12_writes {L0 : Launch} {M : mM} {a0 : Nat} {i1 : Int32} {res : mM} (hf : m_X12_writes a0 i1 M = some res) : CT L0 yX12_writes prog_14_method_87_code 2 none 0 0 0 0 [.ref a0, .int i1] M none res := by
  refine CT.of (by decide +kernel) (Nat.le_of_ble_eq_true rfl) fun X C E => ?_
  have C : CX X RX12 "writes" prog_14_method_87_code 2 none := C
  show EV X 2 0 [(0, .ref a0), (1, .int i1)] [] 0 0 M
  unfold m_X12_writes at hf
  refine ev_aload_n C dX12_writes_0 rfl (q := 0) rfl ?_
  obtain ⟨x1, e2, hf⟩ := obnd hf
  refine ev_get (k := 6) C ok_12 dX12_writes_1 (by decide) kw_1165 (fR_V e2) ?_
  refine ev_aload_n C dX12_writes_4 rfl (q := 0) rfl ?_
  refine ev_dup C dX12_writes_5 rfl ?_
  obtain ⟨x3, e4, hf⟩ := obnd hf
  refine ev_get (k := 5) C ok_12 dX12_writes_6 (by decide) kw_1164 (fI_V e4) ?_
  refine ev_dup_x1 C dX12_writes_9 rfl rfl ?_
  refine ev_iconst (v := 1) C dX12_writes_10 (by decide) ?_
  refine ev_iadd C dX12_writes_11 ?_
  obtain ⟨M5, e6, hf⟩ := obnd hf
  refine ev_put (k := 5) C ok_12 dX12_writes_12 (by decide) kw_1164 rfl ⟨rfl, rfl⟩ e6 ?_
  refine ev_iload_n C dX12_writes_15 rfl (q := 1) rfl ?_
  obtain ⟨M7, e8, hf⟩ := obnd hf
  refine ev_iast C dX12_writes_16 e8 ?_
  obtain rfl := Option.some.inj hf
  exact ev_vret C E (Nat.le_refl 0) (Nat.le_refl 0) dX12_writes_17
/-! FareLimitsModel paper(I)I -/
theorem dX12_paper_0 : decode prog_14_method_90_code 0 = .ok (.iload_n 1, 1) := by decide +kernel
theorem dX12_paper_1 : decode prog_14_method_90_code 1 = .ok (.i2l, 1) := by decide +kernel
theorem dX12_paper_2 : decode prog_14_method_90_code 2 = .ok (.lconst 0, 1) := by decide +kernel
theorem dX12_paper_3 : decode prog_14_method_90_code 3 = .ok (.aload_n 0, 1) := by decide +kernel
theorem dX12_paper_4 : decode prog_14_method_90_code 4 = .ok (.getfield 315, 3) := by decide +kernel
theorem dX12_paper_7 : decode prog_14_method_90_code 7 = .ok (.iconst 1, 1) := by decide +kernel
theorem dX12_paper_8 : decode prog_14_method_90_code 8 = .ok (.isub, 1) := by decide +kernel
theorem dX12_paper_9 : decode prog_14_method_90_code 9 = .ok (.i2l, 1) := by decide +kernel
theorem dX12_paper_10 : decode prog_14_method_90_code 10 = .ok (.invokestatic 72, 3) := by decide +kernel
theorem dX12_paper_13 : decode prog_14_method_90_code 13 = .ok (.ifCond .eq 12, 3) := by decide +kernel
theorem dX12_paper_16 : decode prog_14_method_90_code 16 = .ok (.aload_n 0, 1) := by decide +kernel
theorem dX12_paper_17 : decode prog_14_method_90_code 17 = .ok (.getfield 21, 3) := by decide +kernel
theorem dX12_paper_20 : decode prog_14_method_90_code 20 = .ok (.iload_n 1, 1) := by decide +kernel
theorem dX12_paper_21 : decode prog_14_method_90_code 21 = .ok (.iaload, 1) := by decide +kernel
theorem dX12_paper_22 : decode prog_14_method_90_code 22 = .ok (.goto 4, 3) := by decide +kernel
theorem dX12_paper_25 : decode prog_14_method_90_code 25 = .ok (.iconst (-1), 1) := by decide +kernel
theorem dX12_paper_26 : decode prog_14_method_90_code 26 = .ok (.ireturn, 1) := by decide +kernel
def m_X12_paper (a0 : Nat) (i1 : Int32) (M : mM) : Option (Int32) :=
  (fI M a0 12 5).bind fun x1 =>
  (m_X12_in i1.toInt64 0 ((x1 - 1).toInt64)).bind fun x3 =>
  if x3 = 0 then (
    some (-1)) else (
    (fR M a0 12 6).bind fun x5 =>
    (aI 0 M x5 i1).bind fun x7 =>
    some x7)
set_option maxHeartbeats 4000000 in
set_option maxRecDepth 100000 in
theorem t_X12_paper {L0 : Launch} {M : mM} {a0 : Nat} {i1 : Int32} {res : Int32} (hf : m_X12_paper a0 i1 M = some res) : CT L0 yX12_paper prog_14_method_90_code 2 (some .int) 1 25 0 0 [.ref a0, .int i1] M (some (.int res)) M := by
  refine CT.of (by decide +kernel) (Nat.le_of_ble_eq_true rfl) fun X C E => ?_
  have C : CX X RX12 "paper" prog_14_method_90_code 2 (some .int) := C
  show EV X 2 0 [(0, .ref a0), (1, .int i1)] [] 0 0 M
  unfold m_X12_paper at hf
  refine ev_iload_n C dX12_paper_0 rfl (q := 1) rfl ?_
  refine ev_i2l C dX12_paper_1 ?_
  refine ev_lconst (v := 0) C dX12_paper_2 (by decide) ?_
  refine ev_aload_n C dX12_paper_3 rfl (q := 0) rfl ?_
  obtain ⟨x1, e2, hf⟩ := obnd hf
  refine ev_get (k := 5) C ok_12 dX12_paper_4 (by decide) kw_1164 (fI_V e2) ?_
  refine ev_iconst (v := 1) C dX12_paper_7 (by decide) ?_
  refine ev_isub C dX12_paper_8 ?_
  refine ev_i2l C dX12_paper_9 ?_
  obtain ⟨x3, e4, hf⟩ := obnd hf
  refine ev_callS0 (As := [.long i1.toInt64, .long 0, .long ((x1 - 1).toInt64)]) (st := []) C (t_X12_in e4) hd_X12_in rfl kw_1253 kw_1254 kw_87 kw_1255 (mRoom.of E (Nat.le_of_ble_eq_true rfl) (Nat.le_of_ble_eq_true rfl) (Nat.le_refl 0) (Nat.le_refl 0)) (Nat.le_of_ble_eq_true rfl) dX12_paper_10 ?_
  refine ev_if_eq (tgt := 25) C dX12_paper_13 (by decide) (fun hc => ?_) (fun hc => ?_)
  · have hf := oit hf hc
    refine ev_iconst (v := (-1)) C dX12_paper_25 (by decide) ?_
    obtain rfl := Option.some.inj hf
    exact ev_iret C E (Nat.le_refl 0) (Nat.le_refl 0) dX12_paper_26
  · have hf := oie hf hc
    refine ev_aload_n C dX12_paper_16 rfl (q := 0) rfl ?_
    obtain ⟨x5, e6, hf⟩ := obnd hf
    refine ev_get (k := 6) C ok_12 dX12_paper_17 (by decide) kw_1165 (fR_V e6) ?_
    refine ev_iload_n C dX12_paper_20 rfl (q := 1) rfl ?_
    obtain ⟨x7, e8, hf⟩ := obnd hf
    refine ev_iald C dX12_paper_21 e8 ?_
    refine ev_goto (tgt := 26) C dX12_paper_22 (by decide) ?_
    obtain rfl := Option.some.inj hf
    exact ev_iret C E (Nat.le_refl 0) (Nat.le_refl 0) dX12_paper_26
/-! FareLimitsModel unlike()I -/
theorem dX12_unlike_0 : decode prog_14_method_91_code 0 = .ok (.iconst 0, 1) := by decide +kernel
theorem dX12_unlike_1 : decode prog_14_method_91_code 1 = .ok (.istore_n 1, 1) := by decide +kernel
theorem dX12_unlike_2 : decode prog_14_method_91_code 2 = .ok (.iconst 0, 1) := by decide +kernel
theorem dX12_unlike_3 : decode prog_14_method_91_code 3 = .ok (.istore_n 2, 1) := by decide +kernel
theorem dX12_unlike_4 : decode prog_14_method_91_code 4 = .ok (.iload_n 2, 1) := by decide +kernel
theorem dX12_unlike_5 : decode prog_14_method_91_code 5 = .ok (.aload_n 0, 1) := by decide +kernel
theorem dX12_unlike_6 : decode prog_14_method_91_code 6 = .ok (.getfield 9, 3) := by decide +kernel
theorem dX12_unlike_9 : decode prog_14_method_91_code 9 = .ok (.iconst 0, 1) := by decide +kernel
theorem dX12_unlike_10 : decode prog_14_method_91_code 10 = .ok (.iaload, 1) := by decide +kernel
theorem dX12_unlike_11 : decode prog_14_method_91_code 11 = .ok (.if_icmp .ge 62, 3) := by decide +kernel
theorem dX12_unlike_14 : decode prog_14_method_91_code 14 = .ok (.iconst 1, 1) := by decide +kernel
theorem dX12_unlike_15 : decode prog_14_method_91_code 15 = .ok (.istore_n 3, 1) := by decide +kernel
theorem dX12_unlike_16 : decode prog_14_method_91_code 16 = .ok (.iconst 0, 1) := by decide +kernel
theorem dX12_unlike_17 : decode prog_14_method_91_code 17 = .ok (.istore 4, 2) := by decide +kernel
theorem dX12_unlike_19 : decode prog_14_method_91_code 19 = .ok (.iload 4, 2) := by decide +kernel
theorem dX12_unlike_21 : decode prog_14_method_91_code 21 = .ok (.iload_n 2, 1) := by decide +kernel
theorem dX12_unlike_22 : decode prog_14_method_91_code 22 = .ok (.if_icmp .ge 33, 3) := by decide +kernel
theorem dX12_unlike_25 : decode prog_14_method_91_code 25 = .ok (.iload_n 3, 1) := by decide +kernel
theorem dX12_unlike_26 : decode prog_14_method_91_code 26 = .ok (.ifCond .eq 21, 3) := by decide +kernel
theorem dX12_unlike_29 : decode prog_14_method_91_code 29 = .ok (.aload_n 0, 1) := by decide +kernel
theorem dX12_unlike_30 : decode prog_14_method_91_code 30 = .ok (.iload 4, 2) := by decide +kernel
theorem dX12_unlike_32 : decode prog_14_method_91_code 32 = .ok (.invokevirtual 88, 3) := by decide +kernel
theorem dX12_unlike_35 : decode prog_14_method_91_code 35 = .ok (.aload_n 0, 1) := by decide +kernel
theorem dX12_unlike_36 : decode prog_14_method_91_code 36 = .ok (.iload_n 2, 1) := by decide +kernel
theorem dX12_unlike_37 : decode prog_14_method_91_code 37 = .ok (.invokevirtual 88, 3) := by decide +kernel
theorem dX12_unlike_40 : decode prog_14_method_91_code 40 = .ok (.if_icmp .eq 7, 3) := by decide +kernel
theorem dX12_unlike_43 : decode prog_14_method_91_code 43 = .ok (.iconst 1, 1) := by decide +kernel
theorem dX12_unlike_44 : decode prog_14_method_91_code 44 = .ok (.goto 4, 3) := by decide +kernel
theorem dX12_unlike_47 : decode prog_14_method_91_code 47 = .ok (.iconst 0, 1) := by decide +kernel
theorem dX12_unlike_48 : decode prog_14_method_91_code 48 = .ok (.istore_n 3, 1) := by decide +kernel
theorem dX12_unlike_49 : decode prog_14_method_91_code 49 = .ok (.iinc 4 1, 3) := by decide +kernel
theorem dX12_unlike_52 : decode prog_14_method_91_code 52 = .ok (.goto (-33), 3) := by decide +kernel
theorem dX12_unlike_55 : decode prog_14_method_91_code 55 = .ok (.iload_n 1, 1) := by decide +kernel
theorem dX12_unlike_56 : decode prog_14_method_91_code 56 = .ok (.iload_n 3, 1) := by decide +kernel
theorem dX12_unlike_57 : decode prog_14_method_91_code 57 = .ok (.ifCond .eq 7, 3) := by decide +kernel
theorem dX12_unlike_60 : decode prog_14_method_91_code 60 = .ok (.iconst 1, 1) := by decide +kernel
theorem dX12_unlike_61 : decode prog_14_method_91_code 61 = .ok (.goto 4, 3) := by decide +kernel
theorem dX12_unlike_64 : decode prog_14_method_91_code 64 = .ok (.iconst 0, 1) := by decide +kernel
theorem dX12_unlike_65 : decode prog_14_method_91_code 65 = .ok (.iadd, 1) := by decide +kernel
theorem dX12_unlike_66 : decode prog_14_method_91_code 66 = .ok (.istore_n 1, 1) := by decide +kernel
theorem dX12_unlike_67 : decode prog_14_method_91_code 67 = .ok (.iinc 2 1, 3) := by decide +kernel
theorem dX12_unlike_70 : decode prog_14_method_91_code 70 = .ok (.goto (-66), 3) := by decide +kernel
theorem dX12_unlike_73 : decode prog_14_method_91_code 73 = .ok (.iload_n 1, 1) := by decide +kernel
theorem dX12_unlike_74 : decode prog_14_method_91_code 74 = .ok (.ireturn, 1) := by decide +kernel
def m_X12_unlike_J65 (N : Nat) (M : mM) (k4 : Nat → Int32 → Int32 → Option (Int32)) (a0 : Nat) (i2 : Int32) (si0 : Int32) (si1 : Int32) : Option (Int32) :=
  k4 a0 (si0 + si1) (i2 + 1)
set_option maxHeartbeats 4000000 in
set_option maxRecDepth 100000 in
theorem t_X12_unlike_J65 {X : mX} {M : mM} {L0 : Launch} {res : Int32} {N : Nat} (C : CX X RX12 "unlike" prog_14_method_91_code 5 (some .int)) (E : EX X L0 1 21 0 0 (some (.int res)) M) (k4 : Nat → Int32 → Int32 → Option (Int32)) (Hk4 : ∀ (a0 : Nat) (i1 : Int32) (i2 : Int32), k4 a0 i1 i2 = some res → EV X 5 4 [(0, .ref a0), (1, .int i1), (2, .int i2)] [] 0 0 M) (a0 : Nat) (i2 : Int32) (si0 : Int32) (si1 : Int32) (hf : m_X12_unlike_J65 N M k4 a0 i2 si0 si1 = some res) : EV X 5 65 [(0, .ref a0), (2, .int i2)] [.int si1, .int si0] 0 0 M := by
  unfold m_X12_unlike_J65 at hf
  refine ev_iadd C dX12_unlike_65 ?_
  refine ev_istore_n (l' := [(1, .int (si0 + si1)), (0, .ref a0), (2, .int i2)]) C dX12_unlike_66 rfl (by decide) rfl ?_
  refine ev_iinc (v := i2 + 1) (l' := [(2, .int (i2 + 1)), (1, .int (si0 + si1)), (0, .ref a0)]) C dX12_unlike_67 (q := 2) rfl rfl (by decide) rfl ?_
  refine ev_goto (tgt := 4) C dX12_unlike_70 (by decide) ?_
  refine ev_sub [2, 1, 0] rfl ?_
  exact Hk4 a0 (si0 + si1) (i2 + 1) hf
def m_X12_unlike_J48 (N : Nat) (M : mM) (k19 : Nat → Int32 → Int32 → Int32 → Int32 → Option (Int32)) (a0 : Nat) (i1 : Int32) (i2 : Int32) (i4 : Int32) (si0 : Int32) : Option (Int32) :=
  k19 a0 i1 i2 si0 (i4 + 1)
set_option maxHeartbeats 4000000 in
set_option maxRecDepth 100000 in
theorem t_X12_unlike_J48 {X : mX} {M : mM} {L0 : Launch} {res : Int32} {N : Nat} (C : CX X RX12 "unlike" prog_14_method_91_code 5 (some .int)) (E : EX X L0 1 21 0 0 (some (.int res)) M) (k19 : Nat → Int32 → Int32 → Int32 → Int32 → Option (Int32)) (Hk19 : ∀ (a0 : Nat) (i1 : Int32) (i2 : Int32) (i3 : Int32) (i4 : Int32), k19 a0 i1 i2 i3 i4 = some res → EV X 5 19 [(0, .ref a0), (1, .int i1), (2, .int i2), (3, .int i3), (4, .int i4)] [] 0 0 M) (a0 : Nat) (i1 : Int32) (i2 : Int32) (i4 : Int32) (si0 : Int32) (hf : m_X12_unlike_J48 N M k19 a0 i1 i2 i4 si0 = some res) : EV X 5 48 [(0, .ref a0), (1, .int i1), (2, .int i2), (4, .int i4)] [.int si0] 0 0 M := by
  unfold m_X12_unlike_J48 at hf
  refine ev_istore_n (l' := [(3, .int si0), (0, .ref a0), (1, .int i1), (2, .int i2), (4, .int i4)]) C dX12_unlike_48 rfl (by decide) rfl ?_
  refine ev_iinc (v := i4 + 1) (l' := [(4, .int (i4 + 1)), (3, .int si0), (0, .ref a0), (1, .int i1), (2, .int i2)]) C dX12_unlike_49 (q := 4) rfl rfl (by decide) rfl ?_
  refine ev_goto (tgt := 19) C dX12_unlike_52 (by decide) ?_
  refine ev_sub [2, 3, 4, 1, 0] rfl ?_
  exact Hk19 a0 i1 i2 si0 (i4 + 1) hf
def m_X12_unlike_J47 (N : Nat) (M : mM) (k19 : Nat → Int32 → Int32 → Int32 → Int32 → Option (Int32)) (a0 : Nat) (i1 : Int32) (i2 : Int32) (i4 : Int32) : Option (Int32) :=
  m_X12_unlike_J48 N M k19 a0 i1 i2 i4 0
set_option maxHeartbeats 4000000 in
set_option maxRecDepth 100000 in
theorem t_X12_unlike_J47 {X : mX} {M : mM} {L0 : Launch} {res : Int32} {N : Nat} (C : CX X RX12 "unlike" prog_14_method_91_code 5 (some .int)) (E : EX X L0 1 21 0 0 (some (.int res)) M) (k19 : Nat → Int32 → Int32 → Int32 → Int32 → Option (Int32)) (Hk19 : ∀ (a0 : Nat) (i1 : Int32) (i2 : Int32) (i3 : Int32) (i4 : Int32), k19 a0 i1 i2 i3 i4 = some res → EV X 5 19 [(0, .ref a0), (1, .int i1), (2, .int i2), (3, .int i3), (4, .int i4)] [] 0 0 M) (a0 : Nat) (i1 : Int32) (i2 : Int32) (i4 : Int32) (hf : m_X12_unlike_J47 N M k19 a0 i1 i2 i4 = some res) : EV X 5 47 [(0, .ref a0), (1, .int i1), (2, .int i2), (4, .int i4)] [] 0 0 M := by
  unfold m_X12_unlike_J47 at hf
  refine ev_iconst (v := 0) C dX12_unlike_47 (by decide) ?_
  exact t_X12_unlike_J48 C E k19 Hk19 a0 i1 i2 i4 0 hf
def m_X12_unlike_L19 (N : Nat) (M : mM) (k4 : Nat → Int32 → Int32 → Option (Int32)) : Nat → Nat → Int32 → Int32 → Int32 → Int32 → Option (Int32)
  | 0, _, _, _, _, _ => none
  | n + 1, a0, i1, i2, i3, i4 =>
    if i2 ≤ i4 then (
      if i3 = 0 then (
        m_X12_unlike_J65 N M k4 a0 i2 i1 0) else (
        m_X12_unlike_J65 N M k4 a0 i2 i1 1)) else (
      if i3 = 0 then (
        m_X12_unlike_J47 N M (m_X12_unlike_L19 N M k4  n) a0 i1 i2 i4) else (
        (oO M a0 12).bind fun _ =>
        (m_X12_price a0 i4 M).bind fun x3 =>
        (oO M a0 12).bind fun _ =>
        (m_X12_price a0 i2 M).bind fun x7 =>
        if x3 = x7 then (
          m_X12_unlike_J47 N M (m_X12_unlike_L19 N M k4  n) a0 i1 i2 i4) else (
          m_X12_unlike_J48 N M (m_X12_unlike_L19 N M k4  n) a0 i1 i2 i4 1)))
set_option maxHeartbeats 4000000 in
set_option maxRecDepth 100000 in
theorem t_X12_unlike_L19 {X : mX} {M : mM} {L0 : Launch} {res : Int32} {N : Nat} (C : CX X RX12 "unlike" prog_14_method_91_code 5 (some .int)) (E : EX X L0 1 21 0 0 (some (.int res)) M) (k4 : Nat → Int32 → Int32 → Option (Int32)) (Hk4 : ∀ (a0 : Nat) (i1 : Int32) (i2 : Int32), k4 a0 i1 i2 = some res → EV X 5 4 [(0, .ref a0), (1, .int i1), (2, .int i2)] [] 0 0 M) : ∀ (n : Nat) (a0 : Nat) (i1 : Int32) (i2 : Int32) (i3 : Int32) (i4 : Int32), m_X12_unlike_L19 N M k4 n a0 i1 i2 i3 i4 = some res → EV X 5 19 [(0, .ref a0), (1, .int i1), (2, .int i2), (3, .int i3), (4, .int i4)] [] 0 0 M := by
  intro n
  induction n with
  | zero => intro a0 i1 i2 i3 i4 hf; cases (show (none : Option (Int32)) = some res from hf)
  | succ n ih =>
    intro a0 i1 i2 i3 i4 hf
    rw [m_X12_unlike_L19] at hf
    refine ev_iload C dX12_unlike_19 (q := 4) rfl ?_
    refine ev_iload_n C dX12_unlike_21 rfl (q := 2) rfl ?_
    refine ev_icmp_ge (tgt := 55) C dX12_unlike_22 (by decide) (fun hc => ?_) (fun hc => ?_)
    · have hf := oit hf hc
      refine ev_iload_n C dX12_unlike_55 rfl (q := 1) rfl ?_
      refine ev_iload_n C dX12_unlike_56 rfl (q := 3) rfl ?_
      refine ev_if_eq (tgt := 64) C dX12_unlike_57 (by decide) (fun hc => ?_) (fun hc => ?_)
      · have hf := oit hf hc
        refine ev_iconst (v := 0) C dX12_unlike_64 (by decide) ?_
        refine ev_sub [0, 2] rfl ?_
        exact t_X12_unlike_J65 C E k4 Hk4 a0 i2 i1 0 hf
      · have hf := oie hf hc
        refine ev_iconst (v := 1) C dX12_unlike_60 (by decide) ?_
        refine ev_goto (tgt := 65) C dX12_unlike_61 (by decide) ?_
        refine ev_sub [0, 2] rfl ?_
        exact t_X12_unlike_J65 C E k4 Hk4 a0 i2 i1 1 hf
    · have hf := oie hf hc
      refine ev_iload_n C dX12_unlike_25 rfl (q := 3) rfl ?_
      refine ev_if_eq (tgt := 47) C dX12_unlike_26 (by decide) (fun hc => ?_) (fun hc => ?_)
      · have hf := oit hf hc
        refine ev_sub [0, 1, 2, 4] rfl ?_
        exact t_X12_unlike_J47 C E (m_X12_unlike_L19 N M k4  n) ih a0 i1 i2 i4 hf
      · have hf := oie hf hc
        refine ev_aload_n C dX12_unlike_29 rfl (q := 0) rfl ?_
        refine ev_iload C dX12_unlike_30 (q := 4) rfl ?_
        obtain ⟨_, e1, hf⟩ := obnd hf
        obtain ⟨fs2, e1⟩ := oO_eq e1
        obtain ⟨x3, e4, hf⟩ := obnd hf
        refine ev_callV0 (As := [.int i4]) (st := []) C rfl e1 (t_X12_price e4) rfl hd_X12_price rfl kw_1266 kw_1268 kw_87 kw_21 kw_1269 (mRoom.of E (Nat.le_of_ble_eq_true rfl) (Nat.le_of_ble_eq_true rfl) (Nat.le_refl 0) (Nat.le_refl 0)) (Nat.le_of_ble_eq_true rfl) dX12_unlike_32 ?_
        refine ev_aload_n C dX12_unlike_35 rfl (q := 0) rfl ?_
        refine ev_iload_n C dX12_unlike_36 rfl (q := 2) rfl ?_
        obtain ⟨_, e5, hf⟩ := obnd hf
        obtain ⟨fs6, e5⟩ := oO_eq e5
        obtain ⟨x7, e8, hf⟩ := obnd hf
        refine ev_callV0 (As := [.int i2]) (st := [.int x3]) C rfl e5 (t_X12_price e8) rfl hd_X12_price rfl kw_1266 kw_1268 kw_87 kw_21 kw_1269 (mRoom.of E (Nat.le_of_ble_eq_true rfl) (Nat.le_of_ble_eq_true rfl) (Nat.le_refl 0) (Nat.le_refl 0)) (Nat.le_of_ble_eq_true rfl) dX12_unlike_37 ?_
        refine ev_icmp_eq (tgt := 47) C dX12_unlike_40 (by decide) (fun hc => ?_) (fun hc => ?_)
        · have hf := oit hf hc
          refine ev_sub [0, 1, 2, 4] rfl ?_
          exact t_X12_unlike_J47 C E (m_X12_unlike_L19 N M k4  n) ih a0 i1 i2 i4 hf
        · have hf := oie hf hc
          refine ev_iconst (v := 1) C dX12_unlike_43 (by decide) ?_
          refine ev_goto (tgt := 48) C dX12_unlike_44 (by decide) ?_
          refine ev_sub [0, 1, 2, 4] rfl ?_
          exact t_X12_unlike_J48 C E (m_X12_unlike_L19 N M k4  n) ih a0 i1 i2 i4 1 hf
def m_X12_unlike_L4 (N : Nat) (M : mM)  : Nat → Nat → Int32 → Int32 → Option (Int32)
  | 0, _, _, _ => none
  | n + 1, a0, i1, i2 =>
    (fR M a0 12 0).bind fun x1 =>
    (aI 0 M x1 0).bind fun x3 =>
    if x3 ≤ i2 then (
      some i1) else (
      m_X12_unlike_L19 N M (m_X12_unlike_L4 N M  n) N a0 i1 i2 1 0)
set_option maxHeartbeats 4000000 in
set_option maxRecDepth 100000 in
theorem t_X12_unlike_L4 {X : mX} {M : mM} {L0 : Launch} {res : Int32} {N : Nat} (C : CX X RX12 "unlike" prog_14_method_91_code 5 (some .int)) (E : EX X L0 1 21 0 0 (some (.int res)) M)   : ∀ (n : Nat) (a0 : Nat) (i1 : Int32) (i2 : Int32), m_X12_unlike_L4 N M  n a0 i1 i2 = some res → EV X 5 4 [(0, .ref a0), (1, .int i1), (2, .int i2)] [] 0 0 M := by
  intro n
  induction n with
  | zero => intro a0 i1 i2 hf; cases (show (none : Option (Int32)) = some res from hf)
  | succ n ih =>
    intro a0 i1 i2 hf
    rw [m_X12_unlike_L4] at hf
    refine ev_iload_n C dX12_unlike_4 rfl (q := 2) rfl ?_
    refine ev_aload_n C dX12_unlike_5 rfl (q := 0) rfl ?_
    obtain ⟨x1, e2, hf⟩ := obnd hf
    refine ev_get (k := 0) C ok_12 dX12_unlike_6 (by decide) kw_1159 (fR_V e2) ?_
    refine ev_iconst (v := 0) C dX12_unlike_9 (by decide) ?_
    obtain ⟨x3, e4, hf⟩ := obnd hf
    refine ev_iald C dX12_unlike_10 e4 ?_
    refine ev_icmp_ge (tgt := 73) C dX12_unlike_11 (by decide) (fun hc => ?_) (fun hc => ?_)
    · have hf := oit hf hc
      refine ev_iload_n C dX12_unlike_73 rfl (q := 1) rfl ?_
      obtain rfl := Option.some.inj hf
      exact ev_iret C E (Nat.le_refl 0) (Nat.le_refl 0) dX12_unlike_74
    · have hf := oie hf hc
      refine ev_iconst (v := 1) C dX12_unlike_14 (by decide) ?_
      refine ev_istore_n (l' := [(3, .int 1), (0, .ref a0), (1, .int i1), (2, .int i2)]) C dX12_unlike_15 rfl (by decide) rfl ?_
      refine ev_iconst (v := 0) C dX12_unlike_16 (by decide) ?_
      refine ev_istore (l' := [(4, .int 0), (3, .int 1), (0, .ref a0), (1, .int i1), (2, .int i2)]) C dX12_unlike_17 (by decide) rfl ?_
      refine ev_sub [2, 3, 4, 1, 0] rfl ?_
      exact t_X12_unlike_L19 C E (m_X12_unlike_L4 N M  n) ih N a0 i1 i2 1 0 hf
def m_X12_unlike (N : Nat) (a0 : Nat) (M : mM) : Option (Int32) :=
  m_X12_unlike_L4 N M  N a0 0 0
set_option maxHeartbeats 4000000 in
set_option maxRecDepth 100000 in
theorem t_X12_unlike {L0 : Launch} {M : mM} {N : Nat} {a0 : Nat} {res : Int32} (hf : m_X12_unlike N a0 M = some res) : CT L0 yX12_unlike prog_14_method_91_code 5 (some .int) 1 21 0 0 [.ref a0] M (some (.int res)) M := by
  refine CT.of (by decide +kernel) (Nat.le_of_ble_eq_true rfl) fun X C E => ?_
  have C : CX X RX12 "unlike" prog_14_method_91_code 5 (some .int) := C
  show EV X 5 0 [(0, .ref a0)] [] 0 0 M
  unfold m_X12_unlike at hf
  refine ev_iconst (v := 0) C dX12_unlike_0 (by decide) ?_
  refine ev_istore_n (l' := [(1, .int 0), (0, .ref a0)]) C dX12_unlike_1 rfl (by decide) rfl ?_
  refine ev_iconst (v := 0) C dX12_unlike_2 (by decide) ?_
  refine ev_istore_n (l' := [(2, .int 0), (1, .int 0), (0, .ref a0)]) C dX12_unlike_3 rfl (by decide) rfl ?_
  refine ev_sub [2, 1, 0] rfl ?_
  exact t_X12_unlike_L4 C E   N a0 0 0 hf
/-! FareLimitsModel greatest()I -/
theorem dX12_greatest_0 : decode prog_14_method_92_code 0 = .ok (.iconst 0, 1) := by decide +kernel
theorem dX12_greatest_1 : decode prog_14_method_92_code 1 = .ok (.istore_n 1, 1) := by decide +kernel
theorem dX12_greatest_2 : decode prog_14_method_92_code 2 = .ok (.iconst 0, 1) := by decide +kernel
theorem dX12_greatest_3 : decode prog_14_method_92_code 3 = .ok (.istore_n 2, 1) := by decide +kernel
theorem dX12_greatest_4 : decode prog_14_method_92_code 4 = .ok (.iload_n 2, 1) := by decide +kernel
theorem dX12_greatest_5 : decode prog_14_method_92_code 5 = .ok (.aload_n 0, 1) := by decide +kernel
theorem dX12_greatest_6 : decode prog_14_method_92_code 6 = .ok (.getfield 9, 3) := by decide +kernel
theorem dX12_greatest_9 : decode prog_14_method_92_code 9 = .ok (.iconst 0, 1) := by decide +kernel
theorem dX12_greatest_10 : decode prog_14_method_92_code 10 = .ok (.iaload, 1) := by decide +kernel
theorem dX12_greatest_11 : decode prog_14_method_92_code 11 = .ok (.if_icmp .ge 28, 3) := by decide +kernel
theorem dX12_greatest_14 : decode prog_14_method_92_code 14 = .ok (.aload_n 0, 1) := by decide +kernel
theorem dX12_greatest_15 : decode prog_14_method_92_code 15 = .ok (.iload_n 2, 1) := by decide +kernel
theorem dX12_greatest_16 : decode prog_14_method_92_code 16 = .ok (.invokevirtual 88, 3) := by decide +kernel
theorem dX12_greatest_19 : decode prog_14_method_92_code 19 = .ok (.iload_n 1, 1) := by decide +kernel
theorem dX12_greatest_20 : decode prog_14_method_92_code 20 = .ok (.if_icmp .le 11, 3) := by decide +kernel
theorem dX12_greatest_23 : decode prog_14_method_92_code 23 = .ok (.aload_n 0, 1) := by decide +kernel
theorem dX12_greatest_24 : decode prog_14_method_92_code 24 = .ok (.iload_n 2, 1) := by decide +kernel
theorem dX12_greatest_25 : decode prog_14_method_92_code 25 = .ok (.invokevirtual 88, 3) := by decide +kernel
theorem dX12_greatest_28 : decode prog_14_method_92_code 28 = .ok (.goto 4, 3) := by decide +kernel
theorem dX12_greatest_31 : decode prog_14_method_92_code 31 = .ok (.iload_n 1, 1) := by decide +kernel
theorem dX12_greatest_32 : decode prog_14_method_92_code 32 = .ok (.istore_n 1, 1) := by decide +kernel
theorem dX12_greatest_33 : decode prog_14_method_92_code 33 = .ok (.iinc 2 1, 3) := by decide +kernel
theorem dX12_greatest_36 : decode prog_14_method_92_code 36 = .ok (.goto (-32), 3) := by decide +kernel
theorem dX12_greatest_39 : decode prog_14_method_92_code 39 = .ok (.iload_n 1, 1) := by decide +kernel
theorem dX12_greatest_40 : decode prog_14_method_92_code 40 = .ok (.ireturn, 1) := by decide +kernel
def m_X12_greatest_J32 (N : Nat) (M : mM) (k4 : Nat → Int32 → Int32 → Option (Int32)) (a0 : Nat) (i2 : Int32) (si0 : Int32) : Option (Int32) :=
  k4 a0 si0 (i2 + 1)
set_option maxHeartbeats 4000000 in
set_option maxRecDepth 100000 in
theorem t_X12_greatest_J32 {X : mX} {M : mM} {L0 : Launch} {res : Int32} {N : Nat} (C : CX X RX12 "greatest" prog_14_method_92_code 3 (some .int)) (E : EX X L0 1 21 0 0 (some (.int res)) M) (k4 : Nat → Int32 → Int32 → Option (Int32)) (Hk4 : ∀ (a0 : Nat) (i1 : Int32) (i2 : Int32), k4 a0 i1 i2 = some res → EV X 3 4 [(0, .ref a0), (1, .int i1), (2, .int i2)] [] 0 0 M) (a0 : Nat) (i2 : Int32) (si0 : Int32) (hf : m_X12_greatest_J32 N M k4 a0 i2 si0 = some res) : EV X 3 32 [(0, .ref a0), (2, .int i2)] [.int si0] 0 0 M := by
  unfold m_X12_greatest_J32 at hf
  refine ev_istore_n (l' := [(1, .int si0), (0, .ref a0), (2, .int i2)]) C dX12_greatest_32 rfl (by decide) rfl ?_
  refine ev_iinc (v := i2 + 1) (l' := [(2, .int (i2 + 1)), (1, .int si0), (0, .ref a0)]) C dX12_greatest_33 (q := 2) rfl rfl (by decide) rfl ?_
  refine ev_goto (tgt := 4) C dX12_greatest_36 (by decide) ?_
  refine ev_sub [2, 1, 0] rfl ?_
  exact Hk4 a0 si0 (i2 + 1) hf
def m_X12_greatest_L4 (N : Nat) (M : mM)  : Nat → Nat → Int32 → Int32 → Option (Int32)
  | 0, _, _, _ => none
  | n + 1, a0, i1, i2 =>
    (fR M a0 12 0).bind fun x1 =>
    (aI 0 M x1 0).bind fun x3 =>
    if x3 ≤ i2 then (
      some i1) else (
      (oO M a0 12).bind fun _ =>
      (m_X12_price a0 i2 M).bind fun x7 =>
      if x7 ≤ i1 then (
        m_X12_greatest_J32 N M (m_X12_greatest_L4 N M  n) a0 i2 i1) else (
        (oO M a0 12).bind fun _ =>
        (m_X12_price a0 i2 M).bind fun x11 =>
        m_X12_greatest_J32 N M (m_X12_greatest_L4 N M  n) a0 i2 x11))
set_option maxHeartbeats 4000000 in
set_option maxRecDepth 100000 in
theorem t_X12_greatest_L4 {X : mX} {M : mM} {L0 : Launch} {res : Int32} {N : Nat} (C : CX X RX12 "greatest" prog_14_method_92_code 3 (some .int)) (E : EX X L0 1 21 0 0 (some (.int res)) M)   : ∀ (n : Nat) (a0 : Nat) (i1 : Int32) (i2 : Int32), m_X12_greatest_L4 N M  n a0 i1 i2 = some res → EV X 3 4 [(0, .ref a0), (1, .int i1), (2, .int i2)] [] 0 0 M := by
  intro n
  induction n with
  | zero => intro a0 i1 i2 hf; cases (show (none : Option (Int32)) = some res from hf)
  | succ n ih =>
    intro a0 i1 i2 hf
    rw [m_X12_greatest_L4] at hf
    refine ev_iload_n C dX12_greatest_4 rfl (q := 2) rfl ?_
    refine ev_aload_n C dX12_greatest_5 rfl (q := 0) rfl ?_
    obtain ⟨x1, e2, hf⟩ := obnd hf
    refine ev_get (k := 0) C ok_12 dX12_greatest_6 (by decide) kw_1159 (fR_V e2) ?_
    refine ev_iconst (v := 0) C dX12_greatest_9 (by decide) ?_
    obtain ⟨x3, e4, hf⟩ := obnd hf
    refine ev_iald C dX12_greatest_10 e4 ?_
    refine ev_icmp_ge (tgt := 39) C dX12_greatest_11 (by decide) (fun hc => ?_) (fun hc => ?_)
    · have hf := oit hf hc
      refine ev_iload_n C dX12_greatest_39 rfl (q := 1) rfl ?_
      obtain rfl := Option.some.inj hf
      exact ev_iret C E (Nat.le_refl 0) (Nat.le_refl 0) dX12_greatest_40
    · have hf := oie hf hc
      refine ev_aload_n C dX12_greatest_14 rfl (q := 0) rfl ?_
      refine ev_iload_n C dX12_greatest_15 rfl (q := 2) rfl ?_
      obtain ⟨_, e5, hf⟩ := obnd hf
      obtain ⟨fs6, e5⟩ := oO_eq e5
      obtain ⟨x7, e8, hf⟩ := obnd hf
      refine ev_callV0 (As := [.int i2]) (st := []) C rfl e5 (t_X12_price e8) rfl hd_X12_price rfl kw_1266 kw_1268 kw_87 kw_21 kw_1269 (mRoom.of E (Nat.le_of_ble_eq_true rfl) (Nat.le_of_ble_eq_true rfl) (Nat.le_refl 0) (Nat.le_refl 0)) (Nat.le_of_ble_eq_true rfl) dX12_greatest_16 ?_
      refine ev_iload_n C dX12_greatest_19 rfl (q := 1) rfl ?_
      refine ev_icmp_le (tgt := 31) C dX12_greatest_20 (by decide) (fun hc => ?_) (fun hc => ?_)
      · have hf := oit hf hc
        refine ev_iload_n C dX12_greatest_31 rfl (q := 1) rfl ?_
        refine ev_sub [0, 2] rfl ?_
        exact t_X12_greatest_J32 C E (m_X12_greatest_L4 N M  n) ih a0 i2 i1 hf
      · have hf := oie hf hc
        refine ev_aload_n C dX12_greatest_23 rfl (q := 0) rfl ?_
        refine ev_iload_n C dX12_greatest_24 rfl (q := 2) rfl ?_
        obtain ⟨_, e9, hf⟩ := obnd hf
        obtain ⟨fs10, e9⟩ := oO_eq e9
        obtain ⟨x11, e12, hf⟩ := obnd hf
        refine ev_callV0 (As := [.int i2]) (st := []) C rfl e9 (t_X12_price e12) rfl hd_X12_price rfl kw_1266 kw_1268 kw_87 kw_21 kw_1269 (mRoom.of E (Nat.le_of_ble_eq_true rfl) (Nat.le_of_ble_eq_true rfl) (Nat.le_refl 0) (Nat.le_refl 0)) (Nat.le_of_ble_eq_true rfl) dX12_greatest_25 ?_
        refine ev_goto (tgt := 32) C dX12_greatest_28 (by decide) ?_
        refine ev_sub [0, 2] rfl ?_
        exact t_X12_greatest_J32 C E (m_X12_greatest_L4 N M  n) ih a0 i2 x11 hf
def m_X12_greatest (N : Nat) (a0 : Nat) (M : mM) : Option (Int32) :=
  m_X12_greatest_L4 N M  N a0 0 0
set_option maxHeartbeats 4000000 in
set_option maxRecDepth 100000 in
theorem t_X12_greatest {L0 : Launch} {M : mM} {N : Nat} {a0 : Nat} {res : Int32} (hf : m_X12_greatest N a0 M = some res) : CT L0 yX12_greatest prog_14_method_92_code 3 (some .int) 1 21 0 0 [.ref a0] M (some (.int res)) M := by
  refine CT.of (by decide +kernel) (Nat.le_of_ble_eq_true rfl) fun X C E => ?_
  have C : CX X RX12 "greatest" prog_14_method_92_code 3 (some .int) := C
  show EV X 3 0 [(0, .ref a0)] [] 0 0 M
  unfold m_X12_greatest at hf
  refine ev_iconst (v := 0) C dX12_greatest_0 (by decide) ?_
  refine ev_istore_n (l' := [(1, .int 0), (0, .ref a0)]) C dX12_greatest_1 rfl (by decide) rfl ?_
  refine ev_iconst (v := 0) C dX12_greatest_2 (by decide) ?_
  refine ev_istore_n (l' := [(2, .int 0), (1, .int 0), (0, .ref a0)]) C dX12_greatest_3 rfl (by decide) rfl ?_
  refine ev_sub [2, 1, 0] rfl ?_
  exact t_X12_greatest_L4 C E   N a0 0 0 hf
/-! FareLimitsModel told(I)I -/
theorem dX12_told_0 : decode prog_14_method_93_code 0 = .ok (.iload_n 1, 1) := by decide +kernel
theorem dX12_told_1 : decode prog_14_method_93_code 1 = .ok (.i2l, 1) := by decide +kernel
theorem dX12_told_2 : decode prog_14_method_93_code 2 = .ok (.lconst 0, 1) := by decide +kernel
theorem dX12_told_3 : decode prog_14_method_93_code 3 = .ok (.ldc2_w 86, 3) := by decide +kernel
theorem dX12_told_6 : decode prog_14_method_93_code 6 = .ok (.invokestatic 72, 3) := by decide +kernel
theorem dX12_told_9 : decode prog_14_method_93_code 9 = .ok (.ifCond .eq 10, 3) := by decide +kernel
theorem dX12_told_12 : decode prog_14_method_93_code 12 = .ok (.aload_n 0, 1) := by decide +kernel
theorem dX12_told_13 : decode prog_14_method_93_code 13 = .ok (.getfield 9, 3) := by decide +kernel
theorem dX12_told_16 : decode prog_14_method_93_code 16 = .ok (.iload_n 1, 1) := by decide +kernel
theorem dX12_told_17 : decode prog_14_method_93_code 17 = .ok (.iaload, 1) := by decide +kernel
theorem dX12_told_18 : decode prog_14_method_93_code 18 = .ok (.ireturn, 1) := by decide +kernel
theorem dX12_told_19 : decode prog_14_method_93_code 19 = .ok (.iload_n 1, 1) := by decide +kernel
theorem dX12_told_20 : decode prog_14_method_93_code 20 = .ok (.i2l, 1) := by decide +kernel
theorem dX12_told_21 : decode prog_14_method_93_code 21 = .ok (.ldc2_w 324, 3) := by decide +kernel
theorem dX12_told_24 : decode prog_14_method_93_code 24 = .ok (.ldc2_w 326, 3) := by decide +kernel
theorem dX12_told_27 : decode prog_14_method_93_code 27 = .ok (.invokestatic 72, 3) := by decide +kernel
theorem dX12_told_30 : decode prog_14_method_93_code 30 = .ok (.ifCond .eq 16, 3) := by decide +kernel
theorem dX12_told_33 : decode prog_14_method_93_code 33 = .ok (.aload_n 0, 1) := by decide +kernel
theorem dX12_told_34 : decode prog_14_method_93_code 34 = .ok (.getfield 9, 3) := by decide +kernel
theorem dX12_told_37 : decode prog_14_method_93_code 37 = .ok (.bipush 42, 2) := by decide +kernel
theorem dX12_told_39 : decode prog_14_method_93_code 39 = .ok (.iload_n 1, 1) := by decide +kernel
theorem dX12_told_40 : decode prog_14_method_93_code 40 = .ok (.iadd, 1) := by decide +kernel
theorem dX12_told_41 : decode prog_14_method_93_code 41 = .ok (.bipush 10, 2) := by decide +kernel
theorem dX12_told_43 : decode prog_14_method_93_code 43 = .ok (.isub, 1) := by decide +kernel
theorem dX12_told_44 : decode prog_14_method_93_code 44 = .ok (.iaload, 1) := by decide +kernel
theorem dX12_told_45 : decode prog_14_method_93_code 45 = .ok (.ireturn, 1) := by decide +kernel
theorem dX12_told_46 : decode prog_14_method_93_code 46 = .ok (.iload_n 1, 1) := by decide +kernel
theorem dX12_told_47 : decode prog_14_method_93_code 47 = .ok (.i2l, 1) := by decide +kernel
theorem dX12_told_48 : decode prog_14_method_93_code 48 = .ok (.ldc2_w 76, 3) := by decide +kernel
theorem dX12_told_51 : decode prog_14_method_93_code 51 = .ok (.ldc2_w 328, 3) := by decide +kernel
theorem dX12_told_54 : decode prog_14_method_93_code 54 = .ok (.invokestatic 72, 3) := by decide +kernel
theorem dX12_told_57 : decode prog_14_method_93_code 57 = .ok (.ifCond .eq 16, 3) := by decide +kernel
theorem dX12_told_60 : decode prog_14_method_93_code 60 = .ok (.aload_n 0, 1) := by decide +kernel
theorem dX12_told_61 : decode prog_14_method_93_code 61 = .ok (.getfield 9, 3) := by decide +kernel
theorem dX12_told_64 : decode prog_14_method_93_code 64 = .ok (.bipush 46, 2) := by decide +kernel
theorem dX12_told_66 : decode prog_14_method_93_code 66 = .ok (.iload_n 1, 1) := by decide +kernel
theorem dX12_told_67 : decode prog_14_method_93_code 67 = .ok (.iadd, 1) := by decide +kernel
theorem dX12_told_68 : decode prog_14_method_93_code 68 = .ok (.bipush 20, 2) := by decide +kernel
theorem dX12_told_70 : decode prog_14_method_93_code 70 = .ok (.isub, 1) := by decide +kernel
theorem dX12_told_71 : decode prog_14_method_93_code 71 = .ok (.iaload, 1) := by decide +kernel
theorem dX12_told_72 : decode prog_14_method_93_code 72 = .ok (.ireturn, 1) := by decide +kernel
theorem dX12_told_73 : decode prog_14_method_93_code 73 = .ok (.iload_n 1, 1) := by decide +kernel
theorem dX12_told_74 : decode prog_14_method_93_code 74 = .ok (.i2l, 1) := by decide +kernel
theorem dX12_told_75 : decode prog_14_method_93_code 75 = .ok (.ldc2_w 94, 3) := by decide +kernel
theorem dX12_told_78 : decode prog_14_method_93_code 78 = .ok (.ldc2_w 330, 3) := by decide +kernel
theorem dX12_told_81 : decode prog_14_method_93_code 81 = .ok (.invokestatic 72, 3) := by decide +kernel
theorem dX12_told_84 : decode prog_14_method_93_code 84 = .ok (.ifCond .eq 31, 3) := by decide +kernel
theorem dX12_told_87 : decode prog_14_method_93_code 87 = .ok (.aload_n 0, 1) := by decide +kernel
theorem dX12_told_88 : decode prog_14_method_93_code 88 = .ok (.iload_n 1, 1) := by decide +kernel
theorem dX12_told_89 : decode prog_14_method_93_code 89 = .ok (.bipush 30, 2) := by decide +kernel
theorem dX12_told_91 : decode prog_14_method_93_code 91 = .ok (.isub, 1) := by decide +kernel
theorem dX12_told_92 : decode prog_14_method_93_code 92 = .ok (.invokevirtual 82, 3) := by decide +kernel
theorem dX12_told_95 : decode prog_14_method_93_code 95 = .ok (.ifCond .eq 18, 3) := by decide +kernel
theorem dX12_told_98 : decode prog_14_method_93_code 98 = .ok (.aload_n 0, 1) := by decide +kernel
theorem dX12_told_99 : decode prog_14_method_93_code 99 = .ok (.getfield 9, 3) := by decide +kernel
theorem dX12_told_102 : decode prog_14_method_93_code 102 = .ok (.bipush 122, 2) := by decide +kernel
theorem dX12_told_104 : decode prog_14_method_93_code 104 = .ok (.iload_n 1, 1) := by decide +kernel
theorem dX12_told_105 : decode prog_14_method_93_code 105 = .ok (.iadd, 1) := by decide +kernel
theorem dX12_told_106 : decode prog_14_method_93_code 106 = .ok (.bipush 30, 2) := by decide +kernel
theorem dX12_told_108 : decode prog_14_method_93_code 108 = .ok (.isub, 1) := by decide +kernel
theorem dX12_told_109 : decode prog_14_method_93_code 109 = .ok (.iaload, 1) := by decide +kernel
theorem dX12_told_110 : decode prog_14_method_93_code 110 = .ok (.goto 4, 3) := by decide +kernel
theorem dX12_told_113 : decode prog_14_method_93_code 113 = .ok (.iconst (-1), 1) := by decide +kernel
theorem dX12_told_114 : decode prog_14_method_93_code 114 = .ok (.ireturn, 1) := by decide +kernel
theorem dX12_told_115 : decode prog_14_method_93_code 115 = .ok (.iload_n 1, 1) := by decide +kernel
theorem dX12_told_116 : decode prog_14_method_93_code 116 = .ok (.tableswitch 52 6 9 #[32, 37, 42, 47], 32) := by decide +kernel
theorem dX12_told_148 : decode prog_14_method_93_code 148 = .ok (.aload_n 0, 1) := by decide +kernel
theorem dX12_told_149 : decode prog_14_method_93_code 149 = .ok (.getfield 260, 3) := by decide +kernel
theorem dX12_told_152 : decode prog_14_method_93_code 152 = .ok (.ireturn, 1) := by decide +kernel
theorem dX12_told_153 : decode prog_14_method_93_code 153 = .ok (.aload_n 0, 1) := by decide +kernel
theorem dX12_told_154 : decode prog_14_method_93_code 154 = .ok (.getfield 315, 3) := by decide +kernel
theorem dX12_told_157 : decode prog_14_method_93_code 157 = .ok (.ireturn, 1) := by decide +kernel
theorem dX12_told_158 : decode prog_14_method_93_code 158 = .ok (.aload_n 0, 1) := by decide +kernel
theorem dX12_told_159 : decode prog_14_method_93_code 159 = .ok (.invokevirtual 332, 3) := by decide +kernel
theorem dX12_told_162 : decode prog_14_method_93_code 162 = .ok (.ireturn, 1) := by decide +kernel
theorem dX12_told_163 : decode prog_14_method_93_code 163 = .ok (.aload_n 0, 1) := by decide +kernel
theorem dX12_told_164 : decode prog_14_method_93_code 164 = .ok (.invokevirtual 335, 3) := by decide +kernel
theorem dX12_told_167 : decode prog_14_method_93_code 167 = .ok (.ireturn, 1) := by decide +kernel
theorem dX12_told_168 : decode prog_14_method_93_code 168 = .ok (.iconst (-1), 1) := by decide +kernel
theorem dX12_told_169 : decode prog_14_method_93_code 169 = .ok (.ireturn, 1) := by decide +kernel
def m_X12_told (N : Nat) (a0 : Nat) (i1 : Int32) (M : mM) : Option (Int32) :=
  (m_X12_in i1.toInt64 0 5).bind fun x1 =>
  if x1 = 0 then (
    (m_X12_in i1.toInt64 10 13).bind fun x3 =>
    if x3 = 0 then (
      (m_X12_in i1.toInt64 20 23).bind fun x5 =>
      if x5 = 0 then (
        (m_X12_in i1.toInt64 30 35).bind fun x7 =>
        if x7 = 0 then (
          if i1 = 6 then (
            (fI M a0 12 3).bind fun x19 =>
            some x19) else (
            if i1 = 7 then (
              (fI M a0 12 5).bind fun x17 =>
              some x17) else (
              if i1 = 8 then (
                (oO M a0 12).bind fun _ =>
                (m_X12_unlike N a0 M).bind fun x15 =>
                some x15) else (
                if i1 = 9 then (
                  (oO M a0 12).bind fun _ =>
                  (m_X12_greatest N a0 M).bind fun x11 =>
                  some x11) else (
                  some (-1)))))) else (
          (oO M a0 12).bind fun _ =>
          (m_X12_isFare a0 (i1 - 30) M).bind fun x23 =>
          if x23 = 0 then (
            some (-1)) else (
            (fR M a0 12 0).bind fun x25 =>
            (aI 0 M x25 ((122 + i1) - 30)).bind fun x27 =>
            some x27))) else (
        (fR M a0 12 0).bind fun x29 =>
        (aI 0 M x29 ((46 + i1) - 20)).bind fun x31 =>
        some x31)) else (
      (fR M a0 12 0).bind fun x33 =>
      (aI 0 M x33 ((42 + i1) - 10)).bind fun x35 =>
      some x35)) else (
    (fR M a0 12 0).bind fun x37 =>
    (aI 0 M x37 i1).bind fun x39 =>
    some x39)
set_option maxHeartbeats 4000000 in
set_option maxRecDepth 100000 in
theorem t_X12_told {L0 : Launch} {M : mM} {N : Nat} {a0 : Nat} {i1 : Int32} {res : Int32} (hf : m_X12_told N a0 i1 M = some res) : CT L0 yX12_told prog_14_method_93_code 2 (some .int) 2 46 0 0 [.ref a0, .int i1] M (some (.int res)) M := by
  refine CT.of (by decide +kernel) (Nat.le_of_ble_eq_true rfl) fun X C E => ?_
  have C : CX X RX12 "told" prog_14_method_93_code 2 (some .int) := C
  show EV X 2 0 [(0, .ref a0), (1, .int i1)] [] 0 0 M
  unfold m_X12_told at hf
  refine ev_iload_n C dX12_told_0 rfl (q := 1) rfl ?_
  refine ev_i2l C dX12_told_1 ?_
  refine ev_lconst (v := 0) C dX12_told_2 (by decide) ?_
  refine ev_ldc2 (v := 5) C dX12_told_3 kw_1265 ?_
  obtain ⟨x1, e2, hf⟩ := obnd hf
  refine ev_callS0 (As := [.long i1.toInt64, .long 0, .long 5]) (st := []) C (t_X12_in e2) hd_X12_in rfl kw_1253 kw_1254 kw_87 kw_1255 (mRoom.of E (Nat.le_of_ble_eq_true rfl) (Nat.le_of_ble_eq_true rfl) (Nat.le_refl 0) (Nat.le_refl 0)) (Nat.le_of_ble_eq_true rfl) dX12_told_6 ?_
  refine ev_if_eq (tgt := 19) C dX12_told_9 (by decide) (fun hc => ?_) (fun hc => ?_)
  · have hf := oit hf hc
    refine ev_iload_n C dX12_told_19 rfl (q := 1) rfl ?_
    refine ev_i2l C dX12_told_20 ?_
    refine ev_ldc2 (v := 10) C dX12_told_21 kw_1640 ?_
    refine ev_ldc2 (v := 13) C dX12_told_24 kw_1641 ?_
    obtain ⟨x3, e4, hf⟩ := obnd hf
    refine ev_callS0 (As := [.long i1.toInt64, .long 10, .long 13]) (st := []) C (t_X12_in e4) hd_X12_in rfl kw_1253 kw_1254 kw_87 kw_1255 (mRoom.of E (Nat.le_of_ble_eq_true rfl) (Nat.le_of_ble_eq_true rfl) (Nat.le_refl 0) (Nat.le_refl 0)) (Nat.le_of_ble_eq_true rfl) dX12_told_27 ?_
    refine ev_if_eq (tgt := 46) C dX12_told_30 (by decide) (fun hc => ?_) (fun hc => ?_)
    · have hf := oit hf hc
      refine ev_iload_n C dX12_told_46 rfl (q := 1) rfl ?_
      refine ev_i2l C dX12_told_47 ?_
      refine ev_ldc2 (v := 20) C dX12_told_48 kw_1292 ?_
      refine ev_ldc2 (v := 23) C dX12_told_51 kw_1642 ?_
      obtain ⟨x5, e6, hf⟩ := obnd hf
      refine ev_callS0 (As := [.long i1.toInt64, .long 20, .long 23]) (st := []) C (t_X12_in e6) hd_X12_in rfl kw_1253 kw_1254 kw_87 kw_1255 (mRoom.of E (Nat.le_of_ble_eq_true rfl) (Nat.le_of_ble_eq_true rfl) (Nat.le_refl 0) (Nat.le_refl 0)) (Nat.le_of_ble_eq_true rfl) dX12_told_54 ?_
      refine ev_if_eq (tgt := 73) C dX12_told_57 (by decide) (fun hc => ?_) (fun hc => ?_)
      · have hf := oit hf hc
        refine ev_iload_n C dX12_told_73 rfl (q := 1) rfl ?_
        refine ev_i2l C dX12_told_74 ?_
        refine ev_ldc2 (v := 30) C dX12_told_75 kw_1283 ?_
        refine ev_ldc2 (v := 35) C dX12_told_78 kw_1643 ?_
        obtain ⟨x7, e8, hf⟩ := obnd hf
        refine ev_callS0 (As := [.long i1.toInt64, .long 30, .long 35]) (st := []) C (t_X12_in e8) hd_X12_in rfl kw_1253 kw_1254 kw_87 kw_1255 (mRoom.of E (Nat.le_of_ble_eq_true rfl) (Nat.le_of_ble_eq_true rfl) (Nat.le_refl 0) (Nat.le_refl 0)) (Nat.le_of_ble_eq_true rfl) dX12_told_81 ?_
        refine ev_if_eq (tgt := 115) C dX12_told_84 (by decide) (fun hc => ?_) (fun hc => ?_)
        · have hf := oit hf hc
          refine ev_iload_n C dX12_told_115 rfl (q := 1) rfl ?_
          by_cases h0 : i1 = 6
          · have hf := oit hf h0
            refine ev_tableIn (off := 32) (tgt := 148) C dX12_told_116 (by rw [h0]; decide) (by rw [h0]; decide) (by rw [h0]; rfl) (by decide) ?_
            refine ev_aload_n C dX12_told_148 rfl (q := 0) rfl ?_
            obtain ⟨x19, e20, hf⟩ := obnd hf
            refine ev_get (k := 3) C ok_12 dX12_told_149 (by decide) kw_1162 (fI_V e20) ?_
            obtain rfl := Option.some.inj hf
            exact ev_iret C E (Nat.le_refl 0) (Nat.le_refl 0) dX12_told_152
          · have hf := oie hf h0
            by_cases h1 : i1 = 7
            · have hf := oit hf h1
              refine ev_tableIn (off := 37) (tgt := 153) C dX12_told_116 (by rw [h1]; decide) (by rw [h1]; decide) (by rw [h1]; rfl) (by decide) ?_
              refine ev_aload_n C dX12_told_153 rfl (q := 0) rfl ?_
              obtain ⟨x17, e18, hf⟩ := obnd hf
              refine ev_get (k := 5) C ok_12 dX12_told_154 (by decide) kw_1164 (fI_V e18) ?_
              obtain rfl := Option.some.inj hf
              exact ev_iret C E (Nat.le_refl 0) (Nat.le_refl 0) dX12_told_157
            · have hf := oie hf h1
              by_cases h2 : i1 = 8
              · have hf := oit hf h2
                refine ev_tableIn (off := 42) (tgt := 158) C dX12_told_116 (by rw [h2]; decide) (by rw [h2]; decide) (by rw [h2]; rfl) (by decide) ?_
                refine ev_aload_n C dX12_told_158 rfl (q := 0) rfl ?_
                obtain ⟨_, e13, hf⟩ := obnd hf
                obtain ⟨fs14, e13⟩ := oO_eq e13
                obtain ⟨x15, e16, hf⟩ := obnd hf
                refine ev_callV0 (As := []) (st := []) C rfl e13 (t_X12_unlike e16) rfl hd_X12_unlike rfl kw_1644 kw_1646 kw_87 kw_66 kw_1647 (mRoom.of E (Nat.le_of_ble_eq_true rfl) (Nat.le_of_ble_eq_true rfl) (Nat.le_refl 0) (Nat.le_refl 0)) (Nat.le_of_ble_eq_true rfl) dX12_told_159 ?_
                obtain rfl := Option.some.inj hf
                exact ev_iret C E (Nat.le_refl 0) (Nat.le_refl 0) dX12_told_162
              · have hf := oie hf h2
                by_cases h3 : i1 = 9
                · have hf := oit hf h3
                  refine ev_tableIn (off := 47) (tgt := 163) C dX12_told_116 (by rw [h3]; decide) (by rw [h3]; decide) (by rw [h3]; rfl) (by decide) ?_
                  refine ev_aload_n C dX12_told_163 rfl (q := 0) rfl ?_
                  obtain ⟨_, e9, hf⟩ := obnd hf
                  obtain ⟨fs10, e9⟩ := oO_eq e9
                  obtain ⟨x11, e12, hf⟩ := obnd hf
                  refine ev_callV0 (As := []) (st := []) C rfl e9 (t_X12_greatest e12) rfl hd_X12_greatest rfl kw_1648 kw_1650 kw_87 kw_67 kw_1651 (mRoom.of E (Nat.le_of_ble_eq_true rfl) (Nat.le_of_ble_eq_true rfl) (Nat.le_refl 0) (Nat.le_refl 0)) (Nat.le_of_ble_eq_true rfl) dX12_told_164 ?_
                  obtain rfl := Option.some.inj hf
                  exact ev_iret C E (Nat.le_refl 0) (Nat.le_refl 0) dX12_told_167
                · have hf := oie hf h3
                  refine ev_tableOut (tgt := 168) C dX12_told_116 (tab_out (lo := 6) (n := 4) (lt_s (lt_s (lt_s (lt_s lt_0 h0) h1) h2) h3) (by decide) (by decide)) (by decide) ?_
                  refine ev_iconst (v := (-1)) C dX12_told_168 (by decide) ?_
                  obtain rfl := Option.some.inj hf
                  exact ev_iret C E (Nat.le_refl 0) (Nat.le_refl 0) dX12_told_169
        · have hf := oie hf hc
          refine ev_aload_n C dX12_told_87 rfl (q := 0) rfl ?_
          refine ev_iload_n C dX12_told_88 rfl (q := 1) rfl ?_
          refine ev_bipush (v := 30) C dX12_told_89 (by decide) ?_
          refine ev_isub C dX12_told_91 ?_
          obtain ⟨_, e21, hf⟩ := obnd hf
          obtain ⟨fs22, e21⟩ := oO_eq e21
          obtain ⟨x23, e24, hf⟩ := obnd hf
          refine ev_callV0 (As := [.int (i1 - 30)]) (st := []) C rfl e21 (t_X12_isFare e24) rfl hd_X12_isFare rfl kw_1261 kw_1263 kw_87 kw_20 kw_1264 (mRoom.of E (Nat.le_of_ble_eq_true rfl) (Nat.le_of_ble_eq_true rfl) (Nat.le_refl 0) (Nat.le_refl 0)) (Nat.le_of_ble_eq_true rfl) dX12_told_92 ?_
          refine ev_if_eq (tgt := 113) C dX12_told_95 (by decide) (fun hc => ?_) (fun hc => ?_)
          · have hf := oit hf hc
            refine ev_iconst (v := (-1)) C dX12_told_113 (by decide) ?_
            obtain rfl := Option.some.inj hf
            exact ev_iret C E (Nat.le_refl 0) (Nat.le_refl 0) dX12_told_114
          · have hf := oie hf hc
            refine ev_aload_n C dX12_told_98 rfl (q := 0) rfl ?_
            obtain ⟨x25, e26, hf⟩ := obnd hf
            refine ev_get (k := 0) C ok_12 dX12_told_99 (by decide) kw_1159 (fR_V e26) ?_
            refine ev_bipush (v := 122) C dX12_told_102 (by decide) ?_
            refine ev_iload_n C dX12_told_104 rfl (q := 1) rfl ?_
            refine ev_iadd C dX12_told_105 ?_
            refine ev_bipush (v := 30) C dX12_told_106 (by decide) ?_
            refine ev_isub C dX12_told_108 ?_
            obtain ⟨x27, e28, hf⟩ := obnd hf
            refine ev_iald C dX12_told_109 e28 ?_
            refine ev_goto (tgt := 114) C dX12_told_110 (by decide) ?_
            obtain rfl := Option.some.inj hf
            exact ev_iret C E (Nat.le_refl 0) (Nat.le_refl 0) dX12_told_114
      · have hf := oie hf hc
        refine ev_aload_n C dX12_told_60 rfl (q := 0) rfl ?_
        obtain ⟨x29, e30, hf⟩ := obnd hf
        refine ev_get (k := 0) C ok_12 dX12_told_61 (by decide) kw_1159 (fR_V e30) ?_
        refine ev_bipush (v := 46) C dX12_told_64 (by decide) ?_
        refine ev_iload_n C dX12_told_66 rfl (q := 1) rfl ?_
        refine ev_iadd C dX12_told_67 ?_
        refine ev_bipush (v := 20) C dX12_told_68 (by decide) ?_
        refine ev_isub C dX12_told_70 ?_
        obtain ⟨x31, e32, hf⟩ := obnd hf
        refine ev_iald C dX12_told_71 e32 ?_
        obtain rfl := Option.some.inj hf
        exact ev_iret C E (Nat.le_refl 0) (Nat.le_refl 0) dX12_told_72
    · have hf := oie hf hc
      refine ev_aload_n C dX12_told_33 rfl (q := 0) rfl ?_
      obtain ⟨x33, e34, hf⟩ := obnd hf
      refine ev_get (k := 0) C ok_12 dX12_told_34 (by decide) kw_1159 (fR_V e34) ?_
      refine ev_bipush (v := 42) C dX12_told_37 (by decide) ?_
      refine ev_iload_n C dX12_told_39 rfl (q := 1) rfl ?_
      refine ev_iadd C dX12_told_40 ?_
      refine ev_bipush (v := 10) C dX12_told_41 (by decide) ?_
      refine ev_isub C dX12_told_43 ?_
      obtain ⟨x35, e36, hf⟩ := obnd hf
      refine ev_iald C dX12_told_44 e36 ?_
      obtain rfl := Option.some.inj hf
      exact ev_iret C E (Nat.le_refl 0) (Nat.le_refl 0) dX12_told_45
  · have hf := oie hf hc
    refine ev_aload_n C dX12_told_12 rfl (q := 0) rfl ?_
    obtain ⟨x37, e38, hf⟩ := obnd hf
    refine ev_get (k := 0) C ok_12 dX12_told_13 (by decide) kw_1159 (fR_V e38) ?_
    refine ev_iload_n C dX12_told_16 rfl (q := 1) rfl ?_
    obtain ⟨x39, e40, hf⟩ := obnd hf
    refine ev_iald C dX12_told_17 e40 ?_
    obtain rfl := Option.some.inj hf
    exact ev_iret C E (Nat.le_refl 0) (Nat.le_refl 0) dX12_told_18
/-! FareLimitsModel isTray(I)Z -/
theorem dX12_isTray_0 : decode prog_14_method_94_code 0 = .ok (.iload_n 0, 1) := by decide +kernel
theorem dX12_isTray_1 : decode prog_14_method_94_code 1 = .ok (.i2l, 1) := by decide +kernel
theorem dX12_isTray_2 : decode prog_14_method_94_code 2 = .ok (.lconst 0, 1) := by decide +kernel
theorem dX12_isTray_3 : decode prog_14_method_94_code 3 = .ok (.ldc2_w 78, 3) := by decide +kernel
theorem dX12_isTray_6 : decode prog_14_method_94_code 6 = .ok (.invokestatic 72, 3) := by decide +kernel
theorem dX12_isTray_9 : decode prog_14_method_94_code 9 = .ok (.ireturn, 1) := by decide +kernel
def m_X12_isTray (i0 : Int32) : Option (Int32) :=
  (m_X12_in i0.toInt64 0 3).bind fun x1 =>
  (oif (x1 = 0 ∨ x1 = 1)).bind fun _ =>
  some x1
set_option maxHeartbeats 4000000 in
set_option maxRecDepth 100000 in
theorem t_X12_isTray {L0 : Launch} {M : mM} {i0 : Int32} {res : Int32} (hf : m_X12_isTray i0 = some res) : CT L0 yX12_isTray prog_14_method_94_code 1 (some .boolean) 1 25 0 0 [.int i0] M (some (.int res)) M := by
  refine CT.of (by decide +kernel) (Nat.le_of_ble_eq_true rfl) fun X C E => ?_
  have C : CX X RX12 "isTray" prog_14_method_94_code 1 (some .boolean) := C
  show EV X 1 0 [(0, .int i0)] [] 0 0 M
  unfold m_X12_isTray at hf
  refine ev_iload_n C dX12_isTray_0 rfl (q := 0) rfl ?_
  refine ev_i2l C dX12_isTray_1 ?_
  refine ev_lconst (v := 0) C dX12_isTray_2 (by decide) ?_
  refine ev_ldc2 (v := 3) C dX12_isTray_3 kw_1252 ?_
  obtain ⟨x1, e2, hf⟩ := obnd hf
  refine ev_callS0 (As := [.long i0.toInt64, .long 0, .long 3]) (st := []) C (t_X12_in e2) hd_X12_in rfl kw_1253 kw_1254 kw_87 kw_1255 (mRoom.of E (Nat.le_of_ble_eq_true rfl) (Nat.le_of_ble_eq_true rfl) (Nat.le_refl 0) (Nat.le_refl 0)) (Nat.le_of_ble_eq_true rfl) dX12_isTray_6 ?_
  obtain ⟨_, e3, hf⟩ := obnd hf
  obtain rfl := Option.some.inj hf
  exact ev_zret C (oif_eq e3) E (Nat.le_refl 0) (Nat.le_refl 0) dX12_isTray_9
/-! FareLimitsModel isUnder(II)Z -/
theorem dX12_isUnder_0 : decode prog_14_method_95_code 0 = .ok (.iload_n 1, 1) := by decide +kernel
theorem dX12_isUnder_1 : decode prog_14_method_95_code 1 = .ok (.ifCond .eq 18, 3) := by decide +kernel
theorem dX12_isUnder_4 : decode prog_14_method_95_code 4 = .ok (.iload_n 0, 1) := by decide +kernel
theorem dX12_isUnder_5 : decode prog_14_method_95_code 5 = .ok (.iload_n 1, 1) := by decide +kernel
theorem dX12_isUnder_6 : decode prog_14_method_95_code 6 = .ok (.if_icmp .eq 13, 3) := by decide +kernel
theorem dX12_isUnder_9 : decode prog_14_method_95_code 9 = .ok (.iload_n 0, 1) := by decide +kernel
theorem dX12_isUnder_10 : decode prog_14_method_95_code 10 = .ok (.iconst 3, 1) := by decide +kernel
theorem dX12_isUnder_11 : decode prog_14_method_95_code 11 = .ok (.if_icmp .ne 12, 3) := by decide +kernel
theorem dX12_isUnder_14 : decode prog_14_method_95_code 14 = .ok (.iload_n 1, 1) := by decide +kernel
theorem dX12_isUnder_15 : decode prog_14_method_95_code 15 = .ok (.iconst 2, 1) := by decide +kernel
theorem dX12_isUnder_16 : decode prog_14_method_95_code 16 = .ok (.if_icmp .ne 7, 3) := by decide +kernel
theorem dX12_isUnder_19 : decode prog_14_method_95_code 19 = .ok (.iconst 1, 1) := by decide +kernel
theorem dX12_isUnder_20 : decode prog_14_method_95_code 20 = .ok (.goto 4, 3) := by decide +kernel
theorem dX12_isUnder_23 : decode prog_14_method_95_code 23 = .ok (.iconst 0, 1) := by decide +kernel
theorem dX12_isUnder_24 : decode prog_14_method_95_code 24 = .ok (.ireturn, 1) := by decide +kernel
def m_X12_isUnder (i0 : Int32) (i1 : Int32) : Option (Int32) :=
  if i1 = 0 then (
    some 1) else (
    if i0 = i1 then (
      some 1) else (
      if i0 = 3 then (
        if i1 = 2 then (
          some 1) else (
          some 0)) else (
        some 0)))
set_option maxHeartbeats 4000000 in
set_option maxRecDepth 100000 in
theorem t_X12_isUnder {L0 : Launch} {M : mM} {i0 : Int32} {i1 : Int32} {res : Int32} (hf : m_X12_isUnder i0 i1 = some res) : CT L0 yX12_isUnder prog_14_method_95_code 2 (some .boolean) 0 0 0 0 [.int i0, .int i1] M (some (.int res)) M := by
  refine CT.of (by decide +kernel) (Nat.le_of_ble_eq_true rfl) fun X C E => ?_
  have C : CX X RX12 "isUnder" prog_14_method_95_code 2 (some .boolean) := C
  show EV X 2 0 [(0, .int i0), (1, .int i1)] [] 0 0 M
  unfold m_X12_isUnder at hf
  refine ev_iload_n C dX12_isUnder_0 rfl (q := 1) rfl ?_
  refine ev_if_eq (tgt := 19) C dX12_isUnder_1 (by decide) (fun hc => ?_) (fun hc => ?_)
  · have hf := oit hf hc
    refine ev_iconst (v := 1) C dX12_isUnder_19 (by decide) ?_
    refine ev_goto (tgt := 24) C dX12_isUnder_20 (by decide) ?_
    obtain rfl := Option.some.inj hf
    exact ev_zret C (by decide) E (Nat.le_refl 0) (Nat.le_refl 0) dX12_isUnder_24
  · have hf := oie hf hc
    refine ev_iload_n C dX12_isUnder_4 rfl (q := 0) rfl ?_
    refine ev_iload_n C dX12_isUnder_5 rfl (q := 1) rfl ?_
    refine ev_icmp_eq (tgt := 19) C dX12_isUnder_6 (by decide) (fun hc => ?_) (fun hc => ?_)
    · have hf := oit hf hc
      refine ev_iconst (v := 1) C dX12_isUnder_19 (by decide) ?_
      refine ev_goto (tgt := 24) C dX12_isUnder_20 (by decide) ?_
      obtain rfl := Option.some.inj hf
      exact ev_zret C (by decide) E (Nat.le_refl 0) (Nat.le_refl 0) dX12_isUnder_24
    · have hf := oie hf hc
      refine ev_iload_n C dX12_isUnder_9 rfl (q := 0) rfl ?_
      refine ev_iconst (v := 3) C dX12_isUnder_10 (by decide) ?_
      refine ev_icmp_ne (tgt := 23) C dX12_isUnder_11 (by decide) (fun hc => ?_) (fun hc => ?_)
      · have hf := oie hf hc
        refine ev_iconst (v := 0) C dX12_isUnder_23 (by decide) ?_
        obtain rfl := Option.some.inj hf
        exact ev_zret C (by decide) E (Nat.le_refl 0) (Nat.le_refl 0) dX12_isUnder_24
      · have hf := oit hf hc
        refine ev_iload_n C dX12_isUnder_14 rfl (q := 1) rfl ?_
        refine ev_iconst (v := 2) C dX12_isUnder_15 (by decide) ?_
        refine ev_icmp_ne (tgt := 23) C dX12_isUnder_16 (by decide) (fun hc => ?_) (fun hc => ?_)
        · have hf := oie hf hc
          refine ev_iconst (v := 0) C dX12_isUnder_23 (by decide) ?_
          obtain rfl := Option.some.inj hf
          exact ev_zret C (by decide) E (Nat.le_refl 0) (Nat.le_refl 0) dX12_isUnder_24
        · have hf := oit hf hc
          refine ev_iconst (v := 1) C dX12_isUnder_19 (by decide) ?_
          refine ev_goto (tgt := 24) C dX12_isUnder_20 (by decide) ?_
          obtain rfl := Option.some.inj hf
          exact ev_zret C (by decide) E (Nat.le_refl 0) (Nat.le_refl 0) dX12_isUnder_24
/-! FareLimitsModel tray(III)I -/
theorem dX12_tray_0 : decode prog_14_method_96_code 0 = .ok (.iload_n 1, 1) := by decide +kernel
theorem dX12_tray_1 : decode prog_14_method_96_code 1 = .ok (.invokestatic 338, 3) := by decide +kernel
theorem dX12_tray_4 : decode prog_14_method_96_code 4 = .ok (.ifCond .eq 15, 3) := by decide +kernel
theorem dX12_tray_7 : decode prog_14_method_96_code 7 = .ok (.iload_n 2, 1) := by decide +kernel
theorem dX12_tray_8 : decode prog_14_method_96_code 8 = .ok (.i2l, 1) := by decide +kernel
theorem dX12_tray_9 : decode prog_14_method_96_code 9 = .ok (.lconst 0, 1) := by decide +kernel
theorem dX12_tray_10 : decode prog_14_method_96_code 10 = .ok (.ldc2_w 78, 3) := by decide +kernel
theorem dX12_tray_13 : decode prog_14_method_96_code 13 = .ok (.invokestatic 72, 3) := by decide +kernel
theorem dX12_tray_16 : decode prog_14_method_96_code 16 = .ok (.ifCond .ne 5, 3) := by decide +kernel
theorem dX12_tray_19 : decode prog_14_method_96_code 19 = .ok (.iconst (-1), 1) := by decide +kernel
theorem dX12_tray_20 : decode prog_14_method_96_code 20 = .ok (.ireturn, 1) := by decide +kernel
theorem dX12_tray_21 : decode prog_14_method_96_code 21 = .ok (.iload_n 3, 1) := by decide +kernel
theorem dX12_tray_22 : decode prog_14_method_96_code 22 = .ok (.bipush 20, 2) := by decide +kernel
theorem dX12_tray_24 : decode prog_14_method_96_code 24 = .ok (.if_icmp .le 6, 3) := by decide +kernel
theorem dX12_tray_27 : decode prog_14_method_96_code 27 = .ok (.bipush (-2), 2) := by decide +kernel
theorem dX12_tray_29 : decode prog_14_method_96_code 29 = .ok (.ireturn, 1) := by decide +kernel
theorem dX12_tray_30 : decode prog_14_method_96_code 30 = .ok (.iload_n 3, 1) := by decide +kernel
theorem dX12_tray_31 : decode prog_14_method_96_code 31 = .ok (.ifCond .ge 6, 3) := by decide +kernel
theorem dX12_tray_34 : decode prog_14_method_96_code 34 = .ok (.bipush (-14), 2) := by decide +kernel
theorem dX12_tray_36 : decode prog_14_method_96_code 36 = .ok (.ireturn, 1) := by decide +kernel
theorem dX12_tray_37 : decode prog_14_method_96_code 37 = .ok (.aload_n 0, 1) := by decide +kernel
theorem dX12_tray_38 : decode prog_14_method_96_code 38 = .ok (.getfield 24, 3) := by decide +kernel
theorem dX12_tray_41 : decode prog_14_method_96_code 41 = .ok (.iload_n 1, 1) := by decide +kernel
theorem dX12_tray_42 : decode prog_14_method_96_code 42 = .ok (.iload_n 2, 1) := by decide +kernel
theorem dX12_tray_43 : decode prog_14_method_96_code 43 = .ok (.iastore, 1) := by decide +kernel
theorem dX12_tray_44 : decode prog_14_method_96_code 44 = .ok (.aload_n 0, 1) := by decide +kernel
theorem dX12_tray_45 : decode prog_14_method_96_code 45 = .ok (.getfield 27, 3) := by decide +kernel
theorem dX12_tray_48 : decode prog_14_method_96_code 48 = .ok (.iload_n 1, 1) := by decide +kernel
theorem dX12_tray_49 : decode prog_14_method_96_code 49 = .ok (.iload_n 3, 1) := by decide +kernel
theorem dX12_tray_50 : decode prog_14_method_96_code 50 = .ok (.iastore, 1) := by decide +kernel
theorem dX12_tray_51 : decode prog_14_method_96_code 51 = .ok (.iconst 0, 1) := by decide +kernel
theorem dX12_tray_52 : decode prog_14_method_96_code 52 = .ok (.istore 4, 2) := by decide +kernel
theorem dX12_tray_54 : decode prog_14_method_96_code 54 = .ok (.iload 4, 2) := by decide +kernel
theorem dX12_tray_56 : decode prog_14_method_96_code 56 = .ok (.bipush 20, 2) := by decide +kernel
theorem dX12_tray_58 : decode prog_14_method_96_code 58 = .ok (.if_icmp .ge 23, 3) := by decide +kernel
theorem dX12_tray_61 : decode prog_14_method_96_code 61 = .ok (.aload_n 0, 1) := by decide +kernel
theorem dX12_tray_62 : decode prog_14_method_96_code 62 = .ok (.getfield 30, 3) := by decide +kernel
theorem dX12_tray_65 : decode prog_14_method_96_code 65 = .ok (.bipush 20, 2) := by decide +kernel
theorem dX12_tray_67 : decode prog_14_method_96_code 67 = .ok (.iload_n 1, 1) := by decide +kernel
theorem dX12_tray_68 : decode prog_14_method_96_code 68 = .ok (.imul, 1) := by decide +kernel
theorem dX12_tray_69 : decode prog_14_method_96_code 69 = .ok (.iload 4, 2) := by decide +kernel
theorem dX12_tray_71 : decode prog_14_method_96_code 71 = .ok (.iadd, 1) := by decide +kernel
theorem dX12_tray_72 : decode prog_14_method_96_code 72 = .ok (.bipush (-5), 2) := by decide +kernel
theorem dX12_tray_74 : decode prog_14_method_96_code 74 = .ok (.iastore, 1) := by decide +kernel
theorem dX12_tray_75 : decode prog_14_method_96_code 75 = .ok (.iinc 4 1, 3) := by decide +kernel
theorem dX12_tray_78 : decode prog_14_method_96_code 78 = .ok (.goto (-24), 3) := by decide +kernel
theorem dX12_tray_81 : decode prog_14_method_96_code 81 = .ok (.iconst 1, 1) := by decide +kernel
theorem dX12_tray_82 : decode prog_14_method_96_code 82 = .ok (.ireturn, 1) := by decide +kernel
def m_X12_tray_L54 (N : Nat)  : Nat → Nat → Int32 → Int32 → mM → Option (Int32 × mM)
  | 0, _, _, _, _ => none
  | n + 1, a0, i1, i4, M =>
    if 20 ≤ i4 then (
      some (1, M)) else (
      (fR M a0 12 9).bind fun x1 =>
      (uI 0 .int M x1 ((20 * i1) + i4) (-5)).bind fun M3 =>
      (m_X12_tray_L54 N  n) a0 i1 (i4 + 1) M3)
set_option maxHeartbeats 4000000 in
set_option maxRecDepth 100000 in
theorem t_X12_tray_L54 {X : mX} {L0 : Launch} {res : Int32 × mM} {N : Nat} (C : CX X RX12 "tray" prog_14_method_96_code 5 (some .int)) (E : EX X L0 2 45 0 0 (some (.int res.1)) res.2)   : ∀ (n : Nat) (a0 : Nat) (i1 : Int32) (i4 : Int32) (M : mM), m_X12_tray_L54 N  n a0 i1 i4 M = some res → EV X 5 54 [(0, .ref a0), (1, .int i1), (4, .int i4)] [] 0 0 M := by
  intro n
  induction n with
  | zero => intro a0 i1 i4 M hf; cases (show (none : Option (Int32 × mM)) = some res from hf)
  | succ n ih =>
    intro a0 i1 i4 M hf
    rw [m_X12_tray_L54] at hf
    refine ev_iload C dX12_tray_54 (q := 2) rfl ?_
    refine ev_bipush (v := 20) C dX12_tray_56 (by decide) ?_
    refine ev_icmp_ge (tgt := 81) C dX12_tray_58 (by decide) (fun hc => ?_) (fun hc => ?_)
    · have hf := oit hf hc
      refine ev_iconst (v := 1) C dX12_tray_81 (by decide) ?_
      obtain rfl := Option.some.inj hf
      exact ev_iret C E (Nat.le_refl 0) (Nat.le_refl 0) dX12_tray_82
    · have hf := oie hf hc
      refine ev_aload_n C dX12_tray_61 rfl (q := 0) rfl ?_
      obtain ⟨x1, e2, hf⟩ := obnd hf
      refine ev_get (k := 9) C ok_12 dX12_tray_62 (by decide) kw_1168 (fR_V e2) ?_
      refine ev_bipush (v := 20) C dX12_tray_65 (by decide) ?_
      refine ev_iload_n C dX12_tray_67 rfl (q := 1) rfl ?_
      refine ev_imul C dX12_tray_68 ?_
      refine ev_iload C dX12_tray_69 (q := 2) rfl ?_
      refine ev_iadd C dX12_tray_71 ?_
      refine ev_bipush (v := (-5)) C dX12_tray_72 (by decide) ?_
      obtain ⟨M3, e4, hf⟩ := obnd hf
      refine ev_iast C dX12_tray_74 e4 ?_
      refine ev_iinc (v := i4 + 1) (l' := [(4, .int (i4 + 1)), (0, .ref a0), (1, .int i1)]) C dX12_tray_75 (q := 2) rfl rfl (by decide) rfl ?_
      refine ev_goto (tgt := 54) C dX12_tray_78 (by decide) ?_
      refine ev_sub [1, 2, 0] rfl ?_
      exact ih a0 i1 (i4 + 1) M3 hf
def m_X12_tray (N : Nat) (a0 : Nat) (i1 : Int32) (i2 : Int32) (i3 : Int32) (M : mM) : Option (Int32 × mM) :=
  (m_X12_isTray i1).bind fun x1 =>
  if x1 = 0 then (
    some ((-1), M)) else (
    (m_X12_in i2.toInt64 0 3).bind fun x3 =>
    if x3 = 0 then (
      some ((-1), M)) else (
      if i3 ≤ 20 then (
        if 0 ≤ i3 then (
          (fR M a0 12 7).bind fun x5 =>
          (uI 0 .int M x5 i1 i2).bind fun M7 =>
          (fR M7 a0 12 8).bind fun x9 =>
          (uI 0 .int M7 x9 i1 i3).bind fun M11 =>
          m_X12_tray_L54 N  N a0 i1 0 M11) else (
          some ((-14), M))) else (
        some ((-2), M))))
set_option maxHeartbeats 4000000 in
set_option maxRecDepth 100000 in
theorem t_X12_tray {L0 : Launch} {M : mM} {N : Nat} {a0 : Nat} {i1 : Int32} {i2 : Int32} {i3 : Int32} {res : Int32 × mM} (hf : m_X12_tray N a0 i1 i2 i3 M = some res) : CT L0 yX12_tray prog_14_method_96_code 5 (some .int) 2 45 0 0 [.ref a0, .int i1, .int i2, .int i3] M (some (.int res.1)) res.2 := by
  refine CT.of (by decide +kernel) (Nat.le_of_ble_eq_true rfl) fun X C E => ?_
  have C : CX X RX12 "tray" prog_14_method_96_code 5 (some .int) := C
  show EV X 5 0 [(0, .ref a0), (1, .int i1), (2, .int i2), (3, .int i3)] [] 0 0 M
  unfold m_X12_tray at hf
  refine ev_iload_n C dX12_tray_0 rfl (q := 1) rfl ?_
  obtain ⟨x1, e2, hf⟩ := obnd hf
  refine ev_callS0 (As := [.int i1]) (st := []) C (t_X12_isTray e2) hd_X12_isTray rfl kw_1656 kw_1657 kw_87 kw_1658 (mRoom.of E (Nat.le_of_ble_eq_true rfl) (Nat.le_of_ble_eq_true rfl) (Nat.le_refl 0) (Nat.le_refl 0)) (Nat.le_of_ble_eq_true rfl) dX12_tray_1 ?_
  refine ev_if_eq (tgt := 19) C dX12_tray_4 (by decide) (fun hc => ?_) (fun hc => ?_)
  · have hf := oit hf hc
    refine ev_iconst (v := (-1)) C dX12_tray_19 (by decide) ?_
    obtain rfl := Option.some.inj hf
    exact ev_iret C E (Nat.le_refl 0) (Nat.le_refl 0) dX12_tray_20
  · have hf := oie hf hc
    refine ev_iload_n C dX12_tray_7 rfl (q := 2) rfl ?_
    refine ev_i2l C dX12_tray_8 ?_
    refine ev_lconst (v := 0) C dX12_tray_9 (by decide) ?_
    refine ev_ldc2 (v := 3) C dX12_tray_10 kw_1252 ?_
    obtain ⟨x3, e4, hf⟩ := obnd hf
    refine ev_callS0 (As := [.long i2.toInt64, .long 0, .long 3]) (st := []) C (t_X12_in e4) hd_X12_in rfl kw_1253 kw_1254 kw_87 kw_1255 (mRoom.of E (Nat.le_of_ble_eq_true rfl) (Nat.le_of_ble_eq_true rfl) (Nat.le_refl 0) (Nat.le_refl 0)) (Nat.le_of_ble_eq_true rfl) dX12_tray_13 ?_
    refine ev_if_ne (tgt := 21) C dX12_tray_16 (by decide) (fun hc => ?_) (fun hc => ?_)
    · have hf := oie hf hc
      refine ev_iload_n C dX12_tray_21 rfl (q := 3) rfl ?_
      refine ev_bipush (v := 20) C dX12_tray_22 (by decide) ?_
      refine ev_icmp_le (tgt := 30) C dX12_tray_24 (by decide) (fun hc => ?_) (fun hc => ?_)
      · have hf := oit hf hc
        refine ev_iload_n C dX12_tray_30 rfl (q := 3) rfl ?_
        refine ev_if_ge (tgt := 37) C dX12_tray_31 (by decide) (fun hc => ?_) (fun hc => ?_)
        · have hf := oit hf hc
          refine ev_aload_n C dX12_tray_37 rfl (q := 0) rfl ?_
          obtain ⟨x5, e6, hf⟩ := obnd hf
          refine ev_get (k := 7) C ok_12 dX12_tray_38 (by decide) kw_1166 (fR_V e6) ?_
          refine ev_iload_n C dX12_tray_41 rfl (q := 1) rfl ?_
          refine ev_iload_n C dX12_tray_42 rfl (q := 2) rfl ?_
          obtain ⟨M7, e8, hf⟩ := obnd hf
          refine ev_iast C dX12_tray_43 e8 ?_
          refine ev_aload_n C dX12_tray_44 rfl (q := 0) rfl ?_
          obtain ⟨x9, e10, hf⟩ := obnd hf
          refine ev_get (k := 8) C ok_12 dX12_tray_45 (by decide) kw_1167 (fR_V e10) ?_
          refine ev_iload_n C dX12_tray_48 rfl (q := 1) rfl ?_
          refine ev_iload_n C dX12_tray_49 rfl (q := 3) rfl ?_
          obtain ⟨M11, e12, hf⟩ := obnd hf
          refine ev_iast C dX12_tray_50 e12 ?_
          refine ev_iconst (v := 0) C dX12_tray_51 (by decide) ?_
          refine ev_istore (l' := [(4, .int 0), (0, .ref a0), (1, .int i1), (2, .int i2), (3, .int i3)]) C dX12_tray_52 (by decide) rfl ?_
          refine ev_sub [1, 2, 0] rfl ?_
          exact t_X12_tray_L54 C E   N a0 i1 0 M11 hf
        · have hf := oie hf hc
          refine ev_bipush (v := (-14)) C dX12_tray_34 (by decide) ?_
          obtain rfl := Option.some.inj hf
          exact ev_iret C E (Nat.le_refl 0) (Nat.le_refl 0) dX12_tray_36
      · have hf := oie hf hc
        refine ev_bipush (v := (-2)) C dX12_tray_27 (by decide) ?_
        obtain rfl := Option.some.inj hf
        exact ev_iret C E (Nat.le_refl 0) (Nat.le_refl 0) dX12_tray_29
    · have hf := oit hf hc
      refine ev_iconst (v := (-1)) C dX12_tray_19 (by decide) ?_
      obtain rfl := Option.some.inj hf
      exact ev_iret C E (Nat.le_refl 0) (Nat.le_refl 0) dX12_tray_20
/-! FareLimitsModel whyNot(II)I -/
theorem dX12_whyNot_0 : decode prog_14_method_97_code 0 = .ok (.aload_n 0, 1) := by decide +kernel
theorem dX12_whyNot_1 : decode prog_14_method_97_code 1 = .ok (.getfield 24, 3) := by decide +kernel
theorem dX12_whyNot_4 : decode prog_14_method_97_code 4 = .ok (.iload_n 1, 1) := by decide +kernel
theorem dX12_whyNot_5 : decode prog_14_method_97_code 5 = .ok (.iaload, 1) := by decide +kernel
theorem dX12_whyNot_6 : decode prog_14_method_97_code 6 = .ok (.ifCond .ge 8, 3) := by decide +kernel
theorem dX12_whyNot_9 : decode prog_14_method_97_code 9 = .ok (.bipush (-11), 2) := by decide +kernel
theorem dX12_whyNot_11 : decode prog_14_method_97_code 11 = .ok (.goto 27, 3) := by decide +kernel
theorem dX12_whyNot_14 : decode prog_14_method_97_code 14 = .ok (.iload_n 2, 1) := by decide +kernel
theorem dX12_whyNot_15 : decode prog_14_method_97_code 15 = .ok (.i2l, 1) := by decide +kernel
theorem dX12_whyNot_16 : decode prog_14_method_97_code 16 = .ok (.lconst 0, 1) := by decide +kernel
theorem dX12_whyNot_17 : decode prog_14_method_97_code 17 = .ok (.aload_n 0, 1) := by decide +kernel
theorem dX12_whyNot_18 : decode prog_14_method_97_code 18 = .ok (.getfield 27, 3) := by decide +kernel
theorem dX12_whyNot_21 : decode prog_14_method_97_code 21 = .ok (.iload_n 1, 1) := by decide +kernel
theorem dX12_whyNot_22 : decode prog_14_method_97_code 22 = .ok (.iaload, 1) := by decide +kernel
theorem dX12_whyNot_23 : decode prog_14_method_97_code 23 = .ok (.iconst 1, 1) := by decide +kernel
theorem dX12_whyNot_24 : decode prog_14_method_97_code 24 = .ok (.isub, 1) := by decide +kernel
theorem dX12_whyNot_25 : decode prog_14_method_97_code 25 = .ok (.i2l, 1) := by decide +kernel
theorem dX12_whyNot_26 : decode prog_14_method_97_code 26 = .ok (.invokestatic 72, 3) := by decide +kernel
theorem dX12_whyNot_29 : decode prog_14_method_97_code 29 = .ok (.ifCond .eq 7, 3) := by decide +kernel
theorem dX12_whyNot_32 : decode prog_14_method_97_code 32 = .ok (.iconst 0, 1) := by decide +kernel
theorem dX12_whyNot_33 : decode prog_14_method_97_code 33 = .ok (.goto 5, 3) := by decide +kernel
theorem dX12_whyNot_36 : decode prog_14_method_97_code 36 = .ok (.bipush (-12), 2) := by decide +kernel
theorem dX12_whyNot_38 : decode prog_14_method_97_code 38 = .ok (.ireturn, 1) := by decide +kernel
def m_X12_whyNot (a0 : Nat) (i1 : Int32) (i2 : Int32) (M : mM) : Option (Int32) :=
  (fR M a0 12 7).bind fun x1 =>
  (aI 0 M x1 i1).bind fun x3 =>
  if 0 ≤ x3 then (
    (fR M a0 12 8).bind fun x5 =>
    (aI 0 M x5 i1).bind fun x7 =>
    (m_X12_in i2.toInt64 0 ((x7 - 1).toInt64)).bind fun x9 =>
    if x9 = 0 then (
      some (-12)) else (
      some 0)) else (
    some (-11))
set_option maxHeartbeats 4000000 in
set_option maxRecDepth 100000 in
theorem t_X12_whyNot {L0 : Launch} {M : mM} {a0 : Nat} {i1 : Int32} {i2 : Int32} {res : Int32} (hf : m_X12_whyNot a0 i1 i2 M = some res) : CT L0 yX12_whyNot prog_14_method_97_code 3 (some .int) 1 25 0 0 [.ref a0, .int i1, .int i2] M (some (.int res)) M := by
  refine CT.of (by decide +kernel) (Nat.le_of_ble_eq_true rfl) fun X C E => ?_
  have C : CX X RX12 "whyNot" prog_14_method_97_code 3 (some .int) := C
  show EV X 3 0 [(0, .ref a0), (1, .int i1), (2, .int i2)] [] 0 0 M
  unfold m_X12_whyNot at hf
  refine ev_aload_n C dX12_whyNot_0 rfl (q := 0) rfl ?_
  obtain ⟨x1, e2, hf⟩ := obnd hf
  refine ev_get (k := 7) C ok_12 dX12_whyNot_1 (by decide) kw_1166 (fR_V e2) ?_
  refine ev_iload_n C dX12_whyNot_4 rfl (q := 1) rfl ?_
  obtain ⟨x3, e4, hf⟩ := obnd hf
  refine ev_iald C dX12_whyNot_5 e4 ?_
  refine ev_if_ge (tgt := 14) C dX12_whyNot_6 (by decide) (fun hc => ?_) (fun hc => ?_)
  · have hf := oit hf hc
    refine ev_iload_n C dX12_whyNot_14 rfl (q := 2) rfl ?_
    refine ev_i2l C dX12_whyNot_15 ?_
    refine ev_lconst (v := 0) C dX12_whyNot_16 (by decide) ?_
    refine ev_aload_n C dX12_whyNot_17 rfl (q := 0) rfl ?_
    obtain ⟨x5, e6, hf⟩ := obnd hf
    refine ev_get (k := 8) C ok_12 dX12_whyNot_18 (by decide) kw_1167 (fR_V e6) ?_
    refine ev_iload_n C dX12_whyNot_21 rfl (q := 1) rfl ?_
    obtain ⟨x7, e8, hf⟩ := obnd hf
    refine ev_iald C dX12_whyNot_22 e8 ?_
    refine ev_iconst (v := 1) C dX12_whyNot_23 (by decide) ?_
    refine ev_isub C dX12_whyNot_24 ?_
    refine ev_i2l C dX12_whyNot_25 ?_
    obtain ⟨x9, e10, hf⟩ := obnd hf
    refine ev_callS0 (As := [.long i2.toInt64, .long 0, .long ((x7 - 1).toInt64)]) (st := []) C (t_X12_in e10) hd_X12_in rfl kw_1253 kw_1254 kw_87 kw_1255 (mRoom.of E (Nat.le_of_ble_eq_true rfl) (Nat.le_of_ble_eq_true rfl) (Nat.le_refl 0) (Nat.le_refl 0)) (Nat.le_of_ble_eq_true rfl) dX12_whyNot_26 ?_
    refine ev_if_eq (tgt := 36) C dX12_whyNot_29 (by decide) (fun hc => ?_) (fun hc => ?_)
    · have hf := oit hf hc
      refine ev_bipush (v := (-12)) C dX12_whyNot_36 (by decide) ?_
      obtain rfl := Option.some.inj hf
      exact ev_iret C E (Nat.le_refl 0) (Nat.le_refl 0) dX12_whyNot_38
    · have hf := oie hf hc
      refine ev_iconst (v := 0) C dX12_whyNot_32 (by decide) ?_
      refine ev_goto (tgt := 38) C dX12_whyNot_33 (by decide) ?_
      obtain rfl := Option.some.inj hf
      exact ev_iret C E (Nat.le_refl 0) (Nat.le_refl 0) dX12_whyNot_38
  · have hf := oie hf hc
    refine ev_bipush (v := (-11)) C dX12_whyNot_9 (by decide) ?_
    refine ev_goto (tgt := 38) C dX12_whyNot_11 (by decide) ?_
    obtain rfl := Option.some.inj hf
    exact ev_iret C E (Nat.le_refl 0) (Nat.le_refl 0) dX12_whyNot_38
/-! FareLimitsModel lays(III)I -/
theorem dX12_lays_0 : decode prog_14_method_98_code 0 = .ok (.iload_n 1, 1) := by decide +kernel
theorem dX12_lays_1 : decode prog_14_method_98_code 1 = .ok (.invokestatic 338, 3) := by decide +kernel
theorem dX12_lays_4 : decode prog_14_method_98_code 4 = .ok (.ifCond .eq 16, 3) := by decide +kernel
theorem dX12_lays_7 : decode prog_14_method_98_code 7 = .ok (.iload_n 3, 1) := by decide +kernel
theorem dX12_lays_8 : decode prog_14_method_98_code 8 = .ok (.iconst (-1), 1) := by decide +kernel
theorem dX12_lays_9 : decode prog_14_method_98_code 9 = .ok (.if_icmp .eq 13, 3) := by decide +kernel
theorem dX12_lays_12 : decode prog_14_method_98_code 12 = .ok (.aload_n 0, 1) := by decide +kernel
theorem dX12_lays_13 : decode prog_14_method_98_code 13 = .ok (.iload_n 3, 1) := by decide +kernel
theorem dX12_lays_14 : decode prog_14_method_98_code 14 = .ok (.invokevirtual 82, 3) := by decide +kernel
theorem dX12_lays_17 : decode prog_14_method_98_code 17 = .ok (.ifCond .ne 5, 3) := by decide +kernel
theorem dX12_lays_20 : decode prog_14_method_98_code 20 = .ok (.iconst (-1), 1) := by decide +kernel
theorem dX12_lays_21 : decode prog_14_method_98_code 21 = .ok (.ireturn, 1) := by decide +kernel
theorem dX12_lays_22 : decode prog_14_method_98_code 22 = .ok (.aload_n 0, 1) := by decide +kernel
theorem dX12_lays_23 : decode prog_14_method_98_code 23 = .ok (.iload_n 1, 1) := by decide +kernel
theorem dX12_lays_24 : decode prog_14_method_98_code 24 = .ok (.iload_n 2, 1) := by decide +kernel
theorem dX12_lays_25 : decode prog_14_method_98_code 25 = .ok (.invokevirtual 341, 3) := by decide +kernel
theorem dX12_lays_28 : decode prog_14_method_98_code 28 = .ok (.istore 4, 2) := by decide +kernel
theorem dX12_lays_30 : decode prog_14_method_98_code 30 = .ok (.iload 4, 2) := by decide +kernel
theorem dX12_lays_32 : decode prog_14_method_98_code 32 = .ok (.ifCond .eq 6, 3) := by decide +kernel
theorem dX12_lays_35 : decode prog_14_method_98_code 35 = .ok (.iload 4, 2) := by decide +kernel
theorem dX12_lays_37 : decode prog_14_method_98_code 37 = .ok (.ireturn, 1) := by decide +kernel
theorem dX12_lays_38 : decode prog_14_method_98_code 38 = .ok (.iload_n 3, 1) := by decide +kernel
theorem dX12_lays_39 : decode prog_14_method_98_code 39 = .ok (.iconst (-1), 1) := by decide +kernel
theorem dX12_lays_40 : decode prog_14_method_98_code 40 = .ok (.if_icmp .eq 27, 3) := by decide +kernel
theorem dX12_lays_43 : decode prog_14_method_98_code 43 = .ok (.aload_n 0, 1) := by decide +kernel
theorem dX12_lays_44 : decode prog_14_method_98_code 44 = .ok (.getfield 9, 3) := by decide +kernel
theorem dX12_lays_47 : decode prog_14_method_98_code 47 = .ok (.bipush 6, 2) := by decide +kernel
theorem dX12_lays_49 : decode prog_14_method_98_code 49 = .ok (.iload_n 3, 1) := by decide +kernel
theorem dX12_lays_50 : decode prog_14_method_98_code 50 = .ok (.iadd, 1) := by decide +kernel
theorem dX12_lays_51 : decode prog_14_method_98_code 51 = .ok (.iaload, 1) := by decide +kernel
theorem dX12_lays_52 : decode prog_14_method_98_code 52 = .ok (.aload_n 0, 1) := by decide +kernel
theorem dX12_lays_53 : decode prog_14_method_98_code 53 = .ok (.getfield 24, 3) := by decide +kernel
theorem dX12_lays_56 : decode prog_14_method_98_code 56 = .ok (.iload_n 1, 1) := by decide +kernel
theorem dX12_lays_57 : decode prog_14_method_98_code 57 = .ok (.iaload, 1) := by decide +kernel
theorem dX12_lays_58 : decode prog_14_method_98_code 58 = .ok (.invokestatic 344, 3) := by decide +kernel
theorem dX12_lays_61 : decode prog_14_method_98_code 61 = .ok (.ifCond .ne 6, 3) := by decide +kernel
theorem dX12_lays_64 : decode prog_14_method_98_code 64 = .ok (.bipush (-16), 2) := by decide +kernel
theorem dX12_lays_66 : decode prog_14_method_98_code 66 = .ok (.ireturn, 1) := by decide +kernel
theorem dX12_lays_67 : decode prog_14_method_98_code 67 = .ok (.aload_n 0, 1) := by decide +kernel
theorem dX12_lays_68 : decode prog_14_method_98_code 68 = .ok (.getfield 30, 3) := by decide +kernel
theorem dX12_lays_71 : decode prog_14_method_98_code 71 = .ok (.bipush 20, 2) := by decide +kernel
theorem dX12_lays_73 : decode prog_14_method_98_code 73 = .ok (.iload_n 1, 1) := by decide +kernel
theorem dX12_lays_74 : decode prog_14_method_98_code 74 = .ok (.imul, 1) := by decide +kernel
theorem dX12_lays_75 : decode prog_14_method_98_code 75 = .ok (.iload_n 2, 1) := by decide +kernel
theorem dX12_lays_76 : decode prog_14_method_98_code 76 = .ok (.iadd, 1) := by decide +kernel
theorem dX12_lays_77 : decode prog_14_method_98_code 77 = .ok (.iload_n 3, 1) := by decide +kernel
theorem dX12_lays_78 : decode prog_14_method_98_code 78 = .ok (.iconst (-1), 1) := by decide +kernel
theorem dX12_lays_79 : decode prog_14_method_98_code 79 = .ok (.if_icmp .ne 8, 3) := by decide +kernel
theorem dX12_lays_82 : decode prog_14_method_98_code 82 = .ok (.bipush (-5), 2) := by decide +kernel
theorem dX12_lays_84 : decode prog_14_method_98_code 84 = .ok (.goto 4, 3) := by decide +kernel
theorem dX12_lays_87 : decode prog_14_method_98_code 87 = .ok (.iload_n 3, 1) := by decide +kernel
theorem dX12_lays_88 : decode prog_14_method_98_code 88 = .ok (.iastore, 1) := by decide +kernel
theorem dX12_lays_89 : decode prog_14_method_98_code 89 = .ok (.iconst 1, 1) := by decide +kernel
theorem dX12_lays_90 : decode prog_14_method_98_code 90 = .ok (.ireturn, 1) := by decide +kernel
def m_X12_lays_J67  (a0 : Nat) (i1 : Int32) (i2 : Int32) (i3 : Int32) (M : mM) : Option (Int32 × mM) :=
  (fR M a0 12 9).bind fun x1 =>
  if i3 = (-1) then (
    (uI 0 .int M x1 ((20 * i1) + i2) (-5)).bind fun M5 =>
    some (1, M5)) else (
    (uI 0 .int M x1 ((20 * i1) + i2) i3).bind fun M3 =>
    some (1, M3))
set_option maxHeartbeats 4000000 in
set_option maxRecDepth 100000 in
theorem t_X12_lays_J67 {X : mX} {L0 : Launch} {res : Int32 × mM} (C : CX X RX12 "lays" prog_14_method_98_code 5 (some .int)) (E : EX X L0 2 47 0 0 (some (.int res.1)) res.2)   (a0 : Nat) (i1 : Int32) (i2 : Int32) (i3 : Int32) (M : mM) (hf : m_X12_lays_J67  a0 i1 i2 i3 M = some res) : EV X 5 67 [(0, .ref a0), (1, .int i1), (2, .int i2), (3, .int i3)] [] 0 0 M := by
  unfold m_X12_lays_J67 at hf
  refine ev_aload_n C dX12_lays_67 rfl (q := 0) rfl ?_
  obtain ⟨x1, e2, hf⟩ := obnd hf
  refine ev_get (k := 9) C ok_12 dX12_lays_68 (by decide) kw_1168 (fR_V e2) ?_
  refine ev_bipush (v := 20) C dX12_lays_71 (by decide) ?_
  refine ev_iload_n C dX12_lays_73 rfl (q := 1) rfl ?_
  refine ev_imul C dX12_lays_74 ?_
  refine ev_iload_n C dX12_lays_75 rfl (q := 2) rfl ?_
  refine ev_iadd C dX12_lays_76 ?_
  refine ev_iload_n C dX12_lays_77 rfl (q := 3) rfl ?_
  refine ev_iconst (v := (-1)) C dX12_lays_78 (by decide) ?_
  refine ev_icmp_ne (tgt := 87) C dX12_lays_79 (by decide) (fun hc => ?_) (fun hc => ?_)
  · have hf := oie hf hc
    refine ev_iload_n C dX12_lays_87 rfl (q := 3) rfl ?_
    obtain ⟨M3, e4, hf⟩ := obnd hf
    refine ev_iast C dX12_lays_88 e4 ?_
    refine ev_iconst (v := 1) C dX12_lays_89 (by decide) ?_
    obtain rfl := Option.some.inj hf
    exact ev_iret C E (Nat.le_refl 0) (Nat.le_refl 0) dX12_lays_90
  · have hf := oit hf hc
    refine ev_bipush (v := (-5)) C dX12_lays_82 (by decide) ?_
    refine ev_goto (tgt := 88) C dX12_lays_84 (by decide) ?_
    obtain ⟨M5, e6, hf⟩ := obnd hf
    refine ev_iast C dX12_lays_88 e6 ?_
    refine ev_iconst (v := 1) C dX12_lays_89 (by decide) ?_
    obtain rfl := Option.some.inj hf
    exact ev_iret C E (Nat.le_refl 0) (Nat.le_refl 0) dX12_lays_90
def m_X12_lays_J22  (a0 : Nat) (i1 : Int32) (i2 : Int32) (i3 : Int32) (M : mM) : Option (Int32 × mM) :=
  (oO M a0 12).bind fun _ =>
  (m_X12_whyNot a0 i1 i2 M).bind fun x3 =>
  if x3 = 0 then (
    if i3 = (-1) then (
      m_X12_lays_J67  a0 i1 i2 i3 M) else (
      (fR M a0 12 0).bind fun x5 =>
      (aI 0 M x5 (6 + i3)).bind fun x7 =>
      (fR M a0 12 7).bind fun x9 =>
      (aI 0 M x9 i1).bind fun x11 =>
      (m_X12_isUnder x7 x11).bind fun x13 =>
      if x13 = 0 then (
        some ((-16), M)) else (
        m_X12_lays_J67  a0 i1 i2 i3 M))) else (
    some (x3, M))
set_option maxHeartbeats 4000000 in
set_option maxRecDepth 100000 in
theorem t_X12_lays_J22 {X : mX} {L0 : Launch} {res : Int32 × mM} (C : CX X RX12 "lays" prog_14_method_98_code 5 (some .int)) (E : EX X L0 2 47 0 0 (some (.int res.1)) res.2)   (a0 : Nat) (i1 : Int32) (i2 : Int32) (i3 : Int32) (M : mM) (hf : m_X12_lays_J22  a0 i1 i2 i3 M = some res) : EV X 5 22 [(0, .ref a0), (1, .int i1), (2, .int i2), (3, .int i3)] [] 0 0 M := by
  unfold m_X12_lays_J22 at hf
  refine ev_aload_n C dX12_lays_22 rfl (q := 0) rfl ?_
  refine ev_iload_n C dX12_lays_23 rfl (q := 1) rfl ?_
  refine ev_iload_n C dX12_lays_24 rfl (q := 2) rfl ?_
  obtain ⟨_, e1, hf⟩ := obnd hf
  obtain ⟨fs2, e1⟩ := oO_eq e1
  obtain ⟨x3, e4, hf⟩ := obnd hf
  refine ev_callV0 (As := [.int i1, .int i2]) (st := []) C rfl e1 (t_X12_whyNot e4) rfl hd_X12_whyNot rfl kw_1663 kw_1665 kw_87 kw_68 kw_1666 (mRoom.of E (Nat.le_of_ble_eq_true rfl) (Nat.le_of_ble_eq_true rfl) (Nat.le_refl 0) (Nat.le_refl 0)) (Nat.le_of_ble_eq_true rfl) dX12_lays_25 ?_
  refine ev_istore (l' := [(4, .int x3), (0, .ref a0), (1, .int i1), (2, .int i2), (3, .int i3)]) C dX12_lays_28 (by decide) rfl ?_
  refine ev_iload C dX12_lays_30 (q := 0) rfl ?_
  refine ev_if_eq (tgt := 38) C dX12_lays_32 (by decide) (fun hc => ?_) (fun hc => ?_)
  · have hf := oit hf hc
    refine ev_iload_n C dX12_lays_38 rfl (q := 4) rfl ?_
    refine ev_iconst (v := (-1)) C dX12_lays_39 (by decide) ?_
    refine ev_icmp_eq (tgt := 67) C dX12_lays_40 (by decide) (fun hc => ?_) (fun hc => ?_)
    · have hf := oit hf hc
      refine ev_sub [1, 2, 3, 4] rfl ?_
      exact t_X12_lays_J67 C E   a0 i1 i2 i3 M hf
    · have hf := oie hf hc
      refine ev_aload_n C dX12_lays_43 rfl (q := 1) rfl ?_
      obtain ⟨x5, e6, hf⟩ := obnd hf
      refine ev_get (k := 0) C ok_12 dX12_lays_44 (by decide) kw_1159 (fR_V e6) ?_
      refine ev_bipush (v := 6) C dX12_lays_47 (by decide) ?_
      refine ev_iload_n C dX12_lays_49 rfl (q := 4) rfl ?_
      refine ev_iadd C dX12_lays_50 ?_
      obtain ⟨x7, e8, hf⟩ := obnd hf
      refine ev_iald C dX12_lays_51 e8 ?_
      refine ev_aload_n C dX12_lays_52 rfl (q := 1) rfl ?_
      obtain ⟨x9, e10, hf⟩ := obnd hf
      refine ev_get (k := 7) C ok_12 dX12_lays_53 (by decide) kw_1166 (fR_V e10) ?_
      refine ev_iload_n C dX12_lays_56 rfl (q := 2) rfl ?_
      obtain ⟨x11, e12, hf⟩ := obnd hf
      refine ev_iald C dX12_lays_57 e12 ?_
      obtain ⟨x13, e14, hf⟩ := obnd hf
      refine ev_callS0 (As := [.int x7, .int x11]) (st := []) C (t_X12_isUnder e14) hd_X12_isUnder rfl kw_1667 kw_1668 kw_87 kw_1669 (mRoom.of E (Nat.le_of_ble_eq_true rfl) (Nat.le_of_ble_eq_true rfl) (Nat.le_refl 0) (Nat.le_refl 0)) (Nat.le_of_ble_eq_true rfl) dX12_lays_58 ?_
      refine ev_if_ne (tgt := 67) C dX12_lays_61 (by decide) (fun hc => ?_) (fun hc => ?_)
      · have hf := oie hf hc
        refine ev_sub [1, 2, 3, 4] rfl ?_
        exact t_X12_lays_J67 C E   a0 i1 i2 i3 M hf
      · have hf := oit hf hc
        refine ev_bipush (v := (-16)) C dX12_lays_64 (by decide) ?_
        obtain rfl := Option.some.inj hf
        exact ev_iret C E (Nat.le_refl 0) (Nat.le_refl 0) dX12_lays_66
  · have hf := oie hf hc
    refine ev_iload C dX12_lays_35 (q := 0) rfl ?_
    obtain rfl := Option.some.inj hf
    exact ev_iret C E (Nat.le_refl 0) (Nat.le_refl 0) dX12_lays_37
def m_X12_lays (a0 : Nat) (i1 : Int32) (i2 : Int32) (i3 : Int32) (M : mM) : Option (Int32 × mM) :=
  (m_X12_isTray i1).bind fun x1 =>
  if x1 = 0 then (
    some ((-1), M)) else (
    if i3 = (-1) then (
      m_X12_lays_J22  a0 i1 i2 i3 M) else (
      (oO M a0 12).bind fun _ =>
      (m_X12_isFare a0 i3 M).bind fun x5 =>
      if x5 = 0 then (
        some ((-1), M)) else (
        m_X12_lays_J22  a0 i1 i2 i3 M)))
set_option maxHeartbeats 4000000 in
set_option maxRecDepth 100000 in
theorem t_X12_lays {L0 : Launch} {M : mM} {a0 : Nat} {i1 : Int32} {i2 : Int32} {i3 : Int32} {res : Int32 × mM} (hf : m_X12_lays a0 i1 i2 i3 M = some res) : CT L0 yX12_lays prog_14_method_98_code 5 (some .int) 2 47 0 0 [.ref a0, .int i1, .int i2, .int i3] M (some (.int res.1)) res.2 := by
  refine CT.of (by decide +kernel) (Nat.le_of_ble_eq_true rfl) fun X C E => ?_
  have C : CX X RX12 "lays" prog_14_method_98_code 5 (some .int) := C
  show EV X 5 0 [(0, .ref a0), (1, .int i1), (2, .int i2), (3, .int i3)] [] 0 0 M
  unfold m_X12_lays at hf
  refine ev_iload_n C dX12_lays_0 rfl (q := 1) rfl ?_
  obtain ⟨x1, e2, hf⟩ := obnd hf
  refine ev_callS0 (As := [.int i1]) (st := []) C (t_X12_isTray e2) hd_X12_isTray rfl kw_1656 kw_1657 kw_87 kw_1658 (mRoom.of E (Nat.le_of_ble_eq_true rfl) (Nat.le_of_ble_eq_true rfl) (Nat.le_refl 0) (Nat.le_refl 0)) (Nat.le_of_ble_eq_true rfl) dX12_lays_1 ?_
  refine ev_if_eq (tgt := 20) C dX12_lays_4 (by decide) (fun hc => ?_) (fun hc => ?_)
  · have hf := oit hf hc
    refine ev_iconst (v := (-1)) C dX12_lays_20 (by decide) ?_
    obtain rfl := Option.some.inj hf
    exact ev_iret C E (Nat.le_refl 0) (Nat.le_refl 0) dX12_lays_21
  · have hf := oie hf hc
    refine ev_iload_n C dX12_lays_7 rfl (q := 3) rfl ?_
    refine ev_iconst (v := (-1)) C dX12_lays_8 (by decide) ?_
    refine ev_icmp_eq (tgt := 22) C dX12_lays_9 (by decide) (fun hc => ?_) (fun hc => ?_)
    · have hf := oit hf hc
      exact t_X12_lays_J22 C E   a0 i1 i2 i3 M hf
    · have hf := oie hf hc
      refine ev_aload_n C dX12_lays_12 rfl (q := 0) rfl ?_
      refine ev_iload_n C dX12_lays_13 rfl (q := 3) rfl ?_
      obtain ⟨_, e3, hf⟩ := obnd hf
      obtain ⟨fs4, e3⟩ := oO_eq e3
      obtain ⟨x5, e6, hf⟩ := obnd hf
      refine ev_callV0 (As := [.int i3]) (st := []) C rfl e3 (t_X12_isFare e6) rfl hd_X12_isFare rfl kw_1261 kw_1263 kw_87 kw_20 kw_1264 (mRoom.of E (Nat.le_of_ble_eq_true rfl) (Nat.le_of_ble_eq_true rfl) (Nat.le_refl 0) (Nat.le_refl 0)) (Nat.le_of_ble_eq_true rfl) dX12_lays_14 ?_
      refine ev_if_ne (tgt := 22) C dX12_lays_17 (by decide) (fun hc => ?_) (fun hc => ?_)
      · have hf := oie hf hc
        exact t_X12_lays_J22 C E   a0 i1 i2 i3 M hf
      · have hf := oit hf hc
        refine ev_iconst (v := (-1)) C dX12_lays_20 (by decide) ?_
        obtain rfl := Option.some.inj hf
        exact ev_iret C E (Nat.le_refl 0) (Nat.le_refl 0) dX12_lays_21
/-! FareLimitsModel laid(II)I -/
theorem dX12_laid_0 : decode prog_14_method_99_code 0 = .ok (.iload_n 1, 1) := by decide +kernel
theorem dX12_laid_1 : decode prog_14_method_99_code 1 = .ok (.invokestatic 338, 3) := by decide +kernel
theorem dX12_laid_4 : decode prog_14_method_99_code 4 = .ok (.ifCond .ne 5, 3) := by decide +kernel
theorem dX12_laid_7 : decode prog_14_method_99_code 7 = .ok (.iconst (-1), 1) := by decide +kernel
theorem dX12_laid_8 : decode prog_14_method_99_code 8 = .ok (.ireturn, 1) := by decide +kernel
theorem dX12_laid_9 : decode prog_14_method_99_code 9 = .ok (.aload_n 0, 1) := by decide +kernel
theorem dX12_laid_10 : decode prog_14_method_99_code 10 = .ok (.iload_n 1, 1) := by decide +kernel
theorem dX12_laid_11 : decode prog_14_method_99_code 11 = .ok (.iload_n 2, 1) := by decide +kernel
theorem dX12_laid_12 : decode prog_14_method_99_code 12 = .ok (.invokevirtual 341, 3) := by decide +kernel
theorem dX12_laid_15 : decode prog_14_method_99_code 15 = .ok (.istore_n 3, 1) := by decide +kernel
theorem dX12_laid_16 : decode prog_14_method_99_code 16 = .ok (.iload_n 3, 1) := by decide +kernel
theorem dX12_laid_17 : decode prog_14_method_99_code 17 = .ok (.ifCond .eq 7, 3) := by decide +kernel
theorem dX12_laid_20 : decode prog_14_method_99_code 20 = .ok (.iload_n 3, 1) := by decide +kernel
theorem dX12_laid_21 : decode prog_14_method_99_code 21 = .ok (.goto 14, 3) := by decide +kernel
theorem dX12_laid_24 : decode prog_14_method_99_code 24 = .ok (.aload_n 0, 1) := by decide +kernel
theorem dX12_laid_25 : decode prog_14_method_99_code 25 = .ok (.getfield 30, 3) := by decide +kernel
theorem dX12_laid_28 : decode prog_14_method_99_code 28 = .ok (.bipush 20, 2) := by decide +kernel
theorem dX12_laid_30 : decode prog_14_method_99_code 30 = .ok (.iload_n 1, 1) := by decide +kernel
theorem dX12_laid_31 : decode prog_14_method_99_code 31 = .ok (.imul, 1) := by decide +kernel
theorem dX12_laid_32 : decode prog_14_method_99_code 32 = .ok (.iload_n 2, 1) := by decide +kernel
theorem dX12_laid_33 : decode prog_14_method_99_code 33 = .ok (.iadd, 1) := by decide +kernel
theorem dX12_laid_34 : decode prog_14_method_99_code 34 = .ok (.iaload, 1) := by decide +kernel
theorem dX12_laid_35 : decode prog_14_method_99_code 35 = .ok (.ireturn, 1) := by decide +kernel
def m_X12_laid (a0 : Nat) (i1 : Int32) (i2 : Int32) (M : mM) : Option (Int32) :=
  (m_X12_isTray i1).bind fun x1 =>
  if x1 = 0 then (
    some (-1)) else (
    (oO M a0 12).bind fun _ =>
    (m_X12_whyNot a0 i1 i2 M).bind fun x5 =>
    if x5 = 0 then (
      (fR M a0 12 9).bind fun x7 =>
      (aI 0 M x7 ((20 * i1) + i2)).bind fun x9 =>
      some x9) else (
      some x5))
set_option maxHeartbeats 4000000 in
set_option maxRecDepth 100000 in
theorem t_X12_laid {L0 : Launch} {M : mM} {a0 : Nat} {i1 : Int32} {i2 : Int32} {res : Int32} (hf : m_X12_laid a0 i1 i2 M = some res) : CT L0 yX12_laid prog_14_method_99_code 4 (some .int) 2 47 0 0 [.ref a0, .int i1, .int i2] M (some (.int res)) M := by
  refine CT.of (by decide +kernel) (Nat.le_of_ble_eq_true rfl) fun X C E => ?_
  have C : CX X RX12 "laid" prog_14_method_99_code 4 (some .int) := C
  show EV X 4 0 [(0, .ref a0), (1, .int i1), (2, .int i2)] [] 0 0 M
  unfold m_X12_laid at hf
  refine ev_iload_n C dX12_laid_0 rfl (q := 1) rfl ?_
  obtain ⟨x1, e2, hf⟩ := obnd hf
  refine ev_callS0 (As := [.int i1]) (st := []) C (t_X12_isTray e2) hd_X12_isTray rfl kw_1656 kw_1657 kw_87 kw_1658 (mRoom.of E (Nat.le_of_ble_eq_true rfl) (Nat.le_of_ble_eq_true rfl) (Nat.le_refl 0) (Nat.le_refl 0)) (Nat.le_of_ble_eq_true rfl) dX12_laid_1 ?_
  refine ev_if_ne (tgt := 9) C dX12_laid_4 (by decide) (fun hc => ?_) (fun hc => ?_)
  · have hf := oie hf hc
    refine ev_aload_n C dX12_laid_9 rfl (q := 0) rfl ?_
    refine ev_iload_n C dX12_laid_10 rfl (q := 1) rfl ?_
    refine ev_iload_n C dX12_laid_11 rfl (q := 2) rfl ?_
    obtain ⟨_, e3, hf⟩ := obnd hf
    obtain ⟨fs4, e3⟩ := oO_eq e3
    obtain ⟨x5, e6, hf⟩ := obnd hf
    refine ev_callV0 (As := [.int i1, .int i2]) (st := []) C rfl e3 (t_X12_whyNot e6) rfl hd_X12_whyNot rfl kw_1663 kw_1665 kw_87 kw_68 kw_1666 (mRoom.of E (Nat.le_of_ble_eq_true rfl) (Nat.le_of_ble_eq_true rfl) (Nat.le_refl 0) (Nat.le_refl 0)) (Nat.le_of_ble_eq_true rfl) dX12_laid_12 ?_
    refine ev_istore_n (l' := [(3, .int x5), (0, .ref a0), (1, .int i1), (2, .int i2)]) C dX12_laid_15 rfl (by decide) rfl ?_
    refine ev_iload_n C dX12_laid_16 rfl (q := 0) rfl ?_
    refine ev_if_eq (tgt := 24) C dX12_laid_17 (by decide) (fun hc => ?_) (fun hc => ?_)
    · have hf := oit hf hc
      refine ev_aload_n C dX12_laid_24 rfl (q := 1) rfl ?_
      obtain ⟨x7, e8, hf⟩ := obnd hf
      refine ev_get (k := 9) C ok_12 dX12_laid_25 (by decide) kw_1168 (fR_V e8) ?_
      refine ev_bipush (v := 20) C dX12_laid_28 (by decide) ?_
      refine ev_iload_n C dX12_laid_30 rfl (q := 2) rfl ?_
      refine ev_imul C dX12_laid_31 ?_
      refine ev_iload_n C dX12_laid_32 rfl (q := 3) rfl ?_
      refine ev_iadd C dX12_laid_33 ?_
      obtain ⟨x9, e10, hf⟩ := obnd hf
      refine ev_iald C dX12_laid_34 e10 ?_
      obtain rfl := Option.some.inj hf
      exact ev_iret C E (Nat.le_refl 0) (Nat.le_refl 0) dX12_laid_35
    · have hf := oie hf hc
      refine ev_iload_n C dX12_laid_20 rfl (q := 0) rfl ?_
      refine ev_goto (tgt := 35) C dX12_laid_21 (by decide) ?_
      obtain rfl := Option.some.inj hf
      exact ev_iret C E (Nat.le_refl 0) (Nat.le_refl 0) dX12_laid_35
  · have hf := oit hf hc
    refine ev_iconst (v := (-1)) C dX12_laid_7 (by decide) ?_
    obtain rfl := Option.some.inj hf
    exact ev_iret C E (Nat.le_refl 0) (Nat.le_refl 0) dX12_laid_8
/-! FareLimitsModel like(II)I -/
theorem dX12_like_0 : decode prog_14_method_100_code 0 = .ok (.iload_n 1, 1) := by decide +kernel
theorem dX12_like_1 : decode prog_14_method_100_code 1 = .ok (.invokestatic 338, 3) := by decide +kernel
theorem dX12_like_4 : decode prog_14_method_100_code 4 = .ok (.ifCond .eq 10, 3) := by decide +kernel
theorem dX12_like_7 : decode prog_14_method_100_code 7 = .ok (.iload_n 2, 1) := by decide +kernel
theorem dX12_like_8 : decode prog_14_method_100_code 8 = .ok (.invokestatic 338, 3) := by decide +kernel
theorem dX12_like_11 : decode prog_14_method_100_code 11 = .ok (.ifCond .ne 5, 3) := by decide +kernel
theorem dX12_like_14 : decode prog_14_method_100_code 14 = .ok (.iconst (-1), 1) := by decide +kernel
theorem dX12_like_15 : decode prog_14_method_100_code 15 = .ok (.ireturn, 1) := by decide +kernel
theorem dX12_like_16 : decode prog_14_method_100_code 16 = .ok (.aload_n 0, 1) := by decide +kernel
theorem dX12_like_17 : decode prog_14_method_100_code 17 = .ok (.getfield 24, 3) := by decide +kernel
theorem dX12_like_20 : decode prog_14_method_100_code 20 = .ok (.iload_n 2, 1) := by decide +kernel
theorem dX12_like_21 : decode prog_14_method_100_code 21 = .ok (.iaload, 1) := by decide +kernel
theorem dX12_like_22 : decode prog_14_method_100_code 22 = .ok (.ifCond .ge 6, 3) := by decide +kernel
theorem dX12_like_25 : decode prog_14_method_100_code 25 = .ok (.bipush (-11), 2) := by decide +kernel
theorem dX12_like_27 : decode prog_14_method_100_code 27 = .ok (.ireturn, 1) := by decide +kernel
theorem dX12_like_28 : decode prog_14_method_100_code 28 = .ok (.aload_n 0, 1) := by decide +kernel
theorem dX12_like_29 : decode prog_14_method_100_code 29 = .ok (.getfield 24, 3) := by decide +kernel
theorem dX12_like_32 : decode prog_14_method_100_code 32 = .ok (.iload_n 1, 1) := by decide +kernel
theorem dX12_like_33 : decode prog_14_method_100_code 33 = .ok (.aload_n 0, 1) := by decide +kernel
theorem dX12_like_34 : decode prog_14_method_100_code 34 = .ok (.getfield 24, 3) := by decide +kernel
theorem dX12_like_37 : decode prog_14_method_100_code 37 = .ok (.iload_n 2, 1) := by decide +kernel
theorem dX12_like_38 : decode prog_14_method_100_code 38 = .ok (.iaload, 1) := by decide +kernel
theorem dX12_like_39 : decode prog_14_method_100_code 39 = .ok (.iastore, 1) := by decide +kernel
theorem dX12_like_40 : decode prog_14_method_100_code 40 = .ok (.aload_n 0, 1) := by decide +kernel
theorem dX12_like_41 : decode prog_14_method_100_code 41 = .ok (.getfield 27, 3) := by decide +kernel
theorem dX12_like_44 : decode prog_14_method_100_code 44 = .ok (.iload_n 1, 1) := by decide +kernel
theorem dX12_like_45 : decode prog_14_method_100_code 45 = .ok (.aload_n 0, 1) := by decide +kernel
theorem dX12_like_46 : decode prog_14_method_100_code 46 = .ok (.getfield 27, 3) := by decide +kernel
theorem dX12_like_49 : decode prog_14_method_100_code 49 = .ok (.iload_n 2, 1) := by decide +kernel
theorem dX12_like_50 : decode prog_14_method_100_code 50 = .ok (.iaload, 1) := by decide +kernel
theorem dX12_like_51 : decode prog_14_method_100_code 51 = .ok (.iastore, 1) := by decide +kernel
theorem dX12_like_52 : decode prog_14_method_100_code 52 = .ok (.iconst 0, 1) := by decide +kernel
theorem dX12_like_53 : decode prog_14_method_100_code 53 = .ok (.istore_n 3, 1) := by decide +kernel
theorem dX12_like_54 : decode prog_14_method_100_code 54 = .ok (.iload_n 3, 1) := by decide +kernel
theorem dX12_like_55 : decode prog_14_method_100_code 55 = .ok (.bipush 20, 2) := by decide +kernel
theorem dX12_like_57 : decode prog_14_method_100_code 57 = .ok (.if_icmp .ge 31, 3) := by decide +kernel
theorem dX12_like_60 : decode prog_14_method_100_code 60 = .ok (.aload_n 0, 1) := by decide +kernel
theorem dX12_like_61 : decode prog_14_method_100_code 61 = .ok (.getfield 30, 3) := by decide +kernel
theorem dX12_like_64 : decode prog_14_method_100_code 64 = .ok (.bipush 20, 2) := by decide +kernel
theorem dX12_like_66 : decode prog_14_method_100_code 66 = .ok (.iload_n 1, 1) := by decide +kernel
theorem dX12_like_67 : decode prog_14_method_100_code 67 = .ok (.imul, 1) := by decide +kernel
theorem dX12_like_68 : decode prog_14_method_100_code 68 = .ok (.iload_n 3, 1) := by decide +kernel
theorem dX12_like_69 : decode prog_14_method_100_code 69 = .ok (.iadd, 1) := by decide +kernel
theorem dX12_like_70 : decode prog_14_method_100_code 70 = .ok (.aload_n 0, 1) := by decide +kernel
theorem dX12_like_71 : decode prog_14_method_100_code 71 = .ok (.getfield 30, 3) := by decide +kernel
theorem dX12_like_74 : decode prog_14_method_100_code 74 = .ok (.bipush 20, 2) := by decide +kernel
theorem dX12_like_76 : decode prog_14_method_100_code 76 = .ok (.iload_n 2, 1) := by decide +kernel
theorem dX12_like_77 : decode prog_14_method_100_code 77 = .ok (.imul, 1) := by decide +kernel
theorem dX12_like_78 : decode prog_14_method_100_code 78 = .ok (.iload_n 3, 1) := by decide +kernel
theorem dX12_like_79 : decode prog_14_method_100_code 79 = .ok (.iadd, 1) := by decide +kernel
theorem dX12_like_80 : decode prog_14_method_100_code 80 = .ok (.iaload, 1) := by decide +kernel
theorem dX12_like_81 : decode prog_14_method_100_code 81 = .ok (.iastore, 1) := by decide +kernel
theorem dX12_like_82 : decode prog_14_method_100_code 82 = .ok (.iinc 3 1, 3) := by decide +kernel
theorem dX12_like_85 : decode prog_14_method_100_code 85 = .ok (.goto (-31), 3) := by decide +kernel
theorem dX12_like_88 : decode prog_14_method_100_code 88 = .ok (.aload_n 0, 1) := by decide +kernel
theorem dX12_like_89 : decode prog_14_method_100_code 89 = .ok (.getfield 27, 3) := by decide +kernel
theorem dX12_like_92 : decode prog_14_method_100_code 92 = .ok (.iload_n 1, 1) := by decide +kernel
theorem dX12_like_93 : decode prog_14_method_100_code 93 = .ok (.iaload, 1) := by decide +kernel
theorem dX12_like_94 : decode prog_14_method_100_code 94 = .ok (.ireturn, 1) := by decide +kernel
def m_X12_like_L54 (N : Nat)  : Nat → Nat → Int32 → Int32 → Int32 → mM → Option (Int32 × mM)
  | 0, _, _, _, _, _ => none
  | n + 1, a0, i1, i2, i3, M =>
    if 20 ≤ i3 then (
      (fR M a0 12 8).bind fun x1 =>
      (aI 0 M x1 i1).bind fun x3 =>
      some (x3, M)) else (
      (fR M a0 12 9).bind fun x5 =>
      (fR M a0 12 9).bind fun x7 =>
      (aI 0 M x7 ((20 * i2) + i3)).bind fun x9 =>
      (uI 0 .int M x5 ((20 * i1) + i3) x9).bind fun M11 =>
      (m_X12_like_L54 N  n) a0 i1 i2 (i3 + 1) M11)
set_option maxHeartbeats 4000000 in
set_option maxRecDepth 100000 in
theorem t_X12_like_L54 {X : mX} {L0 : Launch} {res : Int32 × mM} {N : Nat} (C : CX X RX12 "like" prog_14_method_100_code 4 (some .int)) (E : EX X L0 2 45 0 0 (some (.int res.1)) res.2)   : ∀ (n : Nat) (a0 : Nat) (i1 : Int32) (i2 : Int32) (i3 : Int32) (M : mM), m_X12_like_L54 N  n a0 i1 i2 i3 M = some res → EV X 4 54 [(0, .ref a0), (1, .int i1), (2, .int i2), (3, .int i3)] [] 0 0 M := by
  intro n
  induction n with
  | zero => intro a0 i1 i2 i3 M hf; cases (show (none : Option (Int32 × mM)) = some res from hf)
  | succ n ih =>
    intro a0 i1 i2 i3 M hf
    rw [m_X12_like_L54] at hf
    refine ev_iload_n C dX12_like_54 rfl (q := 3) rfl ?_
    refine ev_bipush (v := 20) C dX12_like_55 (by decide) ?_
    refine ev_icmp_ge (tgt := 88) C dX12_like_57 (by decide) (fun hc => ?_) (fun hc => ?_)
    · have hf := oit hf hc
      refine ev_aload_n C dX12_like_88 rfl (q := 0) rfl ?_
      obtain ⟨x1, e2, hf⟩ := obnd hf
      refine ev_get (k := 8) C ok_12 dX12_like_89 (by decide) kw_1167 (fR_V e2) ?_
      refine ev_iload_n C dX12_like_92 rfl (q := 1) rfl ?_
      obtain ⟨x3, e4, hf⟩ := obnd hf
      refine ev_iald C dX12_like_93 e4 ?_
      obtain rfl := Option.some.inj hf
      exact ev_iret C E (Nat.le_refl 0) (Nat.le_refl 0) dX12_like_94
    · have hf := oie hf hc
      refine ev_aload_n C dX12_like_60 rfl (q := 0) rfl ?_
      obtain ⟨x5, e6, hf⟩ := obnd hf
      refine ev_get (k := 9) C ok_12 dX12_like_61 (by decide) kw_1168 (fR_V e6) ?_
      refine ev_bipush (v := 20) C dX12_like_64 (by decide) ?_
      refine ev_iload_n C dX12_like_66 rfl (q := 1) rfl ?_
      refine ev_imul C dX12_like_67 ?_
      refine ev_iload_n C dX12_like_68 rfl (q := 3) rfl ?_
      refine ev_iadd C dX12_like_69 ?_
      refine ev_aload_n C dX12_like_70 rfl (q := 0) rfl ?_
      obtain ⟨x7, e8, hf⟩ := obnd hf
      refine ev_get (k := 9) C ok_12 dX12_like_71 (by decide) kw_1168 (fR_V e8) ?_
      refine ev_bipush (v := 20) C dX12_like_74 (by decide) ?_
      refine ev_iload_n C dX12_like_76 rfl (q := 2) rfl ?_
      refine ev_imul C dX12_like_77 ?_
      refine ev_iload_n C dX12_like_78 rfl (q := 3) rfl ?_
      refine ev_iadd C dX12_like_79 ?_
      obtain ⟨x9, e10, hf⟩ := obnd hf
      refine ev_iald C dX12_like_80 e10 ?_
      obtain ⟨M11, e12, hf⟩ := obnd hf
      refine ev_iast C dX12_like_81 e12 ?_
      refine ev_iinc (v := i3 + 1) (l' := [(3, .int (i3 + 1)), (0, .ref a0), (1, .int i1), (2, .int i2)]) C dX12_like_82 (q := 3) rfl rfl (by decide) rfl ?_
      refine ev_goto (tgt := 54) C dX12_like_85 (by decide) ?_
      refine ev_sub [1, 2, 3, 0] rfl ?_
      exact ih a0 i1 i2 (i3 + 1) M11 hf
def m_X12_like (N : Nat) (a0 : Nat) (i1 : Int32) (i2 : Int32) (M : mM) : Option (Int32 × mM) :=
  (m_X12_isTray i1).bind fun x1 =>
  if x1 = 0 then (
    some ((-1), M)) else (
    (m_X12_isTray i2).bind fun x3 =>
    if x3 = 0 then (
      some ((-1), M)) else (
      (fR M a0 12 7).bind fun x5 =>
      (aI 0 M x5 i2).bind fun x7 =>
      if 0 ≤ x7 then (
        (fR M a0 12 7).bind fun x9 =>
        (fR M a0 12 7).bind fun x11 =>
        (aI 0 M x11 i2).bind fun x13 =>
        (uI 0 .int M x9 i1 x13).bind fun M15 =>
        (fR M15 a0 12 8).bind fun x17 =>
        (fR M15 a0 12 8).bind fun x19 =>
        (aI 0 M15 x19 i2).bind fun x21 =>
        (uI 0 .int M15 x17 i1 x21).bind fun M23 =>
        m_X12_like_L54 N  N a0 i1 i2 0 M23) else (
        some ((-11), M))))
set_option maxHeartbeats 4000000 in
set_option maxRecDepth 100000 in
theorem t_X12_like {L0 : Launch} {M : mM} {N : Nat} {a0 : Nat} {i1 : Int32} {i2 : Int32} {res : Int32 × mM} (hf : m_X12_like N a0 i1 i2 M = some res) : CT L0 yX12_like prog_14_method_100_code 4 (some .int) 2 45 0 0 [.ref a0, .int i1, .int i2] M (some (.int res.1)) res.2 := by
  refine CT.of (by decide +kernel) (Nat.le_of_ble_eq_true rfl) fun X C E => ?_
  have C : CX X RX12 "like" prog_14_method_100_code 4 (some .int) := C
  show EV X 4 0 [(0, .ref a0), (1, .int i1), (2, .int i2)] [] 0 0 M
  unfold m_X12_like at hf
  refine ev_iload_n C dX12_like_0 rfl (q := 1) rfl ?_
  obtain ⟨x1, e2, hf⟩ := obnd hf
  refine ev_callS0 (As := [.int i1]) (st := []) C (t_X12_isTray e2) hd_X12_isTray rfl kw_1656 kw_1657 kw_87 kw_1658 (mRoom.of E (Nat.le_of_ble_eq_true rfl) (Nat.le_of_ble_eq_true rfl) (Nat.le_refl 0) (Nat.le_refl 0)) (Nat.le_of_ble_eq_true rfl) dX12_like_1 ?_
  refine ev_if_eq (tgt := 14) C dX12_like_4 (by decide) (fun hc => ?_) (fun hc => ?_)
  · have hf := oit hf hc
    refine ev_iconst (v := (-1)) C dX12_like_14 (by decide) ?_
    obtain rfl := Option.some.inj hf
    exact ev_iret C E (Nat.le_refl 0) (Nat.le_refl 0) dX12_like_15
  · have hf := oie hf hc
    refine ev_iload_n C dX12_like_7 rfl (q := 2) rfl ?_
    obtain ⟨x3, e4, hf⟩ := obnd hf
    refine ev_callS0 (As := [.int i2]) (st := []) C (t_X12_isTray e4) hd_X12_isTray rfl kw_1656 kw_1657 kw_87 kw_1658 (mRoom.of E (Nat.le_of_ble_eq_true rfl) (Nat.le_of_ble_eq_true rfl) (Nat.le_refl 0) (Nat.le_refl 0)) (Nat.le_of_ble_eq_true rfl) dX12_like_8 ?_
    refine ev_if_ne (tgt := 16) C dX12_like_11 (by decide) (fun hc => ?_) (fun hc => ?_)
    · have hf := oie hf hc
      refine ev_aload_n C dX12_like_16 rfl (q := 0) rfl ?_
      obtain ⟨x5, e6, hf⟩ := obnd hf
      refine ev_get (k := 7) C ok_12 dX12_like_17 (by decide) kw_1166 (fR_V e6) ?_
      refine ev_iload_n C dX12_like_20 rfl (q := 2) rfl ?_
      obtain ⟨x7, e8, hf⟩ := obnd hf
      refine ev_iald C dX12_like_21 e8 ?_
      refine ev_if_ge (tgt := 28) C dX12_like_22 (by decide) (fun hc => ?_) (fun hc => ?_)
      · have hf := oit hf hc
        refine ev_aload_n C dX12_like_28 rfl (q := 0) rfl ?_
        obtain ⟨x9, e10, hf⟩ := obnd hf
        refine ev_get (k := 7) C ok_12 dX12_like_29 (by decide) kw_1166 (fR_V e10) ?_
        refine ev_iload_n C dX12_like_32 rfl (q := 1) rfl ?_
        refine ev_aload_n C dX12_like_33 rfl (q := 0) rfl ?_
        obtain ⟨x11, e12, hf⟩ := obnd hf
        refine ev_get (k := 7) C ok_12 dX12_like_34 (by decide) kw_1166 (fR_V e12) ?_
        refine ev_iload_n C dX12_like_37 rfl (q := 2) rfl ?_
        obtain ⟨x13, e14, hf⟩ := obnd hf
        refine ev_iald C dX12_like_38 e14 ?_
        obtain ⟨M15, e16, hf⟩ := obnd hf
        refine ev_iast C dX12_like_39 e16 ?_
        refine ev_aload_n C dX12_like_40 rfl (q := 0) rfl ?_
        obtain ⟨x17, e18, hf⟩ := obnd hf
        refine ev_get (k := 8) C ok_12 dX12_like_41 (by decide) kw_1167 (fR_V e18) ?_
        refine ev_iload_n C dX12_like_44 rfl (q := 1) rfl ?_
        refine ev_aload_n C dX12_like_45 rfl (q := 0) rfl ?_
        obtain ⟨x19, e20, hf⟩ := obnd hf
        refine ev_get (k := 8) C ok_12 dX12_like_46 (by decide) kw_1167 (fR_V e20) ?_
        refine ev_iload_n C dX12_like_49 rfl (q := 2) rfl ?_
        obtain ⟨x21, e22, hf⟩ := obnd hf
        refine ev_iald C dX12_like_50 e22 ?_
        obtain ⟨M23, e24, hf⟩ := obnd hf
        refine ev_iast C dX12_like_51 e24 ?_
        refine ev_iconst (v := 0) C dX12_like_52 (by decide) ?_
        refine ev_istore_n (l' := [(3, .int 0), (0, .ref a0), (1, .int i1), (2, .int i2)]) C dX12_like_53 rfl (by decide) rfl ?_
        refine ev_sub [1, 2, 3, 0] rfl ?_
        exact t_X12_like_L54 C E   N a0 i1 i2 0 M23 hf
      · have hf := oie hf hc
        refine ev_bipush (v := (-11)) C dX12_like_25 (by decide) ?_
        obtain rfl := Option.some.inj hf
        exact ev_iret C E (Nat.le_refl 0) (Nat.le_refl 0) dX12_like_27
    · have hf := oit hf hc
      refine ev_iconst (v := (-1)) C dX12_like_14 (by decide) ?_
      obtain rfl := Option.some.inj hf
      exact ev_iret C E (Nat.le_refl 0) (Nat.le_refl 0) dX12_like_15
/-! FareLimitsModel list(II)I -/
theorem dX12_list_0 : decode prog_14_method_101_code 0 = .ok (.iload_n 1, 1) := by decide +kernel
theorem dX12_list_1 : decode prog_14_method_101_code 1 = .ok (.invokestatic 338, 3) := by decide +kernel
theorem dX12_list_4 : decode prog_14_method_101_code 4 = .ok (.ifCond .ne 5, 3) := by decide +kernel
theorem dX12_list_7 : decode prog_14_method_101_code 7 = .ok (.iconst (-1), 1) := by decide +kernel
theorem dX12_list_8 : decode prog_14_method_101_code 8 = .ok (.ireturn, 1) := by decide +kernel
theorem dX12_list_9 : decode prog_14_method_101_code 9 = .ok (.iload_n 2, 1) := by decide +kernel
theorem dX12_list_10 : decode prog_14_method_101_code 10 = .ok (.bipush 31, 2) := by decide +kernel
theorem dX12_list_12 : decode prog_14_method_101_code 12 = .ok (.if_icmp .le 6, 3) := by decide +kernel
theorem dX12_list_15 : decode prog_14_method_101_code 15 = .ok (.bipush (-2), 2) := by decide +kernel
theorem dX12_list_17 : decode prog_14_method_101_code 17 = .ok (.ireturn, 1) := by decide +kernel
theorem dX12_list_18 : decode prog_14_method_101_code 18 = .ok (.iload_n 2, 1) := by decide +kernel
theorem dX12_list_19 : decode prog_14_method_101_code 19 = .ok (.ifCond .ge 6, 3) := by decide +kernel
theorem dX12_list_22 : decode prog_14_method_101_code 22 = .ok (.bipush (-14), 2) := by decide +kernel
theorem dX12_list_24 : decode prog_14_method_101_code 24 = .ok (.ireturn, 1) := by decide +kernel
theorem dX12_list_25 : decode prog_14_method_101_code 25 = .ok (.aload_n 0, 1) := by decide +kernel
theorem dX12_list_26 : decode prog_14_method_101_code 26 = .ok (.getfield 33, 3) := by decide +kernel
theorem dX12_list_29 : decode prog_14_method_101_code 29 = .ok (.iload_n 1, 1) := by decide +kernel
theorem dX12_list_30 : decode prog_14_method_101_code 30 = .ok (.iload_n 2, 1) := by decide +kernel
theorem dX12_list_31 : decode prog_14_method_101_code 31 = .ok (.iastore, 1) := by decide +kernel
theorem dX12_list_32 : decode prog_14_method_101_code 32 = .ok (.iconst 0, 1) := by decide +kernel
theorem dX12_list_33 : decode prog_14_method_101_code 33 = .ok (.istore_n 3, 1) := by decide +kernel
theorem dX12_list_34 : decode prog_14_method_101_code 34 = .ok (.iload_n 3, 1) := by decide +kernel
theorem dX12_list_35 : decode prog_14_method_101_code 35 = .ok (.bipush 31, 2) := by decide +kernel
theorem dX12_list_37 : decode prog_14_method_101_code 37 = .ok (.if_icmp .ge 21, 3) := by decide +kernel
theorem dX12_list_40 : decode prog_14_method_101_code 40 = .ok (.aload_n 0, 1) := by decide +kernel
theorem dX12_list_41 : decode prog_14_method_101_code 41 = .ok (.getfield 36, 3) := by decide +kernel
theorem dX12_list_44 : decode prog_14_method_101_code 44 = .ok (.bipush 31, 2) := by decide +kernel
theorem dX12_list_46 : decode prog_14_method_101_code 46 = .ok (.iload_n 1, 1) := by decide +kernel
theorem dX12_list_47 : decode prog_14_method_101_code 47 = .ok (.imul, 1) := by decide +kernel
theorem dX12_list_48 : decode prog_14_method_101_code 48 = .ok (.iload_n 3, 1) := by decide +kernel
theorem dX12_list_49 : decode prog_14_method_101_code 49 = .ok (.iadd, 1) := by decide +kernel
theorem dX12_list_50 : decode prog_14_method_101_code 50 = .ok (.lconst 0, 1) := by decide +kernel
theorem dX12_list_51 : decode prog_14_method_101_code 51 = .ok (.lastore, 1) := by decide +kernel
theorem dX12_list_52 : decode prog_14_method_101_code 52 = .ok (.iinc 3 1, 3) := by decide +kernel
theorem dX12_list_55 : decode prog_14_method_101_code 55 = .ok (.goto (-21), 3) := by decide +kernel
theorem dX12_list_58 : decode prog_14_method_101_code 58 = .ok (.iconst 1, 1) := by decide +kernel
theorem dX12_list_59 : decode prog_14_method_101_code 59 = .ok (.ireturn, 1) := by decide +kernel
def m_X12_list_L34 (N : Nat)  : Nat → Nat → Int32 → Int32 → mM → Option (Int32 × mM)
  | 0, _, _, _, _ => none
  | n + 1, a0, i1, i3, M =>
    if 31 ≤ i3 then (
      some (1, M)) else (
      (fR M a0 12 11).bind fun x1 =>
      (uL M x1 ((31 * i1) + i3) 0).bind fun M3 =>
      (m_X12_list_L34 N  n) a0 i1 (i3 + 1) M3)
set_option maxHeartbeats 4000000 in
set_option maxRecDepth 100000 in
theorem t_X12_list_L34 {X : mX} {L0 : Launch} {res : Int32 × mM} {N : Nat} (C : CX X RX12 "list" prog_14_method_101_code 4 (some .int)) (E : EX X L0 2 45 0 0 (some (.int res.1)) res.2)   : ∀ (n : Nat) (a0 : Nat) (i1 : Int32) (i3 : Int32) (M : mM), m_X12_list_L34 N  n a0 i1 i3 M = some res → EV X 4 34 [(0, .ref a0), (1, .int i1), (3, .int i3)] [] 0 0 M := by
  intro n
  induction n with
  | zero => intro a0 i1 i3 M hf; cases (show (none : Option (Int32 × mM)) = some res from hf)
  | succ n ih =>
    intro a0 i1 i3 M hf
    rw [m_X12_list_L34] at hf
    refine ev_iload_n C dX12_list_34 rfl (q := 2) rfl ?_
    refine ev_bipush (v := 31) C dX12_list_35 (by decide) ?_
    refine ev_icmp_ge (tgt := 58) C dX12_list_37 (by decide) (fun hc => ?_) (fun hc => ?_)
    · have hf := oit hf hc
      refine ev_iconst (v := 1) C dX12_list_58 (by decide) ?_
      obtain rfl := Option.some.inj hf
      exact ev_iret C E (Nat.le_refl 0) (Nat.le_refl 0) dX12_list_59
    · have hf := oie hf hc
      refine ev_aload_n C dX12_list_40 rfl (q := 0) rfl ?_
      obtain ⟨x1, e2, hf⟩ := obnd hf
      refine ev_get (k := 11) C ok_12 dX12_list_41 (by decide) kw_1170 (fR_V e2) ?_
      refine ev_bipush (v := 31) C dX12_list_44 (by decide) ?_
      refine ev_iload_n C dX12_list_46 rfl (q := 1) rfl ?_
      refine ev_imul C dX12_list_47 ?_
      refine ev_iload_n C dX12_list_48 rfl (q := 2) rfl ?_
      refine ev_iadd C dX12_list_49 ?_
      refine ev_lconst (v := 0) C dX12_list_50 (by decide) ?_
      obtain ⟨M3, e4, hf⟩ := obnd hf
      refine ev_last C dX12_list_51 e4 ?_
      refine ev_iinc (v := i3 + 1) (l' := [(3, .int (i3 + 1)), (0, .ref a0), (1, .int i1)]) C dX12_list_52 (q := 2) rfl rfl (by decide) rfl ?_
      refine ev_goto (tgt := 34) C dX12_list_55 (by decide) ?_
      refine ev_sub [1, 2, 0] rfl ?_
      exact ih a0 i1 (i3 + 1) M3 hf
def m_X12_list (N : Nat) (a0 : Nat) (i1 : Int32) (i2 : Int32) (M : mM) : Option (Int32 × mM) :=
  (m_X12_isTray i1).bind fun x1 =>
  if x1 = 0 then (
    some ((-1), M)) else (
    if i2 ≤ 31 then (
      if 0 ≤ i2 then (
        (fR M a0 12 10).bind fun x3 =>
        (uI 0 .int M x3 i1 i2).bind fun M5 =>
        m_X12_list_L34 N  N a0 i1 0 M5) else (
        some ((-14), M))) else (
      some ((-2), M)))
set_option maxHeartbeats 4000000 in
set_option maxRecDepth 100000 in
theorem t_X12_list {L0 : Launch} {M : mM} {N : Nat} {a0 : Nat} {i1 : Int32} {i2 : Int32} {res : Int32 × mM} (hf : m_X12_list N a0 i1 i2 M = some res) : CT L0 yX12_list prog_14_method_101_code 4 (some .int) 2 45 0 0 [.ref a0, .int i1, .int i2] M (some (.int res.1)) res.2 := by
  refine CT.of (by decide +kernel) (Nat.le_of_ble_eq_true rfl) fun X C E => ?_
  have C : CX X RX12 "list" prog_14_method_101_code 4 (some .int) := C
  show EV X 4 0 [(0, .ref a0), (1, .int i1), (2, .int i2)] [] 0 0 M
  unfold m_X12_list at hf
  refine ev_iload_n C dX12_list_0 rfl (q := 1) rfl ?_
  obtain ⟨x1, e2, hf⟩ := obnd hf
  refine ev_callS0 (As := [.int i1]) (st := []) C (t_X12_isTray e2) hd_X12_isTray rfl kw_1656 kw_1657 kw_87 kw_1658 (mRoom.of E (Nat.le_of_ble_eq_true rfl) (Nat.le_of_ble_eq_true rfl) (Nat.le_refl 0) (Nat.le_refl 0)) (Nat.le_of_ble_eq_true rfl) dX12_list_1 ?_
  refine ev_if_ne (tgt := 9) C dX12_list_4 (by decide) (fun hc => ?_) (fun hc => ?_)
  · have hf := oie hf hc
    refine ev_iload_n C dX12_list_9 rfl (q := 2) rfl ?_
    refine ev_bipush (v := 31) C dX12_list_10 (by decide) ?_
    refine ev_icmp_le (tgt := 18) C dX12_list_12 (by decide) (fun hc => ?_) (fun hc => ?_)
    · have hf := oit hf hc
      refine ev_iload_n C dX12_list_18 rfl (q := 2) rfl ?_
      refine ev_if_ge (tgt := 25) C dX12_list_19 (by decide) (fun hc => ?_) (fun hc => ?_)
      · have hf := oit hf hc
        refine ev_aload_n C dX12_list_25 rfl (q := 0) rfl ?_
        obtain ⟨x3, e4, hf⟩ := obnd hf
        refine ev_get (k := 10) C ok_12 dX12_list_26 (by decide) kw_1169 (fR_V e4) ?_
        refine ev_iload_n C dX12_list_29 rfl (q := 1) rfl ?_
        refine ev_iload_n C dX12_list_30 rfl (q := 2) rfl ?_
        obtain ⟨M5, e6, hf⟩ := obnd hf
        refine ev_iast C dX12_list_31 e6 ?_
        refine ev_iconst (v := 0) C dX12_list_32 (by decide) ?_
        refine ev_istore_n (l' := [(3, .int 0), (0, .ref a0), (1, .int i1), (2, .int i2)]) C dX12_list_33 rfl (by decide) rfl ?_
        refine ev_sub [1, 2, 0] rfl ?_
        exact t_X12_list_L34 C E   N a0 i1 0 M5 hf
      · have hf := oie hf hc
        refine ev_bipush (v := (-14)) C dX12_list_22 (by decide) ?_
        obtain rfl := Option.some.inj hf
        exact ev_iret C E (Nat.le_refl 0) (Nat.le_refl 0) dX12_list_24
    · have hf := oie hf hc
      refine ev_bipush (v := (-2)) C dX12_list_15 (by decide) ?_
      obtain rfl := Option.some.inj hf
      exact ev_iret C E (Nat.le_refl 0) (Nat.le_refl 0) dX12_list_17
  · have hf := oit hf hc
    refine ev_iconst (v := (-1)) C dX12_list_7 (by decide) ?_
    obtain rfl := Option.some.inj hf
    exact ev_iret C E (Nat.le_refl 0) (Nat.le_refl 0) dX12_list_8
/-! FareLimitsModel set(IIJ)I -/
theorem dX12_set_0 : decode prog_14_method_102_code 0 = .ok (.iload_n 1, 1) := by decide +kernel
theorem dX12_set_1 : decode prog_14_method_102_code 1 = .ok (.invokestatic 338, 3) := by decide +kernel
theorem dX12_set_4 : decode prog_14_method_102_code 4 = .ok (.ifCond .ne 5, 3) := by decide +kernel
theorem dX12_set_7 : decode prog_14_method_102_code 7 = .ok (.iconst (-1), 1) := by decide +kernel
theorem dX12_set_8 : decode prog_14_method_102_code 8 = .ok (.ireturn, 1) := by decide +kernel
theorem dX12_set_9 : decode prog_14_method_102_code 9 = .ok (.aload_n 0, 1) := by decide +kernel
theorem dX12_set_10 : decode prog_14_method_102_code 10 = .ok (.getfield 33, 3) := by decide +kernel
theorem dX12_set_13 : decode prog_14_method_102_code 13 = .ok (.iload_n 1, 1) := by decide +kernel
theorem dX12_set_14 : decode prog_14_method_102_code 14 = .ok (.iaload, 1) := by decide +kernel
theorem dX12_set_15 : decode prog_14_method_102_code 15 = .ok (.ifCond .ge 6, 3) := by decide +kernel
theorem dX12_set_18 : decode prog_14_method_102_code 18 = .ok (.bipush (-11), 2) := by decide +kernel
theorem dX12_set_20 : decode prog_14_method_102_code 20 = .ok (.ireturn, 1) := by decide +kernel
theorem dX12_set_21 : decode prog_14_method_102_code 21 = .ok (.iload_n 2, 1) := by decide +kernel
theorem dX12_set_22 : decode prog_14_method_102_code 22 = .ok (.i2l, 1) := by decide +kernel
theorem dX12_set_23 : decode prog_14_method_102_code 23 = .ok (.lconst 0, 1) := by decide +kernel
theorem dX12_set_24 : decode prog_14_method_102_code 24 = .ok (.aload_n 0, 1) := by decide +kernel
theorem dX12_set_25 : decode prog_14_method_102_code 25 = .ok (.getfield 33, 3) := by decide +kernel
theorem dX12_set_28 : decode prog_14_method_102_code 28 = .ok (.iload_n 1, 1) := by decide +kernel
theorem dX12_set_29 : decode prog_14_method_102_code 29 = .ok (.iaload, 1) := by decide +kernel
theorem dX12_set_30 : decode prog_14_method_102_code 30 = .ok (.iconst 1, 1) := by decide +kernel
theorem dX12_set_31 : decode prog_14_method_102_code 31 = .ok (.isub, 1) := by decide +kernel
theorem dX12_set_32 : decode prog_14_method_102_code 32 = .ok (.i2l, 1) := by decide +kernel
theorem dX12_set_33 : decode prog_14_method_102_code 33 = .ok (.invokestatic 72, 3) := by decide +kernel
theorem dX12_set_36 : decode prog_14_method_102_code 36 = .ok (.ifCond .ne 6, 3) := by decide +kernel
theorem dX12_set_39 : decode prog_14_method_102_code 39 = .ok (.bipush (-12), 2) := by decide +kernel
theorem dX12_set_41 : decode prog_14_method_102_code 41 = .ok (.ireturn, 1) := by decide +kernel
theorem dX12_set_42 : decode prog_14_method_102_code 42 = .ok (.aload_n 0, 1) := by decide +kernel
theorem dX12_set_43 : decode prog_14_method_102_code 43 = .ok (.getfield 36, 3) := by decide +kernel
theorem dX12_set_46 : decode prog_14_method_102_code 46 = .ok (.bipush 31, 2) := by decide +kernel
theorem dX12_set_48 : decode prog_14_method_102_code 48 = .ok (.iload_n 1, 1) := by decide +kernel
theorem dX12_set_49 : decode prog_14_method_102_code 49 = .ok (.imul, 1) := by decide +kernel
theorem dX12_set_50 : decode prog_14_method_102_code 50 = .ok (.iload_n 2, 1) := by decide +kernel
theorem dX12_set_51 : decode prog_14_method_102_code 51 = .ok (.iadd, 1) := by decide +kernel
theorem dX12_set_52 : decode prog_14_method_102_code 52 = .ok (.lload_n 3, 1) := by decide +kernel
theorem dX12_set_53 : decode prog_14_method_102_code 53 = .ok (.lastore, 1) := by decide +kernel
theorem dX12_set_54 : decode prog_14_method_102_code 54 = .ok (.iconst 1, 1) := by decide +kernel
theorem dX12_set_55 : decode prog_14_method_102_code 55 = .ok (.ireturn, 1) := by decide +kernel
def m_X12_set (a0 : Nat) (i1 : Int32) (i2 : Int32) (j3 : Int64) (M : mM) : Option (Int32 × mM) :=
  (m_X12_isTray i1).bind fun x1 =>
  if x1 = 0 then (
    some ((-1), M)) else (
    (fR M a0 12 10).bind fun x3 =>
    (aI 0 M x3 i1).bind fun x5 =>
    if 0 ≤ x5 then (
      (fR M a0 12 10).bind fun x7 =>
      (aI 0 M x7 i1).bind fun x9 =>
      (m_X12_in i2.toInt64 0 ((x9 - 1).toInt64)).bind fun x11 =>
      if x11 = 0 then (
        some ((-12), M)) else (
        (fR M a0 12 11).bind fun x13 =>
        (uL M x13 ((31 * i1) + i2) j3).bind fun M15 =>
        some (1, M15))) else (
      some ((-11), M)))
set_option maxHeartbeats 4000000 in
set_option maxRecDepth 100000 in
theorem t_X12_set {L0 : Launch} {M : mM} {a0 : Nat} {i1 : Int32} {i2 : Int32} {j3 : Int64} {res : Int32 × mM} (hf : m_X12_set a0 i1 i2 j3 M = some res) : CT L0 yX12_set prog_14_method_102_code 5 (some .int) 2 45 0 0 [.ref a0, .int i1, .int i2, .long j3] M (some (.int res.1)) res.2 := by
  refine CT.of (by decide +kernel) (Nat.le_of_ble_eq_true rfl) fun X C E => ?_
  have C : CX X RX12 "set" prog_14_method_102_code 5 (some .int) := C
  show EV X 5 0 [(0, .ref a0), (1, .int i1), (2, .int i2), (3, .long j3)] [] 0 0 M
  unfold m_X12_set at hf
  refine ev_iload_n C dX12_set_0 rfl (q := 1) rfl ?_
  obtain ⟨x1, e2, hf⟩ := obnd hf
  refine ev_callS0 (As := [.int i1]) (st := []) C (t_X12_isTray e2) hd_X12_isTray rfl kw_1656 kw_1657 kw_87 kw_1658 (mRoom.of E (Nat.le_of_ble_eq_true rfl) (Nat.le_of_ble_eq_true rfl) (Nat.le_refl 0) (Nat.le_refl 0)) (Nat.le_of_ble_eq_true rfl) dX12_set_1 ?_
  refine ev_if_ne (tgt := 9) C dX12_set_4 (by decide) (fun hc => ?_) (fun hc => ?_)
  · have hf := oie hf hc
    refine ev_aload_n C dX12_set_9 rfl (q := 0) rfl ?_
    obtain ⟨x3, e4, hf⟩ := obnd hf
    refine ev_get (k := 10) C ok_12 dX12_set_10 (by decide) kw_1169 (fR_V e4) ?_
    refine ev_iload_n C dX12_set_13 rfl (q := 1) rfl ?_
    obtain ⟨x5, e6, hf⟩ := obnd hf
    refine ev_iald C dX12_set_14 e6 ?_
    refine ev_if_ge (tgt := 21) C dX12_set_15 (by decide) (fun hc => ?_) (fun hc => ?_)
    · have hf := oit hf hc
      refine ev_iload_n C dX12_set_21 rfl (q := 2) rfl ?_
      refine ev_i2l C dX12_set_22 ?_
      refine ev_lconst (v := 0) C dX12_set_23 (by decide) ?_
      refine ev_aload_n C dX12_set_24 rfl (q := 0) rfl ?_
      obtain ⟨x7, e8, hf⟩ := obnd hf
      refine ev_get (k := 10) C ok_12 dX12_set_25 (by decide) kw_1169 (fR_V e8) ?_
      refine ev_iload_n C dX12_set_28 rfl (q := 1) rfl ?_
      obtain ⟨x9, e10, hf⟩ := obnd hf
      refine ev_iald C dX12_set_29 e10 ?_
      refine ev_iconst (v := 1) C dX12_set_30 (by decide) ?_
      refine ev_isub C dX12_set_31 ?_
      refine ev_i2l C dX12_set_32 ?_
      obtain ⟨x11, e12, hf⟩ := obnd hf
      refine ev_callS0 (As := [.long i2.toInt64, .long 0, .long ((x9 - 1).toInt64)]) (st := []) C (t_X12_in e12) hd_X12_in rfl kw_1253 kw_1254 kw_87 kw_1255 (mRoom.of E (Nat.le_of_ble_eq_true rfl) (Nat.le_of_ble_eq_true rfl) (Nat.le_refl 0) (Nat.le_refl 0)) (Nat.le_of_ble_eq_true rfl) dX12_set_33 ?_
      refine ev_if_ne (tgt := 42) C dX12_set_36 (by decide) (fun hc => ?_) (fun hc => ?_)
      · have hf := oie hf hc
        refine ev_aload_n C dX12_set_42 rfl (q := 0) rfl ?_
        obtain ⟨x13, e14, hf⟩ := obnd hf
        refine ev_get (k := 11) C ok_12 dX12_set_43 (by decide) kw_1170 (fR_V e14) ?_
        refine ev_bipush (v := 31) C dX12_set_46 (by decide) ?_
        refine ev_iload_n C dX12_set_48 rfl (q := 1) rfl ?_
        refine ev_imul C dX12_set_49 ?_
        refine ev_iload_n C dX12_set_50 rfl (q := 2) rfl ?_
        refine ev_iadd C dX12_set_51 ?_
        refine ev_lload_n C dX12_set_52 rfl (q := 3) rfl ?_
        obtain ⟨M15, e16, hf⟩ := obnd hf
        refine ev_last C dX12_set_53 e16 ?_
        refine ev_iconst (v := 1) C dX12_set_54 (by decide) ?_
        obtain rfl := Option.some.inj hf
        exact ev_iret C E (Nat.le_refl 0) (Nat.le_refl 0) dX12_set_55
      · have hf := oit hf hc
        refine ev_bipush (v := (-12)) C dX12_set_39 (by decide) ?_
        obtain rfl := Option.some.inj hf
        exact ev_iret C E (Nat.le_refl 0) (Nat.le_refl 0) dX12_set_41
    · have hf := oie hf hc
      refine ev_bipush (v := (-11)) C dX12_set_18 (by decide) ?_
      obtain rfl := Option.some.inj hf
      exact ev_iret C E (Nat.le_refl 0) (Nat.le_refl 0) dX12_set_20
  · have hf := oit hf hc
    refine ev_iconst (v := (-1)) C dX12_set_7 (by decide) ?_
    obtain rfl := Option.some.inj hf
    exact ev_iret C E (Nat.le_refl 0) (Nat.le_refl 0) dX12_set_8
/-! FareLimitsModel get(II)J -/
theorem dX12_get_0 : decode prog_14_method_103_code 0 = .ok (.iload_n 1, 1) := by decide +kernel
theorem dX12_get_1 : decode prog_14_method_103_code 1 = .ok (.invokestatic 338, 3) := by decide +kernel
theorem dX12_get_4 : decode prog_14_method_103_code 4 = .ok (.ifCond .eq 35, 3) := by decide +kernel
theorem dX12_get_7 : decode prog_14_method_103_code 7 = .ok (.iload_n 2, 1) := by decide +kernel
theorem dX12_get_8 : decode prog_14_method_103_code 8 = .ok (.i2l, 1) := by decide +kernel
theorem dX12_get_9 : decode prog_14_method_103_code 9 = .ok (.lconst 0, 1) := by decide +kernel
theorem dX12_get_10 : decode prog_14_method_103_code 10 = .ok (.aload_n 0, 1) := by decide +kernel
theorem dX12_get_11 : decode prog_14_method_103_code 11 = .ok (.getfield 33, 3) := by decide +kernel
theorem dX12_get_14 : decode prog_14_method_103_code 14 = .ok (.iload_n 1, 1) := by decide +kernel
theorem dX12_get_15 : decode prog_14_method_103_code 15 = .ok (.iaload, 1) := by decide +kernel
theorem dX12_get_16 : decode prog_14_method_103_code 16 = .ok (.iconst 1, 1) := by decide +kernel
theorem dX12_get_17 : decode prog_14_method_103_code 17 = .ok (.isub, 1) := by decide +kernel
theorem dX12_get_18 : decode prog_14_method_103_code 18 = .ok (.i2l, 1) := by decide +kernel
theorem dX12_get_19 : decode prog_14_method_103_code 19 = .ok (.invokestatic 72, 3) := by decide +kernel
theorem dX12_get_22 : decode prog_14_method_103_code 22 = .ok (.ifCond .eq 17, 3) := by decide +kernel
theorem dX12_get_25 : decode prog_14_method_103_code 25 = .ok (.aload_n 0, 1) := by decide +kernel
theorem dX12_get_26 : decode prog_14_method_103_code 26 = .ok (.getfield 36, 3) := by decide +kernel
theorem dX12_get_29 : decode prog_14_method_103_code 29 = .ok (.bipush 31, 2) := by decide +kernel
theorem dX12_get_31 : decode prog_14_method_103_code 31 = .ok (.iload_n 1, 1) := by decide +kernel
theorem dX12_get_32 : decode prog_14_method_103_code 32 = .ok (.imul, 1) := by decide +kernel
theorem dX12_get_33 : decode prog_14_method_103_code 33 = .ok (.iload_n 2, 1) := by decide +kernel
theorem dX12_get_34 : decode prog_14_method_103_code 34 = .ok (.iadd, 1) := by decide +kernel
theorem dX12_get_35 : decode prog_14_method_103_code 35 = .ok (.laload, 1) := by decide +kernel
theorem dX12_get_36 : decode prog_14_method_103_code 36 = .ok (.goto 6, 3) := by decide +kernel
theorem dX12_get_39 : decode prog_14_method_103_code 39 = .ok (.ldc2_w 120, 3) := by decide +kernel
theorem dX12_get_42 : decode prog_14_method_103_code 42 = .ok (.lreturn, 1) := by decide +kernel
def m_X12_get (a0 : Nat) (i1 : Int32) (i2 : Int32) (M : mM) : Option (Int64) :=
  (m_X12_isTray i1).bind fun x1 =>
  if x1 = 0 then (
    some (-9223372036854775808)) else (
    (fR M a0 12 10).bind fun x3 =>
    (aI 0 M x3 i1).bind fun x5 =>
    (m_X12_in i2.toInt64 0 ((x5 - 1).toInt64)).bind fun x7 =>
    if x7 = 0 then (
      some (-9223372036854775808)) else (
      (fR M a0 12 11).bind fun x9 =>
      (aL M x9 ((31 * i1) + i2)).bind fun x11 =>
      some x11))
set_option maxHeartbeats 4000000 in
set_option maxRecDepth 100000 in
theorem t_X12_get {L0 : Launch} {M : mM} {a0 : Nat} {i1 : Int32} {i2 : Int32} {res : Int64} (hf : m_X12_get a0 i1 i2 M = some res) : CT L0 yX12_get prog_14_method_103_code 3 (some .long) 2 45 0 0 [.ref a0, .int i1, .int i2] M (some (.long res)) M := by
  refine CT.of (by decide +kernel) (Nat.le_of_ble_eq_true rfl) fun X C E => ?_
  have C : CX X RX12 "get" prog_14_method_103_code 3 (some .long) := C
  show EV X 3 0 [(0, .ref a0), (1, .int i1), (2, .int i2)] [] 0 0 M
  unfold m_X12_get at hf
  refine ev_iload_n C dX12_get_0 rfl (q := 1) rfl ?_
  obtain ⟨x1, e2, hf⟩ := obnd hf
  refine ev_callS0 (As := [.int i1]) (st := []) C (t_X12_isTray e2) hd_X12_isTray rfl kw_1656 kw_1657 kw_87 kw_1658 (mRoom.of E (Nat.le_of_ble_eq_true rfl) (Nat.le_of_ble_eq_true rfl) (Nat.le_refl 0) (Nat.le_refl 0)) (Nat.le_of_ble_eq_true rfl) dX12_get_1 ?_
  refine ev_if_eq (tgt := 39) C dX12_get_4 (by decide) (fun hc => ?_) (fun hc => ?_)
  · have hf := oit hf hc
    refine ev_ldc2 (v := (-9223372036854775808)) C dX12_get_39 kw_1308 ?_
    obtain rfl := Option.some.inj hf
    exact ev_lret C E (Nat.le_refl 0) (Nat.le_refl 0) dX12_get_42
  · have hf := oie hf hc
    refine ev_iload_n C dX12_get_7 rfl (q := 2) rfl ?_
    refine ev_i2l C dX12_get_8 ?_
    refine ev_lconst (v := 0) C dX12_get_9 (by decide) ?_
    refine ev_aload_n C dX12_get_10 rfl (q := 0) rfl ?_
    obtain ⟨x3, e4, hf⟩ := obnd hf
    refine ev_get (k := 10) C ok_12 dX12_get_11 (by decide) kw_1169 (fR_V e4) ?_
    refine ev_iload_n C dX12_get_14 rfl (q := 1) rfl ?_
    obtain ⟨x5, e6, hf⟩ := obnd hf
    refine ev_iald C dX12_get_15 e6 ?_
    refine ev_iconst (v := 1) C dX12_get_16 (by decide) ?_
    refine ev_isub C dX12_get_17 ?_
    refine ev_i2l C dX12_get_18 ?_
    obtain ⟨x7, e8, hf⟩ := obnd hf
    refine ev_callS0 (As := [.long i2.toInt64, .long 0, .long ((x5 - 1).toInt64)]) (st := []) C (t_X12_in e8) hd_X12_in rfl kw_1253 kw_1254 kw_87 kw_1255 (mRoom.of E (Nat.le_of_ble_eq_true rfl) (Nat.le_of_ble_eq_true rfl) (Nat.le_refl 0) (Nat.le_refl 0)) (Nat.le_of_ble_eq_true rfl) dX12_get_19 ?_
    refine ev_if_eq (tgt := 39) C dX12_get_22 (by decide) (fun hc => ?_) (fun hc => ?_)
    · have hf := oit hf hc
      refine ev_ldc2 (v := (-9223372036854775808)) C dX12_get_39 kw_1308 ?_
      obtain rfl := Option.some.inj hf
      exact ev_lret C E (Nat.le_refl 0) (Nat.le_refl 0) dX12_get_42
    · have hf := oie hf hc
      refine ev_aload_n C dX12_get_25 rfl (q := 0) rfl ?_
      obtain ⟨x9, e10, hf⟩ := obnd hf
      refine ev_get (k := 11) C ok_12 dX12_get_26 (by decide) kw_1170 (fR_V e10) ?_
      refine ev_bipush (v := 31) C dX12_get_29 (by decide) ?_
      refine ev_iload_n C dX12_get_31 rfl (q := 1) rfl ?_
      refine ev_imul C dX12_get_32 ?_
      refine ev_iload_n C dX12_get_33 rfl (q := 2) rfl ?_
      refine ev_iadd C dX12_get_34 ?_
      obtain ⟨x11, e12, hf⟩ := obnd hf
      refine ev_lald C dX12_get_35 e12 ?_
      refine ev_goto (tgt := 42) C dX12_get_36 (by decide) ?_
      obtain rfl := Option.some.inj hf
      exact ev_lret C E (Nat.le_refl 0) (Nat.le_refl 0) dX12_get_42
/-! FareLimitsModel judge(III)I -/
theorem dX12_judge_0 : decode prog_14_method_104_code 0 = .ok (.iload_n 1, 1) := by decide +kernel
theorem dX12_judge_1 : decode prog_14_method_104_code 1 = .ok (.invokestatic 111, 3) := by decide +kernel
theorem dX12_judge_4 : decode prog_14_method_104_code 4 = .ok (.ifCond .eq 10, 3) := by decide +kernel
theorem dX12_judge_7 : decode prog_14_method_104_code 7 = .ok (.iload_n 2, 1) := by decide +kernel
theorem dX12_judge_8 : decode prog_14_method_104_code 8 = .ok (.invokestatic 338, 3) := by decide +kernel
theorem dX12_judge_11 : decode prog_14_method_104_code 11 = .ok (.ifCond .ne 5, 3) := by decide +kernel
theorem dX12_judge_14 : decode prog_14_method_104_code 14 = .ok (.iconst (-1), 1) := by decide +kernel
theorem dX12_judge_15 : decode prog_14_method_104_code 15 = .ok (.ireturn, 1) := by decide +kernel
theorem dX12_judge_16 : decode prog_14_method_104_code 16 = .ok (.aload_n 0, 1) := by decide +kernel
theorem dX12_judge_17 : decode prog_14_method_104_code 17 = .ok (.getfield 33, 3) := by decide +kernel
theorem dX12_judge_20 : decode prog_14_method_104_code 20 = .ok (.iload_n 2, 1) := by decide +kernel
theorem dX12_judge_21 : decode prog_14_method_104_code 21 = .ok (.iaload, 1) := by decide +kernel
theorem dX12_judge_22 : decode prog_14_method_104_code 22 = .ok (.ifCond .ge 6, 3) := by decide +kernel
theorem dX12_judge_25 : decode prog_14_method_104_code 25 = .ok (.bipush (-11), 2) := by decide +kernel
theorem dX12_judge_27 : decode prog_14_method_104_code 27 = .ok (.ireturn, 1) := by decide +kernel
theorem dX12_judge_28 : decode prog_14_method_104_code 28 = .ok (.iload_n 3, 1) := by decide +kernel
theorem dX12_judge_29 : decode prog_14_method_104_code 29 = .ok (.i2l, 1) := by decide +kernel
theorem dX12_judge_30 : decode prog_14_method_104_code 30 = .ok (.lconst 0, 1) := by decide +kernel
theorem dX12_judge_31 : decode prog_14_method_104_code 31 = .ok (.aload_n 0, 1) := by decide +kernel
theorem dX12_judge_32 : decode prog_14_method_104_code 32 = .ok (.getfield 33, 3) := by decide +kernel
theorem dX12_judge_35 : decode prog_14_method_104_code 35 = .ok (.iload_n 2, 1) := by decide +kernel
theorem dX12_judge_36 : decode prog_14_method_104_code 36 = .ok (.iaload, 1) := by decide +kernel
theorem dX12_judge_37 : decode prog_14_method_104_code 37 = .ok (.i2l, 1) := by decide +kernel
theorem dX12_judge_38 : decode prog_14_method_104_code 38 = .ok (.invokestatic 72, 3) := by decide +kernel
theorem dX12_judge_41 : decode prog_14_method_104_code 41 = .ok (.ifCond .ne 6, 3) := by decide +kernel
theorem dX12_judge_44 : decode prog_14_method_104_code 44 = .ok (.bipush (-12), 2) := by decide +kernel
theorem dX12_judge_46 : decode prog_14_method_104_code 46 = .ok (.ireturn, 1) := by decide +kernel
theorem dX12_judge_47 : decode prog_14_method_104_code 47 = .ok (.aload_n 0, 1) := by decide +kernel
theorem dX12_judge_48 : decode prog_14_method_104_code 48 = .ok (.iload_n 1, 1) := by decide +kernel
theorem dX12_judge_49 : decode prog_14_method_104_code 49 = .ok (.invokevirtual 140, 3) := by decide +kernel
theorem dX12_judge_52 : decode prog_14_method_104_code 52 = .ok (.iconst 0, 1) := by decide +kernel
theorem dX12_judge_53 : decode prog_14_method_104_code 53 = .ok (.istore 4, 2) := by decide +kernel
theorem dX12_judge_55 : decode prog_14_method_104_code 55 = .ok (.iload 4, 2) := by decide +kernel
theorem dX12_judge_57 : decode prog_14_method_104_code 57 = .ok (.aload_n 0, 1) := by decide +kernel
theorem dX12_judge_58 : decode prog_14_method_104_code 58 = .ok (.getfield 9, 3) := by decide +kernel
theorem dX12_judge_61 : decode prog_14_method_104_code 61 = .ok (.iconst 1, 1) := by decide +kernel
theorem dX12_judge_62 : decode prog_14_method_104_code 62 = .ok (.iaload, 1) := by decide +kernel
theorem dX12_judge_63 : decode prog_14_method_104_code 63 = .ok (.if_icmp .gt 59, 3) := by decide +kernel
theorem dX12_judge_66 : decode prog_14_method_104_code 66 = .ok (.iload_n 3, 1) := by decide +kernel
theorem dX12_judge_67 : decode prog_14_method_104_code 67 = .ok (.iload 4, 2) := by decide +kernel
theorem dX12_judge_69 : decode prog_14_method_104_code 69 = .ok (.iadd, 1) := by decide +kernel
theorem dX12_judge_70 : decode prog_14_method_104_code 70 = .ok (.aload_n 0, 1) := by decide +kernel
theorem dX12_judge_71 : decode prog_14_method_104_code 71 = .ok (.getfield 33, 3) := by decide +kernel
theorem dX12_judge_74 : decode prog_14_method_104_code 74 = .ok (.iload_n 2, 1) := by decide +kernel
theorem dX12_judge_75 : decode prog_14_method_104_code 75 = .ok (.iaload, 1) := by decide +kernel
theorem dX12_judge_76 : decode prog_14_method_104_code 76 = .ok (.if_icmp .lt 9, 3) := by decide +kernel
theorem dX12_judge_79 : decode prog_14_method_104_code 79 = .ok (.bipush 100, 2) := by decide +kernel
theorem dX12_judge_81 : decode prog_14_method_104_code 81 = .ok (.iload 4, 2) := by decide +kernel
theorem dX12_judge_83 : decode prog_14_method_104_code 83 = .ok (.iadd, 1) := by decide +kernel
theorem dX12_judge_84 : decode prog_14_method_104_code 84 = .ok (.ireturn, 1) := by decide +kernel
theorem dX12_judge_85 : decode prog_14_method_104_code 85 = .ok (.aload_n 0, 1) := by decide +kernel
theorem dX12_judge_86 : decode prog_14_method_104_code 86 = .ok (.getfield 36, 3) := by decide +kernel
theorem dX12_judge_89 : decode prog_14_method_104_code 89 = .ok (.bipush 31, 2) := by decide +kernel
theorem dX12_judge_91 : decode prog_14_method_104_code 91 = .ok (.iload_n 2, 1) := by decide +kernel
theorem dX12_judge_92 : decode prog_14_method_104_code 92 = .ok (.imul, 1) := by decide +kernel
theorem dX12_judge_93 : decode prog_14_method_104_code 93 = .ok (.iload_n 3, 1) := by decide +kernel
theorem dX12_judge_94 : decode prog_14_method_104_code 94 = .ok (.iadd, 1) := by decide +kernel
theorem dX12_judge_95 : decode prog_14_method_104_code 95 = .ok (.iload 4, 2) := by decide +kernel
theorem dX12_judge_97 : decode prog_14_method_104_code 97 = .ok (.iadd, 1) := by decide +kernel
theorem dX12_judge_98 : decode prog_14_method_104_code 98 = .ok (.laload, 1) := by decide +kernel
theorem dX12_judge_99 : decode prog_14_method_104_code 99 = .ok (.aload_n 0, 1) := by decide +kernel
theorem dX12_judge_100 : decode prog_14_method_104_code 100 = .ok (.iload_n 1, 1) := by decide +kernel
theorem dX12_judge_101 : decode prog_14_method_104_code 101 = .ok (.iload 4, 2) := by decide +kernel
theorem dX12_judge_103 : decode prog_14_method_104_code 103 = .ok (.invokevirtual 126, 3) := by decide +kernel
theorem dX12_judge_106 : decode prog_14_method_104_code 106 = .ok (.invokestatic 114, 3) := by decide +kernel
theorem dX12_judge_109 : decode prog_14_method_104_code 109 = .ok (.lcmp, 1) := by decide +kernel
theorem dX12_judge_110 : decode prog_14_method_104_code 110 = .ok (.ifCond .eq 6, 3) := by decide +kernel
theorem dX12_judge_113 : decode prog_14_method_104_code 113 = .ok (.iload 4, 2) := by decide +kernel
theorem dX12_judge_115 : decode prog_14_method_104_code 115 = .ok (.ireturn, 1) := by decide +kernel
theorem dX12_judge_116 : decode prog_14_method_104_code 116 = .ok (.iinc 4 1, 3) := by decide +kernel
theorem dX12_judge_119 : decode prog_14_method_104_code 119 = .ok (.goto (-64), 3) := by decide +kernel
theorem dX12_judge_122 : decode prog_14_method_104_code 122 = .ok (.bipush (-5), 2) := by decide +kernel
theorem dX12_judge_124 : decode prog_14_method_104_code 124 = .ok (.ireturn, 1) := by decide +kernel
def m_X12_judge_L55 (N : Nat)  : Nat → Nat → Int32 → Int32 → Int32 → Int32 → mM → Option (Int32 × mM)
  | 0, _, _, _, _, _, _ => none
  | n + 1, a0, i1, i2, i3, i4, M =>
    (fR M a0 12 0).bind fun x1 =>
    (aI 0 M x1 1).bind fun x3 =>
    if x3 < i4 then (
      some ((-5), M)) else (
      (fR M a0 12 10).bind fun x5 =>
      (aI 0 M x5 i2).bind fun x7 =>
      if (i3 + i4) < x7 then (
        (fR M a0 12 11).bind fun x9 =>
        (aL M x9 (((31 * i2) + i3) + i4)).bind fun x11 =>
        (oO M a0 12).bind fun _ =>
        (m_X12_worthOf a0 i1 i4 M).bind fun x15 =>
        (m_Jxe99ae_doubleToLongBits_ccdee x15).bind fun x17 =>
        if (lg_cmp x11 x17) = 0 then (
          (m_X12_judge_L55 N  n) a0 i1 i2 i3 (i4 + 1) M) else (
          some (i4, M))) else (
        some (100 + i4, M)))
set_option maxHeartbeats 4000000 in
set_option maxRecDepth 100000 in
theorem t_X12_judge_L55 {X : mX} {L0 : Launch} {res : Int32 × mM} {N : Nat} (C : CX X RX12 "judge" prog_14_method_104_code 5 (some .int)) (E : EX X L0 4 103 0 0 (some (.int res.1)) res.2)   : ∀ (n : Nat) (a0 : Nat) (i1 : Int32) (i2 : Int32) (i3 : Int32) (i4 : Int32) (M : mM), m_X12_judge_L55 N  n a0 i1 i2 i3 i4 M = some res → EV X 5 55 [(0, .ref a0), (1, .int i1), (2, .int i2), (3, .int i3), (4, .int i4)] [] 0 0 M := by
  intro n
  induction n with
  | zero => intro a0 i1 i2 i3 i4 M hf; cases (show (none : Option (Int32 × mM)) = some res from hf)
  | succ n ih =>
    intro a0 i1 i2 i3 i4 M hf
    rw [m_X12_judge_L55] at hf
    refine ev_iload C dX12_judge_55 (q := 4) rfl ?_
    refine ev_aload_n C dX12_judge_57 rfl (q := 0) rfl ?_
    obtain ⟨x1, e2, hf⟩ := obnd hf
    refine ev_get (k := 0) C ok_12 dX12_judge_58 (by decide) kw_1159 (fR_V e2) ?_
    refine ev_iconst (v := 1) C dX12_judge_61 (by decide) ?_
    obtain ⟨x3, e4, hf⟩ := obnd hf
    refine ev_iald C dX12_judge_62 e4 ?_
    refine ev_icmp_gt (tgt := 122) C dX12_judge_63 (by decide) (fun hc => ?_) (fun hc => ?_)
    · have hf := oit hf hc
      refine ev_bipush (v := (-5)) C dX12_judge_122 (by decide) ?_
      obtain rfl := Option.some.inj hf
      exact ev_iret C E (Nat.le_refl 0) (Nat.le_refl 0) dX12_judge_124
    · have hf := oie hf hc
      refine ev_iload_n C dX12_judge_66 rfl (q := 3) rfl ?_
      refine ev_iload C dX12_judge_67 (q := 4) rfl ?_
      refine ev_iadd C dX12_judge_69 ?_
      refine ev_aload_n C dX12_judge_70 rfl (q := 0) rfl ?_
      obtain ⟨x5, e6, hf⟩ := obnd hf
      refine ev_get (k := 10) C ok_12 dX12_judge_71 (by decide) kw_1169 (fR_V e6) ?_
      refine ev_iload_n C dX12_judge_74 rfl (q := 2) rfl ?_
      obtain ⟨x7, e8, hf⟩ := obnd hf
      refine ev_iald C dX12_judge_75 e8 ?_
      refine ev_icmp_lt (tgt := 85) C dX12_judge_76 (by decide) (fun hc => ?_) (fun hc => ?_)
      · have hf := oit hf hc
        refine ev_aload_n C dX12_judge_85 rfl (q := 0) rfl ?_
        obtain ⟨x9, e10, hf⟩ := obnd hf
        refine ev_get (k := 11) C ok_12 dX12_judge_86 (by decide) kw_1170 (fR_V e10) ?_
        refine ev_bipush (v := 31) C dX12_judge_89 (by decide) ?_
        refine ev_iload_n C dX12_judge_91 rfl (q := 2) rfl ?_
        refine ev_imul C dX12_judge_92 ?_
        refine ev_iload_n C dX12_judge_93 rfl (q := 3) rfl ?_
        refine ev_iadd C dX12_judge_94 ?_
        refine ev_iload C dX12_judge_95 (q := 4) rfl ?_
        refine ev_iadd C dX12_judge_97 ?_
        obtain ⟨x11, e12, hf⟩ := obnd hf
        refine ev_lald C dX12_judge_98 e12 ?_
        refine ev_aload_n C dX12_judge_99 rfl (q := 0) rfl ?_
        refine ev_iload_n C dX12_judge_100 rfl (q := 1) rfl ?_
        refine ev_iload C dX12_judge_101 (q := 4) rfl ?_
        obtain ⟨_, e13, hf⟩ := obnd hf
        obtain ⟨fs14, e13⟩ := oO_eq e13
        obtain ⟨x15, e16, hf⟩ := obnd hf
        refine ev_callV0 (As := [.int i1, .int i4]) (st := [.long x11]) C rfl e13 (t_X12_worthOf e16) rfl hd_X12_worthOf rfl kw_1338 kw_1340 kw_87 kw_26 kw_1341 (mRoom.of E (Nat.le_of_ble_eq_true rfl) (Nat.le_of_ble_eq_true rfl) (Nat.le_refl 0) (Nat.le_refl 0)) (Nat.le_of_ble_eq_true rfl) dX12_judge_103 ?_
        obtain ⟨x17, e18, hf⟩ := obnd hf
        refine ev_callS0 (As := [.double x15]) (st := [.long x11]) C (t_Jxe99ae_doubleToLongBits_ccdee e18) hd_Jxe99ae_doubleToLongBits_ccdee rfl kw_1298 kw_1299 kw_89 kw_1300 (mRoom.of E (Nat.le_of_ble_eq_true rfl) (Nat.le_of_ble_eq_true rfl) (Nat.le_refl 0) (Nat.le_refl 0)) (Nat.le_of_ble_eq_true rfl) dX12_judge_106 ?_
        refine ev_lcmp C dX12_judge_109 ?_
        refine ev_if_eq (tgt := 116) C dX12_judge_110 (by decide) (fun hc => ?_) (fun hc => ?_)
        · have hf := oit hf hc
          refine ev_iinc (v := i4 + 1) (l' := [(4, .int (i4 + 1)), (0, .ref a0), (1, .int i1), (2, .int i2), (3, .int i3)]) C dX12_judge_116 (q := 4) rfl rfl (by decide) rfl ?_
          refine ev_goto (tgt := 55) C dX12_judge_119 (by decide) ?_
          refine ev_sub [1, 2, 3, 4, 0] rfl ?_
          exact ih a0 i1 i2 i3 (i4 + 1) M hf
        · have hf := oie hf hc
          refine ev_iload C dX12_judge_113 (q := 4) rfl ?_
          obtain rfl := Option.some.inj hf
          exact ev_iret C E (Nat.le_refl 0) (Nat.le_refl 0) dX12_judge_115
      · have hf := oie hf hc
        refine ev_bipush (v := 100) C dX12_judge_79 (by decide) ?_
        refine ev_iload C dX12_judge_81 (q := 4) rfl ?_
        refine ev_iadd C dX12_judge_83 ?_
        obtain rfl := Option.some.inj hf
        exact ev_iret C E (Nat.le_refl 0) (Nat.le_refl 0) dX12_judge_84
def m_X12_judge (N : Nat) (a0 : Nat) (i1 : Int32) (i2 : Int32) (i3 : Int32) (M : mM) : Option (Int32 × mM) :=
  (m_X12_isStage i1).bind fun x1 =>
  if x1 = 0 then (
    some ((-1), M)) else (
    (m_X12_isTray i2).bind fun x3 =>
    if x3 = 0 then (
      some ((-1), M)) else (
      (fR M a0 12 10).bind fun x5 =>
      (aI 0 M x5 i2).bind fun x7 =>
      if 0 ≤ x7 then (
        (fR M a0 12 10).bind fun x9 =>
        (aI 0 M x9 i2).bind fun x11 =>
        (m_X12_in i3.toInt64 0 x11.toInt64).bind fun x13 =>
        if x13 = 0 then (
          some ((-12), M)) else (
          (oO M a0 12).bind fun _ =>
          (m_X12_reckons N a0 i1 M).bind fun x17 =>
          m_X12_judge_L55 N  N a0 i1 i2 i3 0 x17)) else (
        some ((-11), M))))
set_option maxHeartbeats 4000000 in
set_option maxRecDepth 100000 in
theorem t_X12_judge {L0 : Launch} {M : mM} {N : Nat} {a0 : Nat} {i1 : Int32} {i2 : Int32} {i3 : Int32} {res : Int32 × mM} (hf : m_X12_judge N a0 i1 i2 i3 M = some res) : CT L0 yX12_judge prog_14_method_104_code 5 (some .int) 4 103 0 0 [.ref a0, .int i1, .int i2, .int i3] M (some (.int res.1)) res.2 := by
  refine CT.of (by decide +kernel) (Nat.le_of_ble_eq_true rfl) fun X C E => ?_
  have C : CX X RX12 "judge" prog_14_method_104_code 5 (some .int) := C
  show EV X 5 0 [(0, .ref a0), (1, .int i1), (2, .int i2), (3, .int i3)] [] 0 0 M
  unfold m_X12_judge at hf
  refine ev_iload_n C dX12_judge_0 rfl (q := 1) rfl ?_
  obtain ⟨x1, e2, hf⟩ := obnd hf
  refine ev_callS0 (As := [.int i1]) (st := []) C (t_X12_isStage e2) hd_X12_isStage rfl kw_1289 kw_1290 kw_87 kw_1291 (mRoom.of E (Nat.le_of_ble_eq_true rfl) (Nat.le_of_ble_eq_true rfl) (Nat.le_refl 0) (Nat.le_refl 0)) (Nat.le_of_ble_eq_true rfl) dX12_judge_1 ?_
  refine ev_if_eq (tgt := 14) C dX12_judge_4 (by decide) (fun hc => ?_) (fun hc => ?_)
  · have hf := oit hf hc
    refine ev_iconst (v := (-1)) C dX12_judge_14 (by decide) ?_
    obtain rfl := Option.some.inj hf
    exact ev_iret C E (Nat.le_refl 0) (Nat.le_refl 0) dX12_judge_15
  · have hf := oie hf hc
    refine ev_iload_n C dX12_judge_7 rfl (q := 2) rfl ?_
    obtain ⟨x3, e4, hf⟩ := obnd hf
    refine ev_callS0 (As := [.int i2]) (st := []) C (t_X12_isTray e4) hd_X12_isTray rfl kw_1656 kw_1657 kw_87 kw_1658 (mRoom.of E (Nat.le_of_ble_eq_true rfl) (Nat.le_of_ble_eq_true rfl) (Nat.le_refl 0) (Nat.le_refl 0)) (Nat.le_of_ble_eq_true rfl) dX12_judge_8 ?_
    refine ev_if_ne (tgt := 16) C dX12_judge_11 (by decide) (fun hc => ?_) (fun hc => ?_)
    · have hf := oie hf hc
      refine ev_aload_n C dX12_judge_16 rfl (q := 0) rfl ?_
      obtain ⟨x5, e6, hf⟩ := obnd hf
      refine ev_get (k := 10) C ok_12 dX12_judge_17 (by decide) kw_1169 (fR_V e6) ?_
      refine ev_iload_n C dX12_judge_20 rfl (q := 2) rfl ?_
      obtain ⟨x7, e8, hf⟩ := obnd hf
      refine ev_iald C dX12_judge_21 e8 ?_
      refine ev_if_ge (tgt := 28) C dX12_judge_22 (by decide) (fun hc => ?_) (fun hc => ?_)
      · have hf := oit hf hc
        refine ev_iload_n C dX12_judge_28 rfl (q := 3) rfl ?_
        refine ev_i2l C dX12_judge_29 ?_
        refine ev_lconst (v := 0) C dX12_judge_30 (by decide) ?_
        refine ev_aload_n C dX12_judge_31 rfl (q := 0) rfl ?_
        obtain ⟨x9, e10, hf⟩ := obnd hf
        refine ev_get (k := 10) C ok_12 dX12_judge_32 (by decide) kw_1169 (fR_V e10) ?_
        refine ev_iload_n C dX12_judge_35 rfl (q := 2) rfl ?_
        obtain ⟨x11, e12, hf⟩ := obnd hf
        refine ev_iald C dX12_judge_36 e12 ?_
        refine ev_i2l C dX12_judge_37 ?_
        obtain ⟨x13, e14, hf⟩ := obnd hf
        refine ev_callS0 (As := [.long i3.toInt64, .long 0, .long x11.toInt64]) (st := []) C (t_X12_in e14) hd_X12_in rfl kw_1253 kw_1254 kw_87 kw_1255 (mRoom.of E (Nat.le_of_ble_eq_true rfl) (Nat.le_of_ble_eq_true rfl) (Nat.le_refl 0) (Nat.le_refl 0)) (Nat.le_of_ble_eq_true rfl) dX12_judge_38 ?_
        refine ev_if_ne (tgt := 47) C dX12_judge_41 (by decide) (fun hc => ?_) (fun hc => ?_)
        · have hf := oie hf hc
          refine ev_aload_n C dX12_judge_47 rfl (q := 0) rfl ?_
          refine ev_iload_n C dX12_judge_48 rfl (q := 1) rfl ?_
          obtain ⟨_, e15, hf⟩ := obnd hf
          obtain ⟨fs16, e15⟩ := oO_eq e15
          obtain ⟨x17, e18, hf⟩ := obnd hf
          refine ev_callV0 (As := [.int i1]) (st := []) C rfl e15 (t_X12_reckons e18) rfl hd_X12_reckons rfl kw_1334 kw_1336 kw_87 kw_25 kw_1337 (mRoom.of E (Nat.le_of_ble_eq_true rfl) (Nat.le_of_ble_eq_true rfl) (Nat.le_refl 0) (Nat.le_refl 0)) (Nat.le_of_ble_eq_true rfl) dX12_judge_49 ?_
          refine ev_iconst (v := 0) C dX12_judge_52 (by decide) ?_
          refine ev_istore (l' := [(4, .int 0), (0, .ref a0), (1, .int i1), (2, .int i2), (3, .int i3)]) C dX12_judge_53 (by decide) rfl ?_
          refine ev_sub [1, 2, 3, 4, 0] rfl ?_
          exact t_X12_judge_L55 C E   N a0 i1 i2 i3 0 x17 hf
        · have hf := oit hf hc
          refine ev_bipush (v := (-12)) C dX12_judge_44 (by decide) ?_
          obtain rfl := Option.some.inj hf
          exact ev_iret C E (Nat.le_refl 0) (Nat.le_refl 0) dX12_judge_46
      · have hf := oie hf hc
        refine ev_bipush (v := (-11)) C dX12_judge_25 (by decide) ?_
        obtain rfl := Option.some.inj hf
        exact ev_iret C E (Nat.le_refl 0) (Nat.le_refl 0) dX12_judge_27
    · have hf := oit hf hc
      refine ev_iconst (v := (-1)) C dX12_judge_14 (by decide) ?_
      obtain rfl := Option.some.inj hf
      exact ev_iret C E (Nat.le_refl 0) (Nat.le_refl 0) dX12_judge_15
/-! FareLimitsModel image()I -/
theorem dX12_image_0 : decode prog_14_method_105_code 0 = .ok (.aload_n 0, 1) := by decide +kernel
theorem dX12_image_1 : decode prog_14_method_105_code 1 = .ok (.getfield 9, 3) := by decide +kernel
theorem dX12_image_4 : decode prog_14_method_105_code 4 = .ok (.aload_n 0, 1) := by decide +kernel
theorem dX12_image_5 : decode prog_14_method_105_code 5 = .ok (.getfield 15, 3) := by decide +kernel
theorem dX12_image_8 : decode prog_14_method_105_code 8 = .ok (.invokestatic 293, 3) := by decide +kernel
theorem dX12_image_11 : decode prog_14_method_105_code 11 = .ok (.aload_n 0, 1) := by decide +kernel
theorem dX12_image_12 : decode prog_14_method_105_code 12 = .ok (.iconst 1, 1) := by decide +kernel
theorem dX12_image_13 : decode prog_14_method_105_code 13 = .ok (.putfield 347, 3) := by decide +kernel
theorem dX12_image_16 : decode prog_14_method_105_code 16 = .ok (.aload_n 0, 1) := by decide +kernel
theorem dX12_image_17 : decode prog_14_method_105_code 17 = .ok (.getfield 9, 3) := by decide +kernel
theorem dX12_image_20 : decode prog_14_method_105_code 20 = .ok (.iconst 0, 1) := by decide +kernel
theorem dX12_image_21 : decode prog_14_method_105_code 21 = .ok (.iaload, 1) := by decide +kernel
theorem dX12_image_22 : decode prog_14_method_105_code 22 = .ok (.ireturn, 1) := by decide +kernel
def m_X12_image (N : Nat) (a0 : Nat) (M : mM) : Option (Int32 × mM) :=
  (fR M a0 12 0).bind fun x1 =>
  (fR M a0 12 1).bind fun x3 =>
  (m_X12_pours N x1 x3 M).bind fun x5 =>
  (sZ x5 a0 12 2 1).bind fun M7 =>
  (fR M7 a0 12 0).bind fun x9 =>
  (aI 0 M7 x9 0).bind fun x11 =>
  some (x11, M7)
set_option maxHeartbeats 4000000 in
set_option maxRecDepth 100000 in
theorem t_X12_image {L0 : Launch} {M : mM} {N : Nat} {a0 : Nat} {res : Int32 × mM} (hf : m_X12_image N a0 M = some res) : CT L0 yX12_image prog_14_method_105_code 1 (some .int) 1 22 0 0 [.ref a0] M (some (.int res.1)) res.2 := by
  refine CT.of (by decide +kernel) (Nat.le_of_ble_eq_true rfl) fun X C E => ?_
  have C : CX X RX12 "image" prog_14_method_105_code 1 (some .int) := C
  show EV X 1 0 [(0, .ref a0)] [] 0 0 M
  unfold m_X12_image at hf
  refine ev_aload_n C dX12_image_0 rfl (q := 0) rfl ?_
  obtain ⟨x1, e2, hf⟩ := obnd hf
  refine ev_get (k := 0) C ok_12 dX12_image_1 (by decide) kw_1159 (fR_V e2) ?_
  refine ev_aload_n C dX12_image_4 rfl (q := 0) rfl ?_
  obtain ⟨x3, e4, hf⟩ := obnd hf
  refine ev_get (k := 1) C ok_12 dX12_image_5 (by decide) kw_1160 (fR_V e4) ?_
  obtain ⟨x5, e6, hf⟩ := obnd hf
  refine ev_callS0 (As := [.ref x1, .ref x3]) (st := []) C (t_X12_pours e6) hd_X12_pours rfl kw_1556 kw_1557 kw_87 kw_1558 (mRoom.of E (Nat.le_of_ble_eq_true rfl) (Nat.le_of_ble_eq_true rfl) (Nat.le_refl 0) (Nat.le_refl 0)) (Nat.le_of_ble_eq_true rfl) dX12_image_8 ?_
  refine ev_aload_n C dX12_image_11 rfl (q := 0) rfl ?_
  refine ev_iconst (v := 1) C dX12_image_12 (by decide) ?_
  obtain ⟨M7, e8, hf⟩ := obnd hf
  refine ev_put (k := 2) C ok_12 dX12_image_13 (by decide) kw_1161 rfl (sZ_fit e8) (sZ_V e8) ?_
  refine ev_aload_n C dX12_image_16 rfl (q := 0) rfl ?_
  obtain ⟨x9, e10, hf⟩ := obnd hf
  refine ev_get (k := 0) C ok_12 dX12_image_17 (by decide) kw_1159 (fR_V e10) ?_
  refine ev_iconst (v := 0) C dX12_image_20 (by decide) ?_
  obtain ⟨x11, e12, hf⟩ := obnd hf
  refine ev_iald C dX12_image_21 e12 ?_
  obtain rfl := Option.some.inj hf
  exact ev_iret C E (Nat.le_refl 0) (Nat.le_refl 0) dX12_image_22
/-! FareLimitsModel undo()I -/
theorem dX12_undo_0 : decode prog_14_method_106_code 0 = .ok (.aload_n 0, 1) := by decide +kernel
theorem dX12_undo_1 : decode prog_14_method_106_code 1 = .ok (.getfield 347, 3) := by decide +kernel
theorem dX12_undo_4 : decode prog_14_method_106_code 4 = .ok (.ifCond .ne 6, 3) := by decide +kernel
theorem dX12_undo_7 : decode prog_14_method_106_code 7 = .ok (.bipush (-3), 2) := by decide +kernel
theorem dX12_undo_9 : decode prog_14_method_106_code 9 = .ok (.ireturn, 1) := by decide +kernel
theorem dX12_undo_10 : decode prog_14_method_106_code 10 = .ok (.aload_n 0, 1) := by decide +kernel
theorem dX12_undo_11 : decode prog_14_method_106_code 11 = .ok (.getfield 15, 3) := by decide +kernel
theorem dX12_undo_14 : decode prog_14_method_106_code 14 = .ok (.aload_n 0, 1) := by decide +kernel
theorem dX12_undo_15 : decode prog_14_method_106_code 15 = .ok (.getfield 9, 3) := by decide +kernel
theorem dX12_undo_18 : decode prog_14_method_106_code 18 = .ok (.invokestatic 293, 3) := by decide +kernel
theorem dX12_undo_21 : decode prog_14_method_106_code 21 = .ok (.aload_n 0, 1) := by decide +kernel
theorem dX12_undo_22 : decode prog_14_method_106_code 22 = .ok (.getfield 9, 3) := by decide +kernel
theorem dX12_undo_25 : decode prog_14_method_106_code 25 = .ok (.iconst 0, 1) := by decide +kernel
theorem dX12_undo_26 : decode prog_14_method_106_code 26 = .ok (.iaload, 1) := by decide +kernel
theorem dX12_undo_27 : decode prog_14_method_106_code 27 = .ok (.ireturn, 1) := by decide +kernel
def m_X12_undo (N : Nat) (a0 : Nat) (M : mM) : Option (Int32 × mM) :=
  (fI M a0 12 2).bind fun x1 =>
  if x1 = 0 then (
    some ((-3), M)) else (
    (fR M a0 12 1).bind fun x3 =>
    (fR M a0 12 0).bind fun x5 =>
    (m_X12_pours N x3 x5 M).bind fun x7 =>
    (fR x7 a0 12 0).bind fun x9 =>
    (aI 0 x7 x9 0).bind fun x11 =>
    some (x11, x7))
set_option maxHeartbeats 4000000 in
set_option maxRecDepth 100000 in
theorem t_X12_undo {L0 : Launch} {M : mM} {N : Nat} {a0 : Nat} {res : Int32 × mM} (hf : m_X12_undo N a0 M = some res) : CT L0 yX12_undo prog_14_method_106_code 1 (some .int) 1 22 0 0 [.ref a0] M (some (.int res.1)) res.2 := by
  refine CT.of (by decide +kernel) (Nat.le_of_ble_eq_true rfl) fun X C E => ?_
  have C : CX X RX12 "undo" prog_14_method_106_code 1 (some .int) := C
  show EV X 1 0 [(0, .ref a0)] [] 0 0 M
  unfold m_X12_undo at hf
  refine ev_aload_n C dX12_undo_0 rfl (q := 0) rfl ?_
  obtain ⟨x1, e2, hf⟩ := obnd hf
  refine ev_get (k := 2) C ok_12 dX12_undo_1 (by decide) kw_1161 (fI_V e2) ?_
  refine ev_if_ne (tgt := 10) C dX12_undo_4 (by decide) (fun hc => ?_) (fun hc => ?_)
  · have hf := oie hf hc
    refine ev_aload_n C dX12_undo_10 rfl (q := 0) rfl ?_
    obtain ⟨x3, e4, hf⟩ := obnd hf
    refine ev_get (k := 1) C ok_12 dX12_undo_11 (by decide) kw_1160 (fR_V e4) ?_
    refine ev_aload_n C dX12_undo_14 rfl (q := 0) rfl ?_
    obtain ⟨x5, e6, hf⟩ := obnd hf
    refine ev_get (k := 0) C ok_12 dX12_undo_15 (by decide) kw_1159 (fR_V e6) ?_
    obtain ⟨x7, e8, hf⟩ := obnd hf
    refine ev_callS0 (As := [.ref x3, .ref x5]) (st := []) C (t_X12_pours e8) hd_X12_pours rfl kw_1556 kw_1557 kw_87 kw_1558 (mRoom.of E (Nat.le_of_ble_eq_true rfl) (Nat.le_of_ble_eq_true rfl) (Nat.le_refl 0) (Nat.le_refl 0)) (Nat.le_of_ble_eq_true rfl) dX12_undo_18 ?_
    refine ev_aload_n C dX12_undo_21 rfl (q := 0) rfl ?_
    obtain ⟨x9, e10, hf⟩ := obnd hf
    refine ev_get (k := 0) C ok_12 dX12_undo_22 (by decide) kw_1159 (fR_V e10) ?_
    refine ev_iconst (v := 0) C dX12_undo_25 (by decide) ?_
    obtain ⟨x11, e12, hf⟩ := obnd hf
    refine ev_iald C dX12_undo_26 e12 ?_
    obtain rfl := Option.some.inj hf
    exact ev_iret C E (Nat.le_refl 0) (Nat.le_refl 0) dX12_undo_27
  · have hf := oit hf hc
    refine ev_bipush (v := (-3)) C dX12_undo_7 (by decide) ?_
    obtain rfl := Option.some.inj hf
    exact ev_iret C E (Nat.le_refl 0) (Nat.le_refl 0) dX12_undo_9
