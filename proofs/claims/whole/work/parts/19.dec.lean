/-! FareLimitsModel feed(I)I -/
theorem dX12_feed_0 : decode prog_14_method_68_code 0 = .ok (.iload_n 1, 1) := by decide +kernel
theorem dX12_feed_1 : decode prog_14_method_68_code 1 = .ok (.i2l, 1) := by decide +kernel
theorem dX12_feed_2 : decode prog_14_method_68_code 2 = .ok (.lconst 1, 1) := by decide +kernel
theorem dX12_feed_3 : decode prog_14_method_68_code 3 = .ok (.ldc2_w 258, 3) := by decide +kernel
theorem dX12_feed_6 : decode prog_14_method_68_code 6 = .ok (.invokestatic 72, 3) := by decide +kernel
theorem dX12_feed_9 : decode prog_14_method_68_code 9 = .ok (.ifCond .ne 6, 3) := by decide +kernel
theorem dX12_feed_12 : decode prog_14_method_68_code 12 = .ok (.bipush (-2), 2) := by decide +kernel
theorem dX12_feed_14 : decode prog_14_method_68_code 14 = .ok (.ireturn, 1) := by decide +kernel
theorem dX12_feed_15 : decode prog_14_method_68_code 15 = .ok (.aload_n 0, 1) := by decide +kernel
theorem dX12_feed_16 : decode prog_14_method_68_code 16 = .ok (.getfield 260, 3) := by decide +kernel
theorem dX12_feed_19 : decode prog_14_method_68_code 19 = .ok (.bipush 120, 2) := by decide +kernel
theorem dX12_feed_21 : decode prog_14_method_68_code 21 = .ok (.if_icmp .ne 6, 3) := by decide +kernel
theorem dX12_feed_24 : decode prog_14_method_68_code 24 = .ok (.bipush (-4), 2) := by decide +kernel
theorem dX12_feed_26 : decode prog_14_method_68_code 26 = .ok (.ireturn, 1) := by decide +kernel
theorem dX12_feed_27 : decode prog_14_method_68_code 27 = .ok (.aload_n 0, 1) := by decide +kernel
theorem dX12_feed_28 : decode prog_14_method_68_code 28 = .ok (.getfield 18, 3) := by decide +kernel
theorem dX12_feed_31 : decode prog_14_method_68_code 31 = .ok (.aload_n 0, 1) := by decide +kernel
theorem dX12_feed_32 : decode prog_14_method_68_code 32 = .ok (.dup, 1) := by decide +kernel
theorem dX12_feed_33 : decode prog_14_method_68_code 33 = .ok (.getfield 260, 3) := by decide +kernel
theorem dX12_feed_36 : decode prog_14_method_68_code 36 = .ok (.dup_x1, 1) := by decide +kernel
theorem dX12_feed_37 : decode prog_14_method_68_code 37 = .ok (.iconst 1, 1) := by decide +kernel
theorem dX12_feed_38 : decode prog_14_method_68_code 38 = .ok (.iadd, 1) := by decide +kernel
theorem dX12_feed_39 : decode prog_14_method_68_code 39 = .ok (.putfield 260, 3) := by decide +kernel
theorem dX12_feed_42 : decode prog_14_method_68_code 42 = .ok (.iload_n 1, 1) := by decide +kernel
theorem dX12_feed_43 : decode prog_14_method_68_code 43 = .ok (.iastore, 1) := by decide +kernel
theorem dX12_feed_44 : decode prog_14_method_68_code 44 = .ok (.aload_n 0, 1) := by decide +kernel
theorem dX12_feed_45 : decode prog_14_method_68_code 45 = .ok (.getfield 260, 3) := by decide +kernel
theorem dX12_feed_48 : decode prog_14_method_68_code 48 = .ok (.ireturn, 1) := by decide +kernel
def m_X12_feed (a0 : Nat) (i1 : Int32) (M : mM) : Option (Int32 × mM) :=
  (m_X12_in i1.toInt64 1 127).bind fun x1 =>
  if x1 = 0 then (
    some ((-2), M)) else (
    (fI M a0 12 3).bind fun x3 =>
    if x3 = 120 then (
      some ((-4), M)) else (
      (fR M a0 12 4).bind fun x5 =>
      (fI M a0 12 3).bind fun x7 =>
      (sV M a0 12 3 (.int (x7 + 1))).bind fun M9 =>
      (uI 0 .int M9 x5 x7 i1).bind fun M11 =>
      (fI M11 a0 12 3).bind fun x13 =>
      some (x13, M11)))
set_option maxHeartbeats 4000000 in
set_option maxRecDepth 100000 in
theorem t_X12_feed {L0 : Launch} {M : mM} {a0 : Nat} {i1 : Int32} {res : Int32 × mM} (hf : m_X12_feed a0 i1 M = some res) : CT L0 yX12_feed prog_14_method_68_code 2 (some .int) 1 25 0 0 [.ref a0, .int i1] M (some (.int res.1)) res.2 := by
  refine CT.of (by decide +kernel) (Nat.le_of_ble_eq_true rfl) fun X C E => ?_
  have C : CX X RX12 "feed" prog_14_method_68_code 2 (some .int) := C
  show EV X 2 0 [(0, .ref a0), (1, .int i1)] [] 0 0 M
  unfold m_X12_feed at hf
  refine ev_iload_n C dX12_feed_0 rfl (q := 1) rfl ?_
  refine ev_i2l C dX12_feed_1 ?_
  refine ev_lconst (v := 1) C dX12_feed_2 (by decide) ?_
  refine ev_ldc2 (v := 127) C dX12_feed_3 kw_1547 ?_
  obtain ⟨x1, e2, hf⟩ := obnd hf
  refine ev_callS0 (As := [.long i1.toInt64, .long 1, .long 127]) (st := []) C (t_X12_in e2) hd_X12_in rfl kw_1253 kw_1254 kw_87 kw_1255 (mRoom.of E (Nat.le_of_ble_eq_true rfl) (Nat.le_of_ble_eq_true rfl) (Nat.le_refl 0) (Nat.le_refl 0)) (Nat.le_of_ble_eq_true rfl) dX12_feed_6 ?_
  refine ev_if_ne (tgt := 15) C dX12_feed_9 (by decide) (fun hc => ?_) (fun hc => ?_)
  · have hf := oie hf hc
    refine ev_aload_n C dX12_feed_15 rfl (q := 0) rfl ?_
    obtain ⟨x3, e4, hf⟩ := obnd hf
    refine ev_get (k := 3) C ok_12 dX12_feed_16 (by decide) kw_1162 (fI_V e4) ?_
    refine ev_bipush (v := 120) C dX12_feed_19 (by decide) ?_
    refine ev_icmp_ne (tgt := 27) C dX12_feed_21 (by decide) (fun hc => ?_) (fun hc => ?_)
    · have hf := oie hf hc
      refine ev_aload_n C dX12_feed_27 rfl (q := 0) rfl ?_
      obtain ⟨x5, e6, hf⟩ := obnd hf
      refine ev_get (k := 4) C ok_12 dX12_feed_28 (by decide) kw_1163 (fR_V e6) ?_
      refine ev_aload_n C dX12_feed_31 rfl (q := 0) rfl ?_
      refine ev_dup C dX12_feed_32 rfl ?_
      obtain ⟨x7, e8, hf⟩ := obnd hf
      refine ev_get (k := 3) C ok_12 dX12_feed_33 (by decide) kw_1162 (fI_V e8) ?_
      refine ev_dup_x1 C dX12_feed_36 rfl rfl ?_
      refine ev_iconst (v := 1) C dX12_feed_37 (by decide) ?_
      refine ev_iadd C dX12_feed_38 ?_
      obtain ⟨M9, e10, hf⟩ := obnd hf
      refine ev_put (k := 3) C ok_12 dX12_feed_39 (by decide) kw_1162 rfl ⟨rfl, rfl⟩ e10 ?_
      refine ev_iload_n C dX12_feed_42 rfl (q := 1) rfl ?_
      obtain ⟨M11, e12, hf⟩ := obnd hf
      refine ev_iast C dX12_feed_43 e12 ?_
      refine ev_aload_n C dX12_feed_44 rfl (q := 0) rfl ?_
      obtain ⟨x13, e14, hf⟩ := obnd hf
      refine ev_get (k := 3) C ok_12 dX12_feed_45 (by decide) kw_1162 (fI_V e14) ?_
      obtain rfl := Option.some.inj hf
      exact ev_iret C E (Nat.le_refl 0) (Nat.le_refl 0) dX12_feed_48
    · have hf := oit hf hc
      refine ev_bipush (v := (-4)) C dX12_feed_24 (by decide) ?_
      obtain rfl := Option.some.inj hf
      exact ev_iret C E (Nat.le_refl 0) (Nat.le_refl 0) dX12_feed_26
  · have hf := oit hf hc
    refine ev_bipush (v := (-2)) C dX12_feed_12 (by decide) ?_
    obtain rfl := Option.some.inj hf
    exact ev_iret C E (Nat.le_refl 0) (Nat.le_refl 0) dX12_feed_14
/-! FareLimitsModel clear()I -/
theorem dX12_clear_0 : decode prog_14_method_69_code 0 = .ok (.aload_n 0, 1) := by decide +kernel
theorem dX12_clear_1 : decode prog_14_method_69_code 1 = .ok (.getfield 260, 3) := by decide +kernel
theorem dX12_clear_4 : decode prog_14_method_69_code 4 = .ok (.istore_n 1, 1) := by decide +kernel
theorem dX12_clear_5 : decode prog_14_method_69_code 5 = .ok (.aload_n 0, 1) := by decide +kernel
theorem dX12_clear_6 : decode prog_14_method_69_code 6 = .ok (.iconst 0, 1) := by decide +kernel
theorem dX12_clear_7 : decode prog_14_method_69_code 7 = .ok (.putfield 260, 3) := by decide +kernel
theorem dX12_clear_10 : decode prog_14_method_69_code 10 = .ok (.iload_n 1, 1) := by decide +kernel
theorem dX12_clear_11 : decode prog_14_method_69_code 11 = .ok (.ireturn, 1) := by decide +kernel
def m_X12_clear (a0 : Nat) (M : mM) : Option (Int32 × mM) :=
  (fI M a0 12 3).bind fun x1 =>
  (sV M a0 12 3 (.int 0)).bind fun M3 =>
  some (x1, M3)
set_option maxHeartbeats 4000000 in
set_option maxRecDepth 100000 in
theorem t_X12_clear {L0 : Launch} {M : mM} {a0 : Nat} {res : Int32 × mM} (hf : m_X12_clear a0 M = some res) : CT L0 yX12_clear prog_14_method_69_code 2 (some .int) 0 0 0 0 [.ref a0] M (some (.int res.1)) res.2 := by
  refine CT.of (by decide +kernel) (Nat.le_of_ble_eq_true rfl) fun X C E => ?_
  have C : CX X RX12 "clear" prog_14_method_69_code 2 (some .int) := C
  show EV X 2 0 [(0, .ref a0)] [] 0 0 M
  unfold m_X12_clear at hf
  refine ev_aload_n C dX12_clear_0 rfl (q := 0) rfl ?_
  obtain ⟨x1, e2, hf⟩ := obnd hf
  refine ev_get (k := 3) C ok_12 dX12_clear_1 (by decide) kw_1162 (fI_V e2) ?_
  refine ev_istore_n (l' := [(1, .int x1), (0, .ref a0)]) C dX12_clear_4 rfl (by decide) rfl ?_
  refine ev_aload_n C dX12_clear_5 rfl (q := 1) rfl ?_
  refine ev_iconst (v := 0) C dX12_clear_6 (by decide) ?_
  obtain ⟨M3, e4, hf⟩ := obnd hf
  refine ev_put (k := 3) C ok_12 dX12_clear_7 (by decide) kw_1162 rfl ⟨rfl, rfl⟩ e4 ?_
  refine ev_iload_n C dX12_clear_10 rfl (q := 0) rfl ?_
  obtain rfl := Option.some.inj hf
  exact ev_iret C E (Nat.le_refl 0) (Nat.le_refl 0) dX12_clear_11
/-! FareLimitsModel wrong(I)V -/
theorem dX12_wrong_0 : decode prog_14_method_70_code 0 = .ok (.aload_n 0, 1) := by decide +kernel
theorem dX12_wrong_1 : decode prog_14_method_70_code 1 = .ok (.getfield 263, 3) := by decide +kernel
theorem dX12_wrong_4 : decode prog_14_method_70_code 4 = .ok (.ifCond .ge 8, 3) := by decide +kernel
theorem dX12_wrong_7 : decode prog_14_method_70_code 7 = .ok (.aload_n 0, 1) := by decide +kernel
theorem dX12_wrong_8 : decode prog_14_method_70_code 8 = .ok (.iload_n 1, 1) := by decide +kernel
theorem dX12_wrong_9 : decode prog_14_method_70_code 9 = .ok (.putfield 263, 3) := by decide +kernel
theorem dX12_wrong_12 : decode prog_14_method_70_code 12 = .ok (.return_, 1) := by decide +kernel
def m_X12_wrong (a0 : Nat) (i1 : Int32) (M : mM) : Option (mM) :=
  (fI M a0 12 25).bind fun x1 =>
  if 0 ≤ x1 then (
    some M) else (
    (sV M a0 12 25 (.int i1)).bind fun M3 =>
    some M3)
set_option maxHeartbeats 4000000 in
set_option maxRecDepth 100000 in
theorem t_X12_wrong {L0 : Launch} {M : mM} {a0 : Nat} {i1 : Int32} {res : mM} (hf : m_X12_wrong a0 i1 M = some res) : CT L0 yX12_wrong prog_14_method_70_code 2 none 0 0 0 0 [.ref a0, .int i1] M none res := by
  refine CT.of (by decide +kernel) (Nat.le_of_ble_eq_true rfl) fun X C E => ?_
  have C : CX X RX12 "wrong" prog_14_method_70_code 2 none := C
  show EV X 2 0 [(0, .ref a0), (1, .int i1)] [] 0 0 M
  unfold m_X12_wrong at hf
  refine ev_aload_n C dX12_wrong_0 rfl (q := 0) rfl ?_
  obtain ⟨x1, e2, hf⟩ := obnd hf
  refine ev_get (k := 25) C ok_12 dX12_wrong_1 (by decide) kw_1184 (fI_V e2) ?_
  refine ev_if_ge (tgt := 12) C dX12_wrong_4 (by decide) (fun hc => ?_) (fun hc => ?_)
  · have hf := oit hf hc
    obtain rfl := Option.some.inj hf
    exact ev_vret C E (Nat.le_refl 0) (Nat.le_refl 0) dX12_wrong_12
  · have hf := oie hf hc
    refine ev_aload_n C dX12_wrong_7 rfl (q := 0) rfl ?_
    refine ev_iload_n C dX12_wrong_8 rfl (q := 1) rfl ?_
    obtain ⟨M3, e4, hf⟩ := obnd hf
    refine ev_put (k := 25) C ok_12 dX12_wrong_9 (by decide) kw_1184 rfl ⟨rfl, rfl⟩ e4 ?_
    obtain rfl := Option.some.inj hf
    exact ev_vret C E (Nat.le_refl 0) (Nat.le_refl 0) dX12_wrong_12
/-! FareLimitsModel isSign(II)Z -/
theorem dX12_isSign_0 : decode prog_14_method_71_code 0 = .ok (.aload_n 0, 1) := by decide +kernel
theorem dX12_isSign_1 : decode prog_14_method_71_code 1 = .ok (.getfield 263, 3) := by decide +kernel
theorem dX12_isSign_4 : decode prog_14_method_71_code 4 = .ok (.ifCond .ge 38, 3) := by decide +kernel
theorem dX12_isSign_7 : decode prog_14_method_71_code 7 = .ok (.aload_n 0, 1) := by decide +kernel
theorem dX12_isSign_8 : decode prog_14_method_71_code 8 = .ok (.getfield 266, 3) := by decide +kernel
theorem dX12_isSign_11 : decode prog_14_method_71_code 11 = .ok (.aload_n 0, 1) := by decide +kernel
theorem dX12_isSign_12 : decode prog_14_method_71_code 12 = .ok (.getfield 260, 3) := by decide +kernel
theorem dX12_isSign_15 : decode prog_14_method_71_code 15 = .ok (.if_icmp .ge 27, 3) := by decide +kernel
theorem dX12_isSign_18 : decode prog_14_method_71_code 18 = .ok (.aload_n 0, 1) := by decide +kernel
theorem dX12_isSign_19 : decode prog_14_method_71_code 19 = .ok (.getfield 18, 3) := by decide +kernel
theorem dX12_isSign_22 : decode prog_14_method_71_code 22 = .ok (.aload_n 0, 1) := by decide +kernel
theorem dX12_isSign_23 : decode prog_14_method_71_code 23 = .ok (.getfield 266, 3) := by decide +kernel
theorem dX12_isSign_26 : decode prog_14_method_71_code 26 = .ok (.iaload, 1) := by decide +kernel
theorem dX12_isSign_27 : decode prog_14_method_71_code 27 = .ok (.i2l, 1) := by decide +kernel
theorem dX12_isSign_28 : decode prog_14_method_71_code 28 = .ok (.iload_n 1, 1) := by decide +kernel
theorem dX12_isSign_29 : decode prog_14_method_71_code 29 = .ok (.i2l, 1) := by decide +kernel
theorem dX12_isSign_30 : decode prog_14_method_71_code 30 = .ok (.iload_n 2, 1) := by decide +kernel
theorem dX12_isSign_31 : decode prog_14_method_71_code 31 = .ok (.i2l, 1) := by decide +kernel
theorem dX12_isSign_32 : decode prog_14_method_71_code 32 = .ok (.invokestatic 72, 3) := by decide +kernel
theorem dX12_isSign_35 : decode prog_14_method_71_code 35 = .ok (.ifCond .eq 7, 3) := by decide +kernel
theorem dX12_isSign_38 : decode prog_14_method_71_code 38 = .ok (.iconst 1, 1) := by decide +kernel
theorem dX12_isSign_39 : decode prog_14_method_71_code 39 = .ok (.goto 4, 3) := by decide +kernel
theorem dX12_isSign_42 : decode prog_14_method_71_code 42 = .ok (.iconst 0, 1) := by decide +kernel
theorem dX12_isSign_43 : decode prog_14_method_71_code 43 = .ok (.ireturn, 1) := by decide +kernel
def m_X12_isSign (a0 : Nat) (i1 : Int32) (i2 : Int32) (M : mM) : Option (Int32) :=
  (fI M a0 12 25).bind fun x1 =>
  if 0 ≤ x1 then (
    some 0) else (
    (fI M a0 12 24).bind fun x3 =>
    (fI M a0 12 3).bind fun x5 =>
    if x5 ≤ x3 then (
      some 0) else (
      (fR M a0 12 4).bind fun x7 =>
      (fI M a0 12 24).bind fun x9 =>
      (aI 0 M x7 x9).bind fun x11 =>
      (m_X12_in x11.toInt64 i1.toInt64 i2.toInt64).bind fun x13 =>
      if x13 = 0 then (
        some 0) else (
        some 1)))
set_option maxHeartbeats 4000000 in
set_option maxRecDepth 100000 in
theorem t_X12_isSign {L0 : Launch} {M : mM} {a0 : Nat} {i1 : Int32} {i2 : Int32} {res : Int32} (hf : m_X12_isSign a0 i1 i2 M = some res) : CT L0 yX12_isSign prog_14_method_71_code 3 (some .boolean) 1 25 0 0 [.ref a0, .int i1, .int i2] M (some (.int res)) M := by
  refine CT.of (by decide +kernel) (Nat.le_of_ble_eq_true rfl) fun X C E => ?_
  have C : CX X RX12 "isSign" prog_14_method_71_code 3 (some .boolean) := C
  show EV X 3 0 [(0, .ref a0), (1, .int i1), (2, .int i2)] [] 0 0 M
  unfold m_X12_isSign at hf
  refine ev_aload_n C dX12_isSign_0 rfl (q := 0) rfl ?_
  obtain ⟨x1, e2, hf⟩ := obnd hf
  refine ev_get (k := 25) C ok_12 dX12_isSign_1 (by decide) kw_1184 (fI_V e2) ?_
  refine ev_if_ge (tgt := 42) C dX12_isSign_4 (by decide) (fun hc => ?_) (fun hc => ?_)
  · have hf := oit hf hc
    refine ev_iconst (v := 0) C dX12_isSign_42 (by decide) ?_
    obtain rfl := Option.some.inj hf
    exact ev_zret C (by decide) E (Nat.le_refl 0) (Nat.le_refl 0) dX12_isSign_43
  · have hf := oie hf hc
    refine ev_aload_n C dX12_isSign_7 rfl (q := 0) rfl ?_
    obtain ⟨x3, e4, hf⟩ := obnd hf
    refine ev_get (k := 24) C ok_12 dX12_isSign_8 (by decide) kw_1183 (fI_V e4) ?_
    refine ev_aload_n C dX12_isSign_11 rfl (q := 0) rfl ?_
    obtain ⟨x5, e6, hf⟩ := obnd hf
    refine ev_get (k := 3) C ok_12 dX12_isSign_12 (by decide) kw_1162 (fI_V e6) ?_
    refine ev_icmp_ge (tgt := 42) C dX12_isSign_15 (by decide) (fun hc => ?_) (fun hc => ?_)
    · have hf := oit hf hc
      refine ev_iconst (v := 0) C dX12_isSign_42 (by decide) ?_
      obtain rfl := Option.some.inj hf
      exact ev_zret C (by decide) E (Nat.le_refl 0) (Nat.le_refl 0) dX12_isSign_43
    · have hf := oie hf hc
      refine ev_aload_n C dX12_isSign_18 rfl (q := 0) rfl ?_
      obtain ⟨x7, e8, hf⟩ := obnd hf
      refine ev_get (k := 4) C ok_12 dX12_isSign_19 (by decide) kw_1163 (fR_V e8) ?_
      refine ev_aload_n C dX12_isSign_22 rfl (q := 0) rfl ?_
      obtain ⟨x9, e10, hf⟩ := obnd hf
      refine ev_get (k := 24) C ok_12 dX12_isSign_23 (by decide) kw_1183 (fI_V e10) ?_
      obtain ⟨x11, e12, hf⟩ := obnd hf
      refine ev_iald C dX12_isSign_26 e12 ?_
      refine ev_i2l C dX12_isSign_27 ?_
      refine ev_iload_n C dX12_isSign_28 rfl (q := 1) rfl ?_
      refine ev_i2l C dX12_isSign_29 ?_
      refine ev_iload_n C dX12_isSign_30 rfl (q := 2) rfl ?_
      refine ev_i2l C dX12_isSign_31 ?_
      obtain ⟨x13, e14, hf⟩ := obnd hf
      refine ev_callS0 (As := [.long x11.toInt64, .long i1.toInt64, .long i2.toInt64]) (st := []) C (t_X12_in e14) hd_X12_in rfl kw_1253 kw_1254 kw_87 kw_1255 (mRoom.of E (Nat.le_of_ble_eq_true rfl) (Nat.le_of_ble_eq_true rfl) (Nat.le_refl 0) (Nat.le_refl 0)) (Nat.le_of_ble_eq_true rfl) dX12_isSign_32 ?_
      refine ev_if_eq (tgt := 42) C dX12_isSign_35 (by decide) (fun hc => ?_) (fun hc => ?_)
      · have hf := oit hf hc
        refine ev_iconst (v := 0) C dX12_isSign_42 (by decide) ?_
        obtain rfl := Option.some.inj hf
        exact ev_zret C (by decide) E (Nat.le_refl 0) (Nat.le_refl 0) dX12_isSign_43
      · have hf := oie hf hc
        refine ev_iconst (v := 1) C dX12_isSign_38 (by decide) ?_
        refine ev_goto (tgt := 43) C dX12_isSign_39 (by decide) ?_
        obtain rfl := Option.some.inj hf
        exact ev_zret C (by decide) E (Nat.le_refl 0) (Nat.le_refl 0) dX12_isSign_43
/-! FareLimitsModel takes(I)Z -/
theorem dX12_takes_0 : decode prog_14_method_72_code 0 = .ok (.aload_n 0, 1) := by decide +kernel
theorem dX12_takes_1 : decode prog_14_method_72_code 1 = .ok (.iload_n 1, 1) := by decide +kernel
theorem dX12_takes_2 : decode prog_14_method_72_code 2 = .ok (.iload_n 1, 1) := by decide +kernel
theorem dX12_takes_3 : decode prog_14_method_72_code 3 = .ok (.invokevirtual 269, 3) := by decide +kernel
theorem dX12_takes_6 : decode prog_14_method_72_code 6 = .ok (.istore_n 2, 1) := by decide +kernel
theorem dX12_takes_7 : decode prog_14_method_72_code 7 = .ok (.aload_n 0, 1) := by decide +kernel
theorem dX12_takes_8 : decode prog_14_method_72_code 8 = .ok (.dup, 1) := by decide +kernel
theorem dX12_takes_9 : decode prog_14_method_72_code 9 = .ok (.getfield 266, 3) := by decide +kernel
theorem dX12_takes_12 : decode prog_14_method_72_code 12 = .ok (.iload_n 2, 1) := by decide +kernel
theorem dX12_takes_13 : decode prog_14_method_72_code 13 = .ok (.ifCond .eq 7, 3) := by decide +kernel
theorem dX12_takes_16 : decode prog_14_method_72_code 16 = .ok (.iconst 1, 1) := by decide +kernel
theorem dX12_takes_17 : decode prog_14_method_72_code 17 = .ok (.goto 4, 3) := by decide +kernel
theorem dX12_takes_20 : decode prog_14_method_72_code 20 = .ok (.iconst 0, 1) := by decide +kernel
theorem dX12_takes_21 : decode prog_14_method_72_code 21 = .ok (.iadd, 1) := by decide +kernel
theorem dX12_takes_22 : decode prog_14_method_72_code 22 = .ok (.putfield 266, 3) := by decide +kernel
theorem dX12_takes_25 : decode prog_14_method_72_code 25 = .ok (.iload_n 2, 1) := by decide +kernel
theorem dX12_takes_26 : decode prog_14_method_72_code 26 = .ok (.ireturn, 1) := by decide +kernel
def m_X12_takes (a0 : Nat) (i1 : Int32) (M : mM) : Option (Int32 × mM) :=
  (oO M a0 12).bind fun _ =>
  (m_X12_isSign a0 i1 i1 M).bind fun x3 =>
  (fI M a0 12 24).bind fun x5 =>
  if x3 = 0 then (
    (sV M a0 12 24 (.int (x5 + 0))).bind fun M7 =>
    (oif (x3 = 0 ∨ x3 = 1)).bind fun _ =>
    some (x3, M7)) else (
    (sV M a0 12 24 (.int (x5 + 1))).bind fun M10 =>
    (oif (x3 = 0 ∨ x3 = 1)).bind fun _ =>
    some (x3, M10))
set_option maxHeartbeats 4000000 in
set_option maxRecDepth 100000 in
theorem t_X12_takes {L0 : Launch} {M : mM} {a0 : Nat} {i1 : Int32} {res : Int32 × mM} (hf : m_X12_takes a0 i1 M = some res) : CT L0 yX12_takes prog_14_method_72_code 3 (some .boolean) 2 47 0 0 [.ref a0, .int i1] M (some (.int res.1)) res.2 := by
  refine CT.of (by decide +kernel) (Nat.le_of_ble_eq_true rfl) fun X C E => ?_
  have C : CX X RX12 "takes" prog_14_method_72_code 3 (some .boolean) := C
  show EV X 3 0 [(0, .ref a0), (1, .int i1)] [] 0 0 M
  unfold m_X12_takes at hf
  refine ev_aload_n C dX12_takes_0 rfl (q := 0) rfl ?_
  refine ev_iload_n C dX12_takes_1 rfl (q := 1) rfl ?_
  refine ev_iload_n C dX12_takes_2 rfl (q := 1) rfl ?_
  obtain ⟨_, e1, hf⟩ := obnd hf
  obtain ⟨fs2, e1⟩ := oO_eq e1
  obtain ⟨x3, e4, hf⟩ := obnd hf
  refine ev_callV0 (As := [.int i1, .int i1]) (st := []) C rfl e1 (t_X12_isSign e4) rfl hd_X12_isSign rfl kw_1571 kw_1573 kw_87 kw_55 kw_1574 (mRoom.of E (Nat.le_of_ble_eq_true rfl) (Nat.le_of_ble_eq_true rfl) (Nat.le_refl 0) (Nat.le_refl 0)) (Nat.le_of_ble_eq_true rfl) dX12_takes_3 ?_
  refine ev_istore_n (l' := [(2, .int x3), (0, .ref a0), (1, .int i1)]) C dX12_takes_6 rfl (by decide) rfl ?_
  refine ev_aload_n C dX12_takes_7 rfl (q := 1) rfl ?_
  refine ev_dup C dX12_takes_8 rfl ?_
  obtain ⟨x5, e6, hf⟩ := obnd hf
  refine ev_get (k := 24) C ok_12 dX12_takes_9 (by decide) kw_1183 (fI_V e6) ?_
  refine ev_iload_n C dX12_takes_12 rfl (q := 0) rfl ?_
  refine ev_if_eq (tgt := 20) C dX12_takes_13 (by decide) (fun hc => ?_) (fun hc => ?_)
  · have hf := oit hf hc
    refine ev_iconst (v := 0) C dX12_takes_20 (by decide) ?_
    refine ev_iadd C dX12_takes_21 ?_
    obtain ⟨M7, e8, hf⟩ := obnd hf
    refine ev_put (k := 24) C ok_12 dX12_takes_22 (by decide) kw_1183 rfl ⟨rfl, rfl⟩ e8 ?_
    refine ev_iload_n C dX12_takes_25 rfl (q := 0) rfl ?_
    obtain ⟨_, e9, hf⟩ := obnd hf
    obtain rfl := Option.some.inj hf
    exact ev_zret C (oif_eq e9) E (Nat.le_refl 0) (Nat.le_refl 0) dX12_takes_26
  · have hf := oie hf hc
    refine ev_iconst (v := 1) C dX12_takes_16 (by decide) ?_
    refine ev_goto (tgt := 21) C dX12_takes_17 (by decide) ?_
    refine ev_iadd C dX12_takes_21 ?_
    obtain ⟨M10, e11, hf⟩ := obnd hf
    refine ev_put (k := 24) C ok_12 dX12_takes_22 (by decide) kw_1183 rfl ⟨rfl, rfl⟩ e11 ?_
    refine ev_iload_n C dX12_takes_25 rfl (q := 0) rfl ?_
    obtain ⟨_, e12, hf⟩ := obnd hf
    obtain rfl := Option.some.inj hf
    exact ev_zret C (oif_eq e12) E (Nat.le_refl 0) (Nat.le_refl 0) dX12_takes_26
/-! FareLimitsModel number(II)I -/
theorem dX12_number_0 : decode prog_14_method_73_code 0 = .ok (.aload_n 0, 1) := by decide +kernel
theorem dX12_number_1 : decode prog_14_method_73_code 1 = .ok (.getfield 266, 3) := by decide +kernel
theorem dX12_number_4 : decode prog_14_method_73_code 4 = .ok (.istore_n 3, 1) := by decide +kernel
theorem dX12_number_5 : decode prog_14_method_73_code 5 = .ok (.iconst 0, 1) := by decide +kernel
theorem dX12_number_6 : decode prog_14_method_73_code 6 = .ok (.istore 4, 2) := by decide +kernel
theorem dX12_number_8 : decode prog_14_method_73_code 8 = .ok (.aload_n 0, 1) := by decide +kernel
theorem dX12_number_9 : decode prog_14_method_73_code 9 = .ok (.getfield 266, 3) := by decide +kernel
theorem dX12_number_12 : decode prog_14_method_73_code 12 = .ok (.iload_n 3, 1) := by decide +kernel
theorem dX12_number_13 : decode prog_14_method_73_code 13 = .ok (.iload_n 1, 1) := by decide +kernel
theorem dX12_number_14 : decode prog_14_method_73_code 14 = .ok (.iadd, 1) := by decide +kernel
theorem dX12_number_15 : decode prog_14_method_73_code 15 = .ok (.if_icmp .ge 44, 3) := by decide +kernel
theorem dX12_number_18 : decode prog_14_method_73_code 18 = .ok (.aload_n 0, 1) := by decide +kernel
theorem dX12_number_19 : decode prog_14_method_73_code 19 = .ok (.bipush 48, 2) := by decide +kernel
theorem dX12_number_21 : decode prog_14_method_73_code 21 = .ok (.bipush 57, 2) := by decide +kernel
theorem dX12_number_23 : decode prog_14_method_73_code 23 = .ok (.invokevirtual 269, 3) := by decide +kernel
theorem dX12_number_26 : decode prog_14_method_73_code 26 = .ok (.ifCond .eq 33, 3) := by decide +kernel
theorem dX12_number_29 : decode prog_14_method_73_code 29 = .ok (.bipush 10, 2) := by decide +kernel
theorem dX12_number_31 : decode prog_14_method_73_code 31 = .ok (.iload 4, 2) := by decide +kernel
theorem dX12_number_33 : decode prog_14_method_73_code 33 = .ok (.imul, 1) := by decide +kernel
theorem dX12_number_34 : decode prog_14_method_73_code 34 = .ok (.aload_n 0, 1) := by decide +kernel
theorem dX12_number_35 : decode prog_14_method_73_code 35 = .ok (.getfield 18, 3) := by decide +kernel
theorem dX12_number_38 : decode prog_14_method_73_code 38 = .ok (.aload_n 0, 1) := by decide +kernel
theorem dX12_number_39 : decode prog_14_method_73_code 39 = .ok (.dup, 1) := by decide +kernel
theorem dX12_number_40 : decode prog_14_method_73_code 40 = .ok (.getfield 266, 3) := by decide +kernel
theorem dX12_number_43 : decode prog_14_method_73_code 43 = .ok (.dup_x1, 1) := by decide +kernel
theorem dX12_number_44 : decode prog_14_method_73_code 44 = .ok (.iconst 1, 1) := by decide +kernel
theorem dX12_number_45 : decode prog_14_method_73_code 45 = .ok (.iadd, 1) := by decide +kernel
theorem dX12_number_46 : decode prog_14_method_73_code 46 = .ok (.putfield 266, 3) := by decide +kernel
theorem dX12_number_49 : decode prog_14_method_73_code 49 = .ok (.iaload, 1) := by decide +kernel
theorem dX12_number_50 : decode prog_14_method_73_code 50 = .ok (.iadd, 1) := by decide +kernel
theorem dX12_number_51 : decode prog_14_method_73_code 51 = .ok (.bipush 48, 2) := by decide +kernel
theorem dX12_number_53 : decode prog_14_method_73_code 53 = .ok (.isub, 1) := by decide +kernel
theorem dX12_number_54 : decode prog_14_method_73_code 54 = .ok (.istore 4, 2) := by decide +kernel
theorem dX12_number_56 : decode prog_14_method_73_code 56 = .ok (.goto (-48), 3) := by decide +kernel
theorem dX12_number_59 : decode prog_14_method_73_code 59 = .ok (.aload_n 0, 1) := by decide +kernel
theorem dX12_number_60 : decode prog_14_method_73_code 60 = .ok (.getfield 266, 3) := by decide +kernel
theorem dX12_number_63 : decode prog_14_method_73_code 63 = .ok (.iload_n 3, 1) := by decide +kernel
theorem dX12_number_64 : decode prog_14_method_73_code 64 = .ok (.if_icmp .eq 9, 3) := by decide +kernel
theorem dX12_number_67 : decode prog_14_method_73_code 67 = .ok (.iload 4, 2) := by decide +kernel
theorem dX12_number_69 : decode prog_14_method_73_code 69 = .ok (.iload_n 2, 1) := by decide +kernel
theorem dX12_number_70 : decode prog_14_method_73_code 70 = .ok (.if_icmp .ge 8, 3) := by decide +kernel
theorem dX12_number_73 : decode prog_14_method_73_code 73 = .ok (.aload_n 0, 1) := by decide +kernel
theorem dX12_number_74 : decode prog_14_method_73_code 74 = .ok (.iload_n 3, 1) := by decide +kernel
theorem dX12_number_75 : decode prog_14_method_73_code 75 = .ok (.invokevirtual 272, 3) := by decide +kernel
theorem dX12_number_78 : decode prog_14_method_73_code 78 = .ok (.iload 4, 2) := by decide +kernel
theorem dX12_number_80 : decode prog_14_method_73_code 80 = .ok (.ireturn, 1) := by decide +kernel
def m_X12_number_J59 (N : Nat)  (a0 : Nat) (i2 : Int32) (i3 : Int32) (i4 : Int32) (M : mM) : Option (Int32 × mM) :=
  (fI M a0 12 24).bind fun x1 =>
  if x1 = i3 then (
    (oO M a0 12).bind fun _ =>
    (m_X12_wrong a0 i3 M).bind fun x5 =>
    some (i4, x5)) else (
    if i2 ≤ i4 then (
      some (i4, M)) else (
      (oO M a0 12).bind fun _ =>
      (m_X12_wrong a0 i3 M).bind fun x9 =>
      some (i4, x9)))
set_option maxHeartbeats 4000000 in
set_option maxRecDepth 100000 in
theorem t_X12_number_J59 {X : mX} {L0 : Launch} {res : Int32 × mM} {N : Nat} (C : CX X RX12 "number" prog_14_method_73_code 5 (some .int)) (E : EX X L0 2 47 0 0 (some (.int res.1)) res.2)   (a0 : Nat) (i2 : Int32) (i3 : Int32) (i4 : Int32) (M : mM) (hf : m_X12_number_J59 N  a0 i2 i3 i4 M = some res) : EV X 5 59 [(0, .ref a0), (2, .int i2), (3, .int i3), (4, .int i4)] [] 0 0 M := by
  unfold m_X12_number_J59 at hf
  refine ev_aload_n C dX12_number_59 rfl (q := 0) rfl ?_
  obtain ⟨x1, e2, hf⟩ := obnd hf
  refine ev_get (k := 24) C ok_12 dX12_number_60 (by decide) kw_1183 (fI_V e2) ?_
  refine ev_iload_n C dX12_number_63 rfl (q := 2) rfl ?_
  refine ev_icmp_eq (tgt := 73) C dX12_number_64 (by decide) (fun hc => ?_) (fun hc => ?_)
  · have hf := oit hf hc
    refine ev_aload_n C dX12_number_73 rfl (q := 0) rfl ?_
    refine ev_iload_n C dX12_number_74 rfl (q := 2) rfl ?_
    obtain ⟨_, e3, hf⟩ := obnd hf
    obtain ⟨fs4, e3⟩ := oO_eq e3
    obtain ⟨x5, e6, hf⟩ := obnd hf
    refine ev_callV0 (As := [.int i3]) (st := []) C rfl e3 (t_X12_wrong e6) rfl hd_X12_wrong rfl kw_1563 kw_1565 kw_87 kw_53 kw_1566 (mRoom.of E (Nat.le_of_ble_eq_true rfl) (Nat.le_of_ble_eq_true rfl) (Nat.le_refl 0) (Nat.le_refl 0)) (Nat.le_of_ble_eq_true rfl) dX12_number_75 ?_
    refine ev_iload C dX12_number_78 (q := 3) rfl ?_
    obtain rfl := Option.some.inj hf
    exact ev_iret C E (Nat.le_refl 0) (Nat.le_refl 0) dX12_number_80
  · have hf := oie hf hc
    refine ev_iload C dX12_number_67 (q := 3) rfl ?_
    refine ev_iload_n C dX12_number_69 rfl (q := 1) rfl ?_
    refine ev_icmp_ge (tgt := 78) C dX12_number_70 (by decide) (fun hc => ?_) (fun hc => ?_)
    · have hf := oit hf hc
      refine ev_iload C dX12_number_78 (q := 3) rfl ?_
      obtain rfl := Option.some.inj hf
      exact ev_iret C E (Nat.le_refl 0) (Nat.le_refl 0) dX12_number_80
    · have hf := oie hf hc
      refine ev_aload_n C dX12_number_73 rfl (q := 0) rfl ?_
      refine ev_iload_n C dX12_number_74 rfl (q := 2) rfl ?_
      obtain ⟨_, e7, hf⟩ := obnd hf
      obtain ⟨fs8, e7⟩ := oO_eq e7
      obtain ⟨x9, e10, hf⟩ := obnd hf
      refine ev_callV0 (As := [.int i3]) (st := []) C rfl e7 (t_X12_wrong e10) rfl hd_X12_wrong rfl kw_1563 kw_1565 kw_87 kw_53 kw_1566 (mRoom.of E (Nat.le_of_ble_eq_true rfl) (Nat.le_of_ble_eq_true rfl) (Nat.le_refl 0) (Nat.le_refl 0)) (Nat.le_of_ble_eq_true rfl) dX12_number_75 ?_
      refine ev_iload C dX12_number_78 (q := 3) rfl ?_
      obtain rfl := Option.some.inj hf
      exact ev_iret C E (Nat.le_refl 0) (Nat.le_refl 0) dX12_number_80
def m_X12_number_L8 (N : Nat)  : Nat → Nat → Int32 → Int32 → Int32 → Int32 → mM → Option (Int32 × mM)
  | 0, _, _, _, _, _, _ => none
  | n + 1, a0, i1, i2, i3, i4, M =>
    (fI M a0 12 24).bind fun x1 =>
    if (i3 + i1) ≤ x1 then (
      m_X12_number_J59 N  a0 i2 i3 i4 M) else (
      (oO M a0 12).bind fun _ =>
      (m_X12_isSign a0 48 57 M).bind fun x5 =>
      if x5 = 0 then (
        m_X12_number_J59 N  a0 i2 i3 i4 M) else (
        (fR M a0 12 4).bind fun x7 =>
        (fI M a0 12 24).bind fun x9 =>
        (sV M a0 12 24 (.int (x9 + 1))).bind fun M11 =>
        (aI 0 M11 x7 x9).bind fun x13 =>
        (m_X12_number_L8 N  n) a0 i1 i2 i3 (((10 * i4) + x13) - 48) M11))
set_option maxHeartbeats 4000000 in
set_option maxRecDepth 100000 in
theorem t_X12_number_L8 {X : mX} {L0 : Launch} {res : Int32 × mM} {N : Nat} (C : CX X RX12 "number" prog_14_method_73_code 5 (some .int)) (E : EX X L0 2 47 0 0 (some (.int res.1)) res.2)   : ∀ (n : Nat) (a0 : Nat) (i1 : Int32) (i2 : Int32) (i3 : Int32) (i4 : Int32) (M : mM), m_X12_number_L8 N  n a0 i1 i2 i3 i4 M = some res → EV X 5 8 [(0, .ref a0), (1, .int i1), (2, .int i2), (3, .int i3), (4, .int i4)] [] 0 0 M := by
  intro n
  induction n with
  | zero => intro a0 i1 i2 i3 i4 M hf; cases (show (none : Option (Int32 × mM)) = some res from hf)
  | succ n ih =>
    intro a0 i1 i2 i3 i4 M hf
    rw [m_X12_number_L8] at hf
    refine ev_aload_n C dX12_number_8 rfl (q := 0) rfl ?_
    obtain ⟨x1, e2, hf⟩ := obnd hf
    refine ev_get (k := 24) C ok_12 dX12_number_9 (by decide) kw_1183 (fI_V e2) ?_
    refine ev_iload_n C dX12_number_12 rfl (q := 3) rfl ?_
    refine ev_iload_n C dX12_number_13 rfl (q := 1) rfl ?_
    refine ev_iadd C dX12_number_14 ?_
    refine ev_icmp_ge (tgt := 59) C dX12_number_15 (by decide) (fun hc => ?_) (fun hc => ?_)
    · have hf := oit hf hc
      refine ev_sub [0, 2, 3, 4] rfl ?_
      exact t_X12_number_J59 C E   a0 i2 i3 i4 M hf
    · have hf := oie hf hc
      refine ev_aload_n C dX12_number_18 rfl (q := 0) rfl ?_
      refine ev_bipush (v := 48) C dX12_number_19 (by decide) ?_
      refine ev_bipush (v := 57) C dX12_number_21 (by decide) ?_
      obtain ⟨_, e3, hf⟩ := obnd hf
      obtain ⟨fs4, e3⟩ := oO_eq e3
      obtain ⟨x5, e6, hf⟩ := obnd hf
      refine ev_callV0 (As := [.int 48, .int 57]) (st := []) C rfl e3 (t_X12_isSign e6) rfl hd_X12_isSign rfl kw_1571 kw_1573 kw_87 kw_55 kw_1574 (mRoom.of E (Nat.le_of_ble_eq_true rfl) (Nat.le_of_ble_eq_true rfl) (Nat.le_refl 0) (Nat.le_refl 0)) (Nat.le_of_ble_eq_true rfl) dX12_number_23 ?_
      refine ev_if_eq (tgt := 59) C dX12_number_26 (by decide) (fun hc => ?_) (fun hc => ?_)
      · have hf := oit hf hc
        refine ev_sub [0, 2, 3, 4] rfl ?_
        exact t_X12_number_J59 C E   a0 i2 i3 i4 M hf
      · have hf := oie hf hc
        refine ev_bipush (v := 10) C dX12_number_29 (by decide) ?_
        refine ev_iload C dX12_number_31 (q := 4) rfl ?_
        refine ev_imul C dX12_number_33 ?_
        refine ev_aload_n C dX12_number_34 rfl (q := 0) rfl ?_
        obtain ⟨x7, e8, hf⟩ := obnd hf
        refine ev_get (k := 4) C ok_12 dX12_number_35 (by decide) kw_1163 (fR_V e8) ?_
        refine ev_aload_n C dX12_number_38 rfl (q := 0) rfl ?_
        refine ev_dup C dX12_number_39 rfl ?_
        obtain ⟨x9, e10, hf⟩ := obnd hf
        refine ev_get (k := 24) C ok_12 dX12_number_40 (by decide) kw_1183 (fI_V e10) ?_
        refine ev_dup_x1 C dX12_number_43 rfl rfl ?_
        refine ev_iconst (v := 1) C dX12_number_44 (by decide) ?_
        refine ev_iadd C dX12_number_45 ?_
        obtain ⟨M11, e12, hf⟩ := obnd hf
        refine ev_put (k := 24) C ok_12 dX12_number_46 (by decide) kw_1183 rfl ⟨rfl, rfl⟩ e12 ?_
        obtain ⟨x13, e14, hf⟩ := obnd hf
        refine ev_iald C dX12_number_49 e14 ?_
        refine ev_iadd C dX12_number_50 ?_
        refine ev_bipush (v := 48) C dX12_number_51 (by decide) ?_
        refine ev_isub C dX12_number_53 ?_
        refine ev_istore (l' := [(4, .int (((10 * i4) + x13) - 48)), (0, .ref a0), (1, .int i1), (2, .int i2), (3, .int i3)]) C dX12_number_54 (by decide) rfl ?_
        refine ev_goto (tgt := 8) C dX12_number_56 (by decide) ?_
        refine ev_sub [1, 2, 3, 4, 0] rfl ?_
        exact ih a0 i1 i2 i3 (((10 * i4) + x13) - 48) M11 hf
def m_X12_number (N : Nat) (a0 : Nat) (i1 : Int32) (i2 : Int32) (M : mM) : Option (Int32 × mM) :=
  (fI M a0 12 24).bind fun x1 =>
  m_X12_number_L8 N  N a0 i1 i2 x1 0 M
set_option maxHeartbeats 4000000 in
set_option maxRecDepth 100000 in
theorem t_X12_number {L0 : Launch} {M : mM} {N : Nat} {a0 : Nat} {i1 : Int32} {i2 : Int32} {res : Int32 × mM} (hf : m_X12_number N a0 i1 i2 M = some res) : CT L0 yX12_number prog_14_method_73_code 5 (some .int) 2 47 0 0 [.ref a0, .int i1, .int i2] M (some (.int res.1)) res.2 := by
  refine CT.of (by decide +kernel) (Nat.le_of_ble_eq_true rfl) fun X C E => ?_
  have C : CX X RX12 "number" prog_14_method_73_code 5 (some .int) := C
  show EV X 5 0 [(0, .ref a0), (1, .int i1), (2, .int i2)] [] 0 0 M
  unfold m_X12_number at hf
  refine ev_aload_n C dX12_number_0 rfl (q := 0) rfl ?_
  obtain ⟨x1, e2, hf⟩ := obnd hf
  refine ev_get (k := 24) C ok_12 dX12_number_1 (by decide) kw_1183 (fI_V e2) ?_
  refine ev_istore_n (l' := [(3, .int x1), (0, .ref a0), (1, .int i1), (2, .int i2)]) C dX12_number_4 rfl (by decide) rfl ?_
  refine ev_iconst (v := 0) C dX12_number_5 (by decide) ?_
  refine ev_istore (l' := [(4, .int 0), (3, .int x1), (0, .ref a0), (1, .int i1), (2, .int i2)]) C dX12_number_6 (by decide) rfl ?_
  refine ev_sub [2, 3, 4, 1, 0] rfl ?_
  exact t_X12_number_L8 C E   N a0 i1 i2 x1 0 M hf
/-! FareLimitsModel by(I)I -/
theorem dX12_by_0 : decode prog_14_method_74_code 0 = .ok (.iconst 0, 1) := by decide +kernel
theorem dX12_by_1 : decode prog_14_method_74_code 1 = .ok (.istore_n 2, 1) := by decide +kernel
theorem dX12_by_2 : decode prog_14_method_74_code 2 = .ok (.iload_n 2, 1) := by decide +kernel
theorem dX12_by_3 : decode prog_14_method_74_code 3 = .ok (.iconst 3, 1) := by decide +kernel
theorem dX12_by_4 : decode prog_14_method_74_code 4 = .ok (.if_icmp .ge 54, 3) := by decide +kernel
theorem dX12_by_7 : decode prog_14_method_74_code 7 = .ok (.aload_n 0, 1) := by decide +kernel
theorem dX12_by_8 : decode prog_14_method_74_code 8 = .ok (.getfield 9, 3) := by decide +kernel
theorem dX12_by_11 : decode prog_14_method_74_code 11 = .ok (.bipush 50, 2) := by decide +kernel
theorem dX12_by_13 : decode prog_14_method_74_code 13 = .ok (.bipush 6, 2) := by decide +kernel
theorem dX12_by_15 : decode prog_14_method_74_code 15 = .ok (.iload_n 1, 1) := by decide +kernel
theorem dX12_by_16 : decode prog_14_method_74_code 16 = .ok (.imul, 1) := by decide +kernel
theorem dX12_by_17 : decode prog_14_method_74_code 17 = .ok (.iadd, 1) := by decide +kernel
theorem dX12_by_18 : decode prog_14_method_74_code 18 = .ok (.iload_n 2, 1) := by decide +kernel
theorem dX12_by_19 : decode prog_14_method_74_code 19 = .ok (.iadd, 1) := by decide +kernel
theorem dX12_by_20 : decode prog_14_method_74_code 20 = .ok (.iaload, 1) := by decide +kernel
theorem dX12_by_21 : decode prog_14_method_74_code 21 = .ok (.aload_n 0, 1) := by decide +kernel
theorem dX12_by_22 : decode prog_14_method_74_code 22 = .ok (.getfield 66, 3) := by decide +kernel
theorem dX12_by_25 : decode prog_14_method_74_code 25 = .ok (.iload_n 2, 1) := by decide +kernel
theorem dX12_by_26 : decode prog_14_method_74_code 26 = .ok (.iaload, 1) := by decide +kernel
theorem dX12_by_27 : decode prog_14_method_74_code 27 = .ok (.if_icmp .eq 25, 3) := by decide +kernel
theorem dX12_by_30 : decode prog_14_method_74_code 30 = .ok (.aload_n 0, 1) := by decide +kernel
theorem dX12_by_31 : decode prog_14_method_74_code 31 = .ok (.getfield 9, 3) := by decide +kernel
theorem dX12_by_34 : decode prog_14_method_74_code 34 = .ok (.bipush 50, 2) := by decide +kernel
theorem dX12_by_36 : decode prog_14_method_74_code 36 = .ok (.bipush 6, 2) := by decide +kernel
theorem dX12_by_38 : decode prog_14_method_74_code 38 = .ok (.iload_n 1, 1) := by decide +kernel
theorem dX12_by_39 : decode prog_14_method_74_code 39 = .ok (.imul, 1) := by decide +kernel
theorem dX12_by_40 : decode prog_14_method_74_code 40 = .ok (.iadd, 1) := by decide +kernel
theorem dX12_by_41 : decode prog_14_method_74_code 41 = .ok (.iload_n 2, 1) := by decide +kernel
theorem dX12_by_42 : decode prog_14_method_74_code 42 = .ok (.iadd, 1) := by decide +kernel
theorem dX12_by_43 : decode prog_14_method_74_code 43 = .ok (.iaload, 1) := by decide +kernel
theorem dX12_by_44 : decode prog_14_method_74_code 44 = .ok (.aload_n 0, 1) := by decide +kernel
theorem dX12_by_45 : decode prog_14_method_74_code 45 = .ok (.getfield 66, 3) := by decide +kernel
theorem dX12_by_48 : decode prog_14_method_74_code 48 = .ok (.iload_n 2, 1) := by decide +kernel
theorem dX12_by_49 : decode prog_14_method_74_code 49 = .ok (.iaload, 1) := by decide +kernel
theorem dX12_by_50 : decode prog_14_method_74_code 50 = .ok (.isub, 1) := by decide +kernel
theorem dX12_by_51 : decode prog_14_method_74_code 51 = .ok (.ireturn, 1) := by decide +kernel
theorem dX12_by_52 : decode prog_14_method_74_code 52 = .ok (.iinc 2 1, 3) := by decide +kernel
theorem dX12_by_55 : decode prog_14_method_74_code 55 = .ok (.goto (-53), 3) := by decide +kernel
theorem dX12_by_58 : decode prog_14_method_74_code 58 = .ok (.iconst 0, 1) := by decide +kernel
theorem dX12_by_59 : decode prog_14_method_74_code 59 = .ok (.ireturn, 1) := by decide +kernel
def m_X12_by_L2 (N : Nat) (M : mM)  : Nat → Nat → Int32 → Int32 → Option (Int32)
  | 0, _, _, _ => none
  | n + 1, a0, i1, i2 =>
    if 3 ≤ i2 then (
      some 0) else (
      (fR M a0 12 0).bind fun x1 =>
      (aI 0 M x1 ((50 + (6 * i1)) + i2)).bind fun x3 =>
      (fR M a0 12 26).bind fun x5 =>
      (aI 0 M x5 i2).bind fun x7 =>
      if x3 = x7 then (
        (m_X12_by_L2 N M  n) a0 i1 (i2 + 1)) else (
        (fR M a0 12 0).bind fun x9 =>
        (aI 0 M x9 ((50 + (6 * i1)) + i2)).bind fun x11 =>
        (fR M a0 12 26).bind fun x13 =>
        (aI 0 M x13 i2).bind fun x15 =>
        some (x11 - x15)))
set_option maxHeartbeats 4000000 in
set_option maxRecDepth 100000 in
theorem t_X12_by_L2 {X : mX} {M : mM} {L0 : Launch} {res : Int32} {N : Nat} (C : CX X RX12 "by" prog_14_method_74_code 3 (some .int)) (E : EX X L0 0 0 0 0 (some (.int res)) M)   : ∀ (n : Nat) (a0 : Nat) (i1 : Int32) (i2 : Int32), m_X12_by_L2 N M  n a0 i1 i2 = some res → EV X 3 2 [(0, .ref a0), (1, .int i1), (2, .int i2)] [] 0 0 M := by
  intro n
  induction n with
  | zero => intro a0 i1 i2 hf; cases (show (none : Option (Int32)) = some res from hf)
  | succ n ih =>
    intro a0 i1 i2 hf
    rw [m_X12_by_L2] at hf
    refine ev_iload_n C dX12_by_2 rfl (q := 2) rfl ?_
    refine ev_iconst (v := 3) C dX12_by_3 (by decide) ?_
    refine ev_icmp_ge (tgt := 58) C dX12_by_4 (by decide) (fun hc => ?_) (fun hc => ?_)
    · have hf := oit hf hc
      refine ev_iconst (v := 0) C dX12_by_58 (by decide) ?_
      obtain rfl := Option.some.inj hf
      exact ev_iret C E (Nat.le_refl 0) (Nat.le_refl 0) dX12_by_59
    · have hf := oie hf hc
      refine ev_aload_n C dX12_by_7 rfl (q := 0) rfl ?_
      obtain ⟨x1, e2, hf⟩ := obnd hf
      refine ev_get (k := 0) C ok_12 dX12_by_8 (by decide) kw_1159 (fR_V e2) ?_
      refine ev_bipush (v := 50) C dX12_by_11 (by decide) ?_
      refine ev_bipush (v := 6) C dX12_by_13 (by decide) ?_
      refine ev_iload_n C dX12_by_15 rfl (q := 1) rfl ?_
      refine ev_imul C dX12_by_16 ?_
      refine ev_iadd C dX12_by_17 ?_
      refine ev_iload_n C dX12_by_18 rfl (q := 2) rfl ?_
      refine ev_iadd C dX12_by_19 ?_
      obtain ⟨x3, e4, hf⟩ := obnd hf
      refine ev_iald C dX12_by_20 e4 ?_
      refine ev_aload_n C dX12_by_21 rfl (q := 0) rfl ?_
      obtain ⟨x5, e6, hf⟩ := obnd hf
      refine ev_get (k := 26) C ok_12 dX12_by_22 (by decide) kw_1185 (fR_V e6) ?_
      refine ev_iload_n C dX12_by_25 rfl (q := 2) rfl ?_
      obtain ⟨x7, e8, hf⟩ := obnd hf
      refine ev_iald C dX12_by_26 e8 ?_
      refine ev_icmp_eq (tgt := 52) C dX12_by_27 (by decide) (fun hc => ?_) (fun hc => ?_)
      · have hf := oit hf hc
        refine ev_iinc (v := i2 + 1) (l' := [(2, .int (i2 + 1)), (0, .ref a0), (1, .int i1)]) C dX12_by_52 (q := 2) rfl rfl (by decide) rfl ?_
        refine ev_goto (tgt := 2) C dX12_by_55 (by decide) ?_
        refine ev_sub [1, 2, 0] rfl ?_
        exact ih a0 i1 (i2 + 1) hf
      · have hf := oie hf hc
        refine ev_aload_n C dX12_by_30 rfl (q := 0) rfl ?_
        obtain ⟨x9, e10, hf⟩ := obnd hf
        refine ev_get (k := 0) C ok_12 dX12_by_31 (by decide) kw_1159 (fR_V e10) ?_
        refine ev_bipush (v := 50) C dX12_by_34 (by decide) ?_
        refine ev_bipush (v := 6) C dX12_by_36 (by decide) ?_
        refine ev_iload_n C dX12_by_38 rfl (q := 1) rfl ?_
        refine ev_imul C dX12_by_39 ?_
        refine ev_iadd C dX12_by_40 ?_
        refine ev_iload_n C dX12_by_41 rfl (q := 2) rfl ?_
        refine ev_iadd C dX12_by_42 ?_
        obtain ⟨x11, e12, hf⟩ := obnd hf
        refine ev_iald C dX12_by_43 e12 ?_
        refine ev_aload_n C dX12_by_44 rfl (q := 0) rfl ?_
        obtain ⟨x13, e14, hf⟩ := obnd hf
        refine ev_get (k := 26) C ok_12 dX12_by_45 (by decide) kw_1185 (fR_V e14) ?_
        refine ev_iload_n C dX12_by_48 rfl (q := 2) rfl ?_
        obtain ⟨x15, e16, hf⟩ := obnd hf
        refine ev_iald C dX12_by_49 e16 ?_
        refine ev_isub C dX12_by_50 ?_
        obtain rfl := Option.some.inj hf
        exact ev_iret C E (Nat.le_refl 0) (Nat.le_refl 0) dX12_by_51
def m_X12_by (N : Nat) (a0 : Nat) (i1 : Int32) (M : mM) : Option (Int32) :=
  m_X12_by_L2 N M  N a0 i1 0
set_option maxHeartbeats 4000000 in
set_option maxRecDepth 100000 in
theorem t_X12_by {L0 : Launch} {M : mM} {N : Nat} {a0 : Nat} {i1 : Int32} {res : Int32} (hf : m_X12_by N a0 i1 M = some res) : CT L0 yX12_by prog_14_method_74_code 3 (some .int) 0 0 0 0 [.ref a0, .int i1] M (some (.int res)) M := by
  refine CT.of (by decide +kernel) (Nat.le_of_ble_eq_true rfl) fun X C E => ?_
  have C : CX X RX12 "by" prog_14_method_74_code 3 (some .int) := C
  show EV X 3 0 [(0, .ref a0), (1, .int i1)] [] 0 0 M
  unfold m_X12_by at hf
  refine ev_iconst (v := 0) C dX12_by_0 (by decide) ?_
  refine ev_istore_n (l' := [(2, .int 0), (0, .ref a0), (1, .int i1)]) C dX12_by_1 rfl (by decide) rfl ?_
  refine ev_sub [1, 2, 0] rfl ?_
  exact t_X12_by_L2 C E   N a0 i1 0 hf
/-! FareLimitsModel name()V -/
theorem dX12_name_0 : decode prog_14_method_75_code 0 = .ok (.aload_n 0, 1) := by decide +kernel
theorem dX12_name_1 : decode prog_14_method_75_code 1 = .ok (.getfield 266, 3) := by decide +kernel
theorem dX12_name_4 : decode prog_14_method_75_code 4 = .ok (.istore_n 1, 1) := by decide +kernel
theorem dX12_name_5 : decode prog_14_method_75_code 5 = .ok (.iconst 0, 1) := by decide +kernel
theorem dX12_name_6 : decode prog_14_method_75_code 6 = .ok (.istore_n 2, 1) := by decide +kernel
theorem dX12_name_7 : decode prog_14_method_75_code 7 = .ok (.iload_n 2, 1) := by decide +kernel
theorem dX12_name_8 : decode prog_14_method_75_code 8 = .ok (.iconst 3, 1) := by decide +kernel
theorem dX12_name_9 : decode prog_14_method_75_code 9 = .ok (.if_icmp .ge 16, 3) := by decide +kernel
theorem dX12_name_12 : decode prog_14_method_75_code 12 = .ok (.aload_n 0, 1) := by decide +kernel
theorem dX12_name_13 : decode prog_14_method_75_code 13 = .ok (.getfield 66, 3) := by decide +kernel
theorem dX12_name_16 : decode prog_14_method_75_code 16 = .ok (.iload_n 2, 1) := by decide +kernel
theorem dX12_name_17 : decode prog_14_method_75_code 17 = .ok (.iconst 0, 1) := by decide +kernel
theorem dX12_name_18 : decode prog_14_method_75_code 18 = .ok (.iastore, 1) := by decide +kernel
theorem dX12_name_19 : decode prog_14_method_75_code 19 = .ok (.iinc 2 1, 3) := by decide +kernel
theorem dX12_name_22 : decode prog_14_method_75_code 22 = .ok (.goto (-15), 3) := by decide +kernel
theorem dX12_name_25 : decode prog_14_method_75_code 25 = .ok (.aload_n 0, 1) := by decide +kernel
theorem dX12_name_26 : decode prog_14_method_75_code 26 = .ok (.getfield 266, 3) := by decide +kernel
theorem dX12_name_29 : decode prog_14_method_75_code 29 = .ok (.iload_n 1, 1) := by decide +kernel
theorem dX12_name_30 : decode prog_14_method_75_code 30 = .ok (.iconst 3, 1) := by decide +kernel
theorem dX12_name_31 : decode prog_14_method_75_code 31 = .ok (.iadd, 1) := by decide +kernel
theorem dX12_name_32 : decode prog_14_method_75_code 32 = .ok (.if_icmp .ge 47, 3) := by decide +kernel
theorem dX12_name_35 : decode prog_14_method_75_code 35 = .ok (.aload_n 0, 1) := by decide +kernel
theorem dX12_name_36 : decode prog_14_method_75_code 36 = .ok (.bipush 97, 2) := by decide +kernel
theorem dX12_name_38 : decode prog_14_method_75_code 38 = .ok (.bipush 122, 2) := by decide +kernel
theorem dX12_name_40 : decode prog_14_method_75_code 40 = .ok (.invokevirtual 269, 3) := by decide +kernel
theorem dX12_name_43 : decode prog_14_method_75_code 43 = .ok (.ifCond .eq 36, 3) := by decide +kernel
theorem dX12_name_46 : decode prog_14_method_75_code 46 = .ok (.aload_n 0, 1) := by decide +kernel
theorem dX12_name_47 : decode prog_14_method_75_code 47 = .ok (.getfield 66, 3) := by decide +kernel
theorem dX12_name_50 : decode prog_14_method_75_code 50 = .ok (.aload_n 0, 1) := by decide +kernel
theorem dX12_name_51 : decode prog_14_method_75_code 51 = .ok (.getfield 266, 3) := by decide +kernel
theorem dX12_name_54 : decode prog_14_method_75_code 54 = .ok (.iload_n 1, 1) := by decide +kernel
theorem dX12_name_55 : decode prog_14_method_75_code 55 = .ok (.isub, 1) := by decide +kernel
theorem dX12_name_56 : decode prog_14_method_75_code 56 = .ok (.aload_n 0, 1) := by decide +kernel
theorem dX12_name_57 : decode prog_14_method_75_code 57 = .ok (.getfield 18, 3) := by decide +kernel
theorem dX12_name_60 : decode prog_14_method_75_code 60 = .ok (.aload_n 0, 1) := by decide +kernel
theorem dX12_name_61 : decode prog_14_method_75_code 61 = .ok (.getfield 266, 3) := by decide +kernel
theorem dX12_name_64 : decode prog_14_method_75_code 64 = .ok (.iaload, 1) := by decide +kernel
theorem dX12_name_65 : decode prog_14_method_75_code 65 = .ok (.iastore, 1) := by decide +kernel
theorem dX12_name_66 : decode prog_14_method_75_code 66 = .ok (.aload_n 0, 1) := by decide +kernel
theorem dX12_name_67 : decode prog_14_method_75_code 67 = .ok (.dup, 1) := by decide +kernel
theorem dX12_name_68 : decode prog_14_method_75_code 68 = .ok (.getfield 266, 3) := by decide +kernel
theorem dX12_name_71 : decode prog_14_method_75_code 71 = .ok (.iconst 1, 1) := by decide +kernel
theorem dX12_name_72 : decode prog_14_method_75_code 72 = .ok (.iadd, 1) := by decide +kernel
theorem dX12_name_73 : decode prog_14_method_75_code 73 = .ok (.putfield 266, 3) := by decide +kernel
theorem dX12_name_76 : decode prog_14_method_75_code 76 = .ok (.goto (-51), 3) := by decide +kernel
theorem dX12_name_79 : decode prog_14_method_75_code 79 = .ok (.aload_n 0, 1) := by decide +kernel
theorem dX12_name_80 : decode prog_14_method_75_code 80 = .ok (.getfield 266, 3) := by decide +kernel
theorem dX12_name_83 : decode prog_14_method_75_code 83 = .ok (.iload_n 1, 1) := by decide +kernel
theorem dX12_name_84 : decode prog_14_method_75_code 84 = .ok (.if_icmp .ne 11, 3) := by decide +kernel
theorem dX12_name_87 : decode prog_14_method_75_code 87 = .ok (.aload_n 0, 1) := by decide +kernel
theorem dX12_name_88 : decode prog_14_method_75_code 88 = .ok (.aload_n 0, 1) := by decide +kernel
theorem dX12_name_89 : decode prog_14_method_75_code 89 = .ok (.getfield 266, 3) := by decide +kernel
theorem dX12_name_92 : decode prog_14_method_75_code 92 = .ok (.invokevirtual 272, 3) := by decide +kernel
theorem dX12_name_95 : decode prog_14_method_75_code 95 = .ok (.iconst 0, 1) := by decide +kernel
theorem dX12_name_96 : decode prog_14_method_75_code 96 = .ok (.istore_n 2, 1) := by decide +kernel
theorem dX12_name_97 : decode prog_14_method_75_code 97 = .ok (.iload_n 2, 1) := by decide +kernel
theorem dX12_name_98 : decode prog_14_method_75_code 98 = .ok (.aload_n 0, 1) := by decide +kernel
theorem dX12_name_99 : decode prog_14_method_75_code 99 = .ok (.getfield 9, 3) := by decide +kernel
theorem dX12_name_102 : decode prog_14_method_75_code 102 = .ok (.iconst 5, 1) := by decide +kernel
theorem dX12_name_103 : decode prog_14_method_75_code 103 = .ok (.iaload, 1) := by decide +kernel
theorem dX12_name_104 : decode prog_14_method_75_code 104 = .ok (.if_icmp .ge 22, 3) := by decide +kernel
theorem dX12_name_107 : decode prog_14_method_75_code 107 = .ok (.aload_n 0, 1) := by decide +kernel
theorem dX12_name_108 : decode prog_14_method_75_code 108 = .ok (.iload_n 2, 1) := by decide +kernel
theorem dX12_name_109 : decode prog_14_method_75_code 109 = .ok (.invokevirtual 275, 3) := by decide +kernel
theorem dX12_name_112 : decode prog_14_method_75_code 112 = .ok (.ifCond .ne 8, 3) := by decide +kernel
theorem dX12_name_115 : decode prog_14_method_75_code 115 = .ok (.aload_n 0, 1) := by decide +kernel
theorem dX12_name_116 : decode prog_14_method_75_code 116 = .ok (.iload_n 1, 1) := by decide +kernel
theorem dX12_name_117 : decode prog_14_method_75_code 117 = .ok (.invokevirtual 272, 3) := by decide +kernel
theorem dX12_name_120 : decode prog_14_method_75_code 120 = .ok (.iinc 2 1, 3) := by decide +kernel
theorem dX12_name_123 : decode prog_14_method_75_code 123 = .ok (.goto (-26), 3) := by decide +kernel
theorem dX12_name_126 : decode prog_14_method_75_code 126 = .ok (.return_, 1) := by decide +kernel
def m_X12_name_J120 (N : Nat) (k97 : Nat → Int32 → Int32 → mM → Option (mM)) (a0 : Nat) (i1 : Int32) (i2 : Int32) (M : mM) : Option (mM) :=
  k97 a0 i1 (i2 + 1) M
set_option maxHeartbeats 4000000 in
set_option maxRecDepth 100000 in
theorem t_X12_name_J120 {X : mX} {L0 : Launch} {res : mM} {N : Nat} (C : CX X RX12 "name" prog_14_method_75_code 3 none) (E : EX X L0 2 47 0 0 none res) (k97 : Nat → Int32 → Int32 → mM → Option (mM)) (Hk97 : ∀ (a0 : Nat) (i1 : Int32) (i2 : Int32) (M : mM), k97 a0 i1 i2 M = some res → EV X 3 97 [(0, .ref a0), (1, .int i1), (2, .int i2)] [] 0 0 M) (a0 : Nat) (i1 : Int32) (i2 : Int32) (M : mM) (hf : m_X12_name_J120 N k97 a0 i1 i2 M = some res) : EV X 3 120 [(0, .ref a0), (1, .int i1), (2, .int i2)] [] 0 0 M := by
  unfold m_X12_name_J120 at hf
  refine ev_iinc (v := i2 + 1) (l' := [(2, .int (i2 + 1)), (0, .ref a0), (1, .int i1)]) C dX12_name_120 (q := 2) rfl rfl (by decide) rfl ?_
  refine ev_goto (tgt := 97) C dX12_name_123 (by decide) ?_
  refine ev_sub [1, 2, 0] rfl ?_
  exact Hk97 a0 i1 (i2 + 1) M hf
def m_X12_name_L97 (N : Nat)  : Nat → Nat → Int32 → Int32 → mM → Option (mM)
  | 0, _, _, _, _ => none
  | n + 1, a0, i1, i2, M =>
    (fR M a0 12 0).bind fun x1 =>
    (aI 0 M x1 5).bind fun x3 =>
    if x3 ≤ i2 then (
      some M) else (
      (oO M a0 12).bind fun _ =>
      (m_X12_by N a0 i2 M).bind fun x7 =>
      if x7 = 0 then (
        (oO M a0 12).bind fun _ =>
        (m_X12_wrong a0 i1 M).bind fun x11 =>
        m_X12_name_J120 N (m_X12_name_L97 N  n) a0 i1 i2 x11) else (
        m_X12_name_J120 N (m_X12_name_L97 N  n) a0 i1 i2 M))
set_option maxHeartbeats 4000000 in
set_option maxRecDepth 100000 in
theorem t_X12_name_L97 {X : mX} {L0 : Launch} {res : mM} {N : Nat} (C : CX X RX12 "name" prog_14_method_75_code 3 none) (E : EX X L0 2 47 0 0 none res)   : ∀ (n : Nat) (a0 : Nat) (i1 : Int32) (i2 : Int32) (M : mM), m_X12_name_L97 N  n a0 i1 i2 M = some res → EV X 3 97 [(0, .ref a0), (1, .int i1), (2, .int i2)] [] 0 0 M := by
  intro n
  induction n with
  | zero => intro a0 i1 i2 M hf; cases (show (none : Option (mM)) = some res from hf)
  | succ n ih =>
    intro a0 i1 i2 M hf
    rw [m_X12_name_L97] at hf
    refine ev_iload_n C dX12_name_97 rfl (q := 2) rfl ?_
    refine ev_aload_n C dX12_name_98 rfl (q := 0) rfl ?_
    obtain ⟨x1, e2, hf⟩ := obnd hf
    refine ev_get (k := 0) C ok_12 dX12_name_99 (by decide) kw_1159 (fR_V e2) ?_
    refine ev_iconst (v := 5) C dX12_name_102 (by decide) ?_
    obtain ⟨x3, e4, hf⟩ := obnd hf
    refine ev_iald C dX12_name_103 e4 ?_
    refine ev_icmp_ge (tgt := 126) C dX12_name_104 (by decide) (fun hc => ?_) (fun hc => ?_)
    · have hf := oit hf hc
      obtain rfl := Option.some.inj hf
      exact ev_vret C E (Nat.le_refl 0) (Nat.le_refl 0) dX12_name_126
    · have hf := oie hf hc
      refine ev_aload_n C dX12_name_107 rfl (q := 0) rfl ?_
      refine ev_iload_n C dX12_name_108 rfl (q := 2) rfl ?_
      obtain ⟨_, e5, hf⟩ := obnd hf
      obtain ⟨fs6, e5⟩ := oO_eq e5
      obtain ⟨x7, e8, hf⟩ := obnd hf
      refine ev_callV0 (As := [.int i2]) (st := []) C rfl e5 (t_X12_by e8) rfl hd_X12_by rfl kw_1575 kw_1577 kw_87 kw_56 kw_1578 (mRoom.of E (Nat.le_of_ble_eq_true rfl) (Nat.le_of_ble_eq_true rfl) (Nat.le_refl 0) (Nat.le_refl 0)) (Nat.le_of_ble_eq_true rfl) dX12_name_109 ?_
      refine ev_if_ne (tgt := 120) C dX12_name_112 (by decide) (fun hc => ?_) (fun hc => ?_)
      · have hf := oie hf hc
        exact t_X12_name_J120 C E (m_X12_name_L97 N  n) ih a0 i1 i2 M hf
      · have hf := oit hf hc
        refine ev_aload_n C dX12_name_115 rfl (q := 0) rfl ?_
        refine ev_iload_n C dX12_name_116 rfl (q := 1) rfl ?_
        obtain ⟨_, e9, hf⟩ := obnd hf
        obtain ⟨fs10, e9⟩ := oO_eq e9
        obtain ⟨x11, e12, hf⟩ := obnd hf
        refine ev_callV0 (As := [.int i1]) (st := []) C rfl e9 (t_X12_wrong e12) rfl hd_X12_wrong rfl kw_1563 kw_1565 kw_87 kw_53 kw_1566 (mRoom.of E (Nat.le_of_ble_eq_true rfl) (Nat.le_of_ble_eq_true rfl) (Nat.le_refl 0) (Nat.le_refl 0)) (Nat.le_of_ble_eq_true rfl) dX12_name_117 ?_
        exact t_X12_name_J120 C E (m_X12_name_L97 N  n) ih a0 i1 i2 x11 hf
def m_X12_name_J95 (N : Nat)  (a0 : Nat) (i1 : Int32) (M : mM) : Option (mM) :=
  m_X12_name_L97 N  N a0 i1 0 M
set_option maxHeartbeats 4000000 in
set_option maxRecDepth 100000 in
theorem t_X12_name_J95 {X : mX} {L0 : Launch} {res : mM} {N : Nat} (C : CX X RX12 "name" prog_14_method_75_code 3 none) (E : EX X L0 2 47 0 0 none res)   (a0 : Nat) (i1 : Int32) (M : mM) (hf : m_X12_name_J95 N  a0 i1 M = some res) : EV X 3 95 [(0, .ref a0), (1, .int i1)] [] 0 0 M := by
  unfold m_X12_name_J95 at hf
  refine ev_iconst (v := 0) C dX12_name_95 (by decide) ?_
  refine ev_istore_n (l' := [(2, .int 0), (0, .ref a0), (1, .int i1)]) C dX12_name_96 rfl (by decide) rfl ?_
  refine ev_sub [1, 2, 0] rfl ?_
  exact t_X12_name_L97 C E   N a0 i1 0 M hf
def m_X12_name_J79 (N : Nat)  (a0 : Nat) (i1 : Int32) (M : mM) : Option (mM) :=
  (fI M a0 12 24).bind fun x1 =>
  if x1 = i1 then (
    (fI M a0 12 24).bind fun x3 =>
    (oO M a0 12).bind fun _ =>
    (m_X12_wrong a0 x3 M).bind fun x7 =>
    m_X12_name_J95 N  a0 i1 x7) else (
    m_X12_name_J95 N  a0 i1 M)
set_option maxHeartbeats 4000000 in
set_option maxRecDepth 100000 in
theorem t_X12_name_J79 {X : mX} {L0 : Launch} {res : mM} {N : Nat} (C : CX X RX12 "name" prog_14_method_75_code 3 none) (E : EX X L0 2 47 0 0 none res)   (a0 : Nat) (i1 : Int32) (M : mM) (hf : m_X12_name_J79 N  a0 i1 M = some res) : EV X 3 79 [(0, .ref a0), (1, .int i1)] [] 0 0 M := by
  unfold m_X12_name_J79 at hf
  refine ev_aload_n C dX12_name_79 rfl (q := 0) rfl ?_
  obtain ⟨x1, e2, hf⟩ := obnd hf
  refine ev_get (k := 24) C ok_12 dX12_name_80 (by decide) kw_1183 (fI_V e2) ?_
  refine ev_iload_n C dX12_name_83 rfl (q := 1) rfl ?_
  refine ev_icmp_ne (tgt := 95) C dX12_name_84 (by decide) (fun hc => ?_) (fun hc => ?_)
  · have hf := oie hf hc
    exact t_X12_name_J95 C E   a0 i1 M hf
  · have hf := oit hf hc
    refine ev_aload_n C dX12_name_87 rfl (q := 0) rfl ?_
    refine ev_aload_n C dX12_name_88 rfl (q := 0) rfl ?_
    obtain ⟨x3, e4, hf⟩ := obnd hf
    refine ev_get (k := 24) C ok_12 dX12_name_89 (by decide) kw_1183 (fI_V e4) ?_
    obtain ⟨_, e5, hf⟩ := obnd hf
    obtain ⟨fs6, e5⟩ := oO_eq e5
    obtain ⟨x7, e8, hf⟩ := obnd hf
    refine ev_callV0 (As := [.int x3]) (st := []) C rfl e5 (t_X12_wrong e8) rfl hd_X12_wrong rfl kw_1563 kw_1565 kw_87 kw_53 kw_1566 (mRoom.of E (Nat.le_of_ble_eq_true rfl) (Nat.le_of_ble_eq_true rfl) (Nat.le_refl 0) (Nat.le_refl 0)) (Nat.le_of_ble_eq_true rfl) dX12_name_92 ?_
    exact t_X12_name_J95 C E   a0 i1 x7 hf
def m_X12_name_L25 (N : Nat)  : Nat → Nat → Int32 → mM → Option (mM)
  | 0, _, _, _ => none
  | n + 1, a0, i1, M =>
    (fI M a0 12 24).bind fun x1 =>
    if (i1 + 3) ≤ x1 then (
      m_X12_name_J79 N  a0 i1 M) else (
      (oO M a0 12).bind fun _ =>
      (m_X12_isSign a0 97 122 M).bind fun x5 =>
      if x5 = 0 then (
        m_X12_name_J79 N  a0 i1 M) else (
        (fR M a0 12 26).bind fun x7 =>
        (fI M a0 12 24).bind fun x9 =>
        (fR M a0 12 4).bind fun x11 =>
        (fI M a0 12 24).bind fun x13 =>
        (aI 0 M x11 x13).bind fun x15 =>
        (uI 0 .int M x7 (x9 - i1) x15).bind fun M17 =>
        (fI M17 a0 12 24).bind fun x19 =>
        (sV M17 a0 12 24 (.int (x19 + 1))).bind fun M21 =>
        (m_X12_name_L25 N  n) a0 i1 M21))
set_option maxHeartbeats 4000000 in
set_option maxRecDepth 100000 in
theorem t_X12_name_L25 {X : mX} {L0 : Launch} {res : mM} {N : Nat} (C : CX X RX12 "name" prog_14_method_75_code 3 none) (E : EX X L0 2 47 0 0 none res)   : ∀ (n : Nat) (a0 : Nat) (i1 : Int32) (M : mM), m_X12_name_L25 N  n a0 i1 M = some res → EV X 3 25 [(0, .ref a0), (1, .int i1)] [] 0 0 M := by
  intro n
  induction n with
  | zero => intro a0 i1 M hf; cases (show (none : Option (mM)) = some res from hf)
  | succ n ih =>
    intro a0 i1 M hf
    rw [m_X12_name_L25] at hf
    refine ev_aload_n C dX12_name_25 rfl (q := 0) rfl ?_
    obtain ⟨x1, e2, hf⟩ := obnd hf
    refine ev_get (k := 24) C ok_12 dX12_name_26 (by decide) kw_1183 (fI_V e2) ?_
    refine ev_iload_n C dX12_name_29 rfl (q := 1) rfl ?_
    refine ev_iconst (v := 3) C dX12_name_30 (by decide) ?_
    refine ev_iadd C dX12_name_31 ?_
    refine ev_icmp_ge (tgt := 79) C dX12_name_32 (by decide) (fun hc => ?_) (fun hc => ?_)
    · have hf := oit hf hc
      exact t_X12_name_J79 C E   a0 i1 M hf
    · have hf := oie hf hc
      refine ev_aload_n C dX12_name_35 rfl (q := 0) rfl ?_
      refine ev_bipush (v := 97) C dX12_name_36 (by decide) ?_
      refine ev_bipush (v := 122) C dX12_name_38 (by decide) ?_
      obtain ⟨_, e3, hf⟩ := obnd hf
      obtain ⟨fs4, e3⟩ := oO_eq e3
      obtain ⟨x5, e6, hf⟩ := obnd hf
      refine ev_callV0 (As := [.int 97, .int 122]) (st := []) C rfl e3 (t_X12_isSign e6) rfl hd_X12_isSign rfl kw_1571 kw_1573 kw_87 kw_55 kw_1574 (mRoom.of E (Nat.le_of_ble_eq_true rfl) (Nat.le_of_ble_eq_true rfl) (Nat.le_refl 0) (Nat.le_refl 0)) (Nat.le_of_ble_eq_true rfl) dX12_name_40 ?_
      refine ev_if_eq (tgt := 79) C dX12_name_43 (by decide) (fun hc => ?_) (fun hc => ?_)
      · have hf := oit hf hc
        exact t_X12_name_J79 C E   a0 i1 M hf
      · have hf := oie hf hc
        refine ev_aload_n C dX12_name_46 rfl (q := 0) rfl ?_
        obtain ⟨x7, e8, hf⟩ := obnd hf
        refine ev_get (k := 26) C ok_12 dX12_name_47 (by decide) kw_1185 (fR_V e8) ?_
        refine ev_aload_n C dX12_name_50 rfl (q := 0) rfl ?_
        obtain ⟨x9, e10, hf⟩ := obnd hf
        refine ev_get (k := 24) C ok_12 dX12_name_51 (by decide) kw_1183 (fI_V e10) ?_
        refine ev_iload_n C dX12_name_54 rfl (q := 1) rfl ?_
        refine ev_isub C dX12_name_55 ?_
        refine ev_aload_n C dX12_name_56 rfl (q := 0) rfl ?_
        obtain ⟨x11, e12, hf⟩ := obnd hf
        refine ev_get (k := 4) C ok_12 dX12_name_57 (by decide) kw_1163 (fR_V e12) ?_
        refine ev_aload_n C dX12_name_60 rfl (q := 0) rfl ?_
        obtain ⟨x13, e14, hf⟩ := obnd hf
        refine ev_get (k := 24) C ok_12 dX12_name_61 (by decide) kw_1183 (fI_V e14) ?_
        obtain ⟨x15, e16, hf⟩ := obnd hf
        refine ev_iald C dX12_name_64 e16 ?_
        obtain ⟨M17, e18, hf⟩ := obnd hf
        refine ev_iast C dX12_name_65 e18 ?_
        refine ev_aload_n C dX12_name_66 rfl (q := 0) rfl ?_
        refine ev_dup C dX12_name_67 rfl ?_
        obtain ⟨x19, e20, hf⟩ := obnd hf
        refine ev_get (k := 24) C ok_12 dX12_name_68 (by decide) kw_1183 (fI_V e20) ?_
        refine ev_iconst (v := 1) C dX12_name_71 (by decide) ?_
        refine ev_iadd C dX12_name_72 ?_
        obtain ⟨M21, e22, hf⟩ := obnd hf
        refine ev_put (k := 24) C ok_12 dX12_name_73 (by decide) kw_1183 rfl ⟨rfl, rfl⟩ e22 ?_
        refine ev_goto (tgt := 25) C dX12_name_76 (by decide) ?_
        exact ih a0 i1 M21 hf
def m_X12_name_L7 (N : Nat)  : Nat → Nat → Int32 → Int32 → mM → Option (mM)
  | 0, _, _, _, _ => none
  | n + 1, a0, i1, i2, M =>
    if 3 ≤ i2 then (
      m_X12_name_L25 N  N a0 i1 M) else (
      (fR M a0 12 26).bind fun x1 =>
      (uI 0 .int M x1 i2 0).bind fun M3 =>
      (m_X12_name_L7 N  n) a0 i1 (i2 + 1) M3)
set_option maxHeartbeats 4000000 in
set_option maxRecDepth 100000 in
theorem t_X12_name_L7 {X : mX} {L0 : Launch} {res : mM} {N : Nat} (C : CX X RX12 "name" prog_14_method_75_code 3 none) (E : EX X L0 2 47 0 0 none res)   : ∀ (n : Nat) (a0 : Nat) (i1 : Int32) (i2 : Int32) (M : mM), m_X12_name_L7 N  n a0 i1 i2 M = some res → EV X 3 7 [(0, .ref a0), (1, .int i1), (2, .int i2)] [] 0 0 M := by
  intro n
  induction n with
  | zero => intro a0 i1 i2 M hf; cases (show (none : Option (mM)) = some res from hf)
  | succ n ih =>
    intro a0 i1 i2 M hf
    rw [m_X12_name_L7] at hf
    refine ev_iload_n C dX12_name_7 rfl (q := 2) rfl ?_
    refine ev_iconst (v := 3) C dX12_name_8 (by decide) ?_
    refine ev_icmp_ge (tgt := 25) C dX12_name_9 (by decide) (fun hc => ?_) (fun hc => ?_)
    · have hf := oit hf hc
      refine ev_sub [0, 1] rfl ?_
      exact t_X12_name_L25 C E   N a0 i1 M hf
    · have hf := oie hf hc
      refine ev_aload_n C dX12_name_12 rfl (q := 0) rfl ?_
      obtain ⟨x1, e2, hf⟩ := obnd hf
      refine ev_get (k := 26) C ok_12 dX12_name_13 (by decide) kw_1185 (fR_V e2) ?_
      refine ev_iload_n C dX12_name_16 rfl (q := 2) rfl ?_
      refine ev_iconst (v := 0) C dX12_name_17 (by decide) ?_
      obtain ⟨M3, e4, hf⟩ := obnd hf
      refine ev_iast C dX12_name_18 e4 ?_
      refine ev_iinc (v := i2 + 1) (l' := [(2, .int (i2 + 1)), (0, .ref a0), (1, .int i1)]) C dX12_name_19 (q := 2) rfl rfl (by decide) rfl ?_
      refine ev_goto (tgt := 7) C dX12_name_22 (by decide) ?_
      refine ev_sub [1, 2, 0] rfl ?_
      exact ih a0 i1 (i2 + 1) M3 hf
def m_X12_name (N : Nat) (a0 : Nat) (M : mM) : Option (mM) :=
  (fI M a0 12 24).bind fun x1 =>
  m_X12_name_L7 N  N a0 x1 0 M
set_option maxHeartbeats 4000000 in
set_option maxRecDepth 100000 in
theorem t_X12_name {L0 : Launch} {M : mM} {N : Nat} {a0 : Nat} {res : mM} (hf : m_X12_name N a0 M = some res) : CT L0 yX12_name prog_14_method_75_code 3 none 2 47 0 0 [.ref a0] M none res := by
  refine CT.of (by decide +kernel) (Nat.le_of_ble_eq_true rfl) fun X C E => ?_
  have C : CX X RX12 "name" prog_14_method_75_code 3 none := C
  show EV X 3 0 [(0, .ref a0)] [] 0 0 M
  unfold m_X12_name at hf
  refine ev_aload_n C dX12_name_0 rfl (q := 0) rfl ?_
  obtain ⟨x1, e2, hf⟩ := obnd hf
  refine ev_get (k := 24) C ok_12 dX12_name_1 (by decide) kw_1183 (fI_V e2) ?_
  refine ev_istore_n (l' := [(1, .int x1), (0, .ref a0)]) C dX12_name_4 rfl (by decide) rfl ?_
  refine ev_iconst (v := 0) C dX12_name_5 (by decide) ?_
  refine ev_istore_n (l' := [(2, .int 0), (1, .int x1), (0, .ref a0)]) C dX12_name_6 rfl (by decide) rfl ?_
  refine ev_sub [2, 1, 0] rfl ?_
  exact t_X12_name_L7 C E   N a0 x1 0 M hf
/-! FareLimitsModel needs(I)V -/
theorem dX12_needs_0 : decode prog_14_method_76_code 0 = .ok (.aload_n 0, 1) := by decide +kernel
theorem dX12_needs_1 : decode prog_14_method_76_code 1 = .ok (.iload_n 1, 1) := by decide +kernel
theorem dX12_needs_2 : decode prog_14_method_76_code 2 = .ok (.invokevirtual 278, 3) := by decide +kernel
theorem dX12_needs_5 : decode prog_14_method_76_code 5 = .ok (.ifCond .ne 11, 3) := by decide +kernel
theorem dX12_needs_8 : decode prog_14_method_76_code 8 = .ok (.aload_n 0, 1) := by decide +kernel
theorem dX12_needs_9 : decode prog_14_method_76_code 9 = .ok (.aload_n 0, 1) := by decide +kernel
theorem dX12_needs_10 : decode prog_14_method_76_code 10 = .ok (.getfield 266, 3) := by decide +kernel
theorem dX12_needs_13 : decode prog_14_method_76_code 13 = .ok (.invokevirtual 272, 3) := by decide +kernel
theorem dX12_needs_16 : decode prog_14_method_76_code 16 = .ok (.return_, 1) := by decide +kernel
def m_X12_needs (a0 : Nat) (i1 : Int32) (M : mM) : Option (mM) :=
  (oO M a0 12).bind fun _ =>
  (m_X12_takes a0 i1 M).bind fun x3 =>
  if x3.1 = 0 then (
    (fI x3.2 a0 12 24).bind fun x5 =>
    (oO x3.2 a0 12).bind fun _ =>
    (m_X12_wrong a0 x5 x3.2).bind fun x9 =>
    some x9) else (
    some x3.2)
set_option maxHeartbeats 4000000 in
set_option maxRecDepth 100000 in
theorem t_X12_needs {L0 : Launch} {M : mM} {a0 : Nat} {i1 : Int32} {res : mM} (hf : m_X12_needs a0 i1 M = some res) : CT L0 yX12_needs prog_14_method_76_code 2 none 3 69 0 0 [.ref a0, .int i1] M none res := by
  refine CT.of (by decide +kernel) (Nat.le_of_ble_eq_true rfl) fun X C E => ?_
  have C : CX X RX12 "needs" prog_14_method_76_code 2 none := C
  show EV X 2 0 [(0, .ref a0), (1, .int i1)] [] 0 0 M
  unfold m_X12_needs at hf
  refine ev_aload_n C dX12_needs_0 rfl (q := 0) rfl ?_
  refine ev_iload_n C dX12_needs_1 rfl (q := 1) rfl ?_
  obtain ⟨_, e1, hf⟩ := obnd hf
  obtain ⟨fs2, e1⟩ := oO_eq e1
  obtain ⟨x3, e4, hf⟩ := obnd hf
  refine ev_callV0 (As := [.int i1]) (st := []) C rfl e1 (t_X12_takes e4) rfl hd_X12_takes rfl kw_1583 kw_1585 kw_87 kw_58 kw_1586 (mRoom.of E (Nat.le_of_ble_eq_true rfl) (Nat.le_of_ble_eq_true rfl) (Nat.le_refl 0) (Nat.le_refl 0)) (Nat.le_of_ble_eq_true rfl) dX12_needs_2 ?_
  refine ev_if_ne (tgt := 16) C dX12_needs_5 (by decide) (fun hc => ?_) (fun hc => ?_)
  · have hf := oie hf hc
    obtain rfl := Option.some.inj hf
    exact ev_vret C E (Nat.le_refl 0) (Nat.le_refl 0) dX12_needs_16
  · have hf := oit hf hc
    refine ev_aload_n C dX12_needs_8 rfl (q := 0) rfl ?_
    refine ev_aload_n C dX12_needs_9 rfl (q := 0) rfl ?_
    obtain ⟨x5, e6, hf⟩ := obnd hf
    refine ev_get (k := 24) C ok_12 dX12_needs_10 (by decide) kw_1183 (fI_V e6) ?_
    obtain ⟨_, e7, hf⟩ := obnd hf
    obtain ⟨fs8, e7⟩ := oO_eq e7
    obtain ⟨x9, e10, hf⟩ := obnd hf
    refine ev_callV0 (As := [.int x5]) (st := []) C rfl e7 (t_X12_wrong e10) rfl hd_X12_wrong rfl kw_1563 kw_1565 kw_87 kw_53 kw_1566 (mRoom.of E (Nat.le_of_ble_eq_true rfl) (Nat.le_of_ble_eq_true rfl) (Nat.le_refl 0) (Nat.le_refl 0)) (Nat.le_of_ble_eq_true rfl) dX12_needs_13 ?_
    obtain rfl := Option.some.inj hf
    exact ev_vret C E (Nat.le_refl 0) (Nat.le_refl 0) dX12_needs_16
/-! FareLimitsModel comes()V -/
theorem dX12_comes_0 : decode prog_14_method_77_code 0 = .ok (.aload_n 0, 1) := by decide +kernel
theorem dX12_comes_1 : decode prog_14_method_77_code 1 = .ok (.getfield 9, 3) := by decide +kernel
theorem dX12_comes_4 : decode prog_14_method_77_code 4 = .ok (.iconst 5, 1) := by decide +kernel
theorem dX12_comes_5 : decode prog_14_method_77_code 5 = .ok (.dup2, 1) := by decide +kernel
theorem dX12_comes_6 : decode prog_14_method_77_code 6 = .ok (.iaload, 1) := by decide +kernel
theorem dX12_comes_7 : decode prog_14_method_77_code 7 = .ok (.dup_x2, 1) := by decide +kernel
theorem dX12_comes_8 : decode prog_14_method_77_code 8 = .ok (.iconst 1, 1) := by decide +kernel
theorem dX12_comes_9 : decode prog_14_method_77_code 9 = .ok (.iadd, 1) := by decide +kernel
theorem dX12_comes_10 : decode prog_14_method_77_code 10 = .ok (.iastore, 1) := by decide +kernel
theorem dX12_comes_11 : decode prog_14_method_77_code 11 = .ok (.istore_n 1, 1) := by decide +kernel
theorem dX12_comes_12 : decode prog_14_method_77_code 12 = .ok (.iload_n 1, 1) := by decide +kernel
theorem dX12_comes_13 : decode prog_14_method_77_code 13 = .ok (.ifCond .le 63, 3) := by decide +kernel
theorem dX12_comes_16 : decode prog_14_method_77_code 16 = .ok (.aload_n 0, 1) := by decide +kernel
theorem dX12_comes_17 : decode prog_14_method_77_code 17 = .ok (.iload_n 1, 1) := by decide +kernel
theorem dX12_comes_18 : decode prog_14_method_77_code 18 = .ok (.iconst 1, 1) := by decide +kernel
theorem dX12_comes_19 : decode prog_14_method_77_code 19 = .ok (.isub, 1) := by decide +kernel
theorem dX12_comes_20 : decode prog_14_method_77_code 20 = .ok (.invokevirtual 275, 3) := by decide +kernel
theorem dX12_comes_23 : decode prog_14_method_77_code 23 = .ok (.ifCond .le 53, 3) := by decide +kernel
theorem dX12_comes_26 : decode prog_14_method_77_code 26 = .ok (.iconst 0, 1) := by decide +kernel
theorem dX12_comes_27 : decode prog_14_method_77_code 27 = .ok (.istore_n 2, 1) := by decide +kernel
theorem dX12_comes_28 : decode prog_14_method_77_code 28 = .ok (.iload_n 2, 1) := by decide +kernel
theorem dX12_comes_29 : decode prog_14_method_77_code 29 = .ok (.bipush 6, 2) := by decide +kernel
theorem dX12_comes_31 : decode prog_14_method_77_code 31 = .ok (.if_icmp .ge 39, 3) := by decide +kernel
theorem dX12_comes_34 : decode prog_14_method_77_code 34 = .ok (.aload_n 0, 1) := by decide +kernel
theorem dX12_comes_35 : decode prog_14_method_77_code 35 = .ok (.getfield 9, 3) := by decide +kernel
theorem dX12_comes_38 : decode prog_14_method_77_code 38 = .ok (.bipush 50, 2) := by decide +kernel
theorem dX12_comes_40 : decode prog_14_method_77_code 40 = .ok (.bipush 6, 2) := by decide +kernel
theorem dX12_comes_42 : decode prog_14_method_77_code 42 = .ok (.iload_n 1, 1) := by decide +kernel
theorem dX12_comes_43 : decode prog_14_method_77_code 43 = .ok (.imul, 1) := by decide +kernel
theorem dX12_comes_44 : decode prog_14_method_77_code 44 = .ok (.iadd, 1) := by decide +kernel
theorem dX12_comes_45 : decode prog_14_method_77_code 45 = .ok (.iload_n 2, 1) := by decide +kernel
theorem dX12_comes_46 : decode prog_14_method_77_code 46 = .ok (.iadd, 1) := by decide +kernel
theorem dX12_comes_47 : decode prog_14_method_77_code 47 = .ok (.aload_n 0, 1) := by decide +kernel
theorem dX12_comes_48 : decode prog_14_method_77_code 48 = .ok (.getfield 9, 3) := by decide +kernel
theorem dX12_comes_51 : decode prog_14_method_77_code 51 = .ok (.bipush 50, 2) := by decide +kernel
theorem dX12_comes_53 : decode prog_14_method_77_code 53 = .ok (.bipush 6, 2) := by decide +kernel
theorem dX12_comes_55 : decode prog_14_method_77_code 55 = .ok (.iload_n 1, 1) := by decide +kernel
theorem dX12_comes_56 : decode prog_14_method_77_code 56 = .ok (.iconst 1, 1) := by decide +kernel
theorem dX12_comes_57 : decode prog_14_method_77_code 57 = .ok (.isub, 1) := by decide +kernel
theorem dX12_comes_58 : decode prog_14_method_77_code 58 = .ok (.imul, 1) := by decide +kernel
theorem dX12_comes_59 : decode prog_14_method_77_code 59 = .ok (.iadd, 1) := by decide +kernel
theorem dX12_comes_60 : decode prog_14_method_77_code 60 = .ok (.iload_n 2, 1) := by decide +kernel
theorem dX12_comes_61 : decode prog_14_method_77_code 61 = .ok (.iadd, 1) := by decide +kernel
theorem dX12_comes_62 : decode prog_14_method_77_code 62 = .ok (.iaload, 1) := by decide +kernel
theorem dX12_comes_63 : decode prog_14_method_77_code 63 = .ok (.iastore, 1) := by decide +kernel
theorem dX12_comes_64 : decode prog_14_method_77_code 64 = .ok (.iinc 2 1, 3) := by decide +kernel
theorem dX12_comes_67 : decode prog_14_method_77_code 67 = .ok (.goto (-39), 3) := by decide +kernel
theorem dX12_comes_70 : decode prog_14_method_77_code 70 = .ok (.iinc 1 (-1), 3) := by decide +kernel
theorem dX12_comes_73 : decode prog_14_method_77_code 73 = .ok (.goto (-61), 3) := by decide +kernel
theorem dX12_comes_76 : decode prog_14_method_77_code 76 = .ok (.iconst 0, 1) := by decide +kernel
theorem dX12_comes_77 : decode prog_14_method_77_code 77 = .ok (.istore_n 2, 1) := by decide +kernel
theorem dX12_comes_78 : decode prog_14_method_77_code 78 = .ok (.iload_n 2, 1) := by decide +kernel
theorem dX12_comes_79 : decode prog_14_method_77_code 79 = .ok (.bipush 6, 2) := by decide +kernel
theorem dX12_comes_81 : decode prog_14_method_77_code 81 = .ok (.if_icmp .ge 29, 3) := by decide +kernel
theorem dX12_comes_84 : decode prog_14_method_77_code 84 = .ok (.aload_n 0, 1) := by decide +kernel
theorem dX12_comes_85 : decode prog_14_method_77_code 85 = .ok (.getfield 9, 3) := by decide +kernel
theorem dX12_comes_88 : decode prog_14_method_77_code 88 = .ok (.bipush 50, 2) := by decide +kernel
theorem dX12_comes_90 : decode prog_14_method_77_code 90 = .ok (.bipush 6, 2) := by decide +kernel
theorem dX12_comes_92 : decode prog_14_method_77_code 92 = .ok (.iload_n 1, 1) := by decide +kernel
theorem dX12_comes_93 : decode prog_14_method_77_code 93 = .ok (.imul, 1) := by decide +kernel
theorem dX12_comes_94 : decode prog_14_method_77_code 94 = .ok (.iadd, 1) := by decide +kernel
theorem dX12_comes_95 : decode prog_14_method_77_code 95 = .ok (.iload_n 2, 1) := by decide +kernel
theorem dX12_comes_96 : decode prog_14_method_77_code 96 = .ok (.iadd, 1) := by decide +kernel
theorem dX12_comes_97 : decode prog_14_method_77_code 97 = .ok (.aload_n 0, 1) := by decide +kernel
theorem dX12_comes_98 : decode prog_14_method_77_code 98 = .ok (.getfield 66, 3) := by decide +kernel
theorem dX12_comes_101 : decode prog_14_method_77_code 101 = .ok (.iload_n 2, 1) := by decide +kernel
theorem dX12_comes_102 : decode prog_14_method_77_code 102 = .ok (.iaload, 1) := by decide +kernel
theorem dX12_comes_103 : decode prog_14_method_77_code 103 = .ok (.iastore, 1) := by decide +kernel
theorem dX12_comes_104 : decode prog_14_method_77_code 104 = .ok (.iinc 2 1, 3) := by decide +kernel
theorem dX12_comes_107 : decode prog_14_method_77_code 107 = .ok (.goto (-29), 3) := by decide +kernel
theorem dX12_comes_110 : decode prog_14_method_77_code 110 = .ok (.return_, 1) := by decide +kernel
def m_X12_comes_L78 (N : Nat)  : Nat → Nat → Int32 → Int32 → mM → Option (mM)
  | 0, _, _, _, _ => none
  | n + 1, a0, i1, i2, M =>
    if 6 ≤ i2 then (
      some M) else (
      (fR M a0 12 0).bind fun x1 =>
      (fR M a0 12 26).bind fun x3 =>
      (aI 0 M x3 i2).bind fun x5 =>
      (uI 0 .int M x1 ((50 + (6 * i1)) + i2) x5).bind fun M7 =>
      (m_X12_comes_L78 N  n) a0 i1 (i2 + 1) M7)
set_option maxHeartbeats 4000000 in
set_option maxRecDepth 100000 in
theorem t_X12_comes_L78 {X : mX} {L0 : Launch} {res : mM} {N : Nat} (C : CX X RX12 "comes" prog_14_method_77_code 3 none) (E : EX X L0 1 22 0 0 none res)   : ∀ (n : Nat) (a0 : Nat) (i1 : Int32) (i2 : Int32) (M : mM), m_X12_comes_L78 N  n a0 i1 i2 M = some res → EV X 3 78 [(0, .ref a0), (1, .int i1), (2, .int i2)] [] 0 0 M := by
  intro n
  induction n with
  | zero => intro a0 i1 i2 M hf; cases (show (none : Option (mM)) = some res from hf)
  | succ n ih =>
    intro a0 i1 i2 M hf
    rw [m_X12_comes_L78] at hf
    refine ev_iload_n C dX12_comes_78 rfl (q := 2) rfl ?_
    refine ev_bipush (v := 6) C dX12_comes_79 (by decide) ?_
    refine ev_icmp_ge (tgt := 110) C dX12_comes_81 (by decide) (fun hc => ?_) (fun hc => ?_)
    · have hf := oit hf hc
      obtain rfl := Option.some.inj hf
      exact ev_vret C E (Nat.le_refl 0) (Nat.le_refl 0) dX12_comes_110
    · have hf := oie hf hc
      refine ev_aload_n C dX12_comes_84 rfl (q := 0) rfl ?_
      obtain ⟨x1, e2, hf⟩ := obnd hf
      refine ev_get (k := 0) C ok_12 dX12_comes_85 (by decide) kw_1159 (fR_V e2) ?_
      refine ev_bipush (v := 50) C dX12_comes_88 (by decide) ?_
      refine ev_bipush (v := 6) C dX12_comes_90 (by decide) ?_
      refine ev_iload_n C dX12_comes_92 rfl (q := 1) rfl ?_
      refine ev_imul C dX12_comes_93 ?_
      refine ev_iadd C dX12_comes_94 ?_
      refine ev_iload_n C dX12_comes_95 rfl (q := 2) rfl ?_
      refine ev_iadd C dX12_comes_96 ?_
      refine ev_aload_n C dX12_comes_97 rfl (q := 0) rfl ?_
      obtain ⟨x3, e4, hf⟩ := obnd hf
      refine ev_get (k := 26) C ok_12 dX12_comes_98 (by decide) kw_1185 (fR_V e4) ?_
      refine ev_iload_n C dX12_comes_101 rfl (q := 2) rfl ?_
      obtain ⟨x5, e6, hf⟩ := obnd hf
      refine ev_iald C dX12_comes_102 e6 ?_
      obtain ⟨M7, e8, hf⟩ := obnd hf
      refine ev_iast C dX12_comes_103 e8 ?_
      refine ev_iinc (v := i2 + 1) (l' := [(2, .int (i2 + 1)), (0, .ref a0), (1, .int i1)]) C dX12_comes_104 (q := 2) rfl rfl (by decide) rfl ?_
      refine ev_goto (tgt := 78) C dX12_comes_107 (by decide) ?_
      refine ev_sub [1, 2, 0] rfl ?_
      exact ih a0 i1 (i2 + 1) M7 hf
def m_X12_comes_J76 (N : Nat)  (a0 : Nat) (i1 : Int32) (M : mM) : Option (mM) :=
  m_X12_comes_L78 N  N a0 i1 0 M
set_option maxHeartbeats 4000000 in
set_option maxRecDepth 100000 in
theorem t_X12_comes_J76 {X : mX} {L0 : Launch} {res : mM} {N : Nat} (C : CX X RX12 "comes" prog_14_method_77_code 3 none) (E : EX X L0 1 22 0 0 none res)   (a0 : Nat) (i1 : Int32) (M : mM) (hf : m_X12_comes_J76 N  a0 i1 M = some res) : EV X 3 76 [(0, .ref a0), (1, .int i1)] [] 0 0 M := by
  unfold m_X12_comes_J76 at hf
  refine ev_iconst (v := 0) C dX12_comes_76 (by decide) ?_
  refine ev_istore_n (l' := [(2, .int 0), (0, .ref a0), (1, .int i1)]) C dX12_comes_77 rfl (by decide) rfl ?_
  refine ev_sub [1, 2, 0] rfl ?_
  exact t_X12_comes_L78 C E   N a0 i1 0 M hf
def m_X12_comes_L28 (N : Nat) (k12 : Nat → Int32 → mM → Option (mM)) : Nat → Nat → Int32 → Int32 → mM → Option (mM)
  | 0, _, _, _, _ => none
  | n + 1, a0, i1, i2, M =>
    if 6 ≤ i2 then (
      k12 a0 (i1 + (-1)) M) else (
      (fR M a0 12 0).bind fun x1 =>
      (fR M a0 12 0).bind fun x3 =>
      (aI 0 M x3 ((50 + (6 * (i1 - 1))) + i2)).bind fun x5 =>
      (uI 0 .int M x1 ((50 + (6 * i1)) + i2) x5).bind fun M7 =>
      (m_X12_comes_L28 N k12  n) a0 i1 (i2 + 1) M7)
set_option maxHeartbeats 4000000 in
set_option maxRecDepth 100000 in
theorem t_X12_comes_L28 {X : mX} {L0 : Launch} {res : mM} {N : Nat} (C : CX X RX12 "comes" prog_14_method_77_code 3 none) (E : EX X L0 1 22 0 0 none res) (k12 : Nat → Int32 → mM → Option (mM)) (Hk12 : ∀ (a0 : Nat) (i1 : Int32) (M : mM), k12 a0 i1 M = some res → EV X 3 12 [(0, .ref a0), (1, .int i1)] [] 0 0 M) : ∀ (n : Nat) (a0 : Nat) (i1 : Int32) (i2 : Int32) (M : mM), m_X12_comes_L28 N k12 n a0 i1 i2 M = some res → EV X 3 28 [(0, .ref a0), (1, .int i1), (2, .int i2)] [] 0 0 M := by
  intro n
  induction n with
  | zero => intro a0 i1 i2 M hf; cases (show (none : Option (mM)) = some res from hf)
  | succ n ih =>
    intro a0 i1 i2 M hf
    rw [m_X12_comes_L28] at hf
    refine ev_iload_n C dX12_comes_28 rfl (q := 2) rfl ?_
    refine ev_bipush (v := 6) C dX12_comes_29 (by decide) ?_
    refine ev_icmp_ge (tgt := 70) C dX12_comes_31 (by decide) (fun hc => ?_) (fun hc => ?_)
    · have hf := oit hf hc
      refine ev_iinc (v := i1 + (-1)) (l' := [(1, .int (i1 + (-1))), (0, .ref a0), (2, .int i2)]) C dX12_comes_70 (q := 1) rfl rfl (by decide) rfl ?_
      refine ev_goto (tgt := 12) C dX12_comes_73 (by decide) ?_
      refine ev_sub [1, 0] rfl ?_
      exact Hk12 a0 (i1 + (-1)) M hf
    · have hf := oie hf hc
      refine ev_aload_n C dX12_comes_34 rfl (q := 0) rfl ?_
      obtain ⟨x1, e2, hf⟩ := obnd hf
      refine ev_get (k := 0) C ok_12 dX12_comes_35 (by decide) kw_1159 (fR_V e2) ?_
      refine ev_bipush (v := 50) C dX12_comes_38 (by decide) ?_
      refine ev_bipush (v := 6) C dX12_comes_40 (by decide) ?_
      refine ev_iload_n C dX12_comes_42 rfl (q := 1) rfl ?_
      refine ev_imul C dX12_comes_43 ?_
      refine ev_iadd C dX12_comes_44 ?_
      refine ev_iload_n C dX12_comes_45 rfl (q := 2) rfl ?_
      refine ev_iadd C dX12_comes_46 ?_
      refine ev_aload_n C dX12_comes_47 rfl (q := 0) rfl ?_
      obtain ⟨x3, e4, hf⟩ := obnd hf
      refine ev_get (k := 0) C ok_12 dX12_comes_48 (by decide) kw_1159 (fR_V e4) ?_
      refine ev_bipush (v := 50) C dX12_comes_51 (by decide) ?_
      refine ev_bipush (v := 6) C dX12_comes_53 (by decide) ?_
      refine ev_iload_n C dX12_comes_55 rfl (q := 1) rfl ?_
      refine ev_iconst (v := 1) C dX12_comes_56 (by decide) ?_
      refine ev_isub C dX12_comes_57 ?_
      refine ev_imul C dX12_comes_58 ?_
      refine ev_iadd C dX12_comes_59 ?_
      refine ev_iload_n C dX12_comes_60 rfl (q := 2) rfl ?_
      refine ev_iadd C dX12_comes_61 ?_
      obtain ⟨x5, e6, hf⟩ := obnd hf
      refine ev_iald C dX12_comes_62 e6 ?_
      obtain ⟨M7, e8, hf⟩ := obnd hf
      refine ev_iast C dX12_comes_63 e8 ?_
      refine ev_iinc (v := i2 + 1) (l' := [(2, .int (i2 + 1)), (0, .ref a0), (1, .int i1)]) C dX12_comes_64 (q := 2) rfl rfl (by decide) rfl ?_
      refine ev_goto (tgt := 28) C dX12_comes_67 (by decide) ?_
      refine ev_sub [1, 2, 0] rfl ?_
      exact ih a0 i1 (i2 + 1) M7 hf
def m_X12_comes_L12 (N : Nat)  : Nat → Nat → Int32 → mM → Option (mM)
  | 0, _, _, _ => none
  | n + 1, a0, i1, M =>
    if i1 ≤ 0 then (
      m_X12_comes_J76 N  a0 i1 M) else (
      (oO M a0 12).bind fun _ =>
      (m_X12_by N a0 (i1 - 1) M).bind fun x3 =>
      if x3 ≤ 0 then (
        m_X12_comes_J76 N  a0 i1 M) else (
        m_X12_comes_L28 N (m_X12_comes_L12 N  n) N a0 i1 0 M))
set_option maxHeartbeats 4000000 in
set_option maxRecDepth 100000 in
theorem t_X12_comes_L12 {X : mX} {L0 : Launch} {res : mM} {N : Nat} (C : CX X RX12 "comes" prog_14_method_77_code 3 none) (E : EX X L0 1 22 0 0 none res)   : ∀ (n : Nat) (a0 : Nat) (i1 : Int32) (M : mM), m_X12_comes_L12 N  n a0 i1 M = some res → EV X 3 12 [(0, .ref a0), (1, .int i1)] [] 0 0 M := by
  intro n
  induction n with
  | zero => intro a0 i1 M hf; cases (show (none : Option (mM)) = some res from hf)
  | succ n ih =>
    intro a0 i1 M hf
    rw [m_X12_comes_L12] at hf
    refine ev_iload_n C dX12_comes_12 rfl (q := 1) rfl ?_
    refine ev_if_le (tgt := 76) C dX12_comes_13 (by decide) (fun hc => ?_) (fun hc => ?_)
    · have hf := oit hf hc
      exact t_X12_comes_J76 C E   a0 i1 M hf
    · have hf := oie hf hc
      refine ev_aload_n C dX12_comes_16 rfl (q := 0) rfl ?_
      refine ev_iload_n C dX12_comes_17 rfl (q := 1) rfl ?_
      refine ev_iconst (v := 1) C dX12_comes_18 (by decide) ?_
      refine ev_isub C dX12_comes_19 ?_
      obtain ⟨_, e1, hf⟩ := obnd hf
      obtain ⟨fs2, e1⟩ := oO_eq e1
      obtain ⟨x3, e4, hf⟩ := obnd hf
      refine ev_callV0 (As := [.int (i1 - 1)]) (st := []) C rfl e1 (t_X12_by e4) rfl hd_X12_by rfl kw_1575 kw_1577 kw_87 kw_56 kw_1578 (mRoom.of E (Nat.le_of_ble_eq_true rfl) (Nat.le_of_ble_eq_true rfl) (Nat.le_refl 0) (Nat.le_refl 0)) (Nat.le_of_ble_eq_true rfl) dX12_comes_20 ?_
      refine ev_if_le (tgt := 76) C dX12_comes_23 (by decide) (fun hc => ?_) (fun hc => ?_)
      · have hf := oit hf hc
        exact t_X12_comes_J76 C E   a0 i1 M hf
      · have hf := oie hf hc
        refine ev_iconst (v := 0) C dX12_comes_26 (by decide) ?_
        refine ev_istore_n (l' := [(2, .int 0), (0, .ref a0), (1, .int i1)]) C dX12_comes_27 rfl (by decide) rfl ?_
        refine ev_sub [1, 2, 0] rfl ?_
        exact t_X12_comes_L28 C E (m_X12_comes_L12 N  n) ih N a0 i1 0 M hf
def m_X12_comes (N : Nat) (a0 : Nat) (M : mM) : Option (mM) :=
  (fR M a0 12 0).bind fun x1 =>
  (aI 0 M x1 5).bind fun x3 =>
  (uI 0 .int M x1 5 (x3 + 1)).bind fun M5 =>
  m_X12_comes_L12 N  N a0 x3 M5
set_option maxHeartbeats 4000000 in
set_option maxRecDepth 100000 in
theorem t_X12_comes {L0 : Launch} {M : mM} {N : Nat} {a0 : Nat} {res : mM} (hf : m_X12_comes N a0 M = some res) : CT L0 yX12_comes prog_14_method_77_code 3 none 1 22 0 0 [.ref a0] M none res := by
  refine CT.of (by decide +kernel) (Nat.le_of_ble_eq_true rfl) fun X C E => ?_
  have C : CX X RX12 "comes" prog_14_method_77_code 3 none := C
  show EV X 3 0 [(0, .ref a0)] [] 0 0 M
  unfold m_X12_comes at hf
  refine ev_aload_n C dX12_comes_0 rfl (q := 0) rfl ?_
  obtain ⟨x1, e2, hf⟩ := obnd hf
  refine ev_get (k := 0) C ok_12 dX12_comes_1 (by decide) kw_1159 (fR_V e2) ?_
  refine ev_iconst (v := 5) C dX12_comes_4 (by decide) ?_
  refine ev_dup2_11 C dX12_comes_5 rfl rfl ?_
  obtain ⟨x3, e4, hf⟩ := obnd hf
  refine ev_iald C dX12_comes_6 e4 ?_
  refine ev_dup_x2 C dX12_comes_7 rfl rfl rfl ?_
  refine ev_iconst (v := 1) C dX12_comes_8 (by decide) ?_
  refine ev_iadd C dX12_comes_9 ?_
  obtain ⟨M5, e6, hf⟩ := obnd hf
  refine ev_iast C dX12_comes_10 e6 ?_
  refine ev_istore_n (l' := [(1, .int x3), (0, .ref a0)]) C dX12_comes_11 rfl (by decide) rfl ?_
  refine ev_sub [1, 0] rfl ?_
  exact t_X12_comes_L12 C E   N a0 x3 M5 hf
/-! FareLimitsModel readRoute()V -/
theorem dX12_readRoute_0 : decode prog_14_method_78_code 0 = .ok (.aload_n 0, 1) := by decide +kernel
theorem dX12_readRoute_1 : decode prog_14_method_78_code 1 = .ok (.getfield 9, 3) := by decide +kernel
theorem dX12_readRoute_4 : decode prog_14_method_78_code 4 = .ok (.iconst 5, 1) := by decide +kernel
theorem dX12_readRoute_5 : decode prog_14_method_78_code 5 = .ok (.iaload, 1) := by decide +kernel
theorem dX12_readRoute_6 : decode prog_14_method_78_code 6 = .ok (.bipush 12, 2) := by decide +kernel
theorem dX12_readRoute_8 : decode prog_14_method_78_code 8 = .ok (.if_icmp .ne 11, 3) := by decide +kernel
theorem dX12_readRoute_11 : decode prog_14_method_78_code 11 = .ok (.aload_n 0, 1) := by decide +kernel
theorem dX12_readRoute_12 : decode prog_14_method_78_code 12 = .ok (.aload_n 0, 1) := by decide +kernel
theorem dX12_readRoute_13 : decode prog_14_method_78_code 13 = .ok (.getfield 266, 3) := by decide +kernel
theorem dX12_readRoute_16 : decode prog_14_method_78_code 16 = .ok (.invokevirtual 272, 3) := by decide +kernel
theorem dX12_readRoute_19 : decode prog_14_method_78_code 19 = .ok (.aload_n 0, 1) := by decide +kernel
theorem dX12_readRoute_20 : decode prog_14_method_78_code 20 = .ok (.getfield 263, 3) := by decide +kernel
theorem dX12_readRoute_23 : decode prog_14_method_78_code 23 = .ok (.ifCond .ge 7, 3) := by decide +kernel
theorem dX12_readRoute_26 : decode prog_14_method_78_code 26 = .ok (.aload_n 0, 1) := by decide +kernel
theorem dX12_readRoute_27 : decode prog_14_method_78_code 27 = .ok (.invokevirtual 281, 3) := by decide +kernel
theorem dX12_readRoute_30 : decode prog_14_method_78_code 30 = .ok (.aload_n 0, 1) := by decide +kernel
theorem dX12_readRoute_31 : decode prog_14_method_78_code 31 = .ok (.bipush 61, 2) := by decide +kernel
theorem dX12_readRoute_33 : decode prog_14_method_78_code 33 = .ok (.invokevirtual 284, 3) := by decide +kernel
theorem dX12_readRoute_36 : decode prog_14_method_78_code 36 = .ok (.bipush 48, 2) := by decide +kernel
theorem dX12_readRoute_38 : decode prog_14_method_78_code 38 = .ok (.istore_n 1, 1) := by decide +kernel
theorem dX12_readRoute_39 : decode prog_14_method_78_code 39 = .ok (.aload_n 0, 1) := by decide +kernel
theorem dX12_readRoute_40 : decode prog_14_method_78_code 40 = .ok (.getfield 66, 3) := by decide +kernel
theorem dX12_readRoute_43 : decode prog_14_method_78_code 43 = .ok (.iconst 3, 1) := by decide +kernel
theorem dX12_readRoute_44 : decode prog_14_method_78_code 44 = .ok (.iconst 0, 1) := by decide +kernel
theorem dX12_readRoute_45 : decode prog_14_method_78_code 45 = .ok (.iastore, 1) := by decide +kernel
theorem dX12_readRoute_46 : decode prog_14_method_78_code 46 = .ok (.aload_n 0, 1) := by decide +kernel
theorem dX12_readRoute_47 : decode prog_14_method_78_code 47 = .ok (.iload_n 1, 1) := by decide +kernel
theorem dX12_readRoute_48 : decode prog_14_method_78_code 48 = .ok (.bipush 51, 2) := by decide +kernel
theorem dX12_readRoute_50 : decode prog_14_method_78_code 50 = .ok (.invokevirtual 269, 3) := by decide +kernel
theorem dX12_readRoute_53 : decode prog_14_method_78_code 53 = .ok (.ifCond .eq 51, 3) := by decide +kernel
theorem dX12_readRoute_56 : decode prog_14_method_78_code 56 = .ok (.aload_n 0, 1) := by decide +kernel
theorem dX12_readRoute_57 : decode prog_14_method_78_code 57 = .ok (.getfield 66, 3) := by decide +kernel
theorem dX12_readRoute_60 : decode prog_14_method_78_code 60 = .ok (.iconst 3, 1) := by decide +kernel
theorem dX12_readRoute_61 : decode prog_14_method_78_code 61 = .ok (.dup2, 1) := by decide +kernel
theorem dX12_readRoute_62 : decode prog_14_method_78_code 62 = .ok (.iaload, 1) := by decide +kernel
theorem dX12_readRoute_63 : decode prog_14_method_78_code 63 = .ok (.iconst 1, 1) := by decide +kernel
theorem dX12_readRoute_64 : decode prog_14_method_78_code 64 = .ok (.aload_n 0, 1) := by decide +kernel
theorem dX12_readRoute_65 : decode prog_14_method_78_code 65 = .ok (.getfield 18, 3) := by decide +kernel
theorem dX12_readRoute_68 : decode prog_14_method_78_code 68 = .ok (.aload_n 0, 1) := by decide +kernel
theorem dX12_readRoute_69 : decode prog_14_method_78_code 69 = .ok (.getfield 266, 3) := by decide +kernel
theorem dX12_readRoute_72 : decode prog_14_method_78_code 72 = .ok (.iaload, 1) := by decide +kernel
theorem dX12_readRoute_73 : decode prog_14_method_78_code 73 = .ok (.bipush 48, 2) := by decide +kernel
theorem dX12_readRoute_75 : decode prog_14_method_78_code 75 = .ok (.isub, 1) := by decide +kernel
theorem dX12_readRoute_76 : decode prog_14_method_78_code 76 = .ok (.ishl, 1) := by decide +kernel
theorem dX12_readRoute_77 : decode prog_14_method_78_code 77 = .ok (.ior, 1) := by decide +kernel
theorem dX12_readRoute_78 : decode prog_14_method_78_code 78 = .ok (.iastore, 1) := by decide +kernel
theorem dX12_readRoute_79 : decode prog_14_method_78_code 79 = .ok (.aload_n 0, 1) := by decide +kernel
theorem dX12_readRoute_80 : decode prog_14_method_78_code 80 = .ok (.getfield 18, 3) := by decide +kernel
theorem dX12_readRoute_83 : decode prog_14_method_78_code 83 = .ok (.aload_n 0, 1) := by decide +kernel
theorem dX12_readRoute_84 : decode prog_14_method_78_code 84 = .ok (.getfield 266, 3) := by decide +kernel
theorem dX12_readRoute_87 : decode prog_14_method_78_code 87 = .ok (.iaload, 1) := by decide +kernel
theorem dX12_readRoute_88 : decode prog_14_method_78_code 88 = .ok (.iconst 1, 1) := by decide +kernel
theorem dX12_readRoute_89 : decode prog_14_method_78_code 89 = .ok (.iadd, 1) := by decide +kernel
theorem dX12_readRoute_90 : decode prog_14_method_78_code 90 = .ok (.istore_n 1, 1) := by decide +kernel
theorem dX12_readRoute_91 : decode prog_14_method_78_code 91 = .ok (.aload_n 0, 1) := by decide +kernel
theorem dX12_readRoute_92 : decode prog_14_method_78_code 92 = .ok (.dup, 1) := by decide +kernel
theorem dX12_readRoute_93 : decode prog_14_method_78_code 93 = .ok (.getfield 266, 3) := by decide +kernel
theorem dX12_readRoute_96 : decode prog_14_method_78_code 96 = .ok (.iconst 1, 1) := by decide +kernel
theorem dX12_readRoute_97 : decode prog_14_method_78_code 97 = .ok (.iadd, 1) := by decide +kernel
theorem dX12_readRoute_98 : decode prog_14_method_78_code 98 = .ok (.putfield 266, 3) := by decide +kernel
theorem dX12_readRoute_101 : decode prog_14_method_78_code 101 = .ok (.goto (-55), 3) := by decide +kernel
theorem dX12_readRoute_104 : decode prog_14_method_78_code 104 = .ok (.aload_n 0, 1) := by decide +kernel
theorem dX12_readRoute_105 : decode prog_14_method_78_code 105 = .ok (.getfield 66, 3) := by decide +kernel
theorem dX12_readRoute_108 : decode prog_14_method_78_code 108 = .ok (.iconst 3, 1) := by decide +kernel
theorem dX12_readRoute_109 : decode prog_14_method_78_code 109 = .ok (.iaload, 1) := by decide +kernel
theorem dX12_readRoute_110 : decode prog_14_method_78_code 110 = .ok (.ifCond .ne 11, 3) := by decide +kernel
theorem dX12_readRoute_113 : decode prog_14_method_78_code 113 = .ok (.aload_n 0, 1) := by decide +kernel
theorem dX12_readRoute_114 : decode prog_14_method_78_code 114 = .ok (.aload_n 0, 1) := by decide +kernel
theorem dX12_readRoute_115 : decode prog_14_method_78_code 115 = .ok (.getfield 266, 3) := by decide +kernel
theorem dX12_readRoute_118 : decode prog_14_method_78_code 118 = .ok (.invokevirtual 272, 3) := by decide +kernel
theorem dX12_readRoute_121 : decode prog_14_method_78_code 121 = .ok (.aload_n 0, 1) := by decide +kernel
theorem dX12_readRoute_122 : decode prog_14_method_78_code 122 = .ok (.bipush 58, 2) := by decide +kernel
theorem dX12_readRoute_124 : decode prog_14_method_78_code 124 = .ok (.invokevirtual 284, 3) := by decide +kernel
theorem dX12_readRoute_127 : decode prog_14_method_78_code 127 = .ok (.aload_n 0, 1) := by decide +kernel
theorem dX12_readRoute_128 : decode prog_14_method_78_code 128 = .ok (.getfield 66, 3) := by decide +kernel
theorem dX12_readRoute_131 : decode prog_14_method_78_code 131 = .ok (.iconst 4, 1) := by decide +kernel
theorem dX12_readRoute_132 : decode prog_14_method_78_code 132 = .ok (.aload_n 0, 1) := by decide +kernel
theorem dX12_readRoute_133 : decode prog_14_method_78_code 133 = .ok (.iconst 4, 1) := by decide +kernel
theorem dX12_readRoute_134 : decode prog_14_method_78_code 134 = .ok (.iconst 1, 1) := by decide +kernel
theorem dX12_readRoute_135 : decode prog_14_method_78_code 135 = .ok (.invokevirtual 287, 3) := by decide +kernel
theorem dX12_readRoute_138 : decode prog_14_method_78_code 138 = .ok (.iastore, 1) := by decide +kernel
theorem dX12_readRoute_139 : decode prog_14_method_78_code 139 = .ok (.aload_n 0, 1) := by decide +kernel
theorem dX12_readRoute_140 : decode prog_14_method_78_code 140 = .ok (.getfield 66, 3) := by decide +kernel
theorem dX12_readRoute_143 : decode prog_14_method_78_code 143 = .ok (.iconst 5, 1) := by decide +kernel
theorem dX12_readRoute_144 : decode prog_14_method_78_code 144 = .ok (.aload_n 0, 1) := by decide +kernel
theorem dX12_readRoute_145 : decode prog_14_method_78_code 145 = .ok (.bipush 42, 2) := by decide +kernel
theorem dX12_readRoute_147 : decode prog_14_method_78_code 147 = .ok (.invokevirtual 278, 3) := by decide +kernel
theorem dX12_readRoute_150 : decode prog_14_method_78_code 150 = .ok (.ifCond .eq 12, 3) := by decide +kernel
theorem dX12_readRoute_153 : decode prog_14_method_78_code 153 = .ok (.aload_n 0, 1) := by decide +kernel
theorem dX12_readRoute_154 : decode prog_14_method_78_code 154 = .ok (.iconst 2, 1) := by decide +kernel
theorem dX12_readRoute_155 : decode prog_14_method_78_code 155 = .ok (.iconst 0, 1) := by decide +kernel
theorem dX12_readRoute_156 : decode prog_14_method_78_code 156 = .ok (.invokevirtual 287, 3) := by decide +kernel
theorem dX12_readRoute_159 : decode prog_14_method_78_code 159 = .ok (.goto 4, 3) := by decide +kernel
theorem dX12_readRoute_162 : decode prog_14_method_78_code 162 = .ok (.iconst 0, 1) := by decide +kernel
theorem dX12_readRoute_163 : decode prog_14_method_78_code 163 = .ok (.iastore, 1) := by decide +kernel
theorem dX12_readRoute_164 : decode prog_14_method_78_code 164 = .ok (.aload_n 0, 1) := by decide +kernel
theorem dX12_readRoute_165 : decode prog_14_method_78_code 165 = .ok (.getfield 263, 3) := by decide +kernel
theorem dX12_readRoute_168 : decode prog_14_method_78_code 168 = .ok (.ifCond .ge 7, 3) := by decide +kernel
theorem dX12_readRoute_171 : decode prog_14_method_78_code 171 = .ok (.aload_n 0, 1) := by decide +kernel
theorem dX12_readRoute_172 : decode prog_14_method_78_code 172 = .ok (.invokevirtual 290, 3) := by decide +kernel
theorem dX12_readRoute_175 : decode prog_14_method_78_code 175 = .ok (.return_, 1) := by decide +kernel
def m_X12_readRoute_J163 (N : Nat)  (a0 : Nat) (sa0 : Nat) (si1 : Int32) (si2 : Int32) (M : mM) : Option (mM) :=
  (uI 0 .int M sa0 si1 si2).bind fun M1 =>
  (fI M1 a0 12 25).bind fun x3 =>
  if 0 ≤ x3 then (
    some M1) else (
    (oO M1 a0 12).bind fun _ =>
    (m_X12_comes N a0 M1).bind fun x7 =>
    some x7)
set_option maxHeartbeats 4000000 in
set_option maxRecDepth 100000 in
theorem t_X12_readRoute_J163 {X : mX} {L0 : Launch} {res : mM} {N : Nat} (C : CX X RX12 "readRoute" prog_14_method_78_code 2 none) (E : EX X L0 4 90 0 0 none res)   (a0 : Nat) (sa0 : Nat) (si1 : Int32) (si2 : Int32) (M : mM) (hf : m_X12_readRoute_J163 N  a0 sa0 si1 si2 M = some res) : EV X 2 163 [(0, .ref a0)] [.int si2, .int si1, .ref sa0] 0 0 M := by
  unfold m_X12_readRoute_J163 at hf
  obtain ⟨M1, e2, hf⟩ := obnd hf
  refine ev_iast C dX12_readRoute_163 e2 ?_
  refine ev_aload_n C dX12_readRoute_164 rfl (q := 0) rfl ?_
  obtain ⟨x3, e4, hf⟩ := obnd hf
  refine ev_get (k := 25) C ok_12 dX12_readRoute_165 (by decide) kw_1184 (fI_V e4) ?_
  refine ev_if_ge (tgt := 175) C dX12_readRoute_168 (by decide) (fun hc => ?_) (fun hc => ?_)
  · have hf := oit hf hc
    obtain rfl := Option.some.inj hf
    exact ev_vret C E (Nat.le_refl 0) (Nat.le_refl 0) dX12_readRoute_175
  · have hf := oie hf hc
    refine ev_aload_n C dX12_readRoute_171 rfl (q := 0) rfl ?_
    obtain ⟨_, e5, hf⟩ := obnd hf
    obtain ⟨fs6, e5⟩ := oO_eq e5
    obtain ⟨x7, e8, hf⟩ := obnd hf
    refine ev_callV0 (As := []) (st := []) C rfl e5 (t_X12_comes e8) rfl hd_X12_comes rfl kw_1591 kw_1593 kw_87 kw_60 kw_1594 (mRoom.of E (Nat.le_of_ble_eq_true rfl) (Nat.le_of_ble_eq_true rfl) (Nat.le_refl 0) (Nat.le_refl 0)) (Nat.le_of_ble_eq_true rfl) dX12_readRoute_172 ?_
    obtain rfl := Option.some.inj hf
    exact ev_vret C E (Nat.le_refl 0) (Nat.le_refl 0) dX12_readRoute_175
def m_X12_readRoute_J121 (N : Nat)  (a0 : Nat) (M : mM) : Option (mM) :=
  (oO M a0 12).bind fun _ =>
  (m_X12_needs a0 58 M).bind fun x3 =>
  (fR x3 a0 12 26).bind fun x5 =>
  (oO x3 a0 12).bind fun _ =>
  (m_X12_number N a0 4 1 x3).bind fun x9 =>
  (uI 0 .int x9.2 x5 4 x9.1).bind fun M11 =>
  (fR M11 a0 12 26).bind fun x13 =>
  (oO M11 a0 12).bind fun _ =>
  (m_X12_takes a0 42 M11).bind fun x17 =>
  if x17.1 = 0 then (
    m_X12_readRoute_J163 N  a0 x13 5 0 x17.2) else (
    (oO x17.2 a0 12).bind fun _ =>
    (m_X12_number N a0 2 0 x17.2).bind fun x21 =>
    m_X12_readRoute_J163 N  a0 x13 5 x21.1 x21.2)
set_option maxHeartbeats 4000000 in
set_option maxRecDepth 100000 in
theorem t_X12_readRoute_J121 {X : mX} {L0 : Launch} {res : mM} {N : Nat} (C : CX X RX12 "readRoute" prog_14_method_78_code 2 none) (E : EX X L0 4 90 0 0 none res)   (a0 : Nat) (M : mM) (hf : m_X12_readRoute_J121 N  a0 M = some res) : EV X 2 121 [(0, .ref a0)] [] 0 0 M := by
  unfold m_X12_readRoute_J121 at hf
  refine ev_aload_n C dX12_readRoute_121 rfl (q := 0) rfl ?_
  refine ev_bipush (v := 58) C dX12_readRoute_122 (by decide) ?_
  obtain ⟨_, e1, hf⟩ := obnd hf
  obtain ⟨fs2, e1⟩ := oO_eq e1
  obtain ⟨x3, e4, hf⟩ := obnd hf
  refine ev_callV0 (As := [.int 58]) (st := []) C rfl e1 (t_X12_needs e4) rfl hd_X12_needs rfl kw_1579 kw_1581 kw_87 kw_57 kw_1582 (mRoom.of E (Nat.le_of_ble_eq_true rfl) (Nat.le_of_ble_eq_true rfl) (Nat.le_refl 0) (Nat.le_refl 0)) (Nat.le_of_ble_eq_true rfl) dX12_readRoute_124 ?_
  refine ev_aload_n C dX12_readRoute_127 rfl (q := 0) rfl ?_
  obtain ⟨x5, e6, hf⟩ := obnd hf
  refine ev_get (k := 26) C ok_12 dX12_readRoute_128 (by decide) kw_1185 (fR_V e6) ?_
  refine ev_iconst (v := 4) C dX12_readRoute_131 (by decide) ?_
  refine ev_aload_n C dX12_readRoute_132 rfl (q := 0) rfl ?_
  refine ev_iconst (v := 4) C dX12_readRoute_133 (by decide) ?_
  refine ev_iconst (v := 1) C dX12_readRoute_134 (by decide) ?_
  obtain ⟨_, e7, hf⟩ := obnd hf
  obtain ⟨fs8, e7⟩ := oO_eq e7
  obtain ⟨x9, e10, hf⟩ := obnd hf
  refine ev_callV0 (As := [.int 4, .int 1]) (st := [.int 4, .ref x5]) C rfl e7 (t_X12_number e10) rfl hd_X12_number rfl kw_1587 kw_1589 kw_87 kw_59 kw_1590 (mRoom.of E (Nat.le_of_ble_eq_true rfl) (Nat.le_of_ble_eq_true rfl) (Nat.le_refl 0) (Nat.le_refl 0)) (Nat.le_of_ble_eq_true rfl) dX12_readRoute_135 ?_
  obtain ⟨M11, e12, hf⟩ := obnd hf
  refine ev_iast C dX12_readRoute_138 e12 ?_
  refine ev_aload_n C dX12_readRoute_139 rfl (q := 0) rfl ?_
  obtain ⟨x13, e14, hf⟩ := obnd hf
  refine ev_get (k := 26) C ok_12 dX12_readRoute_140 (by decide) kw_1185 (fR_V e14) ?_
  refine ev_iconst (v := 5) C dX12_readRoute_143 (by decide) ?_
  refine ev_aload_n C dX12_readRoute_144 rfl (q := 0) rfl ?_
  refine ev_bipush (v := 42) C dX12_readRoute_145 (by decide) ?_
  obtain ⟨_, e15, hf⟩ := obnd hf
  obtain ⟨fs16, e15⟩ := oO_eq e15
  obtain ⟨x17, e18, hf⟩ := obnd hf
  refine ev_callV0 (As := [.int 42]) (st := [.int 5, .ref x13]) C rfl e15 (t_X12_takes e18) rfl hd_X12_takes rfl kw_1583 kw_1585 kw_87 kw_58 kw_1586 (mRoom.of E (Nat.le_of_ble_eq_true rfl) (Nat.le_of_ble_eq_true rfl) (Nat.le_refl 0) (Nat.le_refl 0)) (Nat.le_of_ble_eq_true rfl) dX12_readRoute_147 ?_
  refine ev_if_eq (tgt := 162) C dX12_readRoute_150 (by decide) (fun hc => ?_) (fun hc => ?_)
  · have hf := oit hf hc
    refine ev_iconst (v := 0) C dX12_readRoute_162 (by decide) ?_
    exact t_X12_readRoute_J163 C E   a0 x13 5 0 x17.2 hf
  · have hf := oie hf hc
    refine ev_aload_n C dX12_readRoute_153 rfl (q := 0) rfl ?_
    refine ev_iconst (v := 2) C dX12_readRoute_154 (by decide) ?_
    refine ev_iconst (v := 0) C dX12_readRoute_155 (by decide) ?_
    obtain ⟨_, e19, hf⟩ := obnd hf
    obtain ⟨fs20, e19⟩ := oO_eq e19
    obtain ⟨x21, e22, hf⟩ := obnd hf
    refine ev_callV0 (As := [.int 2, .int 0]) (st := [.int 5, .ref x13]) C rfl e19 (t_X12_number e22) rfl hd_X12_number rfl kw_1587 kw_1589 kw_87 kw_59 kw_1590 (mRoom.of E (Nat.le_of_ble_eq_true rfl) (Nat.le_of_ble_eq_true rfl) (Nat.le_refl 0) (Nat.le_refl 0)) (Nat.le_of_ble_eq_true rfl) dX12_readRoute_156 ?_
    refine ev_goto (tgt := 163) C dX12_readRoute_159 (by decide) ?_
    exact t_X12_readRoute_J163 C E   a0 x13 5 x21.1 x21.2 hf
def m_X12_readRoute_L46 (N : Nat)  : Nat → Nat → Int32 → mM → Option (mM)
  | 0, _, _, _ => none
  | n + 1, a0, i1, M =>
    (oO M a0 12).bind fun _ =>
    (m_X12_isSign a0 i1 51 M).bind fun x3 =>
    if x3 = 0 then (
      (fR M a0 12 26).bind fun x5 =>
      (aI 0 M x5 3).bind fun x7 =>
      if x7 = 0 then (
        (fI M a0 12 24).bind fun x9 =>
        (oO M a0 12).bind fun _ =>
        (m_X12_wrong a0 x9 M).bind fun x13 =>
        m_X12_readRoute_J121 N  a0 x13) else (
        m_X12_readRoute_J121 N  a0 M)) else (
      (fR M a0 12 26).bind fun x15 =>
      (aI 0 M x15 3).bind fun x17 =>
      (fR M a0 12 4).bind fun x19 =>
      (fI M a0 12 24).bind fun x21 =>
      (aI 0 M x19 x21).bind fun x23 =>
      (uI 0 .int M x15 3 (x17 ||| (1 <<< ((x23 - 48) &&& 31)))).bind fun M25 =>
      (fR M25 a0 12 4).bind fun x27 =>
      (fI M25 a0 12 24).bind fun x29 =>
      (aI 0 M25 x27 x29).bind fun x31 =>
      (fI M25 a0 12 24).bind fun x33 =>
      (sV M25 a0 12 24 (.int (x33 + 1))).bind fun M35 =>
      (m_X12_readRoute_L46 N  n) a0 (x31 + 1) M35)
set_option maxHeartbeats 4000000 in
set_option maxRecDepth 100000 in
theorem t_X12_readRoute_L46 {X : mX} {L0 : Launch} {res : mM} {N : Nat} (C : CX X RX12 "readRoute" prog_14_method_78_code 2 none) (E : EX X L0 4 90 0 0 none res)   : ∀ (n : Nat) (a0 : Nat) (i1 : Int32) (M : mM), m_X12_readRoute_L46 N  n a0 i1 M = some res → EV X 2 46 [(0, .ref a0), (1, .int i1)] [] 0 0 M := by
  intro n
  induction n with
  | zero => intro a0 i1 M hf; cases (show (none : Option (mM)) = some res from hf)
  | succ n ih =>
    intro a0 i1 M hf
    rw [m_X12_readRoute_L46] at hf
    refine ev_aload_n C dX12_readRoute_46 rfl (q := 0) rfl ?_
    refine ev_iload_n C dX12_readRoute_47 rfl (q := 1) rfl ?_
    refine ev_bipush (v := 51) C dX12_readRoute_48 (by decide) ?_
    obtain ⟨_, e1, hf⟩ := obnd hf
    obtain ⟨fs2, e1⟩ := oO_eq e1
    obtain ⟨x3, e4, hf⟩ := obnd hf
    refine ev_callV0 (As := [.int i1, .int 51]) (st := []) C rfl e1 (t_X12_isSign e4) rfl hd_X12_isSign rfl kw_1571 kw_1573 kw_87 kw_55 kw_1574 (mRoom.of E (Nat.le_of_ble_eq_true rfl) (Nat.le_of_ble_eq_true rfl) (Nat.le_refl 0) (Nat.le_refl 0)) (Nat.le_of_ble_eq_true rfl) dX12_readRoute_50 ?_
    refine ev_if_eq (tgt := 104) C dX12_readRoute_53 (by decide) (fun hc => ?_) (fun hc => ?_)
    · have hf := oit hf hc
      refine ev_aload_n C dX12_readRoute_104 rfl (q := 0) rfl ?_
      obtain ⟨x5, e6, hf⟩ := obnd hf
      refine ev_get (k := 26) C ok_12 dX12_readRoute_105 (by decide) kw_1185 (fR_V e6) ?_
      refine ev_iconst (v := 3) C dX12_readRoute_108 (by decide) ?_
      obtain ⟨x7, e8, hf⟩ := obnd hf
      refine ev_iald C dX12_readRoute_109 e8 ?_
      refine ev_if_ne (tgt := 121) C dX12_readRoute_110 (by decide) (fun hc => ?_) (fun hc => ?_)
      · have hf := oie hf hc
        refine ev_sub [0] rfl ?_
        exact t_X12_readRoute_J121 C E   a0 M hf
      · have hf := oit hf hc
        refine ev_aload_n C dX12_readRoute_113 rfl (q := 0) rfl ?_
        refine ev_aload_n C dX12_readRoute_114 rfl (q := 0) rfl ?_
        obtain ⟨x9, e10, hf⟩ := obnd hf
        refine ev_get (k := 24) C ok_12 dX12_readRoute_115 (by decide) kw_1183 (fI_V e10) ?_
        obtain ⟨_, e11, hf⟩ := obnd hf
        obtain ⟨fs12, e11⟩ := oO_eq e11
        obtain ⟨x13, e14, hf⟩ := obnd hf
        refine ev_callV0 (As := [.int x9]) (st := []) C rfl e11 (t_X12_wrong e14) rfl hd_X12_wrong rfl kw_1563 kw_1565 kw_87 kw_53 kw_1566 (mRoom.of E (Nat.le_of_ble_eq_true rfl) (Nat.le_of_ble_eq_true rfl) (Nat.le_refl 0) (Nat.le_refl 0)) (Nat.le_of_ble_eq_true rfl) dX12_readRoute_118 ?_
        refine ev_sub [0] rfl ?_
        exact t_X12_readRoute_J121 C E   a0 x13 hf
    · have hf := oie hf hc
      refine ev_aload_n C dX12_readRoute_56 rfl (q := 0) rfl ?_
      obtain ⟨x15, e16, hf⟩ := obnd hf
      refine ev_get (k := 26) C ok_12 dX12_readRoute_57 (by decide) kw_1185 (fR_V e16) ?_
      refine ev_iconst (v := 3) C dX12_readRoute_60 (by decide) ?_
      refine ev_dup2_11 C dX12_readRoute_61 rfl rfl ?_
      obtain ⟨x17, e18, hf⟩ := obnd hf
      refine ev_iald C dX12_readRoute_62 e18 ?_
      refine ev_iconst (v := 1) C dX12_readRoute_63 (by decide) ?_
      refine ev_aload_n C dX12_readRoute_64 rfl (q := 0) rfl ?_
      obtain ⟨x19, e20, hf⟩ := obnd hf
      refine ev_get (k := 4) C ok_12 dX12_readRoute_65 (by decide) kw_1163 (fR_V e20) ?_
      refine ev_aload_n C dX12_readRoute_68 rfl (q := 0) rfl ?_
      obtain ⟨x21, e22, hf⟩ := obnd hf
      refine ev_get (k := 24) C ok_12 dX12_readRoute_69 (by decide) kw_1183 (fI_V e22) ?_
      obtain ⟨x23, e24, hf⟩ := obnd hf
      refine ev_iald C dX12_readRoute_72 e24 ?_
      refine ev_bipush (v := 48) C dX12_readRoute_73 (by decide) ?_
      refine ev_isub C dX12_readRoute_75 ?_
      refine ev_ishl C dX12_readRoute_76 ?_
      refine ev_ior C dX12_readRoute_77 ?_
      obtain ⟨M25, e26, hf⟩ := obnd hf
      refine ev_iast C dX12_readRoute_78 e26 ?_
      refine ev_aload_n C dX12_readRoute_79 rfl (q := 0) rfl ?_
      obtain ⟨x27, e28, hf⟩ := obnd hf
      refine ev_get (k := 4) C ok_12 dX12_readRoute_80 (by decide) kw_1163 (fR_V e28) ?_
      refine ev_aload_n C dX12_readRoute_83 rfl (q := 0) rfl ?_
      obtain ⟨x29, e30, hf⟩ := obnd hf
      refine ev_get (k := 24) C ok_12 dX12_readRoute_84 (by decide) kw_1183 (fI_V e30) ?_
      obtain ⟨x31, e32, hf⟩ := obnd hf
      refine ev_iald C dX12_readRoute_87 e32 ?_
      refine ev_iconst (v := 1) C dX12_readRoute_88 (by decide) ?_
      refine ev_iadd C dX12_readRoute_89 ?_
      refine ev_istore_n (l' := [(1, .int (x31 + 1)), (0, .ref a0)]) C dX12_readRoute_90 rfl (by decide) rfl ?_
      refine ev_aload_n C dX12_readRoute_91 rfl (q := 1) rfl ?_
      refine ev_dup C dX12_readRoute_92 rfl ?_
      obtain ⟨x33, e34, hf⟩ := obnd hf
      refine ev_get (k := 24) C ok_12 dX12_readRoute_93 (by decide) kw_1183 (fI_V e34) ?_
      refine ev_iconst (v := 1) C dX12_readRoute_96 (by decide) ?_
      refine ev_iadd C dX12_readRoute_97 ?_
      obtain ⟨M35, e36, hf⟩ := obnd hf
      refine ev_put (k := 24) C ok_12 dX12_readRoute_98 (by decide) kw_1183 rfl ⟨rfl, rfl⟩ e36 ?_
      refine ev_goto (tgt := 46) C dX12_readRoute_101 (by decide) ?_
      refine ev_sub [1, 0] rfl ?_
      exact ih a0 (x31 + 1) M35 hf
def m_X12_readRoute_J30 (N : Nat)  (a0 : Nat) (M : mM) : Option (mM) :=
  (oO M a0 12).bind fun _ =>
  (m_X12_needs a0 61 M).bind fun x3 =>
  (fR x3 a0 12 26).bind fun x5 =>
  (uI 0 .int x3 x5 3 0).bind fun M7 =>
  m_X12_readRoute_L46 N  N a0 48 M7
set_option maxHeartbeats 4000000 in
set_option maxRecDepth 100000 in
theorem t_X12_readRoute_J30 {X : mX} {L0 : Launch} {res : mM} {N : Nat} (C : CX X RX12 "readRoute" prog_14_method_78_code 2 none) (E : EX X L0 4 90 0 0 none res)   (a0 : Nat) (M : mM) (hf : m_X12_readRoute_J30 N  a0 M = some res) : EV X 2 30 [(0, .ref a0)] [] 0 0 M := by
  unfold m_X12_readRoute_J30 at hf
  refine ev_aload_n C dX12_readRoute_30 rfl (q := 0) rfl ?_
  refine ev_bipush (v := 61) C dX12_readRoute_31 (by decide) ?_
  obtain ⟨_, e1, hf⟩ := obnd hf
  obtain ⟨fs2, e1⟩ := oO_eq e1
  obtain ⟨x3, e4, hf⟩ := obnd hf
  refine ev_callV0 (As := [.int 61]) (st := []) C rfl e1 (t_X12_needs e4) rfl hd_X12_needs rfl kw_1579 kw_1581 kw_87 kw_57 kw_1582 (mRoom.of E (Nat.le_of_ble_eq_true rfl) (Nat.le_of_ble_eq_true rfl) (Nat.le_refl 0) (Nat.le_refl 0)) (Nat.le_of_ble_eq_true rfl) dX12_readRoute_33 ?_
  refine ev_bipush (v := 48) C dX12_readRoute_36 (by decide) ?_
  refine ev_istore_n (l' := [(1, .int 48), (0, .ref a0)]) C dX12_readRoute_38 rfl (by decide) rfl ?_
  refine ev_aload_n C dX12_readRoute_39 rfl (q := 1) rfl ?_
  obtain ⟨x5, e6, hf⟩ := obnd hf
  refine ev_get (k := 26) C ok_12 dX12_readRoute_40 (by decide) kw_1185 (fR_V e6) ?_
  refine ev_iconst (v := 3) C dX12_readRoute_43 (by decide) ?_
  refine ev_iconst (v := 0) C dX12_readRoute_44 (by decide) ?_
  obtain ⟨M7, e8, hf⟩ := obnd hf
  refine ev_iast C dX12_readRoute_45 e8 ?_
  refine ev_sub [1, 0] rfl ?_
  exact t_X12_readRoute_L46 C E   N a0 48 M7 hf
def m_X12_readRoute_J19 (N : Nat)  (a0 : Nat) (M : mM) : Option (mM) :=
  (fI M a0 12 25).bind fun x1 =>
  if 0 ≤ x1 then (
    m_X12_readRoute_J30 N  a0 M) else (
    (oO M a0 12).bind fun _ =>
    (m_X12_name N a0 M).bind fun x5 =>
    m_X12_readRoute_J30 N  a0 x5)
set_option maxHeartbeats 4000000 in
set_option maxRecDepth 100000 in
theorem t_X12_readRoute_J19 {X : mX} {L0 : Launch} {res : mM} {N : Nat} (C : CX X RX12 "readRoute" prog_14_method_78_code 2 none) (E : EX X L0 4 90 0 0 none res)   (a0 : Nat) (M : mM) (hf : m_X12_readRoute_J19 N  a0 M = some res) : EV X 2 19 [(0, .ref a0)] [] 0 0 M := by
  unfold m_X12_readRoute_J19 at hf
  refine ev_aload_n C dX12_readRoute_19 rfl (q := 0) rfl ?_
  obtain ⟨x1, e2, hf⟩ := obnd hf
  refine ev_get (k := 25) C ok_12 dX12_readRoute_20 (by decide) kw_1184 (fI_V e2) ?_
  refine ev_if_ge (tgt := 30) C dX12_readRoute_23 (by decide) (fun hc => ?_) (fun hc => ?_)
  · have hf := oit hf hc
    exact t_X12_readRoute_J30 C E   a0 M hf
  · have hf := oie hf hc
    refine ev_aload_n C dX12_readRoute_26 rfl (q := 0) rfl ?_
    obtain ⟨_, e3, hf⟩ := obnd hf
    obtain ⟨fs4, e3⟩ := oO_eq e3
    obtain ⟨x5, e6, hf⟩ := obnd hf
    refine ev_callV0 (As := []) (st := []) C rfl e3 (t_X12_name e6) rfl hd_X12_name rfl kw_1567 kw_1569 kw_87 kw_54 kw_1570 (mRoom.of E (Nat.le_of_ble_eq_true rfl) (Nat.le_of_ble_eq_true rfl) (Nat.le_refl 0) (Nat.le_refl 0)) (Nat.le_of_ble_eq_true rfl) dX12_readRoute_27 ?_
    exact t_X12_readRoute_J30 C E   a0 x5 hf
def m_X12_readRoute (N : Nat) (a0 : Nat) (M : mM) : Option (mM) :=
  (fR M a0 12 0).bind fun x1 =>
  (aI 0 M x1 5).bind fun x3 =>
  if x3 = 12 then (
    (fI M a0 12 24).bind fun x5 =>
    (oO M a0 12).bind fun _ =>
    (m_X12_wrong a0 x5 M).bind fun x9 =>
    m_X12_readRoute_J19 N  a0 x9) else (
    m_X12_readRoute_J19 N  a0 M)
set_option maxHeartbeats 4000000 in
set_option maxRecDepth 100000 in
theorem t_X12_readRoute {L0 : Launch} {M : mM} {N : Nat} {a0 : Nat} {res : mM} (hf : m_X12_readRoute N a0 M = some res) : CT L0 yX12_readRoute prog_14_method_78_code 2 none 4 90 0 0 [.ref a0] M none res := by
  refine CT.of (by decide +kernel) (Nat.le_of_ble_eq_true rfl) fun X C E => ?_
  have C : CX X RX12 "readRoute" prog_14_method_78_code 2 none := C
  show EV X 2 0 [(0, .ref a0)] [] 0 0 M
  unfold m_X12_readRoute at hf
  refine ev_aload_n C dX12_readRoute_0 rfl (q := 0) rfl ?_
  obtain ⟨x1, e2, hf⟩ := obnd hf
  refine ev_get (k := 0) C ok_12 dX12_readRoute_1 (by decide) kw_1159 (fR_V e2) ?_
  refine ev_iconst (v := 5) C dX12_readRoute_4 (by decide) ?_
  obtain ⟨x3, e4, hf⟩ := obnd hf
  refine ev_iald C dX12_readRoute_5 e4 ?_
  refine ev_bipush (v := 12) C dX12_readRoute_6 (by decide) ?_
  refine ev_icmp_ne (tgt := 19) C dX12_readRoute_8 (by decide) (fun hc => ?_) (fun hc => ?_)
  · have hf := oie hf hc
    exact t_X12_readRoute_J19 C E   a0 M hf
  · have hf := oit hf hc
    refine ev_aload_n C dX12_readRoute_11 rfl (q := 0) rfl ?_
    refine ev_aload_n C dX12_readRoute_12 rfl (q := 0) rfl ?_
    obtain ⟨x5, e6, hf⟩ := obnd hf
    refine ev_get (k := 24) C ok_12 dX12_readRoute_13 (by decide) kw_1183 (fI_V e6) ?_
    obtain ⟨_, e7, hf⟩ := obnd hf
    obtain ⟨fs8, e7⟩ := oO_eq e7
    obtain ⟨x9, e10, hf⟩ := obnd hf
    refine ev_callV0 (As := [.int x5]) (st := []) C rfl e7 (t_X12_wrong e10) rfl hd_X12_wrong rfl kw_1563 kw_1565 kw_87 kw_53 kw_1566 (mRoom.of E (Nat.le_of_ble_eq_true rfl) (Nat.le_of_ble_eq_true rfl) (Nat.le_refl 0) (Nat.le_refl 0)) (Nat.le_of_ble_eq_true rfl) dX12_readRoute_16 ?_
    exact t_X12_readRoute_J19 C E   a0 x9 hf
/-! FareLimitsModel pours([I[I)V -/
theorem dX12_pours_0 : decode prog_14_method_79_code 0 = .ok (.iconst 0, 1) := by decide +kernel
theorem dX12_pours_1 : decode prog_14_method_79_code 1 = .ok (.istore_n 2, 1) := by decide +kernel
theorem dX12_pours_2 : decode prog_14_method_79_code 2 = .ok (.iload_n 2, 1) := by decide +kernel
theorem dX12_pours_3 : decode prog_14_method_79_code 3 = .ok (.sipush 129, 3) := by decide +kernel
theorem dX12_pours_6 : decode prog_14_method_79_code 6 = .ok (.if_icmp .ge 15, 3) := by decide +kernel
theorem dX12_pours_9 : decode prog_14_method_79_code 9 = .ok (.aload_n 1, 1) := by decide +kernel
theorem dX12_pours_10 : decode prog_14_method_79_code 10 = .ok (.iload_n 2, 1) := by decide +kernel
theorem dX12_pours_11 : decode prog_14_method_79_code 11 = .ok (.aload_n 0, 1) := by decide +kernel
theorem dX12_pours_12 : decode prog_14_method_79_code 12 = .ok (.iload_n 2, 1) := by decide +kernel
theorem dX12_pours_13 : decode prog_14_method_79_code 13 = .ok (.iaload, 1) := by decide +kernel
theorem dX12_pours_14 : decode prog_14_method_79_code 14 = .ok (.iastore, 1) := by decide +kernel
theorem dX12_pours_15 : decode prog_14_method_79_code 15 = .ok (.iinc 2 1, 3) := by decide +kernel
theorem dX12_pours_18 : decode prog_14_method_79_code 18 = .ok (.goto (-16), 3) := by decide +kernel
theorem dX12_pours_21 : decode prog_14_method_79_code 21 = .ok (.return_, 1) := by decide +kernel
def m_X12_pours_L2 (N : Nat)  : Nat → Nat → Nat → Int32 → mM → Option (mM)
  | 0, _, _, _, _ => none
  | n + 1, a0, a1, i2, M =>
    if 129 ≤ i2 then (
      some M) else (
      (aI 0 M a0 i2).bind fun x1 =>
      (uI 0 .int M a1 i2 x1).bind fun M3 =>
      (m_X12_pours_L2 N  n) a0 a1 (i2 + 1) M3)
set_option maxHeartbeats 4000000 in
set_option maxRecDepth 100000 in
theorem t_X12_pours_L2 {X : mX} {L0 : Launch} {res : mM} {N : Nat} (C : CX X RX12 "pours" prog_14_method_79_code 3 none) (E : EX X L0 0 0 0 0 none res)   : ∀ (n : Nat) (a0 : Nat) (a1 : Nat) (i2 : Int32) (M : mM), m_X12_pours_L2 N  n a0 a1 i2 M = some res → EV X 3 2 [(0, .ref a0), (1, .ref a1), (2, .int i2)] [] 0 0 M := by
  intro n
  induction n with
  | zero => intro a0 a1 i2 M hf; cases (show (none : Option (mM)) = some res from hf)
  | succ n ih =>
    intro a0 a1 i2 M hf
    rw [m_X12_pours_L2] at hf
    refine ev_iload_n C dX12_pours_2 rfl (q := 2) rfl ?_
    refine ev_sipush (v := 129) C dX12_pours_3 (by decide) ?_
    refine ev_icmp_ge (tgt := 21) C dX12_pours_6 (by decide) (fun hc => ?_) (fun hc => ?_)
    · have hf := oit hf hc
      obtain rfl := Option.some.inj hf
      exact ev_vret C E (Nat.le_refl 0) (Nat.le_refl 0) dX12_pours_21
    · have hf := oie hf hc
      refine ev_aload_n C dX12_pours_9 rfl (q := 1) rfl ?_
      refine ev_iload_n C dX12_pours_10 rfl (q := 2) rfl ?_
      refine ev_aload_n C dX12_pours_11 rfl (q := 0) rfl ?_
      refine ev_iload_n C dX12_pours_12 rfl (q := 2) rfl ?_
      obtain ⟨x1, e2, hf⟩ := obnd hf
      refine ev_iald C dX12_pours_13 e2 ?_
      obtain ⟨M3, e4, hf⟩ := obnd hf
      refine ev_iast C dX12_pours_14 e4 ?_
      refine ev_iinc (v := i2 + 1) (l' := [(2, .int (i2 + 1)), (0, .ref a0), (1, .ref a1)]) C dX12_pours_15 (q := 2) rfl rfl (by decide) rfl ?_
      refine ev_goto (tgt := 2) C dX12_pours_18 (by decide) ?_
      refine ev_sub [1, 2, 0] rfl ?_
      exact ih a0 a1 (i2 + 1) M3 hf
def m_X12_pours (N : Nat) (a0 : Nat) (a1 : Nat) (M : mM) : Option (mM) :=
  m_X12_pours_L2 N  N a0 a1 0 M
set_option maxHeartbeats 4000000 in
set_option maxRecDepth 100000 in
theorem t_X12_pours {L0 : Launch} {M : mM} {N : Nat} {a0 : Nat} {a1 : Nat} {res : mM} (hf : m_X12_pours N a0 a1 M = some res) : CT L0 yX12_pours prog_14_method_79_code 3 none 0 0 0 0 [.ref a0, .ref a1] M none res := by
  refine CT.of (by decide +kernel) (Nat.le_of_ble_eq_true rfl) fun X C E => ?_
  have C : CX X RX12 "pours" prog_14_method_79_code 3 none := C
  show EV X 3 0 [(0, .ref a0), (1, .ref a1)] [] 0 0 M
  unfold m_X12_pours at hf
  refine ev_iconst (v := 0) C dX12_pours_0 (by decide) ?_
  refine ev_istore_n (l' := [(2, .int 0), (0, .ref a0), (1, .ref a1)]) C dX12_pours_1 rfl (by decide) rfl ?_
  refine ev_sub [1, 2, 0] rfl ?_
  exact t_X12_pours_L2 C E   N a0 a1 0 M hf
/-! FareLimitsModel book()I -/
theorem dX12_book_0 : decode prog_14_method_80_code 0 = .ok (.aload_n 0, 1) := by decide +kernel
theorem dX12_book_1 : decode prog_14_method_80_code 1 = .ok (.iconst 0, 1) := by decide +kernel
theorem dX12_book_2 : decode prog_14_method_80_code 2 = .ok (.putfield 266, 3) := by decide +kernel
theorem dX12_book_5 : decode prog_14_method_80_code 5 = .ok (.aload_n 0, 1) := by decide +kernel
theorem dX12_book_6 : decode prog_14_method_80_code 6 = .ok (.iconst (-1), 1) := by decide +kernel
theorem dX12_book_7 : decode prog_14_method_80_code 7 = .ok (.putfield 263, 3) := by decide +kernel
theorem dX12_book_10 : decode prog_14_method_80_code 10 = .ok (.aload_n 0, 1) := by decide +kernel
theorem dX12_book_11 : decode prog_14_method_80_code 11 = .ok (.getfield 9, 3) := by decide +kernel
theorem dX12_book_14 : decode prog_14_method_80_code 14 = .ok (.aload_n 0, 1) := by decide +kernel
theorem dX12_book_15 : decode prog_14_method_80_code 15 = .ok (.getfield 69, 3) := by decide +kernel
theorem dX12_book_18 : decode prog_14_method_80_code 18 = .ok (.invokestatic 293, 3) := by decide +kernel
theorem dX12_book_21 : decode prog_14_method_80_code 21 = .ok (.iconst 0, 1) := by decide +kernel
theorem dX12_book_22 : decode prog_14_method_80_code 22 = .ok (.istore_n 1, 1) := by decide +kernel
theorem dX12_book_23 : decode prog_14_method_80_code 23 = .ok (.aload_n 0, 1) := by decide +kernel
theorem dX12_book_24 : decode prog_14_method_80_code 24 = .ok (.invokevirtual 297, 3) := by decide +kernel
theorem dX12_book_27 : decode prog_14_method_80_code 27 = .ok (.iinc 1 1, 3) := by decide +kernel
theorem dX12_book_30 : decode prog_14_method_80_code 30 = .ok (.aload_n 0, 1) := by decide +kernel
theorem dX12_book_31 : decode prog_14_method_80_code 31 = .ok (.bipush 59, 2) := by decide +kernel
theorem dX12_book_33 : decode prog_14_method_80_code 33 = .ok (.invokevirtual 278, 3) := by decide +kernel
theorem dX12_book_36 : decode prog_14_method_80_code 36 = .ok (.ifCond .ne (-13), 3) := by decide +kernel
theorem dX12_book_39 : decode prog_14_method_80_code 39 = .ok (.aload_n 0, 1) := by decide +kernel
theorem dX12_book_40 : decode prog_14_method_80_code 40 = .ok (.getfield 266, 3) := by decide +kernel
theorem dX12_book_43 : decode prog_14_method_80_code 43 = .ok (.aload_n 0, 1) := by decide +kernel
theorem dX12_book_44 : decode prog_14_method_80_code 44 = .ok (.getfield 260, 3) := by decide +kernel
theorem dX12_book_47 : decode prog_14_method_80_code 47 = .ok (.if_icmp .ge 11, 3) := by decide +kernel
theorem dX12_book_50 : decode prog_14_method_80_code 50 = .ok (.aload_n 0, 1) := by decide +kernel
theorem dX12_book_51 : decode prog_14_method_80_code 51 = .ok (.aload_n 0, 1) := by decide +kernel
theorem dX12_book_52 : decode prog_14_method_80_code 52 = .ok (.getfield 266, 3) := by decide +kernel
theorem dX12_book_55 : decode prog_14_method_80_code 55 = .ok (.invokevirtual 272, 3) := by decide +kernel
theorem dX12_book_58 : decode prog_14_method_80_code 58 = .ok (.aload_n 0, 1) := by decide +kernel
theorem dX12_book_59 : decode prog_14_method_80_code 59 = .ok (.iconst 0, 1) := by decide +kernel
theorem dX12_book_60 : decode prog_14_method_80_code 60 = .ok (.putfield 260, 3) := by decide +kernel
theorem dX12_book_63 : decode prog_14_method_80_code 63 = .ok (.aload_n 0, 1) := by decide +kernel
theorem dX12_book_64 : decode prog_14_method_80_code 64 = .ok (.getfield 263, 3) := by decide +kernel
theorem dX12_book_67 : decode prog_14_method_80_code 67 = .ok (.ifCond .ge 5, 3) := by decide +kernel
theorem dX12_book_70 : decode prog_14_method_80_code 70 = .ok (.iload_n 1, 1) := by decide +kernel
theorem dX12_book_71 : decode prog_14_method_80_code 71 = .ok (.ireturn, 1) := by decide +kernel
theorem dX12_book_72 : decode prog_14_method_80_code 72 = .ok (.aload_n 0, 1) := by decide +kernel
theorem dX12_book_73 : decode prog_14_method_80_code 73 = .ok (.getfield 69, 3) := by decide +kernel
theorem dX12_book_76 : decode prog_14_method_80_code 76 = .ok (.aload_n 0, 1) := by decide +kernel
theorem dX12_book_77 : decode prog_14_method_80_code 77 = .ok (.getfield 9, 3) := by decide +kernel
theorem dX12_book_80 : decode prog_14_method_80_code 80 = .ok (.invokestatic 293, 3) := by decide +kernel
theorem dX12_book_83 : decode prog_14_method_80_code 83 = .ok (.bipush (-100), 2) := by decide +kernel
theorem dX12_book_85 : decode prog_14_method_80_code 85 = .ok (.aload_n 0, 1) := by decide +kernel
theorem dX12_book_86 : decode prog_14_method_80_code 86 = .ok (.getfield 263, 3) := by decide +kernel
theorem dX12_book_89 : decode prog_14_method_80_code 89 = .ok (.isub, 1) := by decide +kernel
theorem dX12_book_90 : decode prog_14_method_80_code 90 = .ok (.ireturn, 1) := by decide +kernel
def m_X12_book_J58 (N : Nat)  (a0 : Nat) (i1 : Int32) (M : mM) : Option (Int32 × mM) :=
  (sV M a0 12 3 (.int 0)).bind fun M1 =>
  (fI M1 a0 12 25).bind fun x3 =>
  if 0 ≤ x3 then (
    (fR M1 a0 12 27).bind fun x5 =>
    (fR M1 a0 12 0).bind fun x7 =>
    (m_X12_pours N x5 x7 M1).bind fun x9 =>
    (fI x9 a0 12 25).bind fun x11 =>
    some ((-100) - x11, x9)) else (
    some (i1, M1))
set_option maxHeartbeats 4000000 in
set_option maxRecDepth 100000 in
theorem t_X12_book_J58 {X : mX} {L0 : Launch} {res : Int32 × mM} {N : Nat} (C : CX X RX12 "book" prog_14_method_80_code 2 (some .int)) (E : EX X L0 5 111 0 0 (some (.int res.1)) res.2)   (a0 : Nat) (i1 : Int32) (M : mM) (hf : m_X12_book_J58 N  a0 i1 M = some res) : EV X 2 58 [(0, .ref a0), (1, .int i1)] [] 0 0 M := by
  unfold m_X12_book_J58 at hf
  refine ev_aload_n C dX12_book_58 rfl (q := 0) rfl ?_
  refine ev_iconst (v := 0) C dX12_book_59 (by decide) ?_
  obtain ⟨M1, e2, hf⟩ := obnd hf
  refine ev_put (k := 3) C ok_12 dX12_book_60 (by decide) kw_1162 rfl ⟨rfl, rfl⟩ e2 ?_
  refine ev_aload_n C dX12_book_63 rfl (q := 0) rfl ?_
  obtain ⟨x3, e4, hf⟩ := obnd hf
  refine ev_get (k := 25) C ok_12 dX12_book_64 (by decide) kw_1184 (fI_V e4) ?_
  refine ev_if_ge (tgt := 72) C dX12_book_67 (by decide) (fun hc => ?_) (fun hc => ?_)
  · have hf := oit hf hc
    refine ev_aload_n C dX12_book_72 rfl (q := 0) rfl ?_
    obtain ⟨x5, e6, hf⟩ := obnd hf
    refine ev_get (k := 27) C ok_12 dX12_book_73 (by decide) kw_1186 (fR_V e6) ?_
    refine ev_aload_n C dX12_book_76 rfl (q := 0) rfl ?_
    obtain ⟨x7, e8, hf⟩ := obnd hf
    refine ev_get (k := 0) C ok_12 dX12_book_77 (by decide) kw_1159 (fR_V e8) ?_
    obtain ⟨x9, e10, hf⟩ := obnd hf
    refine ev_callS0 (As := [.ref x5, .ref x7]) (st := []) C (t_X12_pours e10) hd_X12_pours rfl kw_1556 kw_1557 kw_87 kw_1558 (mRoom.of E (Nat.le_of_ble_eq_true rfl) (Nat.le_of_ble_eq_true rfl) (Nat.le_refl 0) (Nat.le_refl 0)) (Nat.le_of_ble_eq_true rfl) dX12_book_80 ?_
    refine ev_bipush (v := (-100)) C dX12_book_83 (by decide) ?_
    refine ev_aload_n C dX12_book_85 rfl (q := 0) rfl ?_
    obtain ⟨x11, e12, hf⟩ := obnd hf
    refine ev_get (k := 25) C ok_12 dX12_book_86 (by decide) kw_1184 (fI_V e12) ?_
    refine ev_isub C dX12_book_89 ?_
    obtain rfl := Option.some.inj hf
    exact ev_iret C E (Nat.le_refl 0) (Nat.le_refl 0) dX12_book_90
  · have hf := oie hf hc
    refine ev_iload_n C dX12_book_70 rfl (q := 1) rfl ?_
    obtain rfl := Option.some.inj hf
    exact ev_iret C E (Nat.le_refl 0) (Nat.le_refl 0) dX12_book_71
def m_X12_book_L23 (N : Nat)  : Nat → Nat → Int32 → mM → Option (Int32 × mM)
  | 0, _, _, _ => none
  | n + 1, a0, i1, M =>
    (oO M a0 12).bind fun _ =>
    (m_X12_readRoute N a0 M).bind fun x3 =>
    (oO x3 a0 12).bind fun _ =>
    (m_X12_takes a0 59 x3).bind fun x7 =>
    if x7.1 = 0 then (
      (fI x7.2 a0 12 24).bind fun x9 =>
      (fI x7.2 a0 12 3).bind fun x11 =>
      if x11 ≤ x9 then (
        m_X12_book_J58 N  a0 (i1 + 1) x7.2) else (
        (fI x7.2 a0 12 24).bind fun x13 =>
        (oO x7.2 a0 12).bind fun _ =>
        (m_X12_wrong a0 x13 x7.2).bind fun x17 =>
        m_X12_book_J58 N  a0 (i1 + 1) x17)) else (
      (m_X12_book_L23 N  n) a0 (i1 + 1) x7.2)
set_option maxHeartbeats 4000000 in
set_option maxRecDepth 100000 in
theorem t_X12_book_L23 {X : mX} {L0 : Launch} {res : Int32 × mM} {N : Nat} (C : CX X RX12 "book" prog_14_method_80_code 2 (some .int)) (E : EX X L0 5 111 0 0 (some (.int res.1)) res.2)   : ∀ (n : Nat) (a0 : Nat) (i1 : Int32) (M : mM), m_X12_book_L23 N  n a0 i1 M = some res → EV X 2 23 [(0, .ref a0), (1, .int i1)] [] 0 0 M := by
  intro n
  induction n with
  | zero => intro a0 i1 M hf; cases (show (none : Option (Int32 × mM)) = some res from hf)
  | succ n ih =>
    intro a0 i1 M hf
    rw [m_X12_book_L23] at hf
    refine ev_aload_n C dX12_book_23 rfl (q := 0) rfl ?_
    obtain ⟨_, e1, hf⟩ := obnd hf
    obtain ⟨fs2, e1⟩ := oO_eq e1
    obtain ⟨x3, e4, hf⟩ := obnd hf
    refine ev_callV0 (As := []) (st := []) C rfl e1 (t_X12_readRoute e4) rfl hd_X12_readRoute rfl kw_1559 kw_1561 kw_87 kw_52 kw_1562 (mRoom.of E (Nat.le_of_ble_eq_true rfl) (Nat.le_of_ble_eq_true rfl) (Nat.le_refl 0) (Nat.le_refl 0)) (Nat.le_of_ble_eq_true rfl) dX12_book_24 ?_
    refine ev_iinc (v := i1 + 1) (l' := [(1, .int (i1 + 1)), (0, .ref a0)]) C dX12_book_27 (q := 1) rfl rfl (by decide) rfl ?_
    refine ev_aload_n C dX12_book_30 rfl (q := 1) rfl ?_
    refine ev_bipush (v := 59) C dX12_book_31 (by decide) ?_
    obtain ⟨_, e5, hf⟩ := obnd hf
    obtain ⟨fs6, e5⟩ := oO_eq e5
    obtain ⟨x7, e8, hf⟩ := obnd hf
    refine ev_callV0 (As := [.int 59]) (st := []) C rfl e5 (t_X12_takes e8) rfl hd_X12_takes rfl kw_1583 kw_1585 kw_87 kw_58 kw_1586 (mRoom.of E (Nat.le_of_ble_eq_true rfl) (Nat.le_of_ble_eq_true rfl) (Nat.le_refl 0) (Nat.le_refl 0)) (Nat.le_of_ble_eq_true rfl) dX12_book_33 ?_
    refine ev_if_ne (tgt := 23) C dX12_book_36 (by decide) (fun hc => ?_) (fun hc => ?_)
    · have hf := oie hf hc
      refine ev_sub [1, 0] rfl ?_
      exact ih a0 (i1 + 1) x7.2 hf
    · have hf := oit hf hc
      refine ev_aload_n C dX12_book_39 rfl (q := 1) rfl ?_
      obtain ⟨x9, e10, hf⟩ := obnd hf
      refine ev_get (k := 24) C ok_12 dX12_book_40 (by decide) kw_1183 (fI_V e10) ?_
      refine ev_aload_n C dX12_book_43 rfl (q := 1) rfl ?_
      obtain ⟨x11, e12, hf⟩ := obnd hf
      refine ev_get (k := 3) C ok_12 dX12_book_44 (by decide) kw_1162 (fI_V e12) ?_
      refine ev_icmp_ge (tgt := 58) C dX12_book_47 (by decide) (fun hc => ?_) (fun hc => ?_)
      · have hf := oit hf hc
        refine ev_sub [1, 0] rfl ?_
        exact t_X12_book_J58 C E   a0 (i1 + 1) x7.2 hf
      · have hf := oie hf hc
        refine ev_aload_n C dX12_book_50 rfl (q := 1) rfl ?_
        refine ev_aload_n C dX12_book_51 rfl (q := 1) rfl ?_
        obtain ⟨x13, e14, hf⟩ := obnd hf
        refine ev_get (k := 24) C ok_12 dX12_book_52 (by decide) kw_1183 (fI_V e14) ?_
        obtain ⟨_, e15, hf⟩ := obnd hf
        obtain ⟨fs16, e15⟩ := oO_eq e15
        obtain ⟨x17, e18, hf⟩ := obnd hf
        refine ev_callV0 (As := [.int x13]) (st := []) C rfl e15 (t_X12_wrong e18) rfl hd_X12_wrong rfl kw_1563 kw_1565 kw_87 kw_53 kw_1566 (mRoom.of E (Nat.le_of_ble_eq_true rfl) (Nat.le_of_ble_eq_true rfl) (Nat.le_refl 0) (Nat.le_refl 0)) (Nat.le_of_ble_eq_true rfl) dX12_book_55 ?_
        refine ev_sub [1, 0] rfl ?_
        exact t_X12_book_J58 C E   a0 (i1 + 1) x17 hf
def m_X12_book (N : Nat) (a0 : Nat) (M : mM) : Option (Int32 × mM) :=
  (sV M a0 12 24 (.int 0)).bind fun M1 =>
  (sV M1 a0 12 25 (.int (-1))).bind fun M3 =>
  (fR M3 a0 12 0).bind fun x5 =>
  (fR M3 a0 12 27).bind fun x7 =>
  (m_X12_pours N x5 x7 M3).bind fun x9 =>
  m_X12_book_L23 N  N a0 0 x9
set_option maxHeartbeats 4000000 in
set_option maxRecDepth 100000 in
theorem t_X12_book {L0 : Launch} {M : mM} {N : Nat} {a0 : Nat} {res : Int32 × mM} (hf : m_X12_book N a0 M = some res) : CT L0 yX12_book prog_14_method_80_code 2 (some .int) 5 111 0 0 [.ref a0] M (some (.int res.1)) res.2 := by
  refine CT.of (by decide +kernel) (Nat.le_of_ble_eq_true rfl) fun X C E => ?_
  have C : CX X RX12 "book" prog_14_method_80_code 2 (some .int) := C
  show EV X 2 0 [(0, .ref a0)] [] 0 0 M
  unfold m_X12_book at hf
  refine ev_aload_n C dX12_book_0 rfl (q := 0) rfl ?_
  refine ev_iconst (v := 0) C dX12_book_1 (by decide) ?_
  obtain ⟨M1, e2, hf⟩ := obnd hf
  refine ev_put (k := 24) C ok_12 dX12_book_2 (by decide) kw_1183 rfl ⟨rfl, rfl⟩ e2 ?_
  refine ev_aload_n C dX12_book_5 rfl (q := 0) rfl ?_
  refine ev_iconst (v := (-1)) C dX12_book_6 (by decide) ?_
  obtain ⟨M3, e4, hf⟩ := obnd hf
  refine ev_put (k := 25) C ok_12 dX12_book_7 (by decide) kw_1184 rfl ⟨rfl, rfl⟩ e4 ?_
  refine ev_aload_n C dX12_book_10 rfl (q := 0) rfl ?_
  obtain ⟨x5, e6, hf⟩ := obnd hf
  refine ev_get (k := 0) C ok_12 dX12_book_11 (by decide) kw_1159 (fR_V e6) ?_
  refine ev_aload_n C dX12_book_14 rfl (q := 0) rfl ?_
  obtain ⟨x7, e8, hf⟩ := obnd hf
  refine ev_get (k := 27) C ok_12 dX12_book_15 (by decide) kw_1186 (fR_V e8) ?_
  obtain ⟨x9, e10, hf⟩ := obnd hf
  refine ev_callS0 (As := [.ref x5, .ref x7]) (st := []) C (t_X12_pours e10) hd_X12_pours rfl kw_1556 kw_1557 kw_87 kw_1558 (mRoom.of E (Nat.le_of_ble_eq_true rfl) (Nat.le_of_ble_eq_true rfl) (Nat.le_refl 0) (Nat.le_refl 0)) (Nat.le_of_ble_eq_true rfl) dX12_book_18 ?_
  refine ev_iconst (v := 0) C dX12_book_21 (by decide) ?_
  refine ev_istore_n (l' := [(1, .int 0), (0, .ref a0)]) C dX12_book_22 rfl (by decide) rfl ?_
  refine ev_sub [1, 0] rfl ?_
  exact t_X12_book_L23 C E   N a0 0 x9 hf
/-! FareLimitsModel ends()I -/
theorem dX12_ends_0 : decode prog_14_method_81_code 0 = .ok (.iconst (-1), 1) := by decide +kernel
theorem dX12_ends_1 : decode prog_14_method_81_code 1 = .ok (.istore_n 1, 1) := by decide +kernel
theorem dX12_ends_2 : decode prog_14_method_81_code 2 = .ok (.iconst 0, 1) := by decide +kernel
theorem dX12_ends_3 : decode prog_14_method_81_code 3 = .ok (.istore_n 2, 1) := by decide +kernel
theorem dX12_ends_4 : decode prog_14_method_81_code 4 = .ok (.iload_n 2, 1) := by decide +kernel
theorem dX12_ends_5 : decode prog_14_method_81_code 5 = .ok (.aload_n 0, 1) := by decide +kernel
theorem dX12_ends_6 : decode prog_14_method_81_code 6 = .ok (.getfield 9, 3) := by decide +kernel
theorem dX12_ends_9 : decode prog_14_method_81_code 9 = .ok (.iconst 5, 1) := by decide +kernel
theorem dX12_ends_10 : decode prog_14_method_81_code 10 = .ok (.iaload, 1) := by decide +kernel
theorem dX12_ends_11 : decode prog_14_method_81_code 11 = .ok (.if_icmp .ge 90, 3) := by decide +kernel
theorem dX12_ends_14 : decode prog_14_method_81_code 14 = .ok (.aload_n 0, 1) := by decide +kernel
theorem dX12_ends_15 : decode prog_14_method_81_code 15 = .ok (.iload_n 2, 1) := by decide +kernel
theorem dX12_ends_16 : decode prog_14_method_81_code 16 = .ok (.invokevirtual 252, 3) := by decide +kernel
theorem dX12_ends_19 : decode prog_14_method_81_code 19 = .ok (.aload_n 0, 1) := by decide +kernel
theorem dX12_ends_20 : decode prog_14_method_81_code 20 = .ok (.getfield 260, 3) := by decide +kernel
theorem dX12_ends_23 : decode prog_14_method_81_code 23 = .ok (.if_icmp .ne 7, 3) := by decide +kernel
theorem dX12_ends_26 : decode prog_14_method_81_code 26 = .ok (.iconst 1, 1) := by decide +kernel
theorem dX12_ends_27 : decode prog_14_method_81_code 27 = .ok (.goto 4, 3) := by decide +kernel
theorem dX12_ends_30 : decode prog_14_method_81_code 30 = .ok (.iconst 0, 1) := by decide +kernel
theorem dX12_ends_31 : decode prog_14_method_81_code 31 = .ok (.istore_n 3, 1) := by decide +kernel
theorem dX12_ends_32 : decode prog_14_method_81_code 32 = .ok (.iconst 0, 1) := by decide +kernel
theorem dX12_ends_33 : decode prog_14_method_81_code 33 = .ok (.istore 4, 2) := by decide +kernel
theorem dX12_ends_35 : decode prog_14_method_81_code 35 = .ok (.iload_n 3, 1) := by decide +kernel
theorem dX12_ends_36 : decode prog_14_method_81_code 36 = .ok (.ifCond .eq 49, 3) := by decide +kernel
theorem dX12_ends_39 : decode prog_14_method_81_code 39 = .ok (.iload 4, 2) := by decide +kernel
theorem dX12_ends_41 : decode prog_14_method_81_code 41 = .ok (.aload_n 0, 1) := by decide +kernel
theorem dX12_ends_42 : decode prog_14_method_81_code 42 = .ok (.getfield 260, 3) := by decide +kernel
theorem dX12_ends_45 : decode prog_14_method_81_code 45 = .ok (.if_icmp .ge 40, 3) := by decide +kernel
theorem dX12_ends_48 : decode prog_14_method_81_code 48 = .ok (.aload_n 0, 1) := by decide +kernel
theorem dX12_ends_49 : decode prog_14_method_81_code 49 = .ok (.getfield 9, 3) := by decide +kernel
theorem dX12_ends_52 : decode prog_14_method_81_code 52 = .ok (.bipush 50, 2) := by decide +kernel
theorem dX12_ends_54 : decode prog_14_method_81_code 54 = .ok (.bipush 6, 2) := by decide +kernel
theorem dX12_ends_56 : decode prog_14_method_81_code 56 = .ok (.iload_n 2, 1) := by decide +kernel
theorem dX12_ends_57 : decode prog_14_method_81_code 57 = .ok (.imul, 1) := by decide +kernel
theorem dX12_ends_58 : decode prog_14_method_81_code 58 = .ok (.iadd, 1) := by decide +kernel
theorem dX12_ends_59 : decode prog_14_method_81_code 59 = .ok (.iload 4, 2) := by decide +kernel
theorem dX12_ends_61 : decode prog_14_method_81_code 61 = .ok (.iadd, 1) := by decide +kernel
theorem dX12_ends_62 : decode prog_14_method_81_code 62 = .ok (.iaload, 1) := by decide +kernel
theorem dX12_ends_63 : decode prog_14_method_81_code 63 = .ok (.aload_n 0, 1) := by decide +kernel
theorem dX12_ends_64 : decode prog_14_method_81_code 64 = .ok (.getfield 18, 3) := by decide +kernel
theorem dX12_ends_67 : decode prog_14_method_81_code 67 = .ok (.iload 4, 2) := by decide +kernel
theorem dX12_ends_69 : decode prog_14_method_81_code 69 = .ok (.iaload, 1) := by decide +kernel
theorem dX12_ends_70 : decode prog_14_method_81_code 70 = .ok (.if_icmp .ne 7, 3) := by decide +kernel
theorem dX12_ends_73 : decode prog_14_method_81_code 73 = .ok (.iconst 1, 1) := by decide +kernel
theorem dX12_ends_74 : decode prog_14_method_81_code 74 = .ok (.goto 4, 3) := by decide +kernel
theorem dX12_ends_77 : decode prog_14_method_81_code 77 = .ok (.iconst 0, 1) := by decide +kernel
theorem dX12_ends_78 : decode prog_14_method_81_code 78 = .ok (.istore_n 3, 1) := by decide +kernel
theorem dX12_ends_79 : decode prog_14_method_81_code 79 = .ok (.iinc 4 1, 3) := by decide +kernel
theorem dX12_ends_82 : decode prog_14_method_81_code 82 = .ok (.goto (-47), 3) := by decide +kernel
theorem dX12_ends_85 : decode prog_14_method_81_code 85 = .ok (.iload_n 3, 1) := by decide +kernel
theorem dX12_ends_86 : decode prog_14_method_81_code 86 = .ok (.ifCond .eq 7, 3) := by decide +kernel
theorem dX12_ends_89 : decode prog_14_method_81_code 89 = .ok (.iload_n 2, 1) := by decide +kernel
theorem dX12_ends_90 : decode prog_14_method_81_code 90 = .ok (.goto 4, 3) := by decide +kernel
theorem dX12_ends_93 : decode prog_14_method_81_code 93 = .ok (.iload_n 1, 1) := by decide +kernel
theorem dX12_ends_94 : decode prog_14_method_81_code 94 = .ok (.istore_n 1, 1) := by decide +kernel
theorem dX12_ends_95 : decode prog_14_method_81_code 95 = .ok (.iinc 2 1, 3) := by decide +kernel
theorem dX12_ends_98 : decode prog_14_method_81_code 98 = .ok (.goto (-94), 3) := by decide +kernel
theorem dX12_ends_101 : decode prog_14_method_81_code 101 = .ok (.aload_n 0, 1) := by decide +kernel
theorem dX12_ends_102 : decode prog_14_method_81_code 102 = .ok (.iconst 0, 1) := by decide +kernel
theorem dX12_ends_103 : decode prog_14_method_81_code 103 = .ok (.putfield 260, 3) := by decide +kernel
theorem dX12_ends_106 : decode prog_14_method_81_code 106 = .ok (.iload_n 1, 1) := by decide +kernel
theorem dX12_ends_107 : decode prog_14_method_81_code 107 = .ok (.ifCond .ge 5, 3) := by decide +kernel
theorem dX12_ends_110 : decode prog_14_method_81_code 110 = .ok (.iconst (-1), 1) := by decide +kernel
theorem dX12_ends_111 : decode prog_14_method_81_code 111 = .ok (.ireturn, 1) := by decide +kernel
theorem dX12_ends_112 : decode prog_14_method_81_code 112 = .ok (.aload_n 0, 1) := by decide +kernel
theorem dX12_ends_113 : decode prog_14_method_81_code 113 = .ok (.getfield 9, 3) := by decide +kernel
theorem dX12_ends_116 : decode prog_14_method_81_code 116 = .ok (.iconst 5, 1) := by decide +kernel
theorem dX12_ends_117 : decode prog_14_method_81_code 117 = .ok (.dup2, 1) := by decide +kernel
theorem dX12_ends_118 : decode prog_14_method_81_code 118 = .ok (.iaload, 1) := by decide +kernel
theorem dX12_ends_119 : decode prog_14_method_81_code 119 = .ok (.iconst 1, 1) := by decide +kernel
theorem dX12_ends_120 : decode prog_14_method_81_code 120 = .ok (.isub, 1) := by decide +kernel
theorem dX12_ends_121 : decode prog_14_method_81_code 121 = .ok (.iastore, 1) := by decide +kernel
theorem dX12_ends_122 : decode prog_14_method_81_code 122 = .ok (.bipush 50, 2) := by decide +kernel
theorem dX12_ends_124 : decode prog_14_method_81_code 124 = .ok (.bipush 6, 2) := by decide +kernel
theorem dX12_ends_126 : decode prog_14_method_81_code 126 = .ok (.iload_n 1, 1) := by decide +kernel
theorem dX12_ends_127 : decode prog_14_method_81_code 127 = .ok (.imul, 1) := by decide +kernel
theorem dX12_ends_128 : decode prog_14_method_81_code 128 = .ok (.iadd, 1) := by decide +kernel
theorem dX12_ends_129 : decode prog_14_method_81_code 129 = .ok (.istore_n 2, 1) := by decide +kernel
theorem dX12_ends_130 : decode prog_14_method_81_code 130 = .ok (.iload_n 2, 1) := by decide +kernel
theorem dX12_ends_131 : decode prog_14_method_81_code 131 = .ok (.bipush 50, 2) := by decide +kernel
theorem dX12_ends_133 : decode prog_14_method_81_code 133 = .ok (.bipush 6, 2) := by decide +kernel
theorem dX12_ends_135 : decode prog_14_method_81_code 135 = .ok (.aload_n 0, 1) := by decide +kernel
theorem dX12_ends_136 : decode prog_14_method_81_code 136 = .ok (.getfield 9, 3) := by decide +kernel
theorem dX12_ends_139 : decode prog_14_method_81_code 139 = .ok (.iconst 5, 1) := by decide +kernel
theorem dX12_ends_140 : decode prog_14_method_81_code 140 = .ok (.iaload, 1) := by decide +kernel
theorem dX12_ends_141 : decode prog_14_method_81_code 141 = .ok (.imul, 1) := by decide +kernel
theorem dX12_ends_142 : decode prog_14_method_81_code 142 = .ok (.iadd, 1) := by decide +kernel
theorem dX12_ends_143 : decode prog_14_method_81_code 143 = .ok (.if_icmp .ge 24, 3) := by decide +kernel
theorem dX12_ends_146 : decode prog_14_method_81_code 146 = .ok (.aload_n 0, 1) := by decide +kernel
theorem dX12_ends_147 : decode prog_14_method_81_code 147 = .ok (.getfield 9, 3) := by decide +kernel
theorem dX12_ends_150 : decode prog_14_method_81_code 150 = .ok (.iload_n 2, 1) := by decide +kernel
theorem dX12_ends_151 : decode prog_14_method_81_code 151 = .ok (.aload_n 0, 1) := by decide +kernel
theorem dX12_ends_152 : decode prog_14_method_81_code 152 = .ok (.getfield 9, 3) := by decide +kernel
theorem dX12_ends_155 : decode prog_14_method_81_code 155 = .ok (.iload_n 2, 1) := by decide +kernel
theorem dX12_ends_156 : decode prog_14_method_81_code 156 = .ok (.bipush 6, 2) := by decide +kernel
theorem dX12_ends_158 : decode prog_14_method_81_code 158 = .ok (.iadd, 1) := by decide +kernel
theorem dX12_ends_159 : decode prog_14_method_81_code 159 = .ok (.iaload, 1) := by decide +kernel
theorem dX12_ends_160 : decode prog_14_method_81_code 160 = .ok (.iastore, 1) := by decide +kernel
theorem dX12_ends_161 : decode prog_14_method_81_code 161 = .ok (.iinc 2 1, 3) := by decide +kernel
theorem dX12_ends_164 : decode prog_14_method_81_code 164 = .ok (.goto (-34), 3) := by decide +kernel
theorem dX12_ends_167 : decode prog_14_method_81_code 167 = .ok (.aload_n 0, 1) := by decide +kernel
theorem dX12_ends_168 : decode prog_14_method_81_code 168 = .ok (.getfield 9, 3) := by decide +kernel
theorem dX12_ends_171 : decode prog_14_method_81_code 171 = .ok (.iconst 5, 1) := by decide +kernel
theorem dX12_ends_172 : decode prog_14_method_81_code 172 = .ok (.iaload, 1) := by decide +kernel
theorem dX12_ends_173 : decode prog_14_method_81_code 173 = .ok (.ireturn, 1) := by decide +kernel
def m_X12_ends_L130 (N : Nat)  : Nat → Nat → Int32 → mM → Option (Int32 × mM)
  | 0, _, _, _ => none
  | n + 1, a0, i2, M =>
    (fR M a0 12 0).bind fun x1 =>
    (aI 0 M x1 5).bind fun x3 =>
    if (50 + (6 * x3)) ≤ i2 then (
      (fR M a0 12 0).bind fun x5 =>
      (aI 0 M x5 5).bind fun x7 =>
      some (x7, M)) else (
      (fR M a0 12 0).bind fun x9 =>
      (fR M a0 12 0).bind fun x11 =>
      (aI 0 M x11 (i2 + 6)).bind fun x13 =>
      (uI 0 .int M x9 i2 x13).bind fun M15 =>
      (m_X12_ends_L130 N  n) a0 (i2 + 1) M15)
set_option maxHeartbeats 4000000 in
set_option maxRecDepth 100000 in
theorem t_X12_ends_L130 {X : mX} {L0 : Launch} {res : Int32 × mM} {N : Nat} (C : CX X RX12 "ends" prog_14_method_81_code 5 (some .int)) (E : EX X L0 1 22 0 0 (some (.int res.1)) res.2)   : ∀ (n : Nat) (a0 : Nat) (i2 : Int32) (M : mM), m_X12_ends_L130 N  n a0 i2 M = some res → EV X 5 130 [(0, .ref a0), (2, .int i2)] [] 0 0 M := by
  intro n
  induction n with
  | zero => intro a0 i2 M hf; cases (show (none : Option (Int32 × mM)) = some res from hf)
  | succ n ih =>
    intro a0 i2 M hf
    rw [m_X12_ends_L130] at hf
    refine ev_iload_n C dX12_ends_130 rfl (q := 1) rfl ?_
    refine ev_bipush (v := 50) C dX12_ends_131 (by decide) ?_
    refine ev_bipush (v := 6) C dX12_ends_133 (by decide) ?_
    refine ev_aload_n C dX12_ends_135 rfl (q := 0) rfl ?_
    obtain ⟨x1, e2, hf⟩ := obnd hf
    refine ev_get (k := 0) C ok_12 dX12_ends_136 (by decide) kw_1159 (fR_V e2) ?_
    refine ev_iconst (v := 5) C dX12_ends_139 (by decide) ?_
    obtain ⟨x3, e4, hf⟩ := obnd hf
    refine ev_iald C dX12_ends_140 e4 ?_
    refine ev_imul C dX12_ends_141 ?_
    refine ev_iadd C dX12_ends_142 ?_
    refine ev_icmp_ge (tgt := 167) C dX12_ends_143 (by decide) (fun hc => ?_) (fun hc => ?_)
    · have hf := oit hf hc
      refine ev_aload_n C dX12_ends_167 rfl (q := 0) rfl ?_
      obtain ⟨x5, e6, hf⟩ := obnd hf
      refine ev_get (k := 0) C ok_12 dX12_ends_168 (by decide) kw_1159 (fR_V e6) ?_
      refine ev_iconst (v := 5) C dX12_ends_171 (by decide) ?_
      obtain ⟨x7, e8, hf⟩ := obnd hf
      refine ev_iald C dX12_ends_172 e8 ?_
      obtain rfl := Option.some.inj hf
      exact ev_iret C E (Nat.le_refl 0) (Nat.le_refl 0) dX12_ends_173
    · have hf := oie hf hc
      refine ev_aload_n C dX12_ends_146 rfl (q := 0) rfl ?_
      obtain ⟨x9, e10, hf⟩ := obnd hf
      refine ev_get (k := 0) C ok_12 dX12_ends_147 (by decide) kw_1159 (fR_V e10) ?_
      refine ev_iload_n C dX12_ends_150 rfl (q := 1) rfl ?_
      refine ev_aload_n C dX12_ends_151 rfl (q := 0) rfl ?_
      obtain ⟨x11, e12, hf⟩ := obnd hf
      refine ev_get (k := 0) C ok_12 dX12_ends_152 (by decide) kw_1159 (fR_V e12) ?_
      refine ev_iload_n C dX12_ends_155 rfl (q := 1) rfl ?_
      refine ev_bipush (v := 6) C dX12_ends_156 (by decide) ?_
      refine ev_iadd C dX12_ends_158 ?_
      obtain ⟨x13, e14, hf⟩ := obnd hf
      refine ev_iald C dX12_ends_159 e14 ?_
      obtain ⟨M15, e16, hf⟩ := obnd hf
      refine ev_iast C dX12_ends_160 e16 ?_
      refine ev_iinc (v := i2 + 1) (l' := [(2, .int (i2 + 1)), (0, .ref a0)]) C dX12_ends_161 (q := 1) rfl rfl (by decide) rfl ?_
      refine ev_goto (tgt := 130) C dX12_ends_164 (by decide) ?_
      refine ev_sub [1, 0] rfl ?_
      exact ih a0 (i2 + 1) M15 hf
def m_X12_ends_J94 (N : Nat) (k4 : Nat → Int32 → Int32 → mM → Option (Int32 × mM)) (a0 : Nat) (i2 : Int32) (si0 : Int32) (M : mM) : Option (Int32 × mM) :=
  k4 a0 si0 (i2 + 1) M
set_option maxHeartbeats 4000000 in
set_option maxRecDepth 100000 in
theorem t_X12_ends_J94 {X : mX} {L0 : Launch} {res : Int32 × mM} {N : Nat} (C : CX X RX12 "ends" prog_14_method_81_code 5 (some .int)) (E : EX X L0 1 22 0 0 (some (.int res.1)) res.2) (k4 : Nat → Int32 → Int32 → mM → Option (Int32 × mM)) (Hk4 : ∀ (a0 : Nat) (i1 : Int32) (i2 : Int32) (M : mM), k4 a0 i1 i2 M = some res → EV X 5 4 [(0, .ref a0), (1, .int i1), (2, .int i2)] [] 0 0 M) (a0 : Nat) (i2 : Int32) (si0 : Int32) (M : mM) (hf : m_X12_ends_J94 N k4 a0 i2 si0 M = some res) : EV X 5 94 [(0, .ref a0), (2, .int i2)] [.int si0] 0 0 M := by
  unfold m_X12_ends_J94 at hf
  refine ev_istore_n (l' := [(1, .int si0), (0, .ref a0), (2, .int i2)]) C dX12_ends_94 rfl (by decide) rfl ?_
  refine ev_iinc (v := i2 + 1) (l' := [(2, .int (i2 + 1)), (1, .int si0), (0, .ref a0)]) C dX12_ends_95 (q := 2) rfl rfl (by decide) rfl ?_
  refine ev_goto (tgt := 4) C dX12_ends_98 (by decide) ?_
  refine ev_sub [2, 1, 0] rfl ?_
  exact Hk4 a0 si0 (i2 + 1) M hf
def m_X12_ends_J85 (N : Nat) (k4 : Nat → Int32 → Int32 → mM → Option (Int32 × mM)) (a0 : Nat) (i1 : Int32) (i2 : Int32) (i3 : Int32) (M : mM) : Option (Int32 × mM) :=
  if i3 = 0 then (
    m_X12_ends_J94 N k4 a0 i2 i1 M) else (
    m_X12_ends_J94 N k4 a0 i2 i2 M)
set_option maxHeartbeats 4000000 in
set_option maxRecDepth 100000 in
theorem t_X12_ends_J85 {X : mX} {L0 : Launch} {res : Int32 × mM} {N : Nat} (C : CX X RX12 "ends" prog_14_method_81_code 5 (some .int)) (E : EX X L0 1 22 0 0 (some (.int res.1)) res.2) (k4 : Nat → Int32 → Int32 → mM → Option (Int32 × mM)) (Hk4 : ∀ (a0 : Nat) (i1 : Int32) (i2 : Int32) (M : mM), k4 a0 i1 i2 M = some res → EV X 5 4 [(0, .ref a0), (1, .int i1), (2, .int i2)] [] 0 0 M) (a0 : Nat) (i1 : Int32) (i2 : Int32) (i3 : Int32) (M : mM) (hf : m_X12_ends_J85 N k4 a0 i1 i2 i3 M = some res) : EV X 5 85 [(0, .ref a0), (1, .int i1), (2, .int i2), (3, .int i3)] [] 0 0 M := by
  unfold m_X12_ends_J85 at hf
  refine ev_iload_n C dX12_ends_85 rfl (q := 3) rfl ?_
  refine ev_if_eq (tgt := 93) C dX12_ends_86 (by decide) (fun hc => ?_) (fun hc => ?_)
  · have hf := oit hf hc
    refine ev_iload_n C dX12_ends_93 rfl (q := 1) rfl ?_
    refine ev_sub [0, 2] rfl ?_
    exact t_X12_ends_J94 C E k4 Hk4 a0 i2 i1 M hf
  · have hf := oie hf hc
    refine ev_iload_n C dX12_ends_89 rfl (q := 2) rfl ?_
    refine ev_goto (tgt := 94) C dX12_ends_90 (by decide) ?_
    refine ev_sub [0, 2] rfl ?_
    exact t_X12_ends_J94 C E k4 Hk4 a0 i2 i2 M hf
def m_X12_ends_J78 (N : Nat) (k35 : Nat → Int32 → Int32 → Int32 → Int32 → mM → Option (Int32 × mM)) (a0 : Nat) (i1 : Int32) (i2 : Int32) (i4 : Int32) (si0 : Int32) (M : mM) : Option (Int32 × mM) :=
  k35 a0 i1 i2 si0 (i4 + 1) M
set_option maxHeartbeats 4000000 in
set_option maxRecDepth 100000 in
theorem t_X12_ends_J78 {X : mX} {L0 : Launch} {res : Int32 × mM} {N : Nat} (C : CX X RX12 "ends" prog_14_method_81_code 5 (some .int)) (E : EX X L0 1 22 0 0 (some (.int res.1)) res.2) (k35 : Nat → Int32 → Int32 → Int32 → Int32 → mM → Option (Int32 × mM)) (Hk35 : ∀ (a0 : Nat) (i1 : Int32) (i2 : Int32) (i3 : Int32) (i4 : Int32) (M : mM), k35 a0 i1 i2 i3 i4 M = some res → EV X 5 35 [(0, .ref a0), (1, .int i1), (2, .int i2), (3, .int i3), (4, .int i4)] [] 0 0 M) (a0 : Nat) (i1 : Int32) (i2 : Int32) (i4 : Int32) (si0 : Int32) (M : mM) (hf : m_X12_ends_J78 N k35 a0 i1 i2 i4 si0 M = some res) : EV X 5 78 [(0, .ref a0), (1, .int i1), (2, .int i2), (4, .int i4)] [.int si0] 0 0 M := by
  unfold m_X12_ends_J78 at hf
  refine ev_istore_n (l' := [(3, .int si0), (0, .ref a0), (1, .int i1), (2, .int i2), (4, .int i4)]) C dX12_ends_78 rfl (by decide) rfl ?_
  refine ev_iinc (v := i4 + 1) (l' := [(4, .int (i4 + 1)), (3, .int si0), (0, .ref a0), (1, .int i1), (2, .int i2)]) C dX12_ends_79 (q := 4) rfl rfl (by decide) rfl ?_
  refine ev_goto (tgt := 35) C dX12_ends_82 (by decide) ?_
  refine ev_sub [2, 3, 4, 1, 0] rfl ?_
  exact Hk35 a0 i1 i2 si0 (i4 + 1) M hf
def m_X12_ends_L35 (N : Nat) (k4 : Nat → Int32 → Int32 → mM → Option (Int32 × mM)) : Nat → Nat → Int32 → Int32 → Int32 → Int32 → mM → Option (Int32 × mM)
  | 0, _, _, _, _, _, _ => none
  | n + 1, a0, i1, i2, i3, i4, M =>
    if i3 = 0 then (
      m_X12_ends_J85 N k4 a0 i1 i2 i3 M) else (
      (fI M a0 12 3).bind fun x1 =>
      if x1 ≤ i4 then (
        m_X12_ends_J85 N k4 a0 i1 i2 i3 M) else (
        (fR M a0 12 0).bind fun x3 =>
        (aI 0 M x3 ((50 + (6 * i2)) + i4)).bind fun x5 =>
        (fR M a0 12 4).bind fun x7 =>
        (aI 0 M x7 i4).bind fun x9 =>
        if x5 = x9 then (
          m_X12_ends_J78 N (m_X12_ends_L35 N k4  n) a0 i1 i2 i4 1 M) else (
          m_X12_ends_J78 N (m_X12_ends_L35 N k4  n) a0 i1 i2 i4 0 M)))
set_option maxHeartbeats 4000000 in
set_option maxRecDepth 100000 in
theorem t_X12_ends_L35 {X : mX} {L0 : Launch} {res : Int32 × mM} {N : Nat} (C : CX X RX12 "ends" prog_14_method_81_code 5 (some .int)) (E : EX X L0 1 22 0 0 (some (.int res.1)) res.2) (k4 : Nat → Int32 → Int32 → mM → Option (Int32 × mM)) (Hk4 : ∀ (a0 : Nat) (i1 : Int32) (i2 : Int32) (M : mM), k4 a0 i1 i2 M = some res → EV X 5 4 [(0, .ref a0), (1, .int i1), (2, .int i2)] [] 0 0 M) : ∀ (n : Nat) (a0 : Nat) (i1 : Int32) (i2 : Int32) (i3 : Int32) (i4 : Int32) (M : mM), m_X12_ends_L35 N k4 n a0 i1 i2 i3 i4 M = some res → EV X 5 35 [(0, .ref a0), (1, .int i1), (2, .int i2), (3, .int i3), (4, .int i4)] [] 0 0 M := by
  intro n
  induction n with
  | zero => intro a0 i1 i2 i3 i4 M hf; cases (show (none : Option (Int32 × mM)) = some res from hf)
  | succ n ih =>
    intro a0 i1 i2 i3 i4 M hf
    rw [m_X12_ends_L35] at hf
    refine ev_iload_n C dX12_ends_35 rfl (q := 3) rfl ?_
    refine ev_if_eq (tgt := 85) C dX12_ends_36 (by decide) (fun hc => ?_) (fun hc => ?_)
    · have hf := oit hf hc
      refine ev_sub [0, 1, 2, 3] rfl ?_
      exact t_X12_ends_J85 C E k4 Hk4 a0 i1 i2 i3 M hf
    · have hf := oie hf hc
      refine ev_iload C dX12_ends_39 (q := 4) rfl ?_
      refine ev_aload_n C dX12_ends_41 rfl (q := 0) rfl ?_
      obtain ⟨x1, e2, hf⟩ := obnd hf
      refine ev_get (k := 3) C ok_12 dX12_ends_42 (by decide) kw_1162 (fI_V e2) ?_
      refine ev_icmp_ge (tgt := 85) C dX12_ends_45 (by decide) (fun hc => ?_) (fun hc => ?_)
      · have hf := oit hf hc
        refine ev_sub [0, 1, 2, 3] rfl ?_
        exact t_X12_ends_J85 C E k4 Hk4 a0 i1 i2 i3 M hf
      · have hf := oie hf hc
        refine ev_aload_n C dX12_ends_48 rfl (q := 0) rfl ?_
        obtain ⟨x3, e4, hf⟩ := obnd hf
        refine ev_get (k := 0) C ok_12 dX12_ends_49 (by decide) kw_1159 (fR_V e4) ?_
        refine ev_bipush (v := 50) C dX12_ends_52 (by decide) ?_
        refine ev_bipush (v := 6) C dX12_ends_54 (by decide) ?_
        refine ev_iload_n C dX12_ends_56 rfl (q := 2) rfl ?_
        refine ev_imul C dX12_ends_57 ?_
        refine ev_iadd C dX12_ends_58 ?_
        refine ev_iload C dX12_ends_59 (q := 4) rfl ?_
        refine ev_iadd C dX12_ends_61 ?_
        obtain ⟨x5, e6, hf⟩ := obnd hf
        refine ev_iald C dX12_ends_62 e6 ?_
        refine ev_aload_n C dX12_ends_63 rfl (q := 0) rfl ?_
        obtain ⟨x7, e8, hf⟩ := obnd hf
        refine ev_get (k := 4) C ok_12 dX12_ends_64 (by decide) kw_1163 (fR_V e8) ?_
        refine ev_iload C dX12_ends_67 (q := 4) rfl ?_
        obtain ⟨x9, e10, hf⟩ := obnd hf
        refine ev_iald C dX12_ends_69 e10 ?_
        refine ev_icmp_ne (tgt := 77) C dX12_ends_70 (by decide) (fun hc => ?_) (fun hc => ?_)
        · have hf := oie hf hc
          refine ev_iconst (v := 0) C dX12_ends_77 (by decide) ?_
          refine ev_sub [0, 1, 2, 4] rfl ?_
          exact t_X12_ends_J78 C E (m_X12_ends_L35 N k4  n) ih a0 i1 i2 i4 0 M hf
        · have hf := oit hf hc
          refine ev_iconst (v := 1) C dX12_ends_73 (by decide) ?_
          refine ev_goto (tgt := 78) C dX12_ends_74 (by decide) ?_
          refine ev_sub [0, 1, 2, 4] rfl ?_
          exact t_X12_ends_J78 C E (m_X12_ends_L35 N k4  n) ih a0 i1 i2 i4 1 M hf
def m_X12_ends_J31 (N : Nat) (k4 : Nat → Int32 → Int32 → mM → Option (Int32 × mM)) (a0 : Nat) (i1 : Int32) (i2 : Int32) (si0 : Int32) (M : mM) : Option (Int32 × mM) :=
  m_X12_ends_L35 N k4 N a0 i1 i2 si0 0 M
set_option maxHeartbeats 4000000 in
set_option maxRecDepth 100000 in
theorem t_X12_ends_J31 {X : mX} {L0 : Launch} {res : Int32 × mM} {N : Nat} (C : CX X RX12 "ends" prog_14_method_81_code 5 (some .int)) (E : EX X L0 1 22 0 0 (some (.int res.1)) res.2) (k4 : Nat → Int32 → Int32 → mM → Option (Int32 × mM)) (Hk4 : ∀ (a0 : Nat) (i1 : Int32) (i2 : Int32) (M : mM), k4 a0 i1 i2 M = some res → EV X 5 4 [(0, .ref a0), (1, .int i1), (2, .int i2)] [] 0 0 M) (a0 : Nat) (i1 : Int32) (i2 : Int32) (si0 : Int32) (M : mM) (hf : m_X12_ends_J31 N k4 a0 i1 i2 si0 M = some res) : EV X 5 31 [(0, .ref a0), (1, .int i1), (2, .int i2)] [.int si0] 0 0 M := by
  unfold m_X12_ends_J31 at hf
  refine ev_istore_n (l' := [(3, .int si0), (0, .ref a0), (1, .int i1), (2, .int i2)]) C dX12_ends_31 rfl (by decide) rfl ?_
  refine ev_iconst (v := 0) C dX12_ends_32 (by decide) ?_
  refine ev_istore (l' := [(4, .int 0), (3, .int si0), (0, .ref a0), (1, .int i1), (2, .int i2)]) C dX12_ends_33 (by decide) rfl ?_
  refine ev_sub [2, 3, 4, 1, 0] rfl ?_
  exact t_X12_ends_L35 C E k4 Hk4 N a0 i1 i2 si0 0 M hf
def m_X12_ends_L4 (N : Nat)  : Nat → Nat → Int32 → Int32 → mM → Option (Int32 × mM)
  | 0, _, _, _, _ => none
  | n + 1, a0, i1, i2, M =>
    (fR M a0 12 0).bind fun x1 =>
    (aI 0 M x1 5).bind fun x3 =>
    if x3 ≤ i2 then (
      (sV M a0 12 3 (.int 0)).bind fun M5 =>
      if 0 ≤ i1 then (
        (fR M5 a0 12 0).bind fun x7 =>
        (aI 0 M5 x7 5).bind fun x9 =>
        (uI 0 .int M5 x7 5 (x9 - 1)).bind fun M11 =>
        m_X12_ends_L130 N  N a0 (50 + (6 * i1)) M11) else (
        some ((-1), M5))) else (
      (oO M a0 12).bind fun _ =>
      (m_X12_letters N a0 i2 M).bind fun x15 =>
      (fI M a0 12 3).bind fun x17 =>
      if x15 = x17 then (
        m_X12_ends_J31 N (m_X12_ends_L4 N  n) a0 i1 i2 1 M) else (
        m_X12_ends_J31 N (m_X12_ends_L4 N  n) a0 i1 i2 0 M))
set_option maxHeartbeats 4000000 in
set_option maxRecDepth 100000 in
theorem t_X12_ends_L4 {X : mX} {L0 : Launch} {res : Int32 × mM} {N : Nat} (C : CX X RX12 "ends" prog_14_method_81_code 5 (some .int)) (E : EX X L0 1 22 0 0 (some (.int res.1)) res.2)   : ∀ (n : Nat) (a0 : Nat) (i1 : Int32) (i2 : Int32) (M : mM), m_X12_ends_L4 N  n a0 i1 i2 M = some res → EV X 5 4 [(0, .ref a0), (1, .int i1), (2, .int i2)] [] 0 0 M := by
  intro n
  induction n with
  | zero => intro a0 i1 i2 M hf; cases (show (none : Option (Int32 × mM)) = some res from hf)
  | succ n ih =>
    intro a0 i1 i2 M hf
    rw [m_X12_ends_L4] at hf
    refine ev_iload_n C dX12_ends_4 rfl (q := 2) rfl ?_
    refine ev_aload_n C dX12_ends_5 rfl (q := 0) rfl ?_
    obtain ⟨x1, e2, hf⟩ := obnd hf
    refine ev_get (k := 0) C ok_12 dX12_ends_6 (by decide) kw_1159 (fR_V e2) ?_
    refine ev_iconst (v := 5) C dX12_ends_9 (by decide) ?_
    obtain ⟨x3, e4, hf⟩ := obnd hf
    refine ev_iald C dX12_ends_10 e4 ?_
    refine ev_icmp_ge (tgt := 101) C dX12_ends_11 (by decide) (fun hc => ?_) (fun hc => ?_)
    · have hf := oit hf hc
      refine ev_aload_n C dX12_ends_101 rfl (q := 0) rfl ?_
      refine ev_iconst (v := 0) C dX12_ends_102 (by decide) ?_
      obtain ⟨M5, e6, hf⟩ := obnd hf
      refine ev_put (k := 3) C ok_12 dX12_ends_103 (by decide) kw_1162 rfl ⟨rfl, rfl⟩ e6 ?_
      refine ev_iload_n C dX12_ends_106 rfl (q := 1) rfl ?_
      refine ev_if_ge (tgt := 112) C dX12_ends_107 (by decide) (fun hc => ?_) (fun hc => ?_)
      · have hf := oit hf hc
        refine ev_aload_n C dX12_ends_112 rfl (q := 0) rfl ?_
        obtain ⟨x7, e8, hf⟩ := obnd hf
        refine ev_get (k := 0) C ok_12 dX12_ends_113 (by decide) kw_1159 (fR_V e8) ?_
        refine ev_iconst (v := 5) C dX12_ends_116 (by decide) ?_
        refine ev_dup2_11 C dX12_ends_117 rfl rfl ?_
        obtain ⟨x9, e10, hf⟩ := obnd hf
        refine ev_iald C dX12_ends_118 e10 ?_
        refine ev_iconst (v := 1) C dX12_ends_119 (by decide) ?_
        refine ev_isub C dX12_ends_120 ?_
        obtain ⟨M11, e12, hf⟩ := obnd hf
        refine ev_iast C dX12_ends_121 e12 ?_
        refine ev_bipush (v := 50) C dX12_ends_122 (by decide) ?_
        refine ev_bipush (v := 6) C dX12_ends_124 (by decide) ?_
        refine ev_iload_n C dX12_ends_126 rfl (q := 1) rfl ?_
        refine ev_imul C dX12_ends_127 ?_
        refine ev_iadd C dX12_ends_128 ?_
        refine ev_istore_n (l' := [(2, .int (50 + (6 * i1))), (0, .ref a0), (1, .int i1)]) C dX12_ends_129 rfl (by decide) rfl ?_
        refine ev_sub [1, 0] rfl ?_
        exact t_X12_ends_L130 C E   N a0 (50 + (6 * i1)) M11 hf
      · have hf := oie hf hc
        refine ev_iconst (v := (-1)) C dX12_ends_110 (by decide) ?_
        obtain rfl := Option.some.inj hf
        exact ev_iret C E (Nat.le_refl 0) (Nat.le_refl 0) dX12_ends_111
    · have hf := oie hf hc
      refine ev_aload_n C dX12_ends_14 rfl (q := 0) rfl ?_
      refine ev_iload_n C dX12_ends_15 rfl (q := 2) rfl ?_
      obtain ⟨_, e13, hf⟩ := obnd hf
      obtain ⟨fs14, e13⟩ := oO_eq e13
      obtain ⟨x15, e16, hf⟩ := obnd hf
      refine ev_callV0 (As := [.int i2]) (st := []) C rfl e13 (t_X12_letters e16) rfl hd_X12_letters rfl kw_1535 kw_1537 kw_87 kw_50 kw_1538 (mRoom.of E (Nat.le_of_ble_eq_true rfl) (Nat.le_of_ble_eq_true rfl) (Nat.le_refl 0) (Nat.le_refl 0)) (Nat.le_of_ble_eq_true rfl) dX12_ends_16 ?_
      refine ev_aload_n C dX12_ends_19 rfl (q := 0) rfl ?_
      obtain ⟨x17, e18, hf⟩ := obnd hf
      refine ev_get (k := 3) C ok_12 dX12_ends_20 (by decide) kw_1162 (fI_V e18) ?_
      refine ev_icmp_ne (tgt := 30) C dX12_ends_23 (by decide) (fun hc => ?_) (fun hc => ?_)
      · have hf := oie hf hc
        refine ev_iconst (v := 0) C dX12_ends_30 (by decide) ?_
        exact t_X12_ends_J31 C E (m_X12_ends_L4 N  n) ih a0 i1 i2 0 M hf
      · have hf := oit hf hc
        refine ev_iconst (v := 1) C dX12_ends_26 (by decide) ?_
        refine ev_goto (tgt := 31) C dX12_ends_27 (by decide) ?_
        exact t_X12_ends_J31 C E (m_X12_ends_L4 N  n) ih a0 i1 i2 1 M hf
def m_X12_ends (N : Nat) (a0 : Nat) (M : mM) : Option (Int32 × mM) :=
  m_X12_ends_L4 N  N a0 (-1) 0 M
set_option maxHeartbeats 4000000 in
set_option maxRecDepth 100000 in
theorem t_X12_ends {L0 : Launch} {M : mM} {N : Nat} {a0 : Nat} {res : Int32 × mM} (hf : m_X12_ends N a0 M = some res) : CT L0 yX12_ends prog_14_method_81_code 5 (some .int) 1 22 0 0 [.ref a0] M (some (.int res.1)) res.2 := by
  refine CT.of (by decide +kernel) (Nat.le_of_ble_eq_true rfl) fun X C E => ?_
  have C : CX X RX12 "ends" prog_14_method_81_code 5 (some .int) := C
  show EV X 5 0 [(0, .ref a0)] [] 0 0 M
  unfold m_X12_ends at hf
  refine ev_iconst (v := (-1)) C dX12_ends_0 (by decide) ?_
  refine ev_istore_n (l' := [(1, .int (-1)), (0, .ref a0)]) C dX12_ends_1 rfl (by decide) rfl ?_
  refine ev_iconst (v := 0) C dX12_ends_2 (by decide) ?_
  refine ev_istore_n (l' := [(2, .int 0), (1, .int (-1)), (0, .ref a0)]) C dX12_ends_3 rfl (by decide) rfl ?_
  refine ev_sub [2, 1, 0] rfl ?_
  exact t_X12_ends_L4 C E   N a0 (-1) 0 M hf
/-! FareLimitsModel wrongSign()I -/
theorem dX12_wrongSign_0 : decode prog_14_method_82_code 0 = .ok (.iconst 0, 1) := by decide +kernel
theorem dX12_wrongSign_1 : decode prog_14_method_82_code 1 = .ok (.istore_n 1, 1) := by decide +kernel
theorem dX12_wrongSign_2 : decode prog_14_method_82_code 2 = .ok (.iload_n 1, 1) := by decide +kernel
theorem dX12_wrongSign_3 : decode prog_14_method_82_code 3 = .ok (.aload_n 0, 1) := by decide +kernel
theorem dX12_wrongSign_4 : decode prog_14_method_82_code 4 = .ok (.getfield 260, 3) := by decide +kernel
theorem dX12_wrongSign_7 : decode prog_14_method_82_code 7 = .ok (.if_icmp .ge 44, 3) := by decide +kernel
theorem dX12_wrongSign_10 : decode prog_14_method_82_code 10 = .ok (.iload_n 1, 1) := by decide +kernel
theorem dX12_wrongSign_11 : decode prog_14_method_82_code 11 = .ok (.bipush 20, 2) := by decide +kernel
theorem dX12_wrongSign_13 : decode prog_14_method_82_code 13 = .ok (.if_icmp .eq 30, 3) := by decide +kernel
theorem dX12_wrongSign_16 : decode prog_14_method_82_code 16 = .ok (.aload_n 0, 1) := by decide +kernel
theorem dX12_wrongSign_17 : decode prog_14_method_82_code 17 = .ok (.getfield 18, 3) := by decide +kernel
theorem dX12_wrongSign_20 : decode prog_14_method_82_code 20 = .ok (.iload_n 1, 1) := by decide +kernel
theorem dX12_wrongSign_21 : decode prog_14_method_82_code 21 = .ok (.iaload, 1) := by decide +kernel
theorem dX12_wrongSign_22 : decode prog_14_method_82_code 22 = .ok (.bipush 45, 2) := by decide +kernel
theorem dX12_wrongSign_24 : decode prog_14_method_82_code 24 = .ok (.if_icmp .eq 21, 3) := by decide +kernel
theorem dX12_wrongSign_27 : decode prog_14_method_82_code 27 = .ok (.aload_n 0, 1) := by decide +kernel
theorem dX12_wrongSign_28 : decode prog_14_method_82_code 28 = .ok (.aload_n 0, 1) := by decide +kernel
theorem dX12_wrongSign_29 : decode prog_14_method_82_code 29 = .ok (.getfield 18, 3) := by decide +kernel
theorem dX12_wrongSign_32 : decode prog_14_method_82_code 32 = .ok (.iload_n 1, 1) := by decide +kernel
theorem dX12_wrongSign_33 : decode prog_14_method_82_code 33 = .ok (.iaload, 1) := by decide +kernel
theorem dX12_wrongSign_34 : decode prog_14_method_82_code 34 = .ok (.bipush 97, 2) := by decide +kernel
theorem dX12_wrongSign_36 : decode prog_14_method_82_code 36 = .ok (.isub, 1) := by decide +kernel
theorem dX12_wrongSign_37 : decode prog_14_method_82_code 37 = .ok (.invokevirtual 82, 3) := by decide +kernel
theorem dX12_wrongSign_40 : decode prog_14_method_82_code 40 = .ok (.ifCond .ne 5, 3) := by decide +kernel
theorem dX12_wrongSign_43 : decode prog_14_method_82_code 43 = .ok (.iload_n 1, 1) := by decide +kernel
theorem dX12_wrongSign_44 : decode prog_14_method_82_code 44 = .ok (.ireturn, 1) := by decide +kernel
theorem dX12_wrongSign_45 : decode prog_14_method_82_code 45 = .ok (.iinc 1 1, 3) := by decide +kernel
theorem dX12_wrongSign_48 : decode prog_14_method_82_code 48 = .ok (.goto (-46), 3) := by decide +kernel
theorem dX12_wrongSign_51 : decode prog_14_method_82_code 51 = .ok (.aload_n 0, 1) := by decide +kernel
theorem dX12_wrongSign_52 : decode prog_14_method_82_code 52 = .ok (.getfield 260, 3) := by decide +kernel
theorem dX12_wrongSign_55 : decode prog_14_method_82_code 55 = .ok (.ifCond .ne 7, 3) := by decide +kernel
theorem dX12_wrongSign_58 : decode prog_14_method_82_code 58 = .ok (.iconst 0, 1) := by decide +kernel
theorem dX12_wrongSign_59 : decode prog_14_method_82_code 59 = .ok (.goto 4, 3) := by decide +kernel
theorem dX12_wrongSign_62 : decode prog_14_method_82_code 62 = .ok (.iconst (-1), 1) := by decide +kernel
theorem dX12_wrongSign_63 : decode prog_14_method_82_code 63 = .ok (.ireturn, 1) := by decide +kernel
def m_X12_wrongSign_J45 (N : Nat) (M : mM) (k2 : Nat → Int32 → Option (Int32)) (a0 : Nat) (i1 : Int32) : Option (Int32) :=
  k2 a0 (i1 + 1)
set_option maxHeartbeats 4000000 in
set_option maxRecDepth 100000 in
theorem t_X12_wrongSign_J45 {X : mX} {M : mM} {L0 : Launch} {res : Int32} {N : Nat} (C : CX X RX12 "wrongSign" prog_14_method_82_code 2 (some .int)) (E : EX X L0 2 46 0 0 (some (.int res)) M) (k2 : Nat → Int32 → Option (Int32)) (Hk2 : ∀ (a0 : Nat) (i1 : Int32), k2 a0 i1 = some res → EV X 2 2 [(0, .ref a0), (1, .int i1)] [] 0 0 M) (a0 : Nat) (i1 : Int32) (hf : m_X12_wrongSign_J45 N M k2 a0 i1 = some res) : EV X 2 45 [(0, .ref a0), (1, .int i1)] [] 0 0 M := by
  unfold m_X12_wrongSign_J45 at hf
  refine ev_iinc (v := i1 + 1) (l' := [(1, .int (i1 + 1)), (0, .ref a0)]) C dX12_wrongSign_45 (q := 1) rfl rfl (by decide) rfl ?_
  refine ev_goto (tgt := 2) C dX12_wrongSign_48 (by decide) ?_
  refine ev_sub [1, 0] rfl ?_
  exact Hk2 a0 (i1 + 1) hf
def m_X12_wrongSign_L2 (N : Nat) (M : mM)  : Nat → Nat → Int32 → Option (Int32)
  | 0, _, _ => none
  | n + 1, a0, i1 =>
    (fI M a0 12 3).bind fun x1 =>
    if x1 ≤ i1 then (
      (fI M a0 12 3).bind fun x3 =>
      if x3 = 0 then (
        some 0) else (
        some (-1))) else (
      if i1 = 20 then (
        some i1) else (
        (fR M a0 12 4).bind fun x5 =>
        (aI 0 M x5 i1).bind fun x7 =>
        if x7 = 45 then (
          m_X12_wrongSign_J45 N M (m_X12_wrongSign_L2 N M  n) a0 i1) else (
          (fR M a0 12 4).bind fun x9 =>
          (aI 0 M x9 i1).bind fun x11 =>
          (oO M a0 12).bind fun _ =>
          (m_X12_isFare a0 (x11 - 97) M).bind fun x15 =>
          if x15 = 0 then (
            some i1) else (
            m_X12_wrongSign_J45 N M (m_X12_wrongSign_L2 N M  n) a0 i1))))
set_option maxHeartbeats 4000000 in
set_option maxRecDepth 100000 in
theorem t_X12_wrongSign_L2 {X : mX} {M : mM} {L0 : Launch} {res : Int32} {N : Nat} (C : CX X RX12 "wrongSign" prog_14_method_82_code 2 (some .int)) (E : EX X L0 2 46 0 0 (some (.int res)) M)   : ∀ (n : Nat) (a0 : Nat) (i1 : Int32), m_X12_wrongSign_L2 N M  n a0 i1 = some res → EV X 2 2 [(0, .ref a0), (1, .int i1)] [] 0 0 M := by
  intro n
  induction n with
  | zero => intro a0 i1 hf; cases (show (none : Option (Int32)) = some res from hf)
  | succ n ih =>
    intro a0 i1 hf
    rw [m_X12_wrongSign_L2] at hf
    refine ev_iload_n C dX12_wrongSign_2 rfl (q := 1) rfl ?_
    refine ev_aload_n C dX12_wrongSign_3 rfl (q := 0) rfl ?_
    obtain ⟨x1, e2, hf⟩ := obnd hf
    refine ev_get (k := 3) C ok_12 dX12_wrongSign_4 (by decide) kw_1162 (fI_V e2) ?_
    refine ev_icmp_ge (tgt := 51) C dX12_wrongSign_7 (by decide) (fun hc => ?_) (fun hc => ?_)
    · have hf := oit hf hc
      refine ev_aload_n C dX12_wrongSign_51 rfl (q := 0) rfl ?_
      obtain ⟨x3, e4, hf⟩ := obnd hf
      refine ev_get (k := 3) C ok_12 dX12_wrongSign_52 (by decide) kw_1162 (fI_V e4) ?_
      refine ev_if_ne (tgt := 62) C dX12_wrongSign_55 (by decide) (fun hc => ?_) (fun hc => ?_)
      · have hf := oie hf hc
        refine ev_iconst (v := (-1)) C dX12_wrongSign_62 (by decide) ?_
        obtain rfl := Option.some.inj hf
        exact ev_iret C E (Nat.le_refl 0) (Nat.le_refl 0) dX12_wrongSign_63
      · have hf := oit hf hc
        refine ev_iconst (v := 0) C dX12_wrongSign_58 (by decide) ?_
        refine ev_goto (tgt := 63) C dX12_wrongSign_59 (by decide) ?_
        obtain rfl := Option.some.inj hf
        exact ev_iret C E (Nat.le_refl 0) (Nat.le_refl 0) dX12_wrongSign_63
    · have hf := oie hf hc
      refine ev_iload_n C dX12_wrongSign_10 rfl (q := 1) rfl ?_
      refine ev_bipush (v := 20) C dX12_wrongSign_11 (by decide) ?_
      refine ev_icmp_eq (tgt := 43) C dX12_wrongSign_13 (by decide) (fun hc => ?_) (fun hc => ?_)
      · have hf := oit hf hc
        refine ev_iload_n C dX12_wrongSign_43 rfl (q := 1) rfl ?_
        obtain rfl := Option.some.inj hf
        exact ev_iret C E (Nat.le_refl 0) (Nat.le_refl 0) dX12_wrongSign_44
      · have hf := oie hf hc
        refine ev_aload_n C dX12_wrongSign_16 rfl (q := 0) rfl ?_
        obtain ⟨x5, e6, hf⟩ := obnd hf
        refine ev_get (k := 4) C ok_12 dX12_wrongSign_17 (by decide) kw_1163 (fR_V e6) ?_
        refine ev_iload_n C dX12_wrongSign_20 rfl (q := 1) rfl ?_
        obtain ⟨x7, e8, hf⟩ := obnd hf
        refine ev_iald C dX12_wrongSign_21 e8 ?_
        refine ev_bipush (v := 45) C dX12_wrongSign_22 (by decide) ?_
        refine ev_icmp_eq (tgt := 45) C dX12_wrongSign_24 (by decide) (fun hc => ?_) (fun hc => ?_)
        · have hf := oit hf hc
          exact t_X12_wrongSign_J45 C E (m_X12_wrongSign_L2 N M  n) ih a0 i1 hf
        · have hf := oie hf hc
          refine ev_aload_n C dX12_wrongSign_27 rfl (q := 0) rfl ?_
          refine ev_aload_n C dX12_wrongSign_28 rfl (q := 0) rfl ?_
          obtain ⟨x9, e10, hf⟩ := obnd hf
          refine ev_get (k := 4) C ok_12 dX12_wrongSign_29 (by decide) kw_1163 (fR_V e10) ?_
          refine ev_iload_n C dX12_wrongSign_32 rfl (q := 1) rfl ?_
          obtain ⟨x11, e12, hf⟩ := obnd hf
          refine ev_iald C dX12_wrongSign_33 e12 ?_
          refine ev_bipush (v := 97) C dX12_wrongSign_34 (by decide) ?_
          refine ev_isub C dX12_wrongSign_36 ?_
          obtain ⟨_, e13, hf⟩ := obnd hf
          obtain ⟨fs14, e13⟩ := oO_eq e13
          obtain ⟨x15, e16, hf⟩ := obnd hf
          refine ev_callV0 (As := [.int (x11 - 97)]) (st := []) C rfl e13 (t_X12_isFare e16) rfl hd_X12_isFare rfl kw_1261 kw_1263 kw_87 kw_20 kw_1264 (mRoom.of E (Nat.le_of_ble_eq_true rfl) (Nat.le_of_ble_eq_true rfl) (Nat.le_refl 0) (Nat.le_refl 0)) (Nat.le_of_ble_eq_true rfl) dX12_wrongSign_37 ?_
          refine ev_if_ne (tgt := 45) C dX12_wrongSign_40 (by decide) (fun hc => ?_) (fun hc => ?_)
          · have hf := oie hf hc
            exact t_X12_wrongSign_J45 C E (m_X12_wrongSign_L2 N M  n) ih a0 i1 hf
          · have hf := oit hf hc
            refine ev_iload_n C dX12_wrongSign_43 rfl (q := 1) rfl ?_
            obtain rfl := Option.some.inj hf
            exact ev_iret C E (Nat.le_refl 0) (Nat.le_refl 0) dX12_wrongSign_44
def m_X12_wrongSign (N : Nat) (a0 : Nat) (M : mM) : Option (Int32) :=
  m_X12_wrongSign_L2 N M  N a0 0
set_option maxHeartbeats 4000000 in
set_option maxRecDepth 100000 in
theorem t_X12_wrongSign {L0 : Launch} {M : mM} {N : Nat} {a0 : Nat} {res : Int32} (hf : m_X12_wrongSign N a0 M = some res) : CT L0 yX12_wrongSign prog_14_method_82_code 2 (some .int) 2 46 0 0 [.ref a0] M (some (.int res)) M := by
  refine CT.of (by decide +kernel) (Nat.le_of_ble_eq_true rfl) fun X C E => ?_
  have C : CX X RX12 "wrongSign" prog_14_method_82_code 2 (some .int) := C
  show EV X 2 0 [(0, .ref a0)] [] 0 0 M
  unfold m_X12_wrongSign at hf
  refine ev_iconst (v := 0) C dX12_wrongSign_0 (by decide) ?_
  refine ev_istore_n (l' := [(1, .int 0), (0, .ref a0)]) C dX12_wrongSign_1 rfl (by decide) rfl ?_
  refine ev_sub [1, 0] rfl ?_
  exact t_X12_wrongSign_L2 C E   N a0 0 hf
/-! FareLimitsModel behind(I)I -/
theorem dX12_behind_0 : decode prog_14_method_83_code 0 = .ok (.iconst 0, 1) := by decide +kernel
theorem dX12_behind_1 : decode prog_14_method_83_code 1 = .ok (.istore_n 2, 1) := by decide +kernel
theorem dX12_behind_2 : decode prog_14_method_83_code 2 = .ok (.aload_n 0, 1) := by decide +kernel
theorem dX12_behind_3 : decode prog_14_method_83_code 3 = .ok (.getfield 9, 3) := by decide +kernel
theorem dX12_behind_6 : decode prog_14_method_83_code 6 = .ok (.iconst 1, 1) := by decide +kernel
theorem dX12_behind_7 : decode prog_14_method_83_code 7 = .ok (.iaload, 1) := by decide +kernel
theorem dX12_behind_8 : decode prog_14_method_83_code 8 = .ok (.istore_n 3, 1) := by decide +kernel
theorem dX12_behind_9 : decode prog_14_method_83_code 9 = .ok (.sipush 9999, 3) := by decide +kernel
theorem dX12_behind_12 : decode prog_14_method_83_code 12 = .ok (.istore 4, 2) := by decide +kernel
theorem dX12_behind_14 : decode prog_14_method_83_code 14 = .ok (.iload 4, 2) := by decide +kernel
theorem dX12_behind_16 : decode prog_14_method_83_code 16 = .ok (.ifCond .le 74, 3) := by decide +kernel
theorem dX12_behind_19 : decode prog_14_method_83_code 19 = .ok (.iload_n 3, 1) := by decide +kernel
theorem dX12_behind_20 : decode prog_14_method_83_code 20 = .ok (.ifCond .le 70, 3) := by decide +kernel
theorem dX12_behind_23 : decode prog_14_method_83_code 23 = .ok (.iconst 0, 1) := by decide +kernel
theorem dX12_behind_24 : decode prog_14_method_83_code 24 = .ok (.istore 5, 2) := by decide +kernel
theorem dX12_behind_26 : decode prog_14_method_83_code 26 = .ok (.iload 5, 2) := by decide +kernel
theorem dX12_behind_28 : decode prog_14_method_83_code 28 = .ok (.iload_n 1, 1) := by decide +kernel
theorem dX12_behind_29 : decode prog_14_method_83_code 29 = .ok (.if_icmp .ge 55, 3) := by decide +kernel
theorem dX12_behind_32 : decode prog_14_method_83_code 32 = .ok (.aload_n 0, 1) := by decide +kernel
theorem dX12_behind_33 : decode prog_14_method_83_code 33 = .ok (.getfield 18, 3) := by decide +kernel
theorem dX12_behind_36 : decode prog_14_method_83_code 36 = .ok (.iload 5, 2) := by decide +kernel
theorem dX12_behind_38 : decode prog_14_method_83_code 38 = .ok (.iaload, 1) := by decide +kernel
theorem dX12_behind_39 : decode prog_14_method_83_code 39 = .ok (.bipush 45, 2) := by decide +kernel
theorem dX12_behind_41 : decode prog_14_method_83_code 41 = .ok (.if_icmp .eq 37, 3) := by decide +kernel
theorem dX12_behind_44 : decode prog_14_method_83_code 44 = .ok (.aload_n 0, 1) := by decide +kernel
theorem dX12_behind_45 : decode prog_14_method_83_code 45 = .ok (.aload_n 0, 1) := by decide +kernel
theorem dX12_behind_46 : decode prog_14_method_83_code 46 = .ok (.getfield 18, 3) := by decide +kernel
theorem dX12_behind_49 : decode prog_14_method_83_code 49 = .ok (.iload 5, 2) := by decide +kernel
theorem dX12_behind_51 : decode prog_14_method_83_code 51 = .ok (.iaload, 1) := by decide +kernel
theorem dX12_behind_52 : decode prog_14_method_83_code 52 = .ok (.bipush 97, 2) := by decide +kernel
theorem dX12_behind_54 : decode prog_14_method_83_code 54 = .ok (.isub, 1) := by decide +kernel
theorem dX12_behind_55 : decode prog_14_method_83_code 55 = .ok (.invokevirtual 88, 3) := by decide +kernel
theorem dX12_behind_58 : decode prog_14_method_83_code 58 = .ok (.iload 4, 2) := by decide +kernel
theorem dX12_behind_60 : decode prog_14_method_83_code 60 = .ok (.if_icmp .ne 18, 3) := by decide +kernel
theorem dX12_behind_63 : decode prog_14_method_83_code 63 = .ok (.iload_n 3, 1) := by decide +kernel
theorem dX12_behind_64 : decode prog_14_method_83_code 64 = .ok (.ifCond .ne 6, 3) := by decide +kernel
theorem dX12_behind_67 : decode prog_14_method_83_code 67 = .ok (.goto 11, 3) := by decide +kernel
theorem dX12_behind_70 : decode prog_14_method_83_code 70 = .ok (.iload_n 2, 1) := by decide +kernel
theorem dX12_behind_71 : decode prog_14_method_83_code 71 = .ok (.iload 4, 2) := by decide +kernel
theorem dX12_behind_73 : decode prog_14_method_83_code 73 = .ok (.iadd, 1) := by decide +kernel
theorem dX12_behind_74 : decode prog_14_method_83_code 74 = .ok (.istore_n 2, 1) := by decide +kernel
theorem dX12_behind_75 : decode prog_14_method_83_code 75 = .ok (.iinc 3 (-1), 3) := by decide +kernel
theorem dX12_behind_78 : decode prog_14_method_83_code 78 = .ok (.iinc 5 1, 3) := by decide +kernel
theorem dX12_behind_81 : decode prog_14_method_83_code 81 = .ok (.goto (-55), 3) := by decide +kernel
theorem dX12_behind_84 : decode prog_14_method_83_code 84 = .ok (.iinc 4 (-1), 3) := by decide +kernel
theorem dX12_behind_87 : decode prog_14_method_83_code 87 = .ok (.goto (-73), 3) := by decide +kernel
theorem dX12_behind_90 : decode prog_14_method_83_code 90 = .ok (.iload_n 2, 1) := by decide +kernel
theorem dX12_behind_91 : decode prog_14_method_83_code 91 = .ok (.ireturn, 1) := by decide +kernel
def m_X12_behind_J78 (N : Nat) (M : mM) (k26 : Nat → Int32 → Int32 → Int32 → Int32 → Int32 → Option (Int32)) (a0 : Nat) (i1 : Int32) (i2 : Int32) (i3 : Int32) (i4 : Int32) (i5 : Int32) : Option (Int32) :=
  k26 a0 i1 i2 i3 i4 (i5 + 1)
set_option maxHeartbeats 4000000 in
set_option maxRecDepth 100000 in
theorem t_X12_behind_J78 {X : mX} {M : mM} {L0 : Launch} {res : Int32} {N : Nat} (C : CX X RX12 "behind" prog_14_method_83_code 6 (some .int)) (E : EX X L0 1 21 0 0 (some (.int res)) M) (k26 : Nat → Int32 → Int32 → Int32 → Int32 → Int32 → Option (Int32)) (Hk26 : ∀ (a0 : Nat) (i1 : Int32) (i2 : Int32) (i3 : Int32) (i4 : Int32) (i5 : Int32), k26 a0 i1 i2 i3 i4 i5 = some res → EV X 6 26 [(0, .ref a0), (1, .int i1), (2, .int i2), (3, .int i3), (4, .int i4), (5, .int i5)] [] 0 0 M) (a0 : Nat) (i1 : Int32) (i2 : Int32) (i3 : Int32) (i4 : Int32) (i5 : Int32) (hf : m_X12_behind_J78 N M k26 a0 i1 i2 i3 i4 i5 = some res) : EV X 6 78 [(0, .ref a0), (1, .int i1), (2, .int i2), (3, .int i3), (4, .int i4), (5, .int i5)] [] 0 0 M := by
  unfold m_X12_behind_J78 at hf
  refine ev_iinc (v := i5 + 1) (l' := [(5, .int (i5 + 1)), (0, .ref a0), (1, .int i1), (2, .int i2), (3, .int i3), (4, .int i4)]) C dX12_behind_78 (q := 5) rfl rfl (by decide) rfl ?_
  refine ev_goto (tgt := 26) C dX12_behind_81 (by decide) ?_
  refine ev_sub [1, 2, 3, 4, 5, 0] rfl ?_
  exact Hk26 a0 i1 i2 i3 i4 (i5 + 1) hf
def m_X12_behind_L26 (N : Nat) (M : mM) (k14 : Nat → Int32 → Int32 → Int32 → Int32 → Option (Int32)) : Nat → Nat → Int32 → Int32 → Int32 → Int32 → Int32 → Option (Int32)
  | 0, _, _, _, _, _, _ => none
  | n + 1, a0, i1, i2, i3, i4, i5 =>
    if i1 ≤ i5 then (
      k14 a0 i1 i2 i3 (i4 + (-1))) else (
      (fR M a0 12 4).bind fun x1 =>
      (aI 0 M x1 i5).bind fun x3 =>
      if x3 = 45 then (
        m_X12_behind_J78 N M (m_X12_behind_L26 N M k14  n) a0 i1 i2 i3 i4 i5) else (
        (fR M a0 12 4).bind fun x5 =>
        (aI 0 M x5 i5).bind fun x7 =>
        (oO M a0 12).bind fun _ =>
        (m_X12_price a0 (x7 - 97) M).bind fun x11 =>
        if x11 = i4 then (
          if i3 = 0 then (
            m_X12_behind_J78 N M (m_X12_behind_L26 N M k14  n) a0 i1 i2 i3 i4 i5) else (
            m_X12_behind_J78 N M (m_X12_behind_L26 N M k14  n) a0 i1 (i2 + i4) (i3 + (-1)) i4 i5)) else (
          m_X12_behind_J78 N M (m_X12_behind_L26 N M k14  n) a0 i1 i2 i3 i4 i5)))
set_option maxHeartbeats 4000000 in
set_option maxRecDepth 100000 in
theorem t_X12_behind_L26 {X : mX} {M : mM} {L0 : Launch} {res : Int32} {N : Nat} (C : CX X RX12 "behind" prog_14_method_83_code 6 (some .int)) (E : EX X L0 1 21 0 0 (some (.int res)) M) (k14 : Nat → Int32 → Int32 → Int32 → Int32 → Option (Int32)) (Hk14 : ∀ (a0 : Nat) (i1 : Int32) (i2 : Int32) (i3 : Int32) (i4 : Int32), k14 a0 i1 i2 i3 i4 = some res → EV X 6 14 [(0, .ref a0), (1, .int i1), (2, .int i2), (3, .int i3), (4, .int i4)] [] 0 0 M) : ∀ (n : Nat) (a0 : Nat) (i1 : Int32) (i2 : Int32) (i3 : Int32) (i4 : Int32) (i5 : Int32), m_X12_behind_L26 N M k14 n a0 i1 i2 i3 i4 i5 = some res → EV X 6 26 [(0, .ref a0), (1, .int i1), (2, .int i2), (3, .int i3), (4, .int i4), (5, .int i5)] [] 0 0 M := by
  intro n
  induction n with
  | zero => intro a0 i1 i2 i3 i4 i5 hf; cases (show (none : Option (Int32)) = some res from hf)
  | succ n ih =>
    intro a0 i1 i2 i3 i4 i5 hf
    rw [m_X12_behind_L26] at hf
    refine ev_iload C dX12_behind_26 (q := 5) rfl ?_
    refine ev_iload_n C dX12_behind_28 rfl (q := 1) rfl ?_
    refine ev_icmp_ge (tgt := 84) C dX12_behind_29 (by decide) (fun hc => ?_) (fun hc => ?_)
    · have hf := oit hf hc
      refine ev_iinc (v := i4 + (-1)) (l' := [(4, .int (i4 + (-1))), (0, .ref a0), (1, .int i1), (2, .int i2), (3, .int i3), (5, .int i5)]) C dX12_behind_84 (q := 4) rfl rfl (by decide) rfl ?_
      refine ev_goto (tgt := 14) C dX12_behind_87 (by decide) ?_
      refine ev_sub [1, 2, 3, 4, 0] rfl ?_
      exact Hk14 a0 i1 i2 i3 (i4 + (-1)) hf
    · have hf := oie hf hc
      refine ev_aload_n C dX12_behind_32 rfl (q := 0) rfl ?_
      obtain ⟨x1, e2, hf⟩ := obnd hf
      refine ev_get (k := 4) C ok_12 dX12_behind_33 (by decide) kw_1163 (fR_V e2) ?_
      refine ev_iload C dX12_behind_36 (q := 5) rfl ?_
      obtain ⟨x3, e4, hf⟩ := obnd hf
      refine ev_iald C dX12_behind_38 e4 ?_
      refine ev_bipush (v := 45) C dX12_behind_39 (by decide) ?_
      refine ev_icmp_eq (tgt := 78) C dX12_behind_41 (by decide) (fun hc => ?_) (fun hc => ?_)
      · have hf := oit hf hc
        exact t_X12_behind_J78 C E (m_X12_behind_L26 N M k14  n) ih a0 i1 i2 i3 i4 i5 hf
      · have hf := oie hf hc
        refine ev_aload_n C dX12_behind_44 rfl (q := 0) rfl ?_
        refine ev_aload_n C dX12_behind_45 rfl (q := 0) rfl ?_
        obtain ⟨x5, e6, hf⟩ := obnd hf
        refine ev_get (k := 4) C ok_12 dX12_behind_46 (by decide) kw_1163 (fR_V e6) ?_
        refine ev_iload C dX12_behind_49 (q := 5) rfl ?_
        obtain ⟨x7, e8, hf⟩ := obnd hf
        refine ev_iald C dX12_behind_51 e8 ?_
        refine ev_bipush (v := 97) C dX12_behind_52 (by decide) ?_
        refine ev_isub C dX12_behind_54 ?_
        obtain ⟨_, e9, hf⟩ := obnd hf
        obtain ⟨fs10, e9⟩ := oO_eq e9
        obtain ⟨x11, e12, hf⟩ := obnd hf
        refine ev_callV0 (As := [.int (x7 - 97)]) (st := []) C rfl e9 (t_X12_price e12) rfl hd_X12_price rfl kw_1266 kw_1268 kw_87 kw_21 kw_1269 (mRoom.of E (Nat.le_of_ble_eq_true rfl) (Nat.le_of_ble_eq_true rfl) (Nat.le_refl 0) (Nat.le_refl 0)) (Nat.le_of_ble_eq_true rfl) dX12_behind_55 ?_
        refine ev_iload C dX12_behind_58 (q := 4) rfl ?_
        refine ev_icmp_ne (tgt := 78) C dX12_behind_60 (by decide) (fun hc => ?_) (fun hc => ?_)
        · have hf := oie hf hc
          exact t_X12_behind_J78 C E (m_X12_behind_L26 N M k14  n) ih a0 i1 i2 i3 i4 i5 hf
        · have hf := oit hf hc
          refine ev_iload_n C dX12_behind_63 rfl (q := 3) rfl ?_
          refine ev_if_ne (tgt := 70) C dX12_behind_64 (by decide) (fun hc => ?_) (fun hc => ?_)
          · have hf := oie hf hc
            refine ev_iload_n C dX12_behind_70 rfl (q := 2) rfl ?_
            refine ev_iload C dX12_behind_71 (q := 4) rfl ?_
            refine ev_iadd C dX12_behind_73 ?_
            refine ev_istore_n (l' := [(2, .int (i2 + i4)), (0, .ref a0), (1, .int i1), (3, .int i3), (4, .int i4), (5, .int i5)]) C dX12_behind_74 rfl (by decide) rfl ?_
            refine ev_iinc (v := i3 + (-1)) (l' := [(3, .int (i3 + (-1))), (2, .int (i2 + i4)), (0, .ref a0), (1, .int i1), (4, .int i4), (5, .int i5)]) C dX12_behind_75 (q := 3) rfl rfl (by decide) rfl ?_
            refine ev_sub [2, 3, 1, 0, 4, 5] rfl ?_
            exact t_X12_behind_J78 C E (m_X12_behind_L26 N M k14  n) ih a0 i1 (i2 + i4) (i3 + (-1)) i4 i5 hf
          · have hf := oit hf hc
            refine ev_goto (tgt := 78) C dX12_behind_67 (by decide) ?_
            exact t_X12_behind_J78 C E (m_X12_behind_L26 N M k14  n) ih a0 i1 i2 i3 i4 i5 hf
def m_X12_behind_L14 (N : Nat) (M : mM)  : Nat → Nat → Int32 → Int32 → Int32 → Int32 → Option (Int32)
  | 0, _, _, _, _, _ => none
  | n + 1, a0, i1, i2, i3, i4 =>
    if i4 ≤ 0 then (
      some i2) else (
      if i3 ≤ 0 then (
        some i2) else (
        m_X12_behind_L26 N M (m_X12_behind_L14 N M  n) N a0 i1 i2 i3 i4 0))
set_option maxHeartbeats 4000000 in
set_option maxRecDepth 100000 in
theorem t_X12_behind_L14 {X : mX} {M : mM} {L0 : Launch} {res : Int32} {N : Nat} (C : CX X RX12 "behind" prog_14_method_83_code 6 (some .int)) (E : EX X L0 1 21 0 0 (some (.int res)) M)   : ∀ (n : Nat) (a0 : Nat) (i1 : Int32) (i2 : Int32) (i3 : Int32) (i4 : Int32), m_X12_behind_L14 N M  n a0 i1 i2 i3 i4 = some res → EV X 6 14 [(0, .ref a0), (1, .int i1), (2, .int i2), (3, .int i3), (4, .int i4)] [] 0 0 M := by
  intro n
  induction n with
  | zero => intro a0 i1 i2 i3 i4 hf; cases (show (none : Option (Int32)) = some res from hf)
  | succ n ih =>
    intro a0 i1 i2 i3 i4 hf
    rw [m_X12_behind_L14] at hf
    refine ev_iload C dX12_behind_14 (q := 4) rfl ?_
    refine ev_if_le (tgt := 90) C dX12_behind_16 (by decide) (fun hc => ?_) (fun hc => ?_)
    · have hf := oit hf hc
      refine ev_iload_n C dX12_behind_90 rfl (q := 2) rfl ?_
      obtain rfl := Option.some.inj hf
      exact ev_iret C E (Nat.le_refl 0) (Nat.le_refl 0) dX12_behind_91
    · have hf := oie hf hc
      refine ev_iload_n C dX12_behind_19 rfl (q := 3) rfl ?_
      refine ev_if_le (tgt := 90) C dX12_behind_20 (by decide) (fun hc => ?_) (fun hc => ?_)
      · have hf := oit hf hc
        refine ev_iload_n C dX12_behind_90 rfl (q := 2) rfl ?_
        obtain rfl := Option.some.inj hf
        exact ev_iret C E (Nat.le_refl 0) (Nat.le_refl 0) dX12_behind_91
      · have hf := oie hf hc
        refine ev_iconst (v := 0) C dX12_behind_23 (by decide) ?_
        refine ev_istore (l' := [(5, .int 0), (0, .ref a0), (1, .int i1), (2, .int i2), (3, .int i3), (4, .int i4)]) C dX12_behind_24 (by decide) rfl ?_
        refine ev_sub [1, 2, 3, 4, 5, 0] rfl ?_
        exact t_X12_behind_L26 C E (m_X12_behind_L14 N M  n) ih N a0 i1 i2 i3 i4 0 hf
def m_X12_behind (N : Nat) (a0 : Nat) (i1 : Int32) (M : mM) : Option (Int32) :=
  (fR M a0 12 0).bind fun x1 =>
  (aI 0 M x1 1).bind fun x3 =>
  m_X12_behind_L14 N M  N a0 i1 0 x3 9999
set_option maxHeartbeats 4000000 in
set_option maxRecDepth 100000 in
theorem t_X12_behind {L0 : Launch} {M : mM} {N : Nat} {a0 : Nat} {i1 : Int32} {res : Int32} (hf : m_X12_behind N a0 i1 M = some res) : CT L0 yX12_behind prog_14_method_83_code 6 (some .int) 1 21 0 0 [.ref a0, .int i1] M (some (.int res)) M := by
  refine CT.of (by decide +kernel) (Nat.le_of_ble_eq_true rfl) fun X C E => ?_
  have C : CX X RX12 "behind" prog_14_method_83_code 6 (some .int) := C
  show EV X 6 0 [(0, .ref a0), (1, .int i1)] [] 0 0 M
  unfold m_X12_behind at hf
  refine ev_iconst (v := 0) C dX12_behind_0 (by decide) ?_
  refine ev_istore_n (l' := [(2, .int 0), (0, .ref a0), (1, .int i1)]) C dX12_behind_1 rfl (by decide) rfl ?_
  refine ev_aload_n C dX12_behind_2 rfl (q := 1) rfl ?_
  obtain ⟨x1, e2, hf⟩ := obnd hf
  refine ev_get (k := 0) C ok_12 dX12_behind_3 (by decide) kw_1159 (fR_V e2) ?_
  refine ev_iconst (v := 1) C dX12_behind_6 (by decide) ?_
  obtain ⟨x3, e4, hf⟩ := obnd hf
  refine ev_iald C dX12_behind_7 e4 ?_
  refine ev_istore_n (l' := [(3, .int x3), (2, .int 0), (0, .ref a0), (1, .int i1)]) C dX12_behind_8 rfl (by decide) rfl ?_
  refine ev_sipush (v := 9999) C dX12_behind_9 (by decide) ?_
  refine ev_istore (l' := [(4, .int 9999), (3, .int x3), (2, .int 0), (0, .ref a0), (1, .int i1)]) C dX12_behind_12 (by decide) rfl ?_
  refine ev_sub [3, 4, 2, 1, 0] rfl ?_
  exact t_X12_behind_L14 C E   N a0 i1 0 x3 9999 hf
/-! FareLimitsModel goes(I)I -/
theorem dX12_goes_0 : decode prog_14_method_84_code 0 = .ok (.aload_n 0, 1) := by decide +kernel
theorem dX12_goes_1 : decode prog_14_method_84_code 1 = .ok (.invokevirtual 300, 3) := by decide +kernel
theorem dX12_goes_4 : decode prog_14_method_84_code 4 = .ok (.istore_n 2, 1) := by decide +kernel
theorem dX12_goes_5 : decode prog_14_method_84_code 5 = .ok (.aload_n 0, 1) := by decide +kernel
theorem dX12_goes_6 : decode prog_14_method_84_code 6 = .ok (.aload_n 0, 1) := by decide +kernel
theorem dX12_goes_7 : decode prog_14_method_84_code 7 = .ok (.getfield 260, 3) := by decide +kernel
theorem dX12_goes_10 : decode prog_14_method_84_code 10 = .ok (.putfield 304, 3) := by decide +kernel
theorem dX12_goes_13 : decode prog_14_method_84_code 13 = .ok (.aload_n 0, 1) := by decide +kernel
theorem dX12_goes_14 : decode prog_14_method_84_code 14 = .ok (.iconst 0, 1) := by decide +kernel
theorem dX12_goes_15 : decode prog_14_method_84_code 15 = .ok (.putfield 260, 3) := by decide +kernel
theorem dX12_goes_18 : decode prog_14_method_84_code 18 = .ok (.iload_n 2, 1) := by decide +kernel
theorem dX12_goes_19 : decode prog_14_method_84_code 19 = .ok (.ifCond .lt 8, 3) := by decide +kernel
theorem dX12_goes_22 : decode prog_14_method_84_code 22 = .ok (.bipush (-100), 2) := by decide +kernel
theorem dX12_goes_24 : decode prog_14_method_84_code 24 = .ok (.iload_n 2, 1) := by decide +kernel
theorem dX12_goes_25 : decode prog_14_method_84_code 25 = .ok (.isub, 1) := by decide +kernel
theorem dX12_goes_26 : decode prog_14_method_84_code 26 = .ok (.ireturn, 1) := by decide +kernel
theorem dX12_goes_27 : decode prog_14_method_84_code 27 = .ok (.aload_n 0, 1) := by decide +kernel
theorem dX12_goes_28 : decode prog_14_method_84_code 28 = .ok (.aload_n 0, 1) := by decide +kernel
theorem dX12_goes_29 : decode prog_14_method_84_code 29 = .ok (.getfield 304, 3) := by decide +kernel
theorem dX12_goes_32 : decode prog_14_method_84_code 32 = .ok (.invokevirtual 140, 3) := by decide +kernel
theorem dX12_goes_35 : decode prog_14_method_84_code 35 = .ok (.aload_n 0, 1) := by decide +kernel
theorem dX12_goes_36 : decode prog_14_method_84_code 36 = .ok (.invokevirtual 215, 3) := by decide +kernel
theorem dX12_goes_39 : decode prog_14_method_84_code 39 = .ok (.aload_n 0, 1) := by decide +kernel
theorem dX12_goes_40 : decode prog_14_method_84_code 40 = .ok (.iconst 0, 1) := by decide +kernel
theorem dX12_goes_41 : decode prog_14_method_84_code 41 = .ok (.putfield 211, 3) := by decide +kernel
theorem dX12_goes_44 : decode prog_14_method_84_code 44 = .ok (.iconst 0, 1) := by decide +kernel
theorem dX12_goes_45 : decode prog_14_method_84_code 45 = .ok (.istore_n 3, 1) := by decide +kernel
theorem dX12_goes_46 : decode prog_14_method_84_code 46 = .ok (.iconst 0, 1) := by decide +kernel
theorem dX12_goes_47 : decode prog_14_method_84_code 47 = .ok (.istore 4, 2) := by decide +kernel
theorem dX12_goes_49 : decode prog_14_method_84_code 49 = .ok (.iload 4, 2) := by decide +kernel
theorem dX12_goes_51 : decode prog_14_method_84_code 51 = .ok (.aload_n 0, 1) := by decide +kernel
theorem dX12_goes_52 : decode prog_14_method_84_code 52 = .ok (.getfield 304, 3) := by decide +kernel
theorem dX12_goes_55 : decode prog_14_method_84_code 55 = .ok (.if_icmp .ge 53, 3) := by decide +kernel
theorem dX12_goes_58 : decode prog_14_method_84_code 58 = .ok (.aload_n 0, 1) := by decide +kernel
theorem dX12_goes_59 : decode prog_14_method_84_code 59 = .ok (.getfield 18, 3) := by decide +kernel
theorem dX12_goes_62 : decode prog_14_method_84_code 62 = .ok (.iload 4, 2) := by decide +kernel
theorem dX12_goes_64 : decode prog_14_method_84_code 64 = .ok (.iaload, 1) := by decide +kernel
theorem dX12_goes_65 : decode prog_14_method_84_code 65 = .ok (.bipush 45, 2) := by decide +kernel
theorem dX12_goes_67 : decode prog_14_method_84_code 67 = .ok (.if_icmp .eq 35, 3) := by decide +kernel
theorem dX12_goes_70 : decode prog_14_method_84_code 70 = .ok (.aload_n 0, 1) := by decide +kernel
theorem dX12_goes_71 : decode prog_14_method_84_code 71 = .ok (.aload_n 0, 1) := by decide +kernel
theorem dX12_goes_72 : decode prog_14_method_84_code 72 = .ok (.getfield 18, 3) := by decide +kernel
theorem dX12_goes_75 : decode prog_14_method_84_code 75 = .ok (.iload 4, 2) := by decide +kernel
theorem dX12_goes_77 : decode prog_14_method_84_code 77 = .ok (.iaload, 1) := by decide +kernel
theorem dX12_goes_78 : decode prog_14_method_84_code 78 = .ok (.bipush 97, 2) := by decide +kernel
theorem dX12_goes_80 : decode prog_14_method_84_code 80 = .ok (.isub, 1) := by decide +kernel
theorem dX12_goes_81 : decode prog_14_method_84_code 81 = .ok (.aload_n 0, 1) := by decide +kernel
theorem dX12_goes_82 : decode prog_14_method_84_code 82 = .ok (.getfield 304, 3) := by decide +kernel
theorem dX12_goes_85 : decode prog_14_method_84_code 85 = .ok (.iload 4, 2) := by decide +kernel
theorem dX12_goes_87 : decode prog_14_method_84_code 87 = .ok (.isub, 1) := by decide +kernel
theorem dX12_goes_88 : decode prog_14_method_84_code 88 = .ok (.iload_n 1, 1) := by decide +kernel
theorem dX12_goes_89 : decode prog_14_method_84_code 89 = .ok (.invokevirtual 221, 3) := by decide +kernel
theorem dX12_goes_92 : decode prog_14_method_84_code 92 = .ok (.ifCond .eq 10, 3) := by decide +kernel
theorem dX12_goes_95 : decode prog_14_method_84_code 95 = .ok (.iload_n 3, 1) := by decide +kernel
theorem dX12_goes_96 : decode prog_14_method_84_code 96 = .ok (.iconst 1, 1) := by decide +kernel
theorem dX12_goes_97 : decode prog_14_method_84_code 97 = .ok (.iload 4, 2) := by decide +kernel
theorem dX12_goes_99 : decode prog_14_method_84_code 99 = .ok (.ishl, 1) := by decide +kernel
theorem dX12_goes_100 : decode prog_14_method_84_code 100 = .ok (.ior, 1) := by decide +kernel
theorem dX12_goes_101 : decode prog_14_method_84_code 101 = .ok (.istore_n 3, 1) := by decide +kernel
theorem dX12_goes_102 : decode prog_14_method_84_code 102 = .ok (.iinc 4 1, 3) := by decide +kernel
theorem dX12_goes_105 : decode prog_14_method_84_code 105 = .ok (.goto (-56), 3) := by decide +kernel
theorem dX12_goes_108 : decode prog_14_method_84_code 108 = .ok (.iload_n 3, 1) := by decide +kernel
theorem dX12_goes_109 : decode prog_14_method_84_code 109 = .ok (.ireturn, 1) := by decide +kernel
def m_X12_goes_J102 (N : Nat) (k49 : Nat → Int32 → Int32 → Int32 → mM → Option (Int32 × mM)) (a0 : Nat) (i1 : Int32) (i3 : Int32) (i4 : Int32) (M : mM) : Option (Int32 × mM) :=
  k49 a0 i1 i3 (i4 + 1) M
set_option maxHeartbeats 4000000 in
set_option maxRecDepth 100000 in
theorem t_X12_goes_J102 {X : mX} {L0 : Launch} {res : Int32 × mM} {N : Nat} (C : CX X RX12 "goes" prog_14_method_84_code 5 (some .int)) (E : EX X L0 5 121 0 0 (some (.int res.1)) res.2) (k49 : Nat → Int32 → Int32 → Int32 → mM → Option (Int32 × mM)) (Hk49 : ∀ (a0 : Nat) (i1 : Int32) (i3 : Int32) (i4 : Int32) (M : mM), k49 a0 i1 i3 i4 M = some res → EV X 5 49 [(0, .ref a0), (1, .int i1), (3, .int i3), (4, .int i4)] [] 0 0 M) (a0 : Nat) (i1 : Int32) (i3 : Int32) (i4 : Int32) (M : mM) (hf : m_X12_goes_J102 N k49 a0 i1 i3 i4 M = some res) : EV X 5 102 [(0, .ref a0), (1, .int i1), (3, .int i3), (4, .int i4)] [] 0 0 M := by
  unfold m_X12_goes_J102 at hf
  refine ev_iinc (v := i4 + 1) (l' := [(4, .int (i4 + 1)), (0, .ref a0), (1, .int i1), (3, .int i3)]) C dX12_goes_102 (q := 3) rfl rfl (by decide) rfl ?_
  refine ev_goto (tgt := 49) C dX12_goes_105 (by decide) ?_
  refine ev_sub [1, 2, 3, 0] rfl ?_
  exact Hk49 a0 i1 i3 (i4 + 1) M hf
def m_X12_goes_L49 (N : Nat)  : Nat → Nat → Int32 → Int32 → Int32 → mM → Option (Int32 × mM)
  | 0, _, _, _, _, _ => none
  | n + 1, a0, i1, i3, i4, M =>
    (fI M a0 12 28).bind fun x1 =>
    if x1 ≤ i4 then (
      some (i3, M)) else (
      (fR M a0 12 4).bind fun x3 =>
      (aI 0 M x3 i4).bind fun x5 =>
      if x5 = 45 then (
        m_X12_goes_J102 N (m_X12_goes_L49 N  n) a0 i1 i3 i4 M) else (
        (fR M a0 12 4).bind fun x7 =>
        (aI 0 M x7 i4).bind fun x9 =>
        (fI M a0 12 28).bind fun x11 =>
        (oO M a0 12).bind fun _ =>
        (m_X12_has N a0 (x9 - 97) (x11 - i4) i1 M).bind fun x15 =>
        if x15.1 = 0 then (
          m_X12_goes_J102 N (m_X12_goes_L49 N  n) a0 i1 i3 i4 x15.2) else (
          m_X12_goes_J102 N (m_X12_goes_L49 N  n) a0 i1 (i3 ||| (1 <<< (i4 &&& 31))) i4 x15.2)))
set_option maxHeartbeats 4000000 in
set_option maxRecDepth 100000 in
theorem t_X12_goes_L49 {X : mX} {L0 : Launch} {res : Int32 × mM} {N : Nat} (C : CX X RX12 "goes" prog_14_method_84_code 5 (some .int)) (E : EX X L0 5 121 0 0 (some (.int res.1)) res.2)   : ∀ (n : Nat) (a0 : Nat) (i1 : Int32) (i3 : Int32) (i4 : Int32) (M : mM), m_X12_goes_L49 N  n a0 i1 i3 i4 M = some res → EV X 5 49 [(0, .ref a0), (1, .int i1), (3, .int i3), (4, .int i4)] [] 0 0 M := by
  intro n
  induction n with
  | zero => intro a0 i1 i3 i4 M hf; cases (show (none : Option (Int32 × mM)) = some res from hf)
  | succ n ih =>
    intro a0 i1 i3 i4 M hf
    rw [m_X12_goes_L49] at hf
    refine ev_iload C dX12_goes_49 (q := 3) rfl ?_
    refine ev_aload_n C dX12_goes_51 rfl (q := 0) rfl ?_
    obtain ⟨x1, e2, hf⟩ := obnd hf
    refine ev_get (k := 28) C ok_12 dX12_goes_52 (by decide) kw_1187 (fI_V e2) ?_
    refine ev_icmp_ge (tgt := 108) C dX12_goes_55 (by decide) (fun hc => ?_) (fun hc => ?_)
    · have hf := oit hf hc
      refine ev_iload_n C dX12_goes_108 rfl (q := 2) rfl ?_
      obtain rfl := Option.some.inj hf
      exact ev_iret C E (Nat.le_refl 0) (Nat.le_refl 0) dX12_goes_109
    · have hf := oie hf hc
      refine ev_aload_n C dX12_goes_58 rfl (q := 0) rfl ?_
      obtain ⟨x3, e4, hf⟩ := obnd hf
      refine ev_get (k := 4) C ok_12 dX12_goes_59 (by decide) kw_1163 (fR_V e4) ?_
      refine ev_iload C dX12_goes_62 (q := 3) rfl ?_
      obtain ⟨x5, e6, hf⟩ := obnd hf
      refine ev_iald C dX12_goes_64 e6 ?_
      refine ev_bipush (v := 45) C dX12_goes_65 (by decide) ?_
      refine ev_icmp_eq (tgt := 102) C dX12_goes_67 (by decide) (fun hc => ?_) (fun hc => ?_)
      · have hf := oit hf hc
        exact t_X12_goes_J102 C E (m_X12_goes_L49 N  n) ih a0 i1 i3 i4 M hf
      · have hf := oie hf hc
        refine ev_aload_n C dX12_goes_70 rfl (q := 0) rfl ?_
        refine ev_aload_n C dX12_goes_71 rfl (q := 0) rfl ?_
        obtain ⟨x7, e8, hf⟩ := obnd hf
        refine ev_get (k := 4) C ok_12 dX12_goes_72 (by decide) kw_1163 (fR_V e8) ?_
        refine ev_iload C dX12_goes_75 (q := 3) rfl ?_
        obtain ⟨x9, e10, hf⟩ := obnd hf
        refine ev_iald C dX12_goes_77 e10 ?_
        refine ev_bipush (v := 97) C dX12_goes_78 (by decide) ?_
        refine ev_isub C dX12_goes_80 ?_
        refine ev_aload_n C dX12_goes_81 rfl (q := 0) rfl ?_
        obtain ⟨x11, e12, hf⟩ := obnd hf
        refine ev_get (k := 28) C ok_12 dX12_goes_82 (by decide) kw_1187 (fI_V e12) ?_
        refine ev_iload C dX12_goes_85 (q := 3) rfl ?_
        refine ev_isub C dX12_goes_87 ?_
        refine ev_iload_n C dX12_goes_88 rfl (q := 1) rfl ?_
        obtain ⟨_, e13, hf⟩ := obnd hf
        obtain ⟨fs14, e13⟩ := oO_eq e13
        obtain ⟨x15, e16, hf⟩ := obnd hf
        refine ev_callV0 (As := [.int (x9 - 97), .int (x11 - i4), .int i1]) (st := []) C rfl e13 (t_X12_has e16) rfl hd_X12_has rfl kw_1479 kw_1481 kw_87 kw_41 kw_1482 (mRoom.of E (Nat.le_of_ble_eq_true rfl) (Nat.le_of_ble_eq_true rfl) (Nat.le_refl 0) (Nat.le_refl 0)) (Nat.le_of_ble_eq_true rfl) dX12_goes_89 ?_
        refine ev_if_eq (tgt := 102) C dX12_goes_92 (by decide) (fun hc => ?_) (fun hc => ?_)
        · have hf := oit hf hc
          exact t_X12_goes_J102 C E (m_X12_goes_L49 N  n) ih a0 i1 i3 i4 x15.2 hf
        · have hf := oie hf hc
          refine ev_iload_n C dX12_goes_95 rfl (q := 2) rfl ?_
          refine ev_iconst (v := 1) C dX12_goes_96 (by decide) ?_
          refine ev_iload C dX12_goes_97 (q := 3) rfl ?_
          refine ev_ishl C dX12_goes_99 ?_
          refine ev_ior C dX12_goes_100 ?_
          refine ev_istore_n (l' := [(3, .int (i3 ||| (1 <<< (i4 &&& 31)))), (0, .ref a0), (1, .int i1), (4, .int i4)]) C dX12_goes_101 rfl (by decide) rfl ?_
          refine ev_sub [1, 2, 0, 3] rfl ?_
          exact t_X12_goes_J102 C E (m_X12_goes_L49 N  n) ih a0 i1 (i3 ||| (1 <<< (i4 &&& 31))) i4 x15.2 hf
def m_X12_goes (N : Nat) (a0 : Nat) (i1 : Int32) (M : mM) : Option (Int32 × mM) :=
  (oO M a0 12).bind fun _ =>
  (m_X12_wrongSign N a0 M).bind fun x3 =>
  (fI M a0 12 3).bind fun x5 =>
  (sV M a0 12 28 (.int x5)).bind fun M7 =>
  (sV M7 a0 12 3 (.int 0)).bind fun M9 =>
  if x3 < 0 then (
    (fI M9 a0 12 28).bind fun x11 =>
    (oO M9 a0 12).bind fun _ =>
    (m_X12_reckons N a0 x11 M9).bind fun x15 =>
    (oO x15 a0 12).bind fun _ =>
    (m_X12_opens N a0 x15).bind fun x19 =>
    (sV x19 a0 12 21 (.int 0)).bind fun M21 =>
    m_X12_goes_L49 N  N a0 i1 0 0 M21) else (
    some ((-100) - x3, M9))
set_option maxHeartbeats 4000000 in
set_option maxRecDepth 100000 in
theorem t_X12_goes {L0 : Launch} {M : mM} {N : Nat} {a0 : Nat} {i1 : Int32} {res : Int32 × mM} (hf : m_X12_goes N a0 i1 M = some res) : CT L0 yX12_goes prog_14_method_84_code 5 (some .int) 5 121 0 0 [.ref a0, .int i1] M (some (.int res.1)) res.2 := by
  refine CT.of (by decide +kernel) (Nat.le_of_ble_eq_true rfl) fun X C E => ?_
  have C : CX X RX12 "goes" prog_14_method_84_code 5 (some .int) := C
  show EV X 5 0 [(0, .ref a0), (1, .int i1)] [] 0 0 M
  unfold m_X12_goes at hf
  refine ev_aload_n C dX12_goes_0 rfl (q := 0) rfl ?_
  obtain ⟨_, e1, hf⟩ := obnd hf
  obtain ⟨fs2, e1⟩ := oO_eq e1
  obtain ⟨x3, e4, hf⟩ := obnd hf
  refine ev_callV0 (As := []) (st := []) C rfl e1 (t_X12_wrongSign e4) rfl hd_X12_wrongSign rfl kw_1608 kw_1610 kw_87 kw_62 kw_1611 (mRoom.of E (Nat.le_of_ble_eq_true rfl) (Nat.le_of_ble_eq_true rfl) (Nat.le_refl 0) (Nat.le_refl 0)) (Nat.le_of_ble_eq_true rfl) dX12_goes_1 ?_
  refine ev_istore_n (l' := [(2, .int x3), (0, .ref a0), (1, .int i1)]) C dX12_goes_4 rfl (by decide) rfl ?_
  refine ev_aload_n C dX12_goes_5 rfl (q := 1) rfl ?_
  refine ev_aload_n C dX12_goes_6 rfl (q := 1) rfl ?_
  obtain ⟨x5, e6, hf⟩ := obnd hf
  refine ev_get (k := 3) C ok_12 dX12_goes_7 (by decide) kw_1162 (fI_V e6) ?_
  obtain ⟨M7, e8, hf⟩ := obnd hf
  refine ev_put (k := 28) C ok_12 dX12_goes_10 (by decide) kw_1187 rfl ⟨rfl, rfl⟩ e8 ?_
  refine ev_aload_n C dX12_goes_13 rfl (q := 1) rfl ?_
  refine ev_iconst (v := 0) C dX12_goes_14 (by decide) ?_
  obtain ⟨M9, e10, hf⟩ := obnd hf
  refine ev_put (k := 3) C ok_12 dX12_goes_15 (by decide) kw_1162 rfl ⟨rfl, rfl⟩ e10 ?_
  refine ev_iload_n C dX12_goes_18 rfl (q := 0) rfl ?_
  refine ev_if_lt (tgt := 27) C dX12_goes_19 (by decide) (fun hc => ?_) (fun hc => ?_)
  · have hf := oit hf hc
    refine ev_aload_n C dX12_goes_27 rfl (q := 1) rfl ?_
    refine ev_aload_n C dX12_goes_28 rfl (q := 1) rfl ?_
    obtain ⟨x11, e12, hf⟩ := obnd hf
    refine ev_get (k := 28) C ok_12 dX12_goes_29 (by decide) kw_1187 (fI_V e12) ?_
    obtain ⟨_, e13, hf⟩ := obnd hf
    obtain ⟨fs14, e13⟩ := oO_eq e13
    obtain ⟨x15, e16, hf⟩ := obnd hf
    refine ev_callV0 (As := [.int x11]) (st := []) C rfl e13 (t_X12_reckons e16) rfl hd_X12_reckons rfl kw_1334 kw_1336 kw_87 kw_25 kw_1337 (mRoom.of E (Nat.le_of_ble_eq_true rfl) (Nat.le_of_ble_eq_true rfl) (Nat.le_refl 0) (Nat.le_refl 0)) (Nat.le_of_ble_eq_true rfl) dX12_goes_32 ?_
    refine ev_aload_n C dX12_goes_35 rfl (q := 1) rfl ?_
    obtain ⟨_, e17, hf⟩ := obnd hf
    obtain ⟨fs18, e17⟩ := oO_eq e17
    obtain ⟨x19, e20, hf⟩ := obnd hf
    refine ev_callV0 (As := []) (st := []) C rfl e17 (t_X12_opens e20) rfl hd_X12_opens rfl kw_1470 kw_1472 kw_87 kw_39 kw_1473 (mRoom.of E (Nat.le_of_ble_eq_true rfl) (Nat.le_of_ble_eq_true rfl) (Nat.le_refl 0) (Nat.le_refl 0)) (Nat.le_of_ble_eq_true rfl) dX12_goes_36 ?_
    refine ev_aload_n C dX12_goes_39 rfl (q := 1) rfl ?_
    refine ev_iconst (v := 0) C dX12_goes_40 (by decide) ?_
    obtain ⟨M21, e22, hf⟩ := obnd hf
    refine ev_put (k := 21) C ok_12 dX12_goes_41 (by decide) kw_1180 rfl ⟨rfl, rfl⟩ e22 ?_
    refine ev_iconst (v := 0) C dX12_goes_44 (by decide) ?_
    refine ev_istore_n (l' := [(3, .int 0), (2, .int x3), (0, .ref a0), (1, .int i1)]) C dX12_goes_45 rfl (by decide) rfl ?_
    refine ev_iconst (v := 0) C dX12_goes_46 (by decide) ?_
    refine ev_istore (l' := [(4, .int 0), (3, .int 0), (2, .int x3), (0, .ref a0), (1, .int i1)]) C dX12_goes_47 (by decide) rfl ?_
    refine ev_sub [3, 4, 1, 0] rfl ?_
    exact t_X12_goes_L49 C E   N a0 i1 0 0 M21 hf
  · have hf := oie hf hc
    refine ev_bipush (v := (-100)) C dX12_goes_22 (by decide) ?_
    refine ev_iload_n C dX12_goes_24 rfl (q := 0) rfl ?_
    refine ev_isub C dX12_goes_25 ?_
    obtain rfl := Option.some.inj hf
    exact ev_iret C E (Nat.le_refl 0) (Nat.le_refl 0) dX12_goes_26
