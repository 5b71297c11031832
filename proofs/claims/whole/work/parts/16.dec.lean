/-! FareLimitsModel in(JJJ)Z -/
theorem dX12_in_0 : decode prog_14_method_2_code 0 = .ok (.lload_n 0, 1) := by decide +kernel
theorem dX12_in_1 : decode prog_14_method_2_code 1 = .ok (.lload_n 2, 1) := by decide +kernel
theorem dX12_in_2 : decode prog_14_method_2_code 2 = .ok (.lcmp, 1) := by decide +kernel
theorem dX12_in_3 : decode prog_14_method_2_code 3 = .ok (.ifCond .lt 14, 3) := by decide +kernel
theorem dX12_in_6 : decode prog_14_method_2_code 6 = .ok (.lload_n 0, 1) := by decide +kernel
theorem dX12_in_7 : decode prog_14_method_2_code 7 = .ok (.lload 4, 2) := by decide +kernel
theorem dX12_in_9 : decode prog_14_method_2_code 9 = .ok (.lcmp, 1) := by decide +kernel
theorem dX12_in_10 : decode prog_14_method_2_code 10 = .ok (.ifCond .gt 7, 3) := by decide +kernel
theorem dX12_in_13 : decode prog_14_method_2_code 13 = .ok (.iconst 1, 1) := by decide +kernel
theorem dX12_in_14 : decode prog_14_method_2_code 14 = .ok (.goto 4, 3) := by decide +kernel
theorem dX12_in_17 : decode prog_14_method_2_code 17 = .ok (.iconst 0, 1) := by decide +kernel
theorem dX12_in_18 : decode prog_14_method_2_code 18 = .ok (.ireturn, 1) := by decide +kernel
def m_X12_in (j0 : Int64) (j2 : Int64) (j4 : Int64) : Option (Int32) :=
  if (lg_cmp j0 j2) < 0 then (
    some 0) else (
    if 0 < (lg_cmp j0 j4) then (
      some 0) else (
      some 1))
set_option maxHeartbeats 4000000 in
set_option maxRecDepth 100000 in
theorem t_X12_in {L0 : Launch} {M : mM} {j0 : Int64} {j2 : Int64} {j4 : Int64} {res : Int32} (hf : m_X12_in j0 j2 j4 = some res) : CT L0 yX12_in prog_14_method_2_code 6 (some .boolean) 0 0 0 0 [.long j0, .long j2, .long j4] M (some (.int res)) M := by
  refine CT.of (by decide +kernel) (Nat.le_of_ble_eq_true rfl) fun X C E => ?_
  have C : CX X RX12 "in" prog_14_method_2_code 6 (some .boolean) := C
  show EV X 6 0 [(0, .long j0), (2, .long j2), (4, .long j4)] [] 0 0 M
  unfold m_X12_in at hf
  refine ev_lload_n C dX12_in_0 rfl (q := 0) rfl ?_
  refine ev_lload_n C dX12_in_1 rfl (q := 1) rfl ?_
  refine ev_lcmp C dX12_in_2 ?_
  refine ev_if_lt (tgt := 17) C dX12_in_3 (by decide) (fun hc => ?_) (fun hc => ?_)
  · have hf := oit hf hc
    refine ev_iconst (v := 0) C dX12_in_17 (by decide) ?_
    obtain rfl := Option.some.inj hf
    exact ev_zret C (by decide) E (Nat.le_refl 0) (Nat.le_refl 0) dX12_in_18
  · have hf := oie hf hc
    refine ev_lload_n C dX12_in_6 rfl (q := 0) rfl ?_
    refine ev_lload C dX12_in_7 (q := 2) rfl ?_
    refine ev_lcmp C dX12_in_9 ?_
    refine ev_if_gt (tgt := 17) C dX12_in_10 (by decide) (fun hc => ?_) (fun hc => ?_)
    · have hf := oit hf hc
      refine ev_iconst (v := 0) C dX12_in_17 (by decide) ?_
      obtain rfl := Option.some.inj hf
      exact ev_zret C (by decide) E (Nat.le_refl 0) (Nat.le_refl 0) dX12_in_18
    · have hf := oie hf hc
      refine ev_iconst (v := 1) C dX12_in_13 (by decide) ?_
      refine ev_goto (tgt := 18) C dX12_in_14 (by decide) ?_
      obtain rfl := Option.some.inj hf
      exact ev_zret C (by decide) E (Nat.le_refl 0) (Nat.le_refl 0) dX12_in_18
/-! FareLimitsModel isFare(I)Z -/
theorem dX12_isFare_0 : decode prog_14_method_3_code 0 = .ok (.iload_n 1, 1) := by decide +kernel
theorem dX12_isFare_1 : decode prog_14_method_3_code 1 = .ok (.i2l, 1) := by decide +kernel
theorem dX12_isFare_2 : decode prog_14_method_3_code 2 = .ok (.lconst 0, 1) := by decide +kernel
theorem dX12_isFare_3 : decode prog_14_method_3_code 3 = .ok (.aload_n 0, 1) := by decide +kernel
theorem dX12_isFare_4 : decode prog_14_method_3_code 4 = .ok (.getfield 9, 3) := by decide +kernel
theorem dX12_isFare_7 : decode prog_14_method_3_code 7 = .ok (.iconst 0, 1) := by decide +kernel
theorem dX12_isFare_8 : decode prog_14_method_3_code 8 = .ok (.iaload, 1) := by decide +kernel
theorem dX12_isFare_9 : decode prog_14_method_3_code 9 = .ok (.iconst 1, 1) := by decide +kernel
theorem dX12_isFare_10 : decode prog_14_method_3_code 10 = .ok (.isub, 1) := by decide +kernel
theorem dX12_isFare_11 : decode prog_14_method_3_code 11 = .ok (.i2l, 1) := by decide +kernel
theorem dX12_isFare_12 : decode prog_14_method_3_code 12 = .ok (.invokestatic 72, 3) := by decide +kernel
theorem dX12_isFare_15 : decode prog_14_method_3_code 15 = .ok (.ireturn, 1) := by decide +kernel
def m_X12_isFare (a0 : Nat) (i1 : Int32) (M : mM) : Option (Int32) :=
  (fR M a0 12 0).bind fun x1 =>
  (aI 0 M x1 0).bind fun x3 =>
  (m_X12_in i1.toInt64 0 ((x3 - 1).toInt64)).bind fun x5 =>
  (oif (x5 = 0 ∨ x5 = 1)).bind fun _ =>
  some x5
set_option maxHeartbeats 4000000 in
set_option maxRecDepth 100000 in
theorem t_X12_isFare {L0 : Launch} {M : mM} {a0 : Nat} {i1 : Int32} {res : Int32} (hf : m_X12_isFare a0 i1 M = some res) : CT L0 yX12_isFare prog_14_method_3_code 2 (some .boolean) 1 25 0 0 [.ref a0, .int i1] M (some (.int res)) M := by
  refine CT.of (by decide +kernel) (Nat.le_of_ble_eq_true rfl) fun X C E => ?_
  have C : CX X RX12 "isFare" prog_14_method_3_code 2 (some .boolean) := C
  show EV X 2 0 [(0, .ref a0), (1, .int i1)] [] 0 0 M
  unfold m_X12_isFare at hf
  refine ev_iload_n C dX12_isFare_0 rfl (q := 1) rfl ?_
  refine ev_i2l C dX12_isFare_1 ?_
  refine ev_lconst (v := 0) C dX12_isFare_2 (by decide) ?_
  refine ev_aload_n C dX12_isFare_3 rfl (q := 0) rfl ?_
  obtain ⟨x1, e2, hf⟩ := obnd hf
  refine ev_get (k := 0) C ok_12 dX12_isFare_4 (by decide) kw_1159 (fR_V e2) ?_
  refine ev_iconst (v := 0) C dX12_isFare_7 (by decide) ?_
  obtain ⟨x3, e4, hf⟩ := obnd hf
  refine ev_iald C dX12_isFare_8 e4 ?_
  refine ev_iconst (v := 1) C dX12_isFare_9 (by decide) ?_
  refine ev_isub C dX12_isFare_10 ?_
  refine ev_i2l C dX12_isFare_11 ?_
  obtain ⟨x5, e6, hf⟩ := obnd hf
  refine ev_callS0 (As := [.long i1.toInt64, .long 0, .long ((x3 - 1).toInt64)]) (st := []) C (t_X12_in e6) hd_X12_in rfl kw_1253 kw_1254 kw_87 kw_1255 (mRoom.of E (Nat.le_of_ble_eq_true rfl) (Nat.le_of_ble_eq_true rfl) (Nat.le_refl 0) (Nat.le_refl 0)) (Nat.le_of_ble_eq_true rfl) dX12_isFare_12 ?_
  obtain ⟨_, e7, hf⟩ := obnd hf
  obtain rfl := Option.some.inj hf
  exact ev_zret C (oif_eq e7) E (Nat.le_refl 0) (Nat.le_refl 0) dX12_isFare_15
/-! FareLimitsModel isStage(I)Z -/
theorem dX12_isStage_0 : decode prog_14_method_4_code 0 = .ok (.iload_n 0, 1) := by decide +kernel
theorem dX12_isStage_1 : decode prog_14_method_4_code 1 = .ok (.i2l, 1) := by decide +kernel
theorem dX12_isStage_2 : decode prog_14_method_4_code 2 = .ok (.lconst 0, 1) := by decide +kernel
theorem dX12_isStage_3 : decode prog_14_method_4_code 3 = .ok (.ldc2_w 76, 3) := by decide +kernel
theorem dX12_isStage_6 : decode prog_14_method_4_code 6 = .ok (.invokestatic 72, 3) := by decide +kernel
theorem dX12_isStage_9 : decode prog_14_method_4_code 9 = .ok (.ireturn, 1) := by decide +kernel
def m_X12_isStage (i0 : Int32) : Option (Int32) :=
  (m_X12_in i0.toInt64 0 20).bind fun x1 =>
  (oif (x1 = 0 ∨ x1 = 1)).bind fun _ =>
  some x1
set_option maxHeartbeats 4000000 in
set_option maxRecDepth 100000 in
theorem t_X12_isStage {L0 : Launch} {M : mM} {i0 : Int32} {res : Int32} (hf : m_X12_isStage i0 = some res) : CT L0 yX12_isStage prog_14_method_4_code 1 (some .boolean) 1 25 0 0 [.int i0] M (some (.int res)) M := by
  refine CT.of (by decide +kernel) (Nat.le_of_ble_eq_true rfl) fun X C E => ?_
  have C : CX X RX12 "isStage" prog_14_method_4_code 1 (some .boolean) := C
  show EV X 1 0 [(0, .int i0)] [] 0 0 M
  unfold m_X12_isStage at hf
  refine ev_iload_n C dX12_isStage_0 rfl (q := 0) rfl ?_
  refine ev_i2l C dX12_isStage_1 ?_
  refine ev_lconst (v := 0) C dX12_isStage_2 (by decide) ?_
  refine ev_ldc2 (v := 20) C dX12_isStage_3 kw_1292 ?_
  obtain ⟨x1, e2, hf⟩ := obnd hf
  refine ev_callS0 (As := [.long i0.toInt64, .long 0, .long 20]) (st := []) C (t_X12_in e2) hd_X12_in rfl kw_1253 kw_1254 kw_87 kw_1255 (mRoom.of E (Nat.le_of_ble_eq_true rfl) (Nat.le_of_ble_eq_true rfl) (Nat.le_refl 0) (Nat.le_refl 0)) (Nat.le_of_ble_eq_true rfl) dX12_isStage_6 ?_
  obtain ⟨_, e3, hf⟩ := obnd hf
  obtain rfl := Option.some.inj hf
  exact ev_zret C (oif_eq e3) E (Nat.le_refl 0) (Nat.le_refl 0) dX12_isStage_9
/-! FareLimitsModel isSeat(I)Z -/
theorem dX12_isSeat_0 : decode prog_14_method_5_code 0 = .ok (.iload_n 1, 1) := by decide +kernel
theorem dX12_isSeat_1 : decode prog_14_method_5_code 1 = .ok (.i2l, 1) := by decide +kernel
theorem dX12_isSeat_2 : decode prog_14_method_5_code 2 = .ok (.lconst 0, 1) := by decide +kernel
theorem dX12_isSeat_3 : decode prog_14_method_5_code 3 = .ok (.aload_n 0, 1) := by decide +kernel
theorem dX12_isSeat_4 : decode prog_14_method_5_code 4 = .ok (.getfield 9, 3) := by decide +kernel
theorem dX12_isSeat_7 : decode prog_14_method_5_code 7 = .ok (.iconst 1, 1) := by decide +kernel
theorem dX12_isSeat_8 : decode prog_14_method_5_code 8 = .ok (.iaload, 1) := by decide +kernel
theorem dX12_isSeat_9 : decode prog_14_method_5_code 9 = .ok (.i2l, 1) := by decide +kernel
theorem dX12_isSeat_10 : decode prog_14_method_5_code 10 = .ok (.invokestatic 72, 3) := by decide +kernel
theorem dX12_isSeat_13 : decode prog_14_method_5_code 13 = .ok (.ireturn, 1) := by decide +kernel
def m_X12_isSeat (a0 : Nat) (i1 : Int32) (M : mM) : Option (Int32) :=
  (fR M a0 12 0).bind fun x1 =>
  (aI 0 M x1 1).bind fun x3 =>
  (m_X12_in i1.toInt64 0 x3.toInt64).bind fun x5 =>
  (oif (x5 = 0 ∨ x5 = 1)).bind fun _ =>
  some x5
set_option maxHeartbeats 4000000 in
set_option maxRecDepth 100000 in
theorem t_X12_isSeat {L0 : Launch} {M : mM} {a0 : Nat} {i1 : Int32} {res : Int32} (hf : m_X12_isSeat a0 i1 M = some res) : CT L0 yX12_isSeat prog_14_method_5_code 2 (some .boolean) 1 25 0 0 [.ref a0, .int i1] M (some (.int res)) M := by
  refine CT.of (by decide +kernel) (Nat.le_of_ble_eq_true rfl) fun X C E => ?_
  have C : CX X RX12 "isSeat" prog_14_method_5_code 2 (some .boolean) := C
  show EV X 2 0 [(0, .ref a0), (1, .int i1)] [] 0 0 M
  unfold m_X12_isSeat at hf
  refine ev_iload_n C dX12_isSeat_0 rfl (q := 1) rfl ?_
  refine ev_i2l C dX12_isSeat_1 ?_
  refine ev_lconst (v := 0) C dX12_isSeat_2 (by decide) ?_
  refine ev_aload_n C dX12_isSeat_3 rfl (q := 0) rfl ?_
  obtain ⟨x1, e2, hf⟩ := obnd hf
  refine ev_get (k := 0) C ok_12 dX12_isSeat_4 (by decide) kw_1159 (fR_V e2) ?_
  refine ev_iconst (v := 1) C dX12_isSeat_7 (by decide) ?_
  obtain ⟨x3, e4, hf⟩ := obnd hf
  refine ev_iald C dX12_isSeat_8 e4 ?_
  refine ev_i2l C dX12_isSeat_9 ?_
  obtain ⟨x5, e6, hf⟩ := obnd hf
  refine ev_callS0 (As := [.long i1.toInt64, .long 0, .long x3.toInt64]) (st := []) C (t_X12_in e6) hd_X12_in rfl kw_1253 kw_1254 kw_87 kw_1255 (mRoom.of E (Nat.le_of_ble_eq_true rfl) (Nat.le_of_ble_eq_true rfl) (Nat.le_refl 0) (Nat.le_refl 0)) (Nat.le_of_ble_eq_true rfl) dX12_isSeat_10 ?_
  obtain ⟨_, e7, hf⟩ := obnd hf
  obtain rfl := Option.some.inj hf
  exact ev_zret C (oif_eq e7) E (Nat.le_refl 0) (Nat.le_refl 0) dX12_isSeat_13
/-! FareLimitsModel price(I)I -/
theorem dX12_price_0 : decode prog_14_method_6_code 0 = .ok (.aload_n 0, 1) := by decide +kernel
theorem dX12_price_1 : decode prog_14_method_6_code 1 = .ok (.getfield 9, 3) := by decide +kernel
theorem dX12_price_4 : decode prog_14_method_6_code 4 = .ok (.bipush 12, 2) := by decide +kernel
theorem dX12_price_6 : decode prog_14_method_6_code 6 = .ok (.iload_n 1, 1) := by decide +kernel
theorem dX12_price_7 : decode prog_14_method_6_code 7 = .ok (.iadd, 1) := by decide +kernel
theorem dX12_price_8 : decode prog_14_method_6_code 8 = .ok (.iaload, 1) := by decide +kernel
theorem dX12_price_9 : decode prog_14_method_6_code 9 = .ok (.ireturn, 1) := by decide +kernel
def m_X12_price (a0 : Nat) (i1 : Int32) (M : mM) : Option (Int32) :=
  (fR M a0 12 0).bind fun x1 =>
  (aI 0 M x1 (12 + i1)).bind fun x3 =>
  some x3
set_option maxHeartbeats 4000000 in
set_option maxRecDepth 100000 in
theorem t_X12_price {L0 : Launch} {M : mM} {a0 : Nat} {i1 : Int32} {res : Int32} (hf : m_X12_price a0 i1 M = some res) : CT L0 yX12_price prog_14_method_6_code 2 (some .int) 0 0 0 0 [.ref a0, .int i1] M (some (.int res)) M := by
  refine CT.of (by decide +kernel) (Nat.le_of_ble_eq_true rfl) fun X C E => ?_
  have C : CX X RX12 "price" prog_14_method_6_code 2 (some .int) := C
  show EV X 2 0 [(0, .ref a0), (1, .int i1)] [] 0 0 M
  unfold m_X12_price at hf
  refine ev_aload_n C dX12_price_0 rfl (q := 0) rfl ?_
  obtain ⟨x1, e2, hf⟩ := obnd hf
  refine ev_get (k := 0) C ok_12 dX12_price_1 (by decide) kw_1159 (fR_V e2) ?_
  refine ev_bipush (v := 12) C dX12_price_4 (by decide) ?_
  refine ev_iload_n C dX12_price_6 rfl (q := 1) rfl ?_
  refine ev_iadd C dX12_price_7 ?_
  obtain ⟨x3, e4, hf⟩ := obnd hf
  refine ev_iald C dX12_price_8 e4 ?_
  obtain rfl := Option.some.inj hf
  exact ev_iret C E (Nat.le_refl 0) (Nat.le_refl 0) dX12_price_9
/-! FareLimitsModel odds(II)I -/
theorem dX12_odds_0 : decode prog_14_method_7_code 0 = .ok (.aload_n 0, 1) := by decide +kernel
theorem dX12_odds_1 : decode prog_14_method_7_code 1 = .ok (.getfield 9, 3) := by decide +kernel
theorem dX12_odds_4 : decode prog_14_method_7_code 4 = .ok (.bipush 18, 2) := by decide +kernel
theorem dX12_odds_6 : decode prog_14_method_7_code 6 = .ok (.iconst 4, 1) := by decide +kernel
theorem dX12_odds_7 : decode prog_14_method_7_code 7 = .ok (.iload_n 1, 1) := by decide +kernel
theorem dX12_odds_8 : decode prog_14_method_7_code 8 = .ok (.imul, 1) := by decide +kernel
theorem dX12_odds_9 : decode prog_14_method_7_code 9 = .ok (.iadd, 1) := by decide +kernel
theorem dX12_odds_10 : decode prog_14_method_7_code 10 = .ok (.iload_n 2, 1) := by decide +kernel
theorem dX12_odds_11 : decode prog_14_method_7_code 11 = .ok (.iconst 1, 1) := by decide +kernel
theorem dX12_odds_12 : decode prog_14_method_7_code 12 = .ok (.isub, 1) := by decide +kernel
theorem dX12_odds_13 : decode prog_14_method_7_code 13 = .ok (.iconst 5, 1) := by decide +kernel
theorem dX12_odds_14 : decode prog_14_method_7_code 14 = .ok (.idiv, 1) := by decide +kernel
theorem dX12_odds_15 : decode prog_14_method_7_code 15 = .ok (.iadd, 1) := by decide +kernel
theorem dX12_odds_16 : decode prog_14_method_7_code 16 = .ok (.iaload, 1) := by decide +kernel
theorem dX12_odds_17 : decode prog_14_method_7_code 17 = .ok (.ireturn, 1) := by decide +kernel
def m_X12_odds (a0 : Nat) (i1 : Int32) (i2 : Int32) (M : mM) : Option (Int32) :=
  (fR M a0 12 0).bind fun x1 =>
  (aI 0 M x1 ((18 + (4 * i1)) + ((i2 - 1) / 5))).bind fun x3 =>
  some x3
set_option maxHeartbeats 4000000 in
set_option maxRecDepth 100000 in
theorem t_X12_odds {L0 : Launch} {M : mM} {a0 : Nat} {i1 : Int32} {i2 : Int32} {res : Int32} (hf : m_X12_odds a0 i1 i2 M = some res) : CT L0 yX12_odds prog_14_method_7_code 3 (some .int) 0 0 0 0 [.ref a0, .int i1, .int i2] M (some (.int res)) M := by
  refine CT.of (by decide +kernel) (Nat.le_of_ble_eq_true rfl) fun X C E => ?_
  have C : CX X RX12 "odds" prog_14_method_7_code 3 (some .int) := C
  show EV X 3 0 [(0, .ref a0), (1, .int i1), (2, .int i2)] [] 0 0 M
  unfold m_X12_odds at hf
  refine ev_aload_n C dX12_odds_0 rfl (q := 0) rfl ?_
  obtain ⟨x1, e2, hf⟩ := obnd hf
  refine ev_get (k := 0) C ok_12 dX12_odds_1 (by decide) kw_1159 (fR_V e2) ?_
  refine ev_bipush (v := 18) C dX12_odds_4 (by decide) ?_
  refine ev_iconst (v := 4) C dX12_odds_6 (by decide) ?_
  refine ev_iload_n C dX12_odds_7 rfl (q := 1) rfl ?_
  refine ev_imul C dX12_odds_8 ?_
  refine ev_iadd C dX12_odds_9 ?_
  refine ev_iload_n C dX12_odds_10 rfl (q := 2) rfl ?_
  refine ev_iconst (v := 1) C dX12_odds_11 (by decide) ?_
  refine ev_isub C dX12_odds_12 ?_
  refine ev_iconst (v := 5) C dX12_odds_13 (by decide) ?_
  refine ev_idiv C dX12_odds_14 (by decide) ?_
  refine ev_iadd C dX12_odds_15 ?_
  obtain ⟨x3, e4, hf⟩ := obnd hf
  refine ev_iald C dX12_odds_16 e4 ?_
  obtain rfl := Option.some.inj hf
  exact ev_iret C E (Nat.le_refl 0) (Nat.le_refl 0) dX12_odds_17
/-! FareLimitsModel fare(II)I -/
theorem dX12_fare_0 : decode prog_14_method_8_code 0 = .ok (.iload_n 1, 1) := by decide +kernel
theorem dX12_fare_1 : decode prog_14_method_8_code 1 = .ok (.i2l, 1) := by decide +kernel
theorem dX12_fare_2 : decode prog_14_method_8_code 2 = .ok (.lconst 0, 1) := by decide +kernel
theorem dX12_fare_3 : decode prog_14_method_8_code 3 = .ok (.ldc2_w 78, 3) := by decide +kernel
theorem dX12_fare_6 : decode prog_14_method_8_code 6 = .ok (.invokestatic 72, 3) := by decide +kernel
theorem dX12_fare_9 : decode prog_14_method_8_code 9 = .ok (.ifCond .ne 5, 3) := by decide +kernel
theorem dX12_fare_12 : decode prog_14_method_8_code 12 = .ok (.iconst (-1), 1) := by decide +kernel
theorem dX12_fare_13 : decode prog_14_method_8_code 13 = .ok (.ireturn, 1) := by decide +kernel
theorem dX12_fare_14 : decode prog_14_method_8_code 14 = .ok (.iload_n 2, 1) := by decide +kernel
theorem dX12_fare_15 : decode prog_14_method_8_code 15 = .ok (.i2l, 1) := by decide +kernel
theorem dX12_fare_16 : decode prog_14_method_8_code 16 = .ok (.lconst 1, 1) := by decide +kernel
theorem dX12_fare_17 : decode prog_14_method_8_code 17 = .ok (.ldc2_w 80, 3) := by decide +kernel
theorem dX12_fare_20 : decode prog_14_method_8_code 20 = .ok (.invokestatic 72, 3) := by decide +kernel
theorem dX12_fare_23 : decode prog_14_method_8_code 23 = .ok (.ifCond .ne 6, 3) := by decide +kernel
theorem dX12_fare_26 : decode prog_14_method_8_code 26 = .ok (.bipush (-2), 2) := by decide +kernel
theorem dX12_fare_28 : decode prog_14_method_8_code 28 = .ok (.ireturn, 1) := by decide +kernel
theorem dX12_fare_29 : decode prog_14_method_8_code 29 = .ok (.aload_n 0, 1) := by decide +kernel
theorem dX12_fare_30 : decode prog_14_method_8_code 30 = .ok (.getfield 9, 3) := by decide +kernel
theorem dX12_fare_33 : decode prog_14_method_8_code 33 = .ok (.iconst 0, 1) := by decide +kernel
theorem dX12_fare_34 : decode prog_14_method_8_code 34 = .ok (.iaload, 1) := by decide +kernel
theorem dX12_fare_35 : decode prog_14_method_8_code 35 = .ok (.bipush 6, 2) := by decide +kernel
theorem dX12_fare_37 : decode prog_14_method_8_code 37 = .ok (.if_icmp .ne 6, 3) := by decide +kernel
theorem dX12_fare_40 : decode prog_14_method_8_code 40 = .ok (.bipush (-4), 2) := by decide +kernel
theorem dX12_fare_42 : decode prog_14_method_8_code 42 = .ok (.ireturn, 1) := by decide +kernel
theorem dX12_fare_43 : decode prog_14_method_8_code 43 = .ok (.aload_n 0, 1) := by decide +kernel
theorem dX12_fare_44 : decode prog_14_method_8_code 44 = .ok (.getfield 9, 3) := by decide +kernel
theorem dX12_fare_47 : decode prog_14_method_8_code 47 = .ok (.iconst 0, 1) := by decide +kernel
theorem dX12_fare_48 : decode prog_14_method_8_code 48 = .ok (.dup2, 1) := by decide +kernel
theorem dX12_fare_49 : decode prog_14_method_8_code 49 = .ok (.iaload, 1) := by decide +kernel
theorem dX12_fare_50 : decode prog_14_method_8_code 50 = .ok (.dup_x2, 1) := by decide +kernel
theorem dX12_fare_51 : decode prog_14_method_8_code 51 = .ok (.iconst 1, 1) := by decide +kernel
theorem dX12_fare_52 : decode prog_14_method_8_code 52 = .ok (.iadd, 1) := by decide +kernel
theorem dX12_fare_53 : decode prog_14_method_8_code 53 = .ok (.iastore, 1) := by decide +kernel
theorem dX12_fare_54 : decode prog_14_method_8_code 54 = .ok (.istore_n 3, 1) := by decide +kernel
theorem dX12_fare_55 : decode prog_14_method_8_code 55 = .ok (.aload_n 0, 1) := by decide +kernel
theorem dX12_fare_56 : decode prog_14_method_8_code 56 = .ok (.getfield 9, 3) := by decide +kernel
theorem dX12_fare_59 : decode prog_14_method_8_code 59 = .ok (.bipush 6, 2) := by decide +kernel
theorem dX12_fare_61 : decode prog_14_method_8_code 61 = .ok (.iload_n 3, 1) := by decide +kernel
theorem dX12_fare_62 : decode prog_14_method_8_code 62 = .ok (.iadd, 1) := by decide +kernel
theorem dX12_fare_63 : decode prog_14_method_8_code 63 = .ok (.iload_n 1, 1) := by decide +kernel
theorem dX12_fare_64 : decode prog_14_method_8_code 64 = .ok (.iastore, 1) := by decide +kernel
theorem dX12_fare_65 : decode prog_14_method_8_code 65 = .ok (.aload_n 0, 1) := by decide +kernel
theorem dX12_fare_66 : decode prog_14_method_8_code 66 = .ok (.getfield 9, 3) := by decide +kernel
theorem dX12_fare_69 : decode prog_14_method_8_code 69 = .ok (.bipush 12, 2) := by decide +kernel
theorem dX12_fare_71 : decode prog_14_method_8_code 71 = .ok (.iload_n 3, 1) := by decide +kernel
theorem dX12_fare_72 : decode prog_14_method_8_code 72 = .ok (.iadd, 1) := by decide +kernel
theorem dX12_fare_73 : decode prog_14_method_8_code 73 = .ok (.iload_n 2, 1) := by decide +kernel
theorem dX12_fare_74 : decode prog_14_method_8_code 74 = .ok (.iastore, 1) := by decide +kernel
theorem dX12_fare_75 : decode prog_14_method_8_code 75 = .ok (.iconst 0, 1) := by decide +kernel
theorem dX12_fare_76 : decode prog_14_method_8_code 76 = .ok (.istore 4, 2) := by decide +kernel
theorem dX12_fare_78 : decode prog_14_method_8_code 78 = .ok (.iload 4, 2) := by decide +kernel
theorem dX12_fare_80 : decode prog_14_method_8_code 80 = .ok (.iconst 4, 1) := by decide +kernel
theorem dX12_fare_81 : decode prog_14_method_8_code 81 = .ok (.if_icmp .ge 24, 3) := by decide +kernel
theorem dX12_fare_84 : decode prog_14_method_8_code 84 = .ok (.aload_n 0, 1) := by decide +kernel
theorem dX12_fare_85 : decode prog_14_method_8_code 85 = .ok (.getfield 9, 3) := by decide +kernel
theorem dX12_fare_88 : decode prog_14_method_8_code 88 = .ok (.bipush 18, 2) := by decide +kernel
theorem dX12_fare_90 : decode prog_14_method_8_code 90 = .ok (.iconst 4, 1) := by decide +kernel
theorem dX12_fare_91 : decode prog_14_method_8_code 91 = .ok (.iload_n 3, 1) := by decide +kernel
theorem dX12_fare_92 : decode prog_14_method_8_code 92 = .ok (.imul, 1) := by decide +kernel
theorem dX12_fare_93 : decode prog_14_method_8_code 93 = .ok (.iadd, 1) := by decide +kernel
theorem dX12_fare_94 : decode prog_14_method_8_code 94 = .ok (.iload 4, 2) := by decide +kernel
theorem dX12_fare_96 : decode prog_14_method_8_code 96 = .ok (.iadd, 1) := by decide +kernel
theorem dX12_fare_97 : decode prog_14_method_8_code 97 = .ok (.iconst 0, 1) := by decide +kernel
theorem dX12_fare_98 : decode prog_14_method_8_code 98 = .ok (.iastore, 1) := by decide +kernel
theorem dX12_fare_99 : decode prog_14_method_8_code 99 = .ok (.iinc 4 1, 3) := by decide +kernel
theorem dX12_fare_102 : decode prog_14_method_8_code 102 = .ok (.goto (-24), 3) := by decide +kernel
theorem dX12_fare_105 : decode prog_14_method_8_code 105 = .ok (.aload_n 0, 1) := by decide +kernel
theorem dX12_fare_106 : decode prog_14_method_8_code 106 = .ok (.getfield 9, 3) := by decide +kernel
theorem dX12_fare_109 : decode prog_14_method_8_code 109 = .ok (.bipush 122, 2) := by decide +kernel
theorem dX12_fare_111 : decode prog_14_method_8_code 111 = .ok (.iload_n 3, 1) := by decide +kernel
theorem dX12_fare_112 : decode prog_14_method_8_code 112 = .ok (.iadd, 1) := by decide +kernel
theorem dX12_fare_113 : decode prog_14_method_8_code 113 = .ok (.bipush 30, 2) := by decide +kernel
theorem dX12_fare_115 : decode prog_14_method_8_code 115 = .ok (.iastore, 1) := by decide +kernel
theorem dX12_fare_116 : decode prog_14_method_8_code 116 = .ok (.iload_n 3, 1) := by decide +kernel
theorem dX12_fare_117 : decode prog_14_method_8_code 117 = .ok (.ireturn, 1) := by decide +kernel
def m_X12_fare_L78 (N : Nat)  : Nat → Nat → Int32 → Int32 → mM → Option (Int32 × mM)
  | 0, _, _, _, _ => none
  | n + 1, a0, i3, i4, M =>
    if 4 ≤ i4 then (
      (fR M a0 12 0).bind fun x1 =>
      (uI 0 .int M x1 (122 + i3) 30).bind fun M3 =>
      some (i3, M3)) else (
      (fR M a0 12 0).bind fun x5 =>
      (uI 0 .int M x5 ((18 + (4 * i3)) + i4) 0).bind fun M7 =>
      (m_X12_fare_L78 N  n) a0 i3 (i4 + 1) M7)
set_option maxHeartbeats 4000000 in
set_option maxRecDepth 100000 in
theorem t_X12_fare_L78 {X : mX} {L0 : Launch} {res : Int32 × mM} {N : Nat} (C : CX X RX12 "fare" prog_14_method_8_code 5 (some .int)) (E : EX X L0 1 25 0 0 (some (.int res.1)) res.2)   : ∀ (n : Nat) (a0 : Nat) (i3 : Int32) (i4 : Int32) (M : mM), m_X12_fare_L78 N  n a0 i3 i4 M = some res → EV X 5 78 [(0, .ref a0), (3, .int i3), (4, .int i4)] [] 0 0 M := by
  intro n
  induction n with
  | zero => intro a0 i3 i4 M hf; cases (show (none : Option (Int32 × mM)) = some res from hf)
  | succ n ih =>
    intro a0 i3 i4 M hf
    rw [m_X12_fare_L78] at hf
    refine ev_iload C dX12_fare_78 (q := 2) rfl ?_
    refine ev_iconst (v := 4) C dX12_fare_80 (by decide) ?_
    refine ev_icmp_ge (tgt := 105) C dX12_fare_81 (by decide) (fun hc => ?_) (fun hc => ?_)
    · have hf := oit hf hc
      refine ev_aload_n C dX12_fare_105 rfl (q := 0) rfl ?_
      obtain ⟨x1, e2, hf⟩ := obnd hf
      refine ev_get (k := 0) C ok_12 dX12_fare_106 (by decide) kw_1159 (fR_V e2) ?_
      refine ev_bipush (v := 122) C dX12_fare_109 (by decide) ?_
      refine ev_iload_n C dX12_fare_111 rfl (q := 1) rfl ?_
      refine ev_iadd C dX12_fare_112 ?_
      refine ev_bipush (v := 30) C dX12_fare_113 (by decide) ?_
      obtain ⟨M3, e4, hf⟩ := obnd hf
      refine ev_iast C dX12_fare_115 e4 ?_
      refine ev_iload_n C dX12_fare_116 rfl (q := 1) rfl ?_
      obtain rfl := Option.some.inj hf
      exact ev_iret C E (Nat.le_refl 0) (Nat.le_refl 0) dX12_fare_117
    · have hf := oie hf hc
      refine ev_aload_n C dX12_fare_84 rfl (q := 0) rfl ?_
      obtain ⟨x5, e6, hf⟩ := obnd hf
      refine ev_get (k := 0) C ok_12 dX12_fare_85 (by decide) kw_1159 (fR_V e6) ?_
      refine ev_bipush (v := 18) C dX12_fare_88 (by decide) ?_
      refine ev_iconst (v := 4) C dX12_fare_90 (by decide) ?_
      refine ev_iload_n C dX12_fare_91 rfl (q := 1) rfl ?_
      refine ev_imul C dX12_fare_92 ?_
      refine ev_iadd C dX12_fare_93 ?_
      refine ev_iload C dX12_fare_94 (q := 2) rfl ?_
      refine ev_iadd C dX12_fare_96 ?_
      refine ev_iconst (v := 0) C dX12_fare_97 (by decide) ?_
      obtain ⟨M7, e8, hf⟩ := obnd hf
      refine ev_iast C dX12_fare_98 e8 ?_
      refine ev_iinc (v := i4 + 1) (l' := [(4, .int (i4 + 1)), (0, .ref a0), (3, .int i3)]) C dX12_fare_99 (q := 2) rfl rfl (by decide) rfl ?_
      refine ev_goto (tgt := 78) C dX12_fare_102 (by decide) ?_
      refine ev_sub [1, 2, 0] rfl ?_
      exact ih a0 i3 (i4 + 1) M7 hf
def m_X12_fare (N : Nat) (a0 : Nat) (i1 : Int32) (i2 : Int32) (M : mM) : Option (Int32 × mM) :=
  (m_X12_in i1.toInt64 0 3).bind fun x1 =>
  if x1 = 0 then (
    some ((-1), M)) else (
    (m_X12_in i2.toInt64 1 9999).bind fun x3 =>
    if x3 = 0 then (
      some ((-2), M)) else (
      (fR M a0 12 0).bind fun x5 =>
      (aI 0 M x5 0).bind fun x7 =>
      if x7 = 6 then (
        some ((-4), M)) else (
        (fR M a0 12 0).bind fun x9 =>
        (aI 0 M x9 0).bind fun x11 =>
        (uI 0 .int M x9 0 (x11 + 1)).bind fun M13 =>
        (fR M13 a0 12 0).bind fun x15 =>
        (uI 0 .int M13 x15 (6 + x11) i1).bind fun M17 =>
        (fR M17 a0 12 0).bind fun x19 =>
        (uI 0 .int M17 x19 (12 + x11) i2).bind fun M21 =>
        m_X12_fare_L78 N  N a0 x11 0 M21)))
set_option maxHeartbeats 4000000 in
set_option maxRecDepth 100000 in
theorem t_X12_fare {L0 : Launch} {M : mM} {N : Nat} {a0 : Nat} {i1 : Int32} {i2 : Int32} {res : Int32 × mM} (hf : m_X12_fare N a0 i1 i2 M = some res) : CT L0 yX12_fare prog_14_method_8_code 5 (some .int) 1 25 0 0 [.ref a0, .int i1, .int i2] M (some (.int res.1)) res.2 := by
  refine CT.of (by decide +kernel) (Nat.le_of_ble_eq_true rfl) fun X C E => ?_
  have C : CX X RX12 "fare" prog_14_method_8_code 5 (some .int) := C
  show EV X 5 0 [(0, .ref a0), (1, .int i1), (2, .int i2)] [] 0 0 M
  unfold m_X12_fare at hf
  refine ev_iload_n C dX12_fare_0 rfl (q := 1) rfl ?_
  refine ev_i2l C dX12_fare_1 ?_
  refine ev_lconst (v := 0) C dX12_fare_2 (by decide) ?_
  refine ev_ldc2 (v := 3) C dX12_fare_3 kw_1252 ?_
  obtain ⟨x1, e2, hf⟩ := obnd hf
  refine ev_callS0 (As := [.long i1.toInt64, .long 0, .long 3]) (st := []) C (t_X12_in e2) hd_X12_in rfl kw_1253 kw_1254 kw_87 kw_1255 (mRoom.of E (Nat.le_of_ble_eq_true rfl) (Nat.le_of_ble_eq_true rfl) (Nat.le_refl 0) (Nat.le_refl 0)) (Nat.le_of_ble_eq_true rfl) dX12_fare_6 ?_
  refine ev_if_ne (tgt := 14) C dX12_fare_9 (by decide) (fun hc => ?_) (fun hc => ?_)
  · have hf := oie hf hc
    refine ev_iload_n C dX12_fare_14 rfl (q := 2) rfl ?_
    refine ev_i2l C dX12_fare_15 ?_
    refine ev_lconst (v := 1) C dX12_fare_16 (by decide) ?_
    refine ev_ldc2 (v := 9999) C dX12_fare_17 kw_1256 ?_
    obtain ⟨x3, e4, hf⟩ := obnd hf
    refine ev_callS0 (As := [.long i2.toInt64, .long 1, .long 9999]) (st := []) C (t_X12_in e4) hd_X12_in rfl kw_1253 kw_1254 kw_87 kw_1255 (mRoom.of E (Nat.le_of_ble_eq_true rfl) (Nat.le_of_ble_eq_true rfl) (Nat.le_refl 0) (Nat.le_refl 0)) (Nat.le_of_ble_eq_true rfl) dX12_fare_20 ?_
    refine ev_if_ne (tgt := 29) C dX12_fare_23 (by decide) (fun hc => ?_) (fun hc => ?_)
    · have hf := oie hf hc
      refine ev_aload_n C dX12_fare_29 rfl (q := 0) rfl ?_
      obtain ⟨x5, e6, hf⟩ := obnd hf
      refine ev_get (k := 0) C ok_12 dX12_fare_30 (by decide) kw_1159 (fR_V e6) ?_
      refine ev_iconst (v := 0) C dX12_fare_33 (by decide) ?_
      obtain ⟨x7, e8, hf⟩ := obnd hf
      refine ev_iald C dX12_fare_34 e8 ?_
      refine ev_bipush (v := 6) C dX12_fare_35 (by decide) ?_
      refine ev_icmp_ne (tgt := 43) C dX12_fare_37 (by decide) (fun hc => ?_) (fun hc => ?_)
      · have hf := oie hf hc
        refine ev_aload_n C dX12_fare_43 rfl (q := 0) rfl ?_
        obtain ⟨x9, e10, hf⟩ := obnd hf
        refine ev_get (k := 0) C ok_12 dX12_fare_44 (by decide) kw_1159 (fR_V e10) ?_
        refine ev_iconst (v := 0) C dX12_fare_47 (by decide) ?_
        refine ev_dup2_11 C dX12_fare_48 rfl rfl ?_
        obtain ⟨x11, e12, hf⟩ := obnd hf
        refine ev_iald C dX12_fare_49 e12 ?_
        refine ev_dup_x2 C dX12_fare_50 rfl rfl rfl ?_
        refine ev_iconst (v := 1) C dX12_fare_51 (by decide) ?_
        refine ev_iadd C dX12_fare_52 ?_
        obtain ⟨M13, e14, hf⟩ := obnd hf
        refine ev_iast C dX12_fare_53 e14 ?_
        refine ev_istore_n (l' := [(3, .int x11), (0, .ref a0), (1, .int i1), (2, .int i2)]) C dX12_fare_54 rfl (by decide) rfl ?_
        refine ev_aload_n C dX12_fare_55 rfl (q := 1) rfl ?_
        obtain ⟨x15, e16, hf⟩ := obnd hf
        refine ev_get (k := 0) C ok_12 dX12_fare_56 (by decide) kw_1159 (fR_V e16) ?_
        refine ev_bipush (v := 6) C dX12_fare_59 (by decide) ?_
        refine ev_iload_n C dX12_fare_61 rfl (q := 0) rfl ?_
        refine ev_iadd C dX12_fare_62 ?_
        refine ev_iload_n C dX12_fare_63 rfl (q := 2) rfl ?_
        obtain ⟨M17, e18, hf⟩ := obnd hf
        refine ev_iast C dX12_fare_64 e18 ?_
        refine ev_aload_n C dX12_fare_65 rfl (q := 1) rfl ?_
        obtain ⟨x19, e20, hf⟩ := obnd hf
        refine ev_get (k := 0) C ok_12 dX12_fare_66 (by decide) kw_1159 (fR_V e20) ?_
        refine ev_bipush (v := 12) C dX12_fare_69 (by decide) ?_
        refine ev_iload_n C dX12_fare_71 rfl (q := 0) rfl ?_
        refine ev_iadd C dX12_fare_72 ?_
        refine ev_iload_n C dX12_fare_73 rfl (q := 3) rfl ?_
        obtain ⟨M21, e22, hf⟩ := obnd hf
        refine ev_iast C dX12_fare_74 e22 ?_
        refine ev_iconst (v := 0) C dX12_fare_75 (by decide) ?_
        refine ev_istore (l' := [(4, .int 0), (3, .int x11), (0, .ref a0), (1, .int i1), (2, .int i2)]) C dX12_fare_76 (by decide) rfl ?_
        refine ev_sub [2, 1, 0] rfl ?_
        exact t_X12_fare_L78 C E   N a0 x11 0 M21 hf
      · have hf := oit hf hc
        refine ev_bipush (v := (-4)) C dX12_fare_40 (by decide) ?_
        obtain rfl := Option.some.inj hf
        exact ev_iret C E (Nat.le_refl 0) (Nat.le_refl 0) dX12_fare_42
    · have hf := oit hf hc
      refine ev_bipush (v := (-2)) C dX12_fare_26 (by decide) ?_
      obtain rfl := Option.some.inj hf
      exact ev_iret C E (Nat.le_refl 0) (Nat.le_refl 0) dX12_fare_28
  · have hf := oit hf hc
    refine ev_iconst (v := (-1)) C dX12_fare_12 (by decide) ?_
    obtain rfl := Option.some.inj hf
    exact ev_iret C E (Nat.le_refl 0) (Nat.le_refl 0) dX12_fare_13
/-! FareLimitsModel of(II)I -/
theorem dX12_of_0 : decode prog_14_method_9_code 0 = .ok (.aload_n 0, 1) := by decide +kernel
theorem dX12_of_1 : decode prog_14_method_9_code 1 = .ok (.iload_n 1, 1) := by decide +kernel
theorem dX12_of_2 : decode prog_14_method_9_code 2 = .ok (.invokevirtual 82, 3) := by decide +kernel
theorem dX12_of_5 : decode prog_14_method_9_code 5 = .ok (.ifCond .eq 15, 3) := by decide +kernel
theorem dX12_of_8 : decode prog_14_method_9_code 8 = .ok (.iload_n 2, 1) := by decide +kernel
theorem dX12_of_9 : decode prog_14_method_9_code 9 = .ok (.i2l, 1) := by decide +kernel
theorem dX12_of_10 : decode prog_14_method_9_code 10 = .ok (.lconst 0, 1) := by decide +kernel
theorem dX12_of_11 : decode prog_14_method_9_code 11 = .ok (.ldc2_w 86, 3) := by decide +kernel
theorem dX12_of_14 : decode prog_14_method_9_code 14 = .ok (.invokestatic 72, 3) := by decide +kernel
theorem dX12_of_17 : decode prog_14_method_9_code 17 = .ok (.ifCond .ne 5, 3) := by decide +kernel
theorem dX12_of_20 : decode prog_14_method_9_code 20 = .ok (.iconst (-1), 1) := by decide +kernel
theorem dX12_of_21 : decode prog_14_method_9_code 21 = .ok (.ireturn, 1) := by decide +kernel
theorem dX12_of_22 : decode prog_14_method_9_code 22 = .ok (.iload_n 2, 1) := by decide +kernel
theorem dX12_of_23 : decode prog_14_method_9_code 23 = .ok (.ifCond .ne 15, 3) := by decide +kernel
theorem dX12_of_26 : decode prog_14_method_9_code 26 = .ok (.aload_n 0, 1) := by decide +kernel
theorem dX12_of_27 : decode prog_14_method_9_code 27 = .ok (.getfield 9, 3) := by decide +kernel
theorem dX12_of_30 : decode prog_14_method_9_code 30 = .ok (.bipush 6, 2) := by decide +kernel
theorem dX12_of_32 : decode prog_14_method_9_code 32 = .ok (.iload_n 1, 1) := by decide +kernel
theorem dX12_of_33 : decode prog_14_method_9_code 33 = .ok (.iadd, 1) := by decide +kernel
theorem dX12_of_34 : decode prog_14_method_9_code 34 = .ok (.iaload, 1) := by decide +kernel
theorem dX12_of_35 : decode prog_14_method_9_code 35 = .ok (.goto 31, 3) := by decide +kernel
theorem dX12_of_38 : decode prog_14_method_9_code 38 = .ok (.iload_n 2, 1) := by decide +kernel
theorem dX12_of_39 : decode prog_14_method_9_code 39 = .ok (.iconst 1, 1) := by decide +kernel
theorem dX12_of_40 : decode prog_14_method_9_code 40 = .ok (.if_icmp .ne 11, 3) := by decide +kernel
theorem dX12_of_43 : decode prog_14_method_9_code 43 = .ok (.aload_n 0, 1) := by decide +kernel
theorem dX12_of_44 : decode prog_14_method_9_code 44 = .ok (.iload_n 1, 1) := by decide +kernel
theorem dX12_of_45 : decode prog_14_method_9_code 45 = .ok (.invokevirtual 88, 3) := by decide +kernel
theorem dX12_of_48 : decode prog_14_method_9_code 48 = .ok (.goto 18, 3) := by decide +kernel
theorem dX12_of_51 : decode prog_14_method_9_code 51 = .ok (.aload_n 0, 1) := by decide +kernel
theorem dX12_of_52 : decode prog_14_method_9_code 52 = .ok (.getfield 9, 3) := by decide +kernel
theorem dX12_of_55 : decode prog_14_method_9_code 55 = .ok (.bipush 18, 2) := by decide +kernel
theorem dX12_of_57 : decode prog_14_method_9_code 57 = .ok (.iconst 4, 1) := by decide +kernel
theorem dX12_of_58 : decode prog_14_method_9_code 58 = .ok (.iload_n 1, 1) := by decide +kernel
theorem dX12_of_59 : decode prog_14_method_9_code 59 = .ok (.imul, 1) := by decide +kernel
theorem dX12_of_60 : decode prog_14_method_9_code 60 = .ok (.iadd, 1) := by decide +kernel
theorem dX12_of_61 : decode prog_14_method_9_code 61 = .ok (.iload_n 2, 1) := by decide +kernel
theorem dX12_of_62 : decode prog_14_method_9_code 62 = .ok (.iadd, 1) := by decide +kernel
theorem dX12_of_63 : decode prog_14_method_9_code 63 = .ok (.iconst 2, 1) := by decide +kernel
theorem dX12_of_64 : decode prog_14_method_9_code 64 = .ok (.isub, 1) := by decide +kernel
theorem dX12_of_65 : decode prog_14_method_9_code 65 = .ok (.iaload, 1) := by decide +kernel
theorem dX12_of_66 : decode prog_14_method_9_code 66 = .ok (.ireturn, 1) := by decide +kernel
def m_X12_of (a0 : Nat) (i1 : Int32) (i2 : Int32) (M : mM) : Option (Int32) :=
  (oO M a0 12).bind fun _ =>
  (m_X12_isFare a0 i1 M).bind fun x3 =>
  if x3 = 0 then (
    some (-1)) else (
    (m_X12_in i2.toInt64 0 5).bind fun x5 =>
    if x5 = 0 then (
      some (-1)) else (
      if i2 = 0 then (
        (fR M a0 12 0).bind fun x15 =>
        (aI 0 M x15 (6 + i1)).bind fun x17 =>
        some x17) else (
        if i2 = 1 then (
          (oO M a0 12).bind fun _ =>
          (m_X12_price a0 i1 M).bind fun x13 =>
          some x13) else (
          (fR M a0 12 0).bind fun x7 =>
          (aI 0 M x7 (((18 + (4 * i1)) + i2) - 2)).bind fun x9 =>
          some x9))))
set_option maxHeartbeats 4000000 in
set_option maxRecDepth 100000 in
theorem t_X12_of {L0 : Launch} {M : mM} {a0 : Nat} {i1 : Int32} {i2 : Int32} {res : Int32} (hf : m_X12_of a0 i1 i2 M = some res) : CT L0 yX12_of prog_14_method_9_code 3 (some .int) 2 46 0 0 [.ref a0, .int i1, .int i2] M (some (.int res)) M := by
  refine CT.of (by decide +kernel) (Nat.le_of_ble_eq_true rfl) fun X C E => ?_
  have C : CX X RX12 "of" prog_14_method_9_code 3 (some .int) := C
  show EV X 3 0 [(0, .ref a0), (1, .int i1), (2, .int i2)] [] 0 0 M
  unfold m_X12_of at hf
  refine ev_aload_n C dX12_of_0 rfl (q := 0) rfl ?_
  refine ev_iload_n C dX12_of_1 rfl (q := 1) rfl ?_
  obtain ⟨_, e1, hf⟩ := obnd hf
  obtain ⟨fs2, e1⟩ := oO_eq e1
  obtain ⟨x3, e4, hf⟩ := obnd hf
  refine ev_callV0 (As := [.int i1]) (st := []) C rfl e1 (t_X12_isFare e4) rfl hd_X12_isFare rfl kw_1261 kw_1263 kw_87 kw_20 kw_1264 (mRoom.of E (Nat.le_of_ble_eq_true rfl) (Nat.le_of_ble_eq_true rfl) (Nat.le_refl 0) (Nat.le_refl 0)) (Nat.le_of_ble_eq_true rfl) dX12_of_2 ?_
  refine ev_if_eq (tgt := 20) C dX12_of_5 (by decide) (fun hc => ?_) (fun hc => ?_)
  · have hf := oit hf hc
    refine ev_iconst (v := (-1)) C dX12_of_20 (by decide) ?_
    obtain rfl := Option.some.inj hf
    exact ev_iret C E (Nat.le_refl 0) (Nat.le_refl 0) dX12_of_21
  · have hf := oie hf hc
    refine ev_iload_n C dX12_of_8 rfl (q := 2) rfl ?_
    refine ev_i2l C dX12_of_9 ?_
    refine ev_lconst (v := 0) C dX12_of_10 (by decide) ?_
    refine ev_ldc2 (v := 5) C dX12_of_11 kw_1265 ?_
    obtain ⟨x5, e6, hf⟩ := obnd hf
    refine ev_callS0 (As := [.long i2.toInt64, .long 0, .long 5]) (st := []) C (t_X12_in e6) hd_X12_in rfl kw_1253 kw_1254 kw_87 kw_1255 (mRoom.of E (Nat.le_of_ble_eq_true rfl) (Nat.le_of_ble_eq_true rfl) (Nat.le_refl 0) (Nat.le_refl 0)) (Nat.le_of_ble_eq_true rfl) dX12_of_14 ?_
    refine ev_if_ne (tgt := 22) C dX12_of_17 (by decide) (fun hc => ?_) (fun hc => ?_)
    · have hf := oie hf hc
      refine ev_iload_n C dX12_of_22 rfl (q := 2) rfl ?_
      refine ev_if_ne (tgt := 38) C dX12_of_23 (by decide) (fun hc => ?_) (fun hc => ?_)
      · have hf := oie hf hc
        refine ev_iload_n C dX12_of_38 rfl (q := 2) rfl ?_
        refine ev_iconst (v := 1) C dX12_of_39 (by decide) ?_
        refine ev_icmp_ne (tgt := 51) C dX12_of_40 (by decide) (fun hc => ?_) (fun hc => ?_)
        · have hf := oie hf hc
          refine ev_aload_n C dX12_of_51 rfl (q := 0) rfl ?_
          obtain ⟨x7, e8, hf⟩ := obnd hf
          refine ev_get (k := 0) C ok_12 dX12_of_52 (by decide) kw_1159 (fR_V e8) ?_
          refine ev_bipush (v := 18) C dX12_of_55 (by decide) ?_
          refine ev_iconst (v := 4) C dX12_of_57 (by decide) ?_
          refine ev_iload_n C dX12_of_58 rfl (q := 1) rfl ?_
          refine ev_imul C dX12_of_59 ?_
          refine ev_iadd C dX12_of_60 ?_
          refine ev_iload_n C dX12_of_61 rfl (q := 2) rfl ?_
          refine ev_iadd C dX12_of_62 ?_
          refine ev_iconst (v := 2) C dX12_of_63 (by decide) ?_
          refine ev_isub C dX12_of_64 ?_
          obtain ⟨x9, e10, hf⟩ := obnd hf
          refine ev_iald C dX12_of_65 e10 ?_
          obtain rfl := Option.some.inj hf
          exact ev_iret C E (Nat.le_refl 0) (Nat.le_refl 0) dX12_of_66
        · have hf := oit hf hc
          refine ev_aload_n C dX12_of_43 rfl (q := 0) rfl ?_
          refine ev_iload_n C dX12_of_44 rfl (q := 1) rfl ?_
          obtain ⟨_, e11, hf⟩ := obnd hf
          obtain ⟨fs12, e11⟩ := oO_eq e11
          obtain ⟨x13, e14, hf⟩ := obnd hf
          refine ev_callV0 (As := [.int i1]) (st := []) C rfl e11 (t_X12_price e14) rfl hd_X12_price rfl kw_1266 kw_1268 kw_87 kw_21 kw_1269 (mRoom.of E (Nat.le_of_ble_eq_true rfl) (Nat.le_of_ble_eq_true rfl) (Nat.le_refl 0) (Nat.le_refl 0)) (Nat.le_of_ble_eq_true rfl) dX12_of_45 ?_
          refine ev_goto (tgt := 66) C dX12_of_48 (by decide) ?_
          obtain rfl := Option.some.inj hf
          exact ev_iret C E (Nat.le_refl 0) (Nat.le_refl 0) dX12_of_66
      · have hf := oit hf hc
        refine ev_aload_n C dX12_of_26 rfl (q := 0) rfl ?_
        obtain ⟨x15, e16, hf⟩ := obnd hf
        refine ev_get (k := 0) C ok_12 dX12_of_27 (by decide) kw_1159 (fR_V e16) ?_
        refine ev_bipush (v := 6) C dX12_of_30 (by decide) ?_
        refine ev_iload_n C dX12_of_32 rfl (q := 1) rfl ?_
        refine ev_iadd C dX12_of_33 ?_
        obtain ⟨x17, e18, hf⟩ := obnd hf
        refine ev_iald C dX12_of_34 e18 ?_
        refine ev_goto (tgt := 66) C dX12_of_35 (by decide) ?_
        obtain rfl := Option.some.inj hf
        exact ev_iret C E (Nat.le_refl 0) (Nat.le_refl 0) dX12_of_66
    · have hf := oit hf hc
      refine ev_iconst (v := (-1)) C dX12_of_20 (by decide) ?_
      obtain rfl := Option.some.inj hf
      exact ev_iret C E (Nat.le_refl 0) (Nat.le_refl 0) dX12_of_21
/-! FareLimitsModel odds(III)I -/
theorem dX12_odds__0 : decode prog_14_method_10_code 0 = .ok (.aload_n 0, 1) := by decide +kernel
theorem dX12_odds__1 : decode prog_14_method_10_code 1 = .ok (.iload_n 1, 1) := by decide +kernel
theorem dX12_odds__2 : decode prog_14_method_10_code 2 = .ok (.invokevirtual 82, 3) := by decide +kernel
theorem dX12_odds__5 : decode prog_14_method_10_code 5 = .ok (.ifCond .eq 15, 3) := by decide +kernel
theorem dX12_odds__8 : decode prog_14_method_10_code 8 = .ok (.iload_n 2, 1) := by decide +kernel
theorem dX12_odds__9 : decode prog_14_method_10_code 9 = .ok (.i2l, 1) := by decide +kernel
theorem dX12_odds__10 : decode prog_14_method_10_code 10 = .ok (.lconst 0, 1) := by decide +kernel
theorem dX12_odds__11 : decode prog_14_method_10_code 11 = .ok (.ldc2_w 78, 3) := by decide +kernel
theorem dX12_odds__14 : decode prog_14_method_10_code 14 = .ok (.invokestatic 72, 3) := by decide +kernel
theorem dX12_odds__17 : decode prog_14_method_10_code 17 = .ok (.ifCond .ne 5, 3) := by decide +kernel
theorem dX12_odds__20 : decode prog_14_method_10_code 20 = .ok (.iconst (-1), 1) := by decide +kernel
theorem dX12_odds__21 : decode prog_14_method_10_code 21 = .ok (.ireturn, 1) := by decide +kernel
theorem dX12_odds__22 : decode prog_14_method_10_code 22 = .ok (.iload_n 3, 1) := by decide +kernel
theorem dX12_odds__23 : decode prog_14_method_10_code 23 = .ok (.i2l, 1) := by decide +kernel
theorem dX12_odds__24 : decode prog_14_method_10_code 24 = .ok (.lconst 0, 1) := by decide +kernel
theorem dX12_odds__25 : decode prog_14_method_10_code 25 = .ok (.ldc2_w 92, 3) := by decide +kernel
theorem dX12_odds__28 : decode prog_14_method_10_code 28 = .ok (.invokestatic 72, 3) := by decide +kernel
theorem dX12_odds__31 : decode prog_14_method_10_code 31 = .ok (.ifCond .ne 6, 3) := by decide +kernel
theorem dX12_odds__34 : decode prog_14_method_10_code 34 = .ok (.bipush (-2), 2) := by decide +kernel
theorem dX12_odds__36 : decode prog_14_method_10_code 36 = .ok (.ireturn, 1) := by decide +kernel
theorem dX12_odds__37 : decode prog_14_method_10_code 37 = .ok (.iload_n 3, 1) := by decide +kernel
theorem dX12_odds__38 : decode prog_14_method_10_code 38 = .ok (.istore 4, 2) := by decide +kernel
theorem dX12_odds__40 : decode prog_14_method_10_code 40 = .ok (.iconst 0, 1) := by decide +kernel
theorem dX12_odds__41 : decode prog_14_method_10_code 41 = .ok (.istore 5, 2) := by decide +kernel
theorem dX12_odds__43 : decode prog_14_method_10_code 43 = .ok (.iload 5, 2) := by decide +kernel
theorem dX12_odds__45 : decode prog_14_method_10_code 45 = .ok (.aload_n 0, 1) := by decide +kernel
theorem dX12_odds__46 : decode prog_14_method_10_code 46 = .ok (.getfield 9, 3) := by decide +kernel
theorem dX12_odds__49 : decode prog_14_method_10_code 49 = .ok (.iconst 0, 1) := by decide +kernel
theorem dX12_odds__50 : decode prog_14_method_10_code 50 = .ok (.iaload, 1) := by decide +kernel
theorem dX12_odds__51 : decode prog_14_method_10_code 51 = .ok (.if_icmp .ge 38, 3) := by decide +kernel
theorem dX12_odds__54 : decode prog_14_method_10_code 54 = .ok (.iload 4, 2) := by decide +kernel
theorem dX12_odds__56 : decode prog_14_method_10_code 56 = .ok (.iload 5, 2) := by decide +kernel
theorem dX12_odds__58 : decode prog_14_method_10_code 58 = .ok (.iload_n 1, 1) := by decide +kernel
theorem dX12_odds__59 : decode prog_14_method_10_code 59 = .ok (.if_icmp .ne 7, 3) := by decide +kernel
theorem dX12_odds__62 : decode prog_14_method_10_code 62 = .ok (.iconst 0, 1) := by decide +kernel
theorem dX12_odds__63 : decode prog_14_method_10_code 63 = .ok (.goto 17, 3) := by decide +kernel
theorem dX12_odds__66 : decode prog_14_method_10_code 66 = .ok (.aload_n 0, 1) := by decide +kernel
theorem dX12_odds__67 : decode prog_14_method_10_code 67 = .ok (.getfield 9, 3) := by decide +kernel
theorem dX12_odds__70 : decode prog_14_method_10_code 70 = .ok (.bipush 18, 2) := by decide +kernel
theorem dX12_odds__72 : decode prog_14_method_10_code 72 = .ok (.iconst 4, 1) := by decide +kernel
theorem dX12_odds__73 : decode prog_14_method_10_code 73 = .ok (.iload 5, 2) := by decide +kernel
theorem dX12_odds__75 : decode prog_14_method_10_code 75 = .ok (.imul, 1) := by decide +kernel
theorem dX12_odds__76 : decode prog_14_method_10_code 76 = .ok (.iadd, 1) := by decide +kernel
theorem dX12_odds__77 : decode prog_14_method_10_code 77 = .ok (.iload_n 2, 1) := by decide +kernel
theorem dX12_odds__78 : decode prog_14_method_10_code 78 = .ok (.iadd, 1) := by decide +kernel
theorem dX12_odds__79 : decode prog_14_method_10_code 79 = .ok (.iaload, 1) := by decide +kernel
theorem dX12_odds__80 : decode prog_14_method_10_code 80 = .ok (.iadd, 1) := by decide +kernel
theorem dX12_odds__81 : decode prog_14_method_10_code 81 = .ok (.istore 4, 2) := by decide +kernel
theorem dX12_odds__83 : decode prog_14_method_10_code 83 = .ok (.iinc 5 1, 3) := by decide +kernel
theorem dX12_odds__86 : decode prog_14_method_10_code 86 = .ok (.goto (-43), 3) := by decide +kernel
theorem dX12_odds__89 : decode prog_14_method_10_code 89 = .ok (.iload 4, 2) := by decide +kernel
theorem dX12_odds__91 : decode prog_14_method_10_code 91 = .ok (.bipush 100, 2) := by decide +kernel
theorem dX12_odds__93 : decode prog_14_method_10_code 93 = .ok (.if_icmp .le 6, 3) := by decide +kernel
theorem dX12_odds__96 : decode prog_14_method_10_code 96 = .ok (.bipush (-2), 2) := by decide +kernel
theorem dX12_odds__98 : decode prog_14_method_10_code 98 = .ok (.ireturn, 1) := by decide +kernel
theorem dX12_odds__99 : decode prog_14_method_10_code 99 = .ok (.aload_n 0, 1) := by decide +kernel
theorem dX12_odds__100 : decode prog_14_method_10_code 100 = .ok (.getfield 9, 3) := by decide +kernel
theorem dX12_odds__103 : decode prog_14_method_10_code 103 = .ok (.bipush 18, 2) := by decide +kernel
theorem dX12_odds__105 : decode prog_14_method_10_code 105 = .ok (.iconst 4, 1) := by decide +kernel
theorem dX12_odds__106 : decode prog_14_method_10_code 106 = .ok (.iload_n 1, 1) := by decide +kernel
theorem dX12_odds__107 : decode prog_14_method_10_code 107 = .ok (.imul, 1) := by decide +kernel
theorem dX12_odds__108 : decode prog_14_method_10_code 108 = .ok (.iadd, 1) := by decide +kernel
theorem dX12_odds__109 : decode prog_14_method_10_code 109 = .ok (.iload_n 2, 1) := by decide +kernel
theorem dX12_odds__110 : decode prog_14_method_10_code 110 = .ok (.iadd, 1) := by decide +kernel
theorem dX12_odds__111 : decode prog_14_method_10_code 111 = .ok (.iaload, 1) := by decide +kernel
theorem dX12_odds__112 : decode prog_14_method_10_code 112 = .ok (.istore 5, 2) := by decide +kernel
theorem dX12_odds__114 : decode prog_14_method_10_code 114 = .ok (.aload_n 0, 1) := by decide +kernel
theorem dX12_odds__115 : decode prog_14_method_10_code 115 = .ok (.getfield 9, 3) := by decide +kernel
theorem dX12_odds__118 : decode prog_14_method_10_code 118 = .ok (.bipush 18, 2) := by decide +kernel
theorem dX12_odds__120 : decode prog_14_method_10_code 120 = .ok (.iconst 4, 1) := by decide +kernel
theorem dX12_odds__121 : decode prog_14_method_10_code 121 = .ok (.iload_n 1, 1) := by decide +kernel
theorem dX12_odds__122 : decode prog_14_method_10_code 122 = .ok (.imul, 1) := by decide +kernel
theorem dX12_odds__123 : decode prog_14_method_10_code 123 = .ok (.iadd, 1) := by decide +kernel
theorem dX12_odds__124 : decode prog_14_method_10_code 124 = .ok (.iload_n 2, 1) := by decide +kernel
theorem dX12_odds__125 : decode prog_14_method_10_code 125 = .ok (.iadd, 1) := by decide +kernel
theorem dX12_odds__126 : decode prog_14_method_10_code 126 = .ok (.iload_n 3, 1) := by decide +kernel
theorem dX12_odds__127 : decode prog_14_method_10_code 127 = .ok (.iastore, 1) := by decide +kernel
theorem dX12_odds__128 : decode prog_14_method_10_code 128 = .ok (.iload 5, 2) := by decide +kernel
theorem dX12_odds__130 : decode prog_14_method_10_code 130 = .ok (.ireturn, 1) := by decide +kernel
def m_X12_odds__J80 (N : Nat) (k43 : Nat → Int32 → Int32 → Int32 → Int32 → Int32 → mM → Option (Int32 × mM)) (a0 : Nat) (i1 : Int32) (i2 : Int32) (i3 : Int32) (i5 : Int32) (si0 : Int32) (si1 : Int32) (M : mM) : Option (Int32 × mM) :=
  k43 a0 i1 i2 i3 (si0 + si1) (i5 + 1) M
set_option maxHeartbeats 4000000 in
set_option maxRecDepth 100000 in
theorem t_X12_odds__J80 {X : mX} {L0 : Launch} {res : Int32 × mM} {N : Nat} (C : CX X RX12 "odds" prog_14_method_10_code 6 (some .int)) (E : EX X L0 2 46 0 0 (some (.int res.1)) res.2) (k43 : Nat → Int32 → Int32 → Int32 → Int32 → Int32 → mM → Option (Int32 × mM)) (Hk43 : ∀ (a0 : Nat) (i1 : Int32) (i2 : Int32) (i3 : Int32) (i4 : Int32) (i5 : Int32) (M : mM), k43 a0 i1 i2 i3 i4 i5 M = some res → EV X 6 43 [(0, .ref a0), (1, .int i1), (2, .int i2), (3, .int i3), (4, .int i4), (5, .int i5)] [] 0 0 M) (a0 : Nat) (i1 : Int32) (i2 : Int32) (i3 : Int32) (i5 : Int32) (si0 : Int32) (si1 : Int32) (M : mM) (hf : m_X12_odds__J80 N k43 a0 i1 i2 i3 i5 si0 si1 M = some res) : EV X 6 80 [(0, .ref a0), (1, .int i1), (2, .int i2), (3, .int i3), (5, .int i5)] [.int si1, .int si0] 0 0 M := by
  unfold m_X12_odds__J80 at hf
  refine ev_iadd C dX12_odds__80 ?_
  refine ev_istore (l' := [(4, .int (si0 + si1)), (0, .ref a0), (1, .int i1), (2, .int i2), (3, .int i3), (5, .int i5)]) C dX12_odds__81 (by decide) rfl ?_
  refine ev_iinc (v := i5 + 1) (l' := [(5, .int (i5 + 1)), (4, .int (si0 + si1)), (0, .ref a0), (1, .int i1), (2, .int i2), (3, .int i3)]) C dX12_odds__83 (q := 5) rfl rfl (by decide) rfl ?_
  refine ev_goto (tgt := 43) C dX12_odds__86 (by decide) ?_
  refine ev_sub [2, 3, 4, 5, 1, 0] rfl ?_
  exact Hk43 a0 i1 i2 i3 (si0 + si1) (i5 + 1) M hf
def m_X12_odds__L43 (N : Nat)  : Nat → Nat → Int32 → Int32 → Int32 → Int32 → Int32 → mM → Option (Int32 × mM)
  | 0, _, _, _, _, _, _, _ => none
  | n + 1, a0, i1, i2, i3, i4, i5, M =>
    (fR M a0 12 0).bind fun x1 =>
    (aI 0 M x1 0).bind fun x3 =>
    if x3 ≤ i5 then (
      if i4 ≤ 100 then (
        (fR M a0 12 0).bind fun x5 =>
        (aI 0 M x5 ((18 + (4 * i1)) + i2)).bind fun x7 =>
        (fR M a0 12 0).bind fun x9 =>
        (uI 0 .int M x9 ((18 + (4 * i1)) + i2) i3).bind fun M11 =>
        some (x7, M11)) else (
        some ((-2), M))) else (
      if i5 = i1 then (
        m_X12_odds__J80 N (m_X12_odds__L43 N  n) a0 i1 i2 i3 i5 i4 0 M) else (
        (fR M a0 12 0).bind fun x13 =>
        (aI 0 M x13 ((18 + (4 * i5)) + i2)).bind fun x15 =>
        m_X12_odds__J80 N (m_X12_odds__L43 N  n) a0 i1 i2 i3 i5 i4 x15 M))
set_option maxHeartbeats 4000000 in
set_option maxRecDepth 100000 in
theorem t_X12_odds__L43 {X : mX} {L0 : Launch} {res : Int32 × mM} {N : Nat} (C : CX X RX12 "odds" prog_14_method_10_code 6 (some .int)) (E : EX X L0 2 46 0 0 (some (.int res.1)) res.2)   : ∀ (n : Nat) (a0 : Nat) (i1 : Int32) (i2 : Int32) (i3 : Int32) (i4 : Int32) (i5 : Int32) (M : mM), m_X12_odds__L43 N  n a0 i1 i2 i3 i4 i5 M = some res → EV X 6 43 [(0, .ref a0), (1, .int i1), (2, .int i2), (3, .int i3), (4, .int i4), (5, .int i5)] [] 0 0 M := by
  intro n
  induction n with
  | zero => intro a0 i1 i2 i3 i4 i5 M hf; cases (show (none : Option (Int32 × mM)) = some res from hf)
  | succ n ih =>
    intro a0 i1 i2 i3 i4 i5 M hf
    rw [m_X12_odds__L43] at hf
    refine ev_iload C dX12_odds__43 (q := 5) rfl ?_
    refine ev_aload_n C dX12_odds__45 rfl (q := 0) rfl ?_
    obtain ⟨x1, e2, hf⟩ := obnd hf
    refine ev_get (k := 0) C ok_12 dX12_odds__46 (by decide) kw_1159 (fR_V e2) ?_
    refine ev_iconst (v := 0) C dX12_odds__49 (by decide) ?_
    obtain ⟨x3, e4, hf⟩ := obnd hf
    refine ev_iald C dX12_odds__50 e4 ?_
    refine ev_icmp_ge (tgt := 89) C dX12_odds__51 (by decide) (fun hc => ?_) (fun hc => ?_)
    · have hf := oit hf hc
      refine ev_iload C dX12_odds__89 (q := 4) rfl ?_
      refine ev_bipush (v := 100) C dX12_odds__91 (by decide) ?_
      refine ev_icmp_le (tgt := 99) C dX12_odds__93 (by decide) (fun hc => ?_) (fun hc => ?_)
      · have hf := oit hf hc
        refine ev_aload_n C dX12_odds__99 rfl (q := 0) rfl ?_
        obtain ⟨x5, e6, hf⟩ := obnd hf
        refine ev_get (k := 0) C ok_12 dX12_odds__100 (by decide) kw_1159 (fR_V e6) ?_
        refine ev_bipush (v := 18) C dX12_odds__103 (by decide) ?_
        refine ev_iconst (v := 4) C dX12_odds__105 (by decide) ?_
        refine ev_iload_n C dX12_odds__106 rfl (q := 1) rfl ?_
        refine ev_imul C dX12_odds__107 ?_
        refine ev_iadd C dX12_odds__108 ?_
        refine ev_iload_n C dX12_odds__109 rfl (q := 2) rfl ?_
        refine ev_iadd C dX12_odds__110 ?_
        obtain ⟨x7, e8, hf⟩ := obnd hf
        refine ev_iald C dX12_odds__111 e8 ?_
        refine ev_istore (l' := [(5, .int x7), (0, .ref a0), (1, .int i1), (2, .int i2), (3, .int i3), (4, .int i4)]) C dX12_odds__112 (by decide) rfl ?_
        refine ev_aload_n C dX12_odds__114 rfl (q := 1) rfl ?_
        obtain ⟨x9, e10, hf⟩ := obnd hf
        refine ev_get (k := 0) C ok_12 dX12_odds__115 (by decide) kw_1159 (fR_V e10) ?_
        refine ev_bipush (v := 18) C dX12_odds__118 (by decide) ?_
        refine ev_iconst (v := 4) C dX12_odds__120 (by decide) ?_
        refine ev_iload_n C dX12_odds__121 rfl (q := 2) rfl ?_
        refine ev_imul C dX12_odds__122 ?_
        refine ev_iadd C dX12_odds__123 ?_
        refine ev_iload_n C dX12_odds__124 rfl (q := 3) rfl ?_
        refine ev_iadd C dX12_odds__125 ?_
        refine ev_iload_n C dX12_odds__126 rfl (q := 4) rfl ?_
        obtain ⟨M11, e12, hf⟩ := obnd hf
        refine ev_iast C dX12_odds__127 e12 ?_
        refine ev_iload C dX12_odds__128 (q := 0) rfl ?_
        obtain rfl := Option.some.inj hf
        exact ev_iret C E (Nat.le_refl 0) (Nat.le_refl 0) dX12_odds__130
      · have hf := oie hf hc
        refine ev_bipush (v := (-2)) C dX12_odds__96 (by decide) ?_
        obtain rfl := Option.some.inj hf
        exact ev_iret C E (Nat.le_refl 0) (Nat.le_refl 0) dX12_odds__98
    · have hf := oie hf hc
      refine ev_iload C dX12_odds__54 (q := 4) rfl ?_
      refine ev_iload C dX12_odds__56 (q := 5) rfl ?_
      refine ev_iload_n C dX12_odds__58 rfl (q := 1) rfl ?_
      refine ev_icmp_ne (tgt := 66) C dX12_odds__59 (by decide) (fun hc => ?_) (fun hc => ?_)
      · have hf := oie hf hc
        refine ev_aload_n C dX12_odds__66 rfl (q := 0) rfl ?_
        obtain ⟨x13, e14, hf⟩ := obnd hf
        refine ev_get (k := 0) C ok_12 dX12_odds__67 (by decide) kw_1159 (fR_V e14) ?_
        refine ev_bipush (v := 18) C dX12_odds__70 (by decide) ?_
        refine ev_iconst (v := 4) C dX12_odds__72 (by decide) ?_
        refine ev_iload C dX12_odds__73 (q := 5) rfl ?_
        refine ev_imul C dX12_odds__75 ?_
        refine ev_iadd C dX12_odds__76 ?_
        refine ev_iload_n C dX12_odds__77 rfl (q := 2) rfl ?_
        refine ev_iadd C dX12_odds__78 ?_
        obtain ⟨x15, e16, hf⟩ := obnd hf
        refine ev_iald C dX12_odds__79 e16 ?_
        refine ev_sub [0, 1, 2, 3, 5] rfl ?_
        exact t_X12_odds__J80 C E (m_X12_odds__L43 N  n) ih a0 i1 i2 i3 i5 i4 x15 M hf
      · have hf := oit hf hc
        refine ev_iconst (v := 0) C dX12_odds__62 (by decide) ?_
        refine ev_goto (tgt := 80) C dX12_odds__63 (by decide) ?_
        refine ev_sub [0, 1, 2, 3, 5] rfl ?_
        exact t_X12_odds__J80 C E (m_X12_odds__L43 N  n) ih a0 i1 i2 i3 i5 i4 0 M hf
def m_X12_odds_ (N : Nat) (a0 : Nat) (i1 : Int32) (i2 : Int32) (i3 : Int32) (M : mM) : Option (Int32 × mM) :=
  (oO M a0 12).bind fun _ =>
  (m_X12_isFare a0 i1 M).bind fun x3 =>
  if x3 = 0 then (
    some ((-1), M)) else (
    (m_X12_in i2.toInt64 0 3).bind fun x5 =>
    if x5 = 0 then (
      some ((-1), M)) else (
      (m_X12_in i3.toInt64 0 100).bind fun x7 =>
      if x7 = 0 then (
        some ((-2), M)) else (
        m_X12_odds__L43 N  N a0 i1 i2 i3 i3 0 M)))
set_option maxHeartbeats 4000000 in
set_option maxRecDepth 100000 in
theorem t_X12_odds_ {L0 : Launch} {M : mM} {N : Nat} {a0 : Nat} {i1 : Int32} {i2 : Int32} {i3 : Int32} {res : Int32 × mM} (hf : m_X12_odds_ N a0 i1 i2 i3 M = some res) : CT L0 yX12_odds_ prog_14_method_10_code 6 (some .int) 2 46 0 0 [.ref a0, .int i1, .int i2, .int i3] M (some (.int res.1)) res.2 := by
  refine CT.of (by decide +kernel) (Nat.le_of_ble_eq_true rfl) fun X C E => ?_
  have C : CX X RX12 "odds" prog_14_method_10_code 6 (some .int) := C
  show EV X 6 0 [(0, .ref a0), (1, .int i1), (2, .int i2), (3, .int i3)] [] 0 0 M
  unfold m_X12_odds_ at hf
  refine ev_aload_n C dX12_odds__0 rfl (q := 0) rfl ?_
  refine ev_iload_n C dX12_odds__1 rfl (q := 1) rfl ?_
  obtain ⟨_, e1, hf⟩ := obnd hf
  obtain ⟨fs2, e1⟩ := oO_eq e1
  obtain ⟨x3, e4, hf⟩ := obnd hf
  refine ev_callV0 (As := [.int i1]) (st := []) C rfl e1 (t_X12_isFare e4) rfl hd_X12_isFare rfl kw_1261 kw_1263 kw_87 kw_20 kw_1264 (mRoom.of E (Nat.le_of_ble_eq_true rfl) (Nat.le_of_ble_eq_true rfl) (Nat.le_refl 0) (Nat.le_refl 0)) (Nat.le_of_ble_eq_true rfl) dX12_odds__2 ?_
  refine ev_if_eq (tgt := 20) C dX12_odds__5 (by decide) (fun hc => ?_) (fun hc => ?_)
  · have hf := oit hf hc
    refine ev_iconst (v := (-1)) C dX12_odds__20 (by decide) ?_
    obtain rfl := Option.some.inj hf
    exact ev_iret C E (Nat.le_refl 0) (Nat.le_refl 0) dX12_odds__21
  · have hf := oie hf hc
    refine ev_iload_n C dX12_odds__8 rfl (q := 2) rfl ?_
    refine ev_i2l C dX12_odds__9 ?_
    refine ev_lconst (v := 0) C dX12_odds__10 (by decide) ?_
    refine ev_ldc2 (v := 3) C dX12_odds__11 kw_1252 ?_
    obtain ⟨x5, e6, hf⟩ := obnd hf
    refine ev_callS0 (As := [.long i2.toInt64, .long 0, .long 3]) (st := []) C (t_X12_in e6) hd_X12_in rfl kw_1253 kw_1254 kw_87 kw_1255 (mRoom.of E (Nat.le_of_ble_eq_true rfl) (Nat.le_of_ble_eq_true rfl) (Nat.le_refl 0) (Nat.le_refl 0)) (Nat.le_of_ble_eq_true rfl) dX12_odds__14 ?_
    refine ev_if_ne (tgt := 22) C dX12_odds__17 (by decide) (fun hc => ?_) (fun hc => ?_)
    · have hf := oie hf hc
      refine ev_iload_n C dX12_odds__22 rfl (q := 3) rfl ?_
      refine ev_i2l C dX12_odds__23 ?_
      refine ev_lconst (v := 0) C dX12_odds__24 (by decide) ?_
      refine ev_ldc2 (v := 100) C dX12_odds__25 kw_1274 ?_
      obtain ⟨x7, e8, hf⟩ := obnd hf
      refine ev_callS0 (As := [.long i3.toInt64, .long 0, .long 100]) (st := []) C (t_X12_in e8) hd_X12_in rfl kw_1253 kw_1254 kw_87 kw_1255 (mRoom.of E (Nat.le_of_ble_eq_true rfl) (Nat.le_of_ble_eq_true rfl) (Nat.le_refl 0) (Nat.le_refl 0)) (Nat.le_of_ble_eq_true rfl) dX12_odds__28 ?_
      refine ev_if_ne (tgt := 37) C dX12_odds__31 (by decide) (fun hc => ?_) (fun hc => ?_)
      · have hf := oie hf hc
        refine ev_iload_n C dX12_odds__37 rfl (q := 3) rfl ?_
        refine ev_istore (l' := [(4, .int i3), (0, .ref a0), (1, .int i1), (2, .int i2), (3, .int i3)]) C dX12_odds__38 (by decide) rfl ?_
        refine ev_iconst (v := 0) C dX12_odds__40 (by decide) ?_
        refine ev_istore (l' := [(5, .int 0), (4, .int i3), (0, .ref a0), (1, .int i1), (2, .int i2), (3, .int i3)]) C dX12_odds__41 (by decide) rfl ?_
        refine ev_sub [2, 3, 4, 5, 1, 0] rfl ?_
        exact t_X12_odds__L43 C E   N a0 i1 i2 i3 i3 0 M hf
      · have hf := oit hf hc
        refine ev_bipush (v := (-2)) C dX12_odds__34 (by decide) ?_
        obtain rfl := Option.some.inj hf
        exact ev_iret C E (Nat.le_refl 0) (Nat.le_refl 0) dX12_odds__36
    · have hf := oit hf hc
      refine ev_iconst (v := (-1)) C dX12_odds__20 (by decide) ?_
      obtain rfl := Option.some.inj hf
      exact ev_iret C E (Nat.le_refl 0) (Nat.le_refl 0) dX12_odds__21
/-! FareLimitsModel drop()I -/
theorem dX12_drop_0 : decode prog_14_method_11_code 0 = .ok (.aload_n 0, 1) := by decide +kernel
theorem dX12_drop_1 : decode prog_14_method_11_code 1 = .ok (.getfield 9, 3) := by decide +kernel
theorem dX12_drop_4 : decode prog_14_method_11_code 4 = .ok (.iconst 0, 1) := by decide +kernel
theorem dX12_drop_5 : decode prog_14_method_11_code 5 = .ok (.iaload, 1) := by decide +kernel
theorem dX12_drop_6 : decode prog_14_method_11_code 6 = .ok (.ifCond .ne 6, 3) := by decide +kernel
theorem dX12_drop_9 : decode prog_14_method_11_code 9 = .ok (.bipush (-3), 2) := by decide +kernel
theorem dX12_drop_11 : decode prog_14_method_11_code 11 = .ok (.ireturn, 1) := by decide +kernel
theorem dX12_drop_12 : decode prog_14_method_11_code 12 = .ok (.aload_n 0, 1) := by decide +kernel
theorem dX12_drop_13 : decode prog_14_method_11_code 13 = .ok (.getfield 9, 3) := by decide +kernel
theorem dX12_drop_16 : decode prog_14_method_11_code 16 = .ok (.iconst 0, 1) := by decide +kernel
theorem dX12_drop_17 : decode prog_14_method_11_code 17 = .ok (.dup2, 1) := by decide +kernel
theorem dX12_drop_18 : decode prog_14_method_11_code 18 = .ok (.iaload, 1) := by decide +kernel
theorem dX12_drop_19 : decode prog_14_method_11_code 19 = .ok (.iconst 1, 1) := by decide +kernel
theorem dX12_drop_20 : decode prog_14_method_11_code 20 = .ok (.isub, 1) := by decide +kernel
theorem dX12_drop_21 : decode prog_14_method_11_code 21 = .ok (.iastore, 1) := by decide +kernel
theorem dX12_drop_22 : decode prog_14_method_11_code 22 = .ok (.aload_n 0, 1) := by decide +kernel
theorem dX12_drop_23 : decode prog_14_method_11_code 23 = .ok (.getfield 9, 3) := by decide +kernel
theorem dX12_drop_26 : decode prog_14_method_11_code 26 = .ok (.iconst 0, 1) := by decide +kernel
theorem dX12_drop_27 : decode prog_14_method_11_code 27 = .ok (.iaload, 1) := by decide +kernel
theorem dX12_drop_28 : decode prog_14_method_11_code 28 = .ok (.ireturn, 1) := by decide +kernel
def m_X12_drop (a0 : Nat) (M : mM) : Option (Int32 × mM) :=
  (fR M a0 12 0).bind fun x1 =>
  (aI 0 M x1 0).bind fun x3 =>
  if x3 = 0 then (
    some ((-3), M)) else (
    (fR M a0 12 0).bind fun x5 =>
    (aI 0 M x5 0).bind fun x7 =>
    (uI 0 .int M x5 0 (x7 - 1)).bind fun M9 =>
    (fR M9 a0 12 0).bind fun x11 =>
    (aI 0 M9 x11 0).bind fun x13 =>
    some (x13, M9))
set_option maxHeartbeats 4000000 in
set_option maxRecDepth 100000 in
theorem t_X12_drop {L0 : Launch} {M : mM} {a0 : Nat} {res : Int32 × mM} (hf : m_X12_drop a0 M = some res) : CT L0 yX12_drop prog_14_method_11_code 1 (some .int) 0 0 0 0 [.ref a0] M (some (.int res.1)) res.2 := by
  refine CT.of (by decide +kernel) (Nat.le_of_ble_eq_true rfl) fun X C E => ?_
  have C : CX X RX12 "drop" prog_14_method_11_code 1 (some .int) := C
  show EV X 1 0 [(0, .ref a0)] [] 0 0 M
  unfold m_X12_drop at hf
  refine ev_aload_n C dX12_drop_0 rfl (q := 0) rfl ?_
  obtain ⟨x1, e2, hf⟩ := obnd hf
  refine ev_get (k := 0) C ok_12 dX12_drop_1 (by decide) kw_1159 (fR_V e2) ?_
  refine ev_iconst (v := 0) C dX12_drop_4 (by decide) ?_
  obtain ⟨x3, e4, hf⟩ := obnd hf
  refine ev_iald C dX12_drop_5 e4 ?_
  refine ev_if_ne (tgt := 12) C dX12_drop_6 (by decide) (fun hc => ?_) (fun hc => ?_)
  · have hf := oie hf hc
    refine ev_aload_n C dX12_drop_12 rfl (q := 0) rfl ?_
    obtain ⟨x5, e6, hf⟩ := obnd hf
    refine ev_get (k := 0) C ok_12 dX12_drop_13 (by decide) kw_1159 (fR_V e6) ?_
    refine ev_iconst (v := 0) C dX12_drop_16 (by decide) ?_
    refine ev_dup2_11 C dX12_drop_17 rfl rfl ?_
    obtain ⟨x7, e8, hf⟩ := obnd hf
    refine ev_iald C dX12_drop_18 e8 ?_
    refine ev_iconst (v := 1) C dX12_drop_19 (by decide) ?_
    refine ev_isub C dX12_drop_20 ?_
    obtain ⟨M9, e10, hf⟩ := obnd hf
    refine ev_iast C dX12_drop_21 e10 ?_
    refine ev_aload_n C dX12_drop_22 rfl (q := 0) rfl ?_
    obtain ⟨x11, e12, hf⟩ := obnd hf
    refine ev_get (k := 0) C ok_12 dX12_drop_23 (by decide) kw_1159 (fR_V e12) ?_
    refine ev_iconst (v := 0) C dX12_drop_26 (by decide) ?_
    obtain ⟨x13, e14, hf⟩ := obnd hf
    refine ev_iald C dX12_drop_27 e14 ?_
    obtain rfl := Option.some.inj hf
    exact ev_iret C E (Nat.le_refl 0) (Nat.le_refl 0) dX12_drop_28
  · have hf := oit hf hc
    refine ev_bipush (v := (-3)) C dX12_drop_9 (by decide) ?_
    obtain rfl := Option.some.inj hf
    exact ev_iret C E (Nat.le_refl 0) (Nat.le_refl 0) dX12_drop_11
/-! FareLimitsModel rule(II)I -/
theorem dX12_rule_0 : decode prog_14_method_12_code 0 = .ok (.iload_n 1, 1) := by decide +kernel
theorem dX12_rule_1 : decode prog_14_method_12_code 1 = .ok (.i2l, 1) := by decide +kernel
theorem dX12_rule_2 : decode prog_14_method_12_code 2 = .ok (.lconst 0, 1) := by decide +kernel
theorem dX12_rule_3 : decode prog_14_method_12_code 3 = .ok (.ldc2_w 78, 3) := by decide +kernel
theorem dX12_rule_6 : decode prog_14_method_12_code 6 = .ok (.invokestatic 72, 3) := by decide +kernel
theorem dX12_rule_9 : decode prog_14_method_12_code 9 = .ok (.ifCond .ne 5, 3) := by decide +kernel
theorem dX12_rule_12 : decode prog_14_method_12_code 12 = .ok (.iconst (-1), 1) := by decide +kernel
theorem dX12_rule_13 : decode prog_14_method_12_code 13 = .ok (.ireturn, 1) := by decide +kernel
theorem dX12_rule_14 : decode prog_14_method_12_code 14 = .ok (.iload_n 2, 1) := by decide +kernel
theorem dX12_rule_15 : decode prog_14_method_12_code 15 = .ok (.i2l, 1) := by decide +kernel
theorem dX12_rule_16 : decode prog_14_method_12_code 16 = .ok (.lconst 0, 1) := by decide +kernel
theorem dX12_rule_17 : decode prog_14_method_12_code 17 = .ok (.iload_n 1, 1) := by decide +kernel
theorem dX12_rule_18 : decode prog_14_method_12_code 18 = .ok (.ifCond .ne 9, 3) := by decide +kernel
theorem dX12_rule_21 : decode prog_14_method_12_code 21 = .ok (.ldc2_w 94, 3) := by decide +kernel
theorem dX12_rule_24 : decode prog_14_method_12_code 24 = .ok (.goto 17, 3) := by decide +kernel
theorem dX12_rule_27 : decode prog_14_method_12_code 27 = .ok (.iload_n 1, 1) := by decide +kernel
theorem dX12_rule_28 : decode prog_14_method_12_code 28 = .ok (.iconst 3, 1) := by decide +kernel
theorem dX12_rule_29 : decode prog_14_method_12_code 29 = .ok (.if_icmp .ne 9, 3) := by decide +kernel
theorem dX12_rule_32 : decode prog_14_method_12_code 32 = .ok (.ldc2_w 80, 3) := by decide +kernel
theorem dX12_rule_35 : decode prog_14_method_12_code 35 = .ok (.goto 6, 3) := by decide +kernel
theorem dX12_rule_38 : decode prog_14_method_12_code 38 = .ok (.ldc2_w 96, 3) := by decide +kernel
theorem dX12_rule_41 : decode prog_14_method_12_code 41 = .ok (.invokestatic 72, 3) := by decide +kernel
theorem dX12_rule_44 : decode prog_14_method_12_code 44 = .ok (.ifCond .ne 6, 3) := by decide +kernel
theorem dX12_rule_47 : decode prog_14_method_12_code 47 = .ok (.bipush (-2), 2) := by decide +kernel
theorem dX12_rule_49 : decode prog_14_method_12_code 49 = .ok (.ireturn, 1) := by decide +kernel
theorem dX12_rule_50 : decode prog_14_method_12_code 50 = .ok (.aload_n 0, 1) := by decide +kernel
theorem dX12_rule_51 : decode prog_14_method_12_code 51 = .ok (.getfield 9, 3) := by decide +kernel
theorem dX12_rule_54 : decode prog_14_method_12_code 54 = .ok (.iconst 1, 1) := by decide +kernel
theorem dX12_rule_55 : decode prog_14_method_12_code 55 = .ok (.iload_n 1, 1) := by decide +kernel
theorem dX12_rule_56 : decode prog_14_method_12_code 56 = .ok (.iadd, 1) := by decide +kernel
theorem dX12_rule_57 : decode prog_14_method_12_code 57 = .ok (.iaload, 1) := by decide +kernel
theorem dX12_rule_58 : decode prog_14_method_12_code 58 = .ok (.istore_n 3, 1) := by decide +kernel
theorem dX12_rule_59 : decode prog_14_method_12_code 59 = .ok (.aload_n 0, 1) := by decide +kernel
theorem dX12_rule_60 : decode prog_14_method_12_code 60 = .ok (.getfield 9, 3) := by decide +kernel
theorem dX12_rule_63 : decode prog_14_method_12_code 63 = .ok (.iconst 1, 1) := by decide +kernel
theorem dX12_rule_64 : decode prog_14_method_12_code 64 = .ok (.iload_n 1, 1) := by decide +kernel
theorem dX12_rule_65 : decode prog_14_method_12_code 65 = .ok (.iadd, 1) := by decide +kernel
theorem dX12_rule_66 : decode prog_14_method_12_code 66 = .ok (.iload_n 2, 1) := by decide +kernel
theorem dX12_rule_67 : decode prog_14_method_12_code 67 = .ok (.iastore, 1) := by decide +kernel
theorem dX12_rule_68 : decode prog_14_method_12_code 68 = .ok (.iload_n 3, 1) := by decide +kernel
theorem dX12_rule_69 : decode prog_14_method_12_code 69 = .ok (.ireturn, 1) := by decide +kernel
def m_X12_rule_J41  (a0 : Nat) (i1 : Int32) (i2 : Int32) (sj0 : Int64) (sj1 : Int64) (sj2 : Int64) (M : mM) : Option (Int32 × mM) :=
  (m_X12_in sj0 sj1 sj2).bind fun x1 =>
  if x1 = 0 then (
    some ((-2), M)) else (
    (fR M a0 12 0).bind fun x3 =>
    (aI 0 M x3 (1 + i1)).bind fun x5 =>
    (fR M a0 12 0).bind fun x7 =>
    (uI 0 .int M x7 (1 + i1) i2).bind fun M9 =>
    some (x5, M9))
set_option maxHeartbeats 4000000 in
set_option maxRecDepth 100000 in
theorem t_X12_rule_J41 {X : mX} {L0 : Launch} {res : Int32 × mM} (C : CX X RX12 "rule" prog_14_method_12_code 4 (some .int)) (E : EX X L0 1 25 0 0 (some (.int res.1)) res.2)   (a0 : Nat) (i1 : Int32) (i2 : Int32) (sj0 : Int64) (sj1 : Int64) (sj2 : Int64) (M : mM) (hf : m_X12_rule_J41  a0 i1 i2 sj0 sj1 sj2 M = some res) : EV X 4 41 [(0, .ref a0), (1, .int i1), (2, .int i2)] [.long sj2, .long sj1, .long sj0] 0 0 M := by
  unfold m_X12_rule_J41 at hf
  obtain ⟨x1, e2, hf⟩ := obnd hf
  refine ev_callS0 (As := [.long sj0, .long sj1, .long sj2]) (st := []) C (t_X12_in e2) hd_X12_in rfl kw_1253 kw_1254 kw_87 kw_1255 (mRoom.of E (Nat.le_of_ble_eq_true rfl) (Nat.le_of_ble_eq_true rfl) (Nat.le_refl 0) (Nat.le_refl 0)) (Nat.le_of_ble_eq_true rfl) dX12_rule_41 ?_
  refine ev_if_ne (tgt := 50) C dX12_rule_44 (by decide) (fun hc => ?_) (fun hc => ?_)
  · have hf := oie hf hc
    refine ev_aload_n C dX12_rule_50 rfl (q := 0) rfl ?_
    obtain ⟨x3, e4, hf⟩ := obnd hf
    refine ev_get (k := 0) C ok_12 dX12_rule_51 (by decide) kw_1159 (fR_V e4) ?_
    refine ev_iconst (v := 1) C dX12_rule_54 (by decide) ?_
    refine ev_iload_n C dX12_rule_55 rfl (q := 1) rfl ?_
    refine ev_iadd C dX12_rule_56 ?_
    obtain ⟨x5, e6, hf⟩ := obnd hf
    refine ev_iald C dX12_rule_57 e6 ?_
    refine ev_istore_n (l' := [(3, .int x5), (0, .ref a0), (1, .int i1), (2, .int i2)]) C dX12_rule_58 rfl (by decide) rfl ?_
    refine ev_aload_n C dX12_rule_59 rfl (q := 1) rfl ?_
    obtain ⟨x7, e8, hf⟩ := obnd hf
    refine ev_get (k := 0) C ok_12 dX12_rule_60 (by decide) kw_1159 (fR_V e8) ?_
    refine ev_iconst (v := 1) C dX12_rule_63 (by decide) ?_
    refine ev_iload_n C dX12_rule_64 rfl (q := 2) rfl ?_
    refine ev_iadd C dX12_rule_65 ?_
    refine ev_iload_n C dX12_rule_66 rfl (q := 3) rfl ?_
    obtain ⟨M9, e10, hf⟩ := obnd hf
    refine ev_iast C dX12_rule_67 e10 ?_
    refine ev_iload_n C dX12_rule_68 rfl (q := 0) rfl ?_
    obtain rfl := Option.some.inj hf
    exact ev_iret C E (Nat.le_refl 0) (Nat.le_refl 0) dX12_rule_69
  · have hf := oit hf hc
    refine ev_bipush (v := (-2)) C dX12_rule_47 (by decide) ?_
    obtain rfl := Option.some.inj hf
    exact ev_iret C E (Nat.le_refl 0) (Nat.le_refl 0) dX12_rule_49
def m_X12_rule (a0 : Nat) (i1 : Int32) (i2 : Int32) (M : mM) : Option (Int32 × mM) :=
  (m_X12_in i1.toInt64 0 3).bind fun x1 =>
  if x1 = 0 then (
    some ((-1), M)) else (
    if i1 = 0 then (
      m_X12_rule_J41  a0 i1 i2 i2.toInt64 0 30 M) else (
      if i1 = 3 then (
        m_X12_rule_J41  a0 i1 i2 i2.toInt64 0 9999 M) else (
        m_X12_rule_J41  a0 i1 i2 i2.toInt64 0 50 M)))
set_option maxHeartbeats 4000000 in
set_option maxRecDepth 100000 in
theorem t_X12_rule {L0 : Launch} {M : mM} {a0 : Nat} {i1 : Int32} {i2 : Int32} {res : Int32 × mM} (hf : m_X12_rule a0 i1 i2 M = some res) : CT L0 yX12_rule prog_14_method_12_code 4 (some .int) 1 25 0 0 [.ref a0, .int i1, .int i2] M (some (.int res.1)) res.2 := by
  refine CT.of (by decide +kernel) (Nat.le_of_ble_eq_true rfl) fun X C E => ?_
  have C : CX X RX12 "rule" prog_14_method_12_code 4 (some .int) := C
  show EV X 4 0 [(0, .ref a0), (1, .int i1), (2, .int i2)] [] 0 0 M
  unfold m_X12_rule at hf
  refine ev_iload_n C dX12_rule_0 rfl (q := 1) rfl ?_
  refine ev_i2l C dX12_rule_1 ?_
  refine ev_lconst (v := 0) C dX12_rule_2 (by decide) ?_
  refine ev_ldc2 (v := 3) C dX12_rule_3 kw_1252 ?_
  obtain ⟨x1, e2, hf⟩ := obnd hf
  refine ev_callS0 (As := [.long i1.toInt64, .long 0, .long 3]) (st := []) C (t_X12_in e2) hd_X12_in rfl kw_1253 kw_1254 kw_87 kw_1255 (mRoom.of E (Nat.le_of_ble_eq_true rfl) (Nat.le_of_ble_eq_true rfl) (Nat.le_refl 0) (Nat.le_refl 0)) (Nat.le_of_ble_eq_true rfl) dX12_rule_6 ?_
  refine ev_if_ne (tgt := 14) C dX12_rule_9 (by decide) (fun hc => ?_) (fun hc => ?_)
  · have hf := oie hf hc
    refine ev_iload_n C dX12_rule_14 rfl (q := 2) rfl ?_
    refine ev_i2l C dX12_rule_15 ?_
    refine ev_lconst (v := 0) C dX12_rule_16 (by decide) ?_
    refine ev_iload_n C dX12_rule_17 rfl (q := 1) rfl ?_
    refine ev_if_ne (tgt := 27) C dX12_rule_18 (by decide) (fun hc => ?_) (fun hc => ?_)
    · have hf := oie hf hc
      refine ev_iload_n C dX12_rule_27 rfl (q := 1) rfl ?_
      refine ev_iconst (v := 3) C dX12_rule_28 (by decide) ?_
      refine ev_icmp_ne (tgt := 38) C dX12_rule_29 (by decide) (fun hc => ?_) (fun hc => ?_)
      · have hf := oie hf hc
        refine ev_ldc2 (v := 50) C dX12_rule_38 kw_1284 ?_
        exact t_X12_rule_J41 C E   a0 i1 i2 i2.toInt64 0 50 M hf
      · have hf := oit hf hc
        refine ev_ldc2 (v := 9999) C dX12_rule_32 kw_1256 ?_
        refine ev_goto (tgt := 41) C dX12_rule_35 (by decide) ?_
        exact t_X12_rule_J41 C E   a0 i1 i2 i2.toInt64 0 9999 M hf
    · have hf := oit hf hc
      refine ev_ldc2 (v := 30) C dX12_rule_21 kw_1283 ?_
      refine ev_goto (tgt := 41) C dX12_rule_24 (by decide) ?_
      exact t_X12_rule_J41 C E   a0 i1 i2 i2.toInt64 0 30 M hf
  · have hf := oit hf hc
    refine ev_iconst (v := (-1)) C dX12_rule_12 (by decide) ?_
    obtain rfl := Option.some.inj hf
    exact ev_iret C E (Nat.le_refl 0) (Nat.le_refl 0) dX12_rule_13
/-! FareLimitsModel showing(I)D -/
theorem dX12_showing_0 : decode prog_14_method_13_code 0 = .ok (.dconst 1, 1) := by decide +kernel
theorem dX12_showing_1 : decode prog_14_method_13_code 1 = .ok (.aload_n 0, 1) := by decide +kernel
theorem dX12_showing_2 : decode prog_14_method_13_code 2 = .ok (.getfield 9, 3) := by decide +kernel
theorem dX12_showing_5 : decode prog_14_method_13_code 5 = .ok (.iconst 2, 1) := by decide +kernel
theorem dX12_showing_6 : decode prog_14_method_13_code 6 = .ok (.iaload, 1) := by decide +kernel
theorem dX12_showing_7 : decode prog_14_method_13_code 7 = .ok (.i2d, 1) := by decide +kernel
theorem dX12_showing_8 : decode prog_14_method_13_code 8 = .ok (.ldc2_w 98, 3) := by decide +kernel
theorem dX12_showing_11 : decode prog_14_method_13_code 11 = .ok (.ddiv, 1) := by decide +kernel
theorem dX12_showing_12 : decode prog_14_method_13_code 12 = .ok (.dsub, 1) := by decide +kernel
theorem dX12_showing_13 : decode prog_14_method_13_code 13 = .ok (.dstore_n 2, 1) := by decide +kernel
theorem dX12_showing_14 : decode prog_14_method_13_code 14 = .ok (.dconst 1, 1) := by decide +kernel
theorem dX12_showing_15 : decode prog_14_method_13_code 15 = .ok (.aload_n 0, 1) := by decide +kernel
theorem dX12_showing_16 : decode prog_14_method_13_code 16 = .ok (.getfield 9, 3) := by decide +kernel
theorem dX12_showing_19 : decode prog_14_method_13_code 19 = .ok (.iconst 3, 1) := by decide +kernel
theorem dX12_showing_20 : decode prog_14_method_13_code 20 = .ok (.iaload, 1) := by decide +kernel
theorem dX12_showing_21 : decode prog_14_method_13_code 21 = .ok (.i2d, 1) := by decide +kernel
theorem dX12_showing_22 : decode prog_14_method_13_code 22 = .ok (.ldc2_w 98, 3) := by decide +kernel
theorem dX12_showing_25 : decode prog_14_method_13_code 25 = .ok (.ddiv, 1) := by decide +kernel
theorem dX12_showing_26 : decode prog_14_method_13_code 26 = .ok (.dsub, 1) := by decide +kernel
theorem dX12_showing_27 : decode prog_14_method_13_code 27 = .ok (.dstore 4, 2) := by decide +kernel
theorem dX12_showing_29 : decode prog_14_method_13_code 29 = .ok (.iconst 0, 1) := by decide +kernel
theorem dX12_showing_30 : decode prog_14_method_13_code 30 = .ok (.istore 6, 2) := by decide +kernel
theorem dX12_showing_32 : decode prog_14_method_13_code 32 = .ok (.iload 6, 2) := by decide +kernel
theorem dX12_showing_34 : decode prog_14_method_13_code 34 = .ok (.iload_n 1, 1) := by decide +kernel
theorem dX12_showing_35 : decode prog_14_method_13_code 35 = .ok (.if_icmp .ge 15, 3) := by decide +kernel
theorem dX12_showing_38 : decode prog_14_method_13_code 38 = .ok (.dload 4, 2) := by decide +kernel
theorem dX12_showing_40 : decode prog_14_method_13_code 40 = .ok (.dload_n 2, 1) := by decide +kernel
theorem dX12_showing_41 : decode prog_14_method_13_code 41 = .ok (.dmul, 1) := by decide +kernel
theorem dX12_showing_42 : decode prog_14_method_13_code 42 = .ok (.dstore 4, 2) := by decide +kernel
theorem dX12_showing_44 : decode prog_14_method_13_code 44 = .ok (.iinc 6 1, 3) := by decide +kernel
theorem dX12_showing_47 : decode prog_14_method_13_code 47 = .ok (.goto (-15), 3) := by decide +kernel
theorem dX12_showing_50 : decode prog_14_method_13_code 50 = .ok (.dload 4, 2) := by decide +kernel
theorem dX12_showing_52 : decode prog_14_method_13_code 52 = .ok (.dreturn, 1) := by decide +kernel
def m_X12_showing_L32 (N : Nat) (M : mM)  : Nat → Int32 → UInt64 → UInt64 → Int32 → Option (UInt64)
  | 0, _, _, _, _ => none
  | n + 1, i1, d2, d4, i6 =>
    if i1 ≤ i6 then (
      some d4) else (
      (oD (FP.dmul d4 d2)).bind fun x1 =>
      (m_X12_showing_L32 N M  n) i1 d2 x1 (i6 + 1))
set_option maxHeartbeats 4000000 in
set_option maxRecDepth 100000 in
theorem t_X12_showing_L32 {X : mX} {M : mM} {L0 : Launch} {res : UInt64} {N : Nat} (C : CX X RX12 "showing" prog_14_method_13_code 7 (some .double)) (E : EX X L0 0 0 0 0 (some (.double res)) M)   : ∀ (n : Nat) (i1 : Int32) (d2 : UInt64) (d4 : UInt64) (i6 : Int32), m_X12_showing_L32 N M  n i1 d2 d4 i6 = some res → EV X 7 32 [(1, .int i1), (2, .double d2), (4, .double d4), (6, .int i6)] [] 0 0 M := by
  intro n
  induction n with
  | zero => intro i1 d2 d4 i6 hf; cases (show (none : Option (UInt64)) = some res from hf)
  | succ n ih =>
    intro i1 d2 d4 i6 hf
    rw [m_X12_showing_L32] at hf
    refine ev_iload C dX12_showing_32 (q := 3) rfl ?_
    refine ev_iload_n C dX12_showing_34 rfl (q := 0) rfl ?_
    refine ev_icmp_ge (tgt := 50) C dX12_showing_35 (by decide) (fun hc => ?_) (fun hc => ?_)
    · have hf := oit hf hc
      refine ev_dload C dX12_showing_50 (q := 2) rfl ?_
      obtain rfl := Option.some.inj hf
      exact ev_dret C E (Nat.le_refl 0) (Nat.le_refl 0) dX12_showing_52
    · have hf := oie hf hc
      refine ev_dload C dX12_showing_38 (q := 2) rfl ?_
      refine ev_dload_n C dX12_showing_40 rfl (q := 1) rfl ?_
      obtain ⟨x1, e2, hf⟩ := obnd hf
      obtain ⟨e2, e2q⟩ := oD_eq e2
      refine ev_dmul C dX12_showing_41 e2 ?_
      rw [← e2q]
      refine ev_dstore (l' := [(4, .double x1), (1, .int i1), (2, .double d2), (6, .int i6)]) C dX12_showing_42 (by decide) rfl ?_
      refine ev_iinc (v := i6 + 1) (l' := [(6, .int (i6 + 1)), (4, .double x1), (1, .int i1), (2, .double d2)]) C dX12_showing_44 (q := 3) rfl rfl (by decide) rfl ?_
      refine ev_goto (tgt := 32) C dX12_showing_47 (by decide) ?_
      refine ev_sub [2, 3, 1, 0] rfl ?_
      exact ih i1 d2 x1 (i6 + 1) hf
def m_X12_showing (N : Nat) (a0 : Nat) (i1 : Int32) (M : mM) : Option (UInt64) :=
  (fR M a0 12 0).bind fun x1 =>
  (aI 0 M x1 2).bind fun x3 =>
  (oD (FP.ddiv (FP.i2d x3) 4636737291354636288)).bind fun x5 =>
  (oD (FP.dsub FP.dconst1 x5)).bind fun x7 =>
  (fR M a0 12 0).bind fun x9 =>
  (aI 0 M x9 3).bind fun x11 =>
  (oD (FP.ddiv (FP.i2d x11) 4636737291354636288)).bind fun x13 =>
  (oD (FP.dsub FP.dconst1 x13)).bind fun x15 =>
  m_X12_showing_L32 N M  N i1 x7 x15 0
set_option maxHeartbeats 4000000 in
set_option maxRecDepth 100000 in
theorem t_X12_showing {L0 : Launch} {M : mM} {N : Nat} {a0 : Nat} {i1 : Int32} {res : UInt64} (hf : m_X12_showing N a0 i1 M = some res) : CT L0 yX12_showing prog_14_method_13_code 7 (some .double) 0 0 0 0 [.ref a0, .int i1] M (some (.double res)) M := by
  refine CT.of (by decide +kernel) (Nat.le_of_ble_eq_true rfl) fun X C E => ?_
  have C : CX X RX12 "showing" prog_14_method_13_code 7 (some .double) := C
  show EV X 7 0 [(0, .ref a0), (1, .int i1)] [] 0 0 M
  unfold m_X12_showing at hf
  refine ev_dconst1 C dX12_showing_0 ?_
  refine ev_aload_n C dX12_showing_1 rfl (q := 0) rfl ?_
  obtain ⟨x1, e2, hf⟩ := obnd hf
  refine ev_get (k := 0) C ok_12 dX12_showing_2 (by decide) kw_1159 (fR_V e2) ?_
  refine ev_iconst (v := 2) C dX12_showing_5 (by decide) ?_
  obtain ⟨x3, e4, hf⟩ := obnd hf
  refine ev_iald C dX12_showing_6 e4 ?_
  refine ev_i2d C dX12_showing_7 ?_
  refine ev_ldc2d (v := 4636737291354636288) C dX12_showing_8 kw_1297 ?_
  obtain ⟨x5, e6, hf⟩ := obnd hf
  obtain ⟨e6, e6q⟩ := oD_eq e6
  refine ev_ddiv C dX12_showing_11 e6 ?_
  rw [← e6q]
  obtain ⟨x7, e8, hf⟩ := obnd hf
  obtain ⟨e8, e8q⟩ := oD_eq e8
  refine ev_dsub C dX12_showing_12 e8 ?_
  rw [← e8q]
  refine ev_dstore_n (l' := [(2, .double x7), (0, .ref a0), (1, .int i1)]) C dX12_showing_13 rfl (by decide) rfl ?_
  refine ev_dconst1 C dX12_showing_14 ?_
  refine ev_aload_n C dX12_showing_15 rfl (q := 1) rfl ?_
  obtain ⟨x9, e10, hf⟩ := obnd hf
  refine ev_get (k := 0) C ok_12 dX12_showing_16 (by decide) kw_1159 (fR_V e10) ?_
  refine ev_iconst (v := 3) C dX12_showing_19 (by decide) ?_
  obtain ⟨x11, e12, hf⟩ := obnd hf
  refine ev_iald C dX12_showing_20 e12 ?_
  refine ev_i2d C dX12_showing_21 ?_
  refine ev_ldc2d (v := 4636737291354636288) C dX12_showing_22 kw_1297 ?_
  obtain ⟨x13, e14, hf⟩ := obnd hf
  obtain ⟨e14, e14q⟩ := oD_eq e14
  refine ev_ddiv C dX12_showing_25 e14 ?_
  rw [← e14q]
  obtain ⟨x15, e16, hf⟩ := obnd hf
  obtain ⟨e16, e16q⟩ := oD_eq e16
  refine ev_dsub C dX12_showing_26 e16 ?_
  rw [← e16q]
  refine ev_dstore (l' := [(4, .double x15), (2, .double x7), (0, .ref a0), (1, .int i1)]) C dX12_showing_27 (by decide) rfl ?_
  refine ev_iconst (v := 0) C dX12_showing_29 (by decide) ?_
  refine ev_istore (l' := [(6, .int 0), (4, .double x15), (2, .double x7), (0, .ref a0), (1, .int i1)]) C dX12_showing_30 (by decide) rfl ?_
  refine ev_sub [4, 2, 1, 0] rfl ?_
  exact t_X12_showing_L32 C E   N i1 x7 x15 0 hf
/-! FareLimitsModel keeps(I)D -/
theorem dX12_keeps_0 : decode prog_14_method_14_code 0 = .ok (.iload_n 0, 1) := by decide +kernel
theorem dX12_keeps_1 : decode prog_14_method_14_code 1 = .ok (.ifCond .ne 9, 3) := by decide +kernel
theorem dX12_keeps_4 : decode prog_14_method_14_code 4 = .ok (.ldc2_w 100, 3) := by decide +kernel
theorem dX12_keeps_7 : decode prog_14_method_14_code 7 = .ok (.goto 24, 3) := by decide +kernel
theorem dX12_keeps_10 : decode prog_14_method_14_code 10 = .ok (.iload_n 0, 1) := by decide +kernel
theorem dX12_keeps_11 : decode prog_14_method_14_code 11 = .ok (.iconst 1, 1) := by decide +kernel
theorem dX12_keeps_12 : decode prog_14_method_14_code 12 = .ok (.if_icmp .ne 7, 3) := by decide +kernel
theorem dX12_keeps_15 : decode prog_14_method_14_code 15 = .ok (.dconst 0, 1) := by decide +kernel
theorem dX12_keeps_16 : decode prog_14_method_14_code 16 = .ok (.goto 15, 3) := by decide +kernel
theorem dX12_keeps_19 : decode prog_14_method_14_code 19 = .ok (.iload_n 0, 1) := by decide +kernel
theorem dX12_keeps_20 : decode prog_14_method_14_code 20 = .ok (.iconst 2, 1) := by decide +kernel
theorem dX12_keeps_21 : decode prog_14_method_14_code 21 = .ok (.if_icmp .ne 7, 3) := by decide +kernel
theorem dX12_keeps_24 : decode prog_14_method_14_code 24 = .ok (.dconst 1, 1) := by decide +kernel
theorem dX12_keeps_25 : decode prog_14_method_14_code 25 = .ok (.goto 6, 3) := by decide +kernel
theorem dX12_keeps_28 : decode prog_14_method_14_code 28 = .ok (.ldc2_w 102, 3) := by decide +kernel
theorem dX12_keeps_31 : decode prog_14_method_14_code 31 = .ok (.dreturn, 1) := by decide +kernel
def m_X12_keeps (i0 : Int32) : Option (UInt64) :=
  if i0 = 0 then (
    some 4602678819172646912) else (
    if i0 = 1 then (
      some FP.dconst0) else (
      if i0 = 2 then (
        some FP.dconst1) else (
        some 4604930618986332160)))
set_option maxHeartbeats 4000000 in
set_option maxRecDepth 100000 in
theorem t_X12_keeps {L0 : Launch} {M : mM} {i0 : Int32} {res : UInt64} (hf : m_X12_keeps i0 = some res) : CT L0 yX12_keeps prog_14_method_14_code 1 (some .double) 0 0 0 0 [.int i0] M (some (.double res)) M := by
  refine CT.of (by decide +kernel) (Nat.le_of_ble_eq_true rfl) fun X C E => ?_
  have C : CX X RX12 "keeps" prog_14_method_14_code 1 (some .double) := C
  show EV X 1 0 [(0, .int i0)] [] 0 0 M
  unfold m_X12_keeps at hf
  refine ev_iload_n C dX12_keeps_0 rfl (q := 0) rfl ?_
  refine ev_if_ne (tgt := 10) C dX12_keeps_1 (by decide) (fun hc => ?_) (fun hc => ?_)
  · have hf := oie hf hc
    refine ev_iload_n C dX12_keeps_10 rfl (q := 0) rfl ?_
    refine ev_iconst (v := 1) C dX12_keeps_11 (by decide) ?_
    refine ev_icmp_ne (tgt := 19) C dX12_keeps_12 (by decide) (fun hc => ?_) (fun hc => ?_)
    · have hf := oie hf hc
      refine ev_iload_n C dX12_keeps_19 rfl (q := 0) rfl ?_
      refine ev_iconst (v := 2) C dX12_keeps_20 (by decide) ?_
      refine ev_icmp_ne (tgt := 28) C dX12_keeps_21 (by decide) (fun hc => ?_) (fun hc => ?_)
      · have hf := oie hf hc
        refine ev_ldc2d (v := 4604930618986332160) C dX12_keeps_28 kw_1321 ?_
        obtain rfl := Option.some.inj hf
        exact ev_dret C E (Nat.le_refl 0) (Nat.le_refl 0) dX12_keeps_31
      · have hf := oit hf hc
        refine ev_dconst1 C dX12_keeps_24 ?_
        refine ev_goto (tgt := 31) C dX12_keeps_25 (by decide) ?_
        obtain rfl := Option.some.inj hf
        exact ev_dret C E (Nat.le_refl 0) (Nat.le_refl 0) dX12_keeps_31
    · have hf := oit hf hc
      refine ev_dconst0 C dX12_keeps_15 ?_
      refine ev_goto (tgt := 31) C dX12_keeps_16 (by decide) ?_
      obtain rfl := Option.some.inj hf
      exact ev_dret C E (Nat.le_refl 0) (Nat.le_refl 0) dX12_keeps_31
  · have hf := oit hf hc
    refine ev_ldc2d (v := 4602678819172646912) C dX12_keeps_4 kw_1320 ?_
    refine ev_goto (tgt := 31) C dX12_keeps_7 (by decide) ?_
    obtain rfl := Option.some.inj hf
    exact ev_dret C E (Nat.le_refl 0) (Nat.le_refl 0) dX12_keeps_31
/-! FareLimitsModel netOf(II)D -/
theorem dX12_netOf_0 : decode prog_14_method_15_code 0 = .ok (.aload_n 0, 1) := by decide +kernel
theorem dX12_netOf_1 : decode prog_14_method_15_code 1 = .ok (.iload_n 2, 1) := by decide +kernel
theorem dX12_netOf_2 : decode prog_14_method_15_code 2 = .ok (.invokevirtual 104, 3) := by decide +kernel
theorem dX12_netOf_5 : decode prog_14_method_15_code 5 = .ok (.dstore_n 3, 1) := by decide +kernel
theorem dX12_netOf_6 : decode prog_14_method_15_code 6 = .ok (.aload_n 0, 1) := by decide +kernel
theorem dX12_netOf_7 : decode prog_14_method_15_code 7 = .ok (.iload_n 1, 1) := by decide +kernel
theorem dX12_netOf_8 : decode prog_14_method_15_code 8 = .ok (.invokevirtual 88, 3) := by decide +kernel
theorem dX12_netOf_11 : decode prog_14_method_15_code 11 = .ok (.i2d, 1) := by decide +kernel
theorem dX12_netOf_12 : decode prog_14_method_15_code 12 = .ok (.dload_n 3, 1) := by decide +kernel
theorem dX12_netOf_13 : decode prog_14_method_15_code 13 = .ok (.dconst 1, 1) := by decide +kernel
theorem dX12_netOf_14 : decode prog_14_method_15_code 14 = .ok (.dload_n 3, 1) := by decide +kernel
theorem dX12_netOf_15 : decode prog_14_method_15_code 15 = .ok (.dsub, 1) := by decide +kernel
theorem dX12_netOf_16 : decode prog_14_method_15_code 16 = .ok (.aload_n 0, 1) := by decide +kernel
theorem dX12_netOf_17 : decode prog_14_method_15_code 17 = .ok (.getfield 9, 3) := by decide +kernel
theorem dX12_netOf_20 : decode prog_14_method_15_code 20 = .ok (.bipush 6, 2) := by decide +kernel
theorem dX12_netOf_22 : decode prog_14_method_15_code 22 = .ok (.iload_n 1, 1) := by decide +kernel
theorem dX12_netOf_23 : decode prog_14_method_15_code 23 = .ok (.iadd, 1) := by decide +kernel
theorem dX12_netOf_24 : decode prog_14_method_15_code 24 = .ok (.iaload, 1) := by decide +kernel
theorem dX12_netOf_25 : decode prog_14_method_15_code 25 = .ok (.invokestatic 108, 3) := by decide +kernel
theorem dX12_netOf_28 : decode prog_14_method_15_code 28 = .ok (.dmul, 1) := by decide +kernel
theorem dX12_netOf_29 : decode prog_14_method_15_code 29 = .ok (.dadd, 1) := by decide +kernel
theorem dX12_netOf_30 : decode prog_14_method_15_code 30 = .ok (.dmul, 1) := by decide +kernel
theorem dX12_netOf_31 : decode prog_14_method_15_code 31 = .ok (.dreturn, 1) := by decide +kernel
def m_X12_netOf (N : Nat) (a0 : Nat) (i1 : Int32) (i2 : Int32) (M : mM) : Option (UInt64) :=
  (oO M a0 12).bind fun _ =>
  (m_X12_showing N a0 i2 M).bind fun x3 =>
  (oO M a0 12).bind fun _ =>
  (m_X12_price a0 i1 M).bind fun x7 =>
  (oD (FP.dsub FP.dconst1 x3)).bind fun x9 =>
  (fR M a0 12 0).bind fun x11 =>
  (aI 0 M x11 (6 + i1)).bind fun x13 =>
  (m_X12_keeps x13).bind fun x15 =>
  (oD (FP.dmul x9 x15)).bind fun x17 =>
  (oD (FP.dadd x3 x17)).bind fun x19 =>
  (oD (FP.dmul (FP.i2d x7) x19)).bind fun x21 =>
  some x21
set_option maxHeartbeats 4000000 in
set_option maxRecDepth 100000 in
theorem t_X12_netOf {L0 : Launch} {M : mM} {N : Nat} {a0 : Nat} {i1 : Int32} {i2 : Int32} {res : UInt64} (hf : m_X12_netOf N a0 i1 i2 M = some res) : CT L0 yX12_netOf prog_14_method_15_code 5 (some .double) 1 26 0 0 [.ref a0, .int i1, .int i2] M (some (.double res)) M := by
  refine CT.of (by decide +kernel) (Nat.le_of_ble_eq_true rfl) fun X C E => ?_
  have C : CX X RX12 "netOf" prog_14_method_15_code 5 (some .double) := C
  show EV X 5 0 [(0, .ref a0), (1, .int i1), (2, .int i2)] [] 0 0 M
  unfold m_X12_netOf at hf
  refine ev_aload_n C dX12_netOf_0 rfl (q := 0) rfl ?_
  refine ev_iload_n C dX12_netOf_1 rfl (q := 2) rfl ?_
  obtain ⟨_, e1, hf⟩ := obnd hf
  obtain ⟨fs2, e1⟩ := oO_eq e1
  obtain ⟨x3, e4, hf⟩ := obnd hf
  refine ev_callV0 (As := [.int i2]) (st := []) C rfl e1 (t_X12_showing e4) rfl hd_X12_showing rfl kw_1293 kw_1295 kw_87 kw_22 kw_1296 (mRoom.of E (Nat.le_of_ble_eq_true rfl) (Nat.le_of_ble_eq_true rfl) (Nat.le_refl 0) (Nat.le_refl 0)) (Nat.le_of_ble_eq_true rfl) dX12_netOf_2 ?_
  refine ev_dstore_n (l' := [(3, .double x3), (0, .ref a0), (1, .int i1), (2, .int i2)]) C dX12_netOf_5 rfl (by decide) rfl ?_
  refine ev_aload_n C dX12_netOf_6 rfl (q := 1) rfl ?_
  refine ev_iload_n C dX12_netOf_7 rfl (q := 2) rfl ?_
  obtain ⟨_, e5, hf⟩ := obnd hf
  obtain ⟨fs6, e5⟩ := oO_eq e5
  obtain ⟨x7, e8, hf⟩ := obnd hf
  refine ev_callV0 (As := [.int i1]) (st := []) C rfl e5 (t_X12_price e8) rfl hd_X12_price rfl kw_1266 kw_1268 kw_87 kw_21 kw_1269 (mRoom.of E (Nat.le_of_ble_eq_true rfl) (Nat.le_of_ble_eq_true rfl) (Nat.le_refl 0) (Nat.le_refl 0)) (Nat.le_of_ble_eq_true rfl) dX12_netOf_8 ?_
  refine ev_i2d C dX12_netOf_11 ?_
  refine ev_dload_n C dX12_netOf_12 rfl (q := 0) rfl ?_
  refine ev_dconst1 C dX12_netOf_13 ?_
  refine ev_dload_n C dX12_netOf_14 rfl (q := 0) rfl ?_
  obtain ⟨x9, e10, hf⟩ := obnd hf
  obtain ⟨e10, e10q⟩ := oD_eq e10
  refine ev_dsub C dX12_netOf_15 e10 ?_
  rw [← e10q]
  refine ev_aload_n C dX12_netOf_16 rfl (q := 1) rfl ?_
  obtain ⟨x11, e12, hf⟩ := obnd hf
  refine ev_get (k := 0) C ok_12 dX12_netOf_17 (by decide) kw_1159 (fR_V e12) ?_
  refine ev_bipush (v := 6) C dX12_netOf_20 (by decide) ?_
  refine ev_iload_n C dX12_netOf_22 rfl (q := 2) rfl ?_
  refine ev_iadd C dX12_netOf_23 ?_
  obtain ⟨x13, e14, hf⟩ := obnd hf
  refine ev_iald C dX12_netOf_24 e14 ?_
  obtain ⟨x15, e16, hf⟩ := obnd hf
  refine ev_callS0 (As := [.int x13]) (st := [.double x9, .double x3, .double (FP.i2d x7)]) C (t_X12_keeps e16) hd_X12_keeps rfl kw_1317 kw_1318 kw_87 kw_1319 (mRoom.of E (Nat.le_of_ble_eq_true rfl) (Nat.le_of_ble_eq_true rfl) (Nat.le_refl 0) (Nat.le_refl 0)) (Nat.le_of_ble_eq_true rfl) dX12_netOf_25 ?_
  obtain ⟨x17, e18, hf⟩ := obnd hf
  obtain ⟨e18, e18q⟩ := oD_eq e18
  refine ev_dmul C dX12_netOf_28 e18 ?_
  rw [← e18q]
  obtain ⟨x19, e20, hf⟩ := obnd hf
  obtain ⟨e20, e20q⟩ := oD_eq e20
  refine ev_dadd C dX12_netOf_29 e20 ?_
  rw [← e20q]
  obtain ⟨x21, e22, hf⟩ := obnd hf
  obtain ⟨e22, e22q⟩ := oD_eq e22
  refine ev_dmul C dX12_netOf_30 e22 ?_
  rw [← e22q]
  obtain rfl := Option.some.inj hf
  exact ev_dret C E (Nat.le_refl 0) (Nat.le_refl 0) dX12_netOf_31
/-! java/lang/Double isNaN(D)Z -/
theorem dJxe99ae_isNaN_b9ae7_0 : decode prog_17_method_6_code 0 = .ok (.dload_n 0, 1) := by decide +kernel
theorem dJxe99ae_isNaN_b9ae7_1 : decode prog_17_method_6_code 1 = .ok (.dload_n 0, 1) := by decide +kernel
theorem dJxe99ae_isNaN_b9ae7_2 : decode prog_17_method_6_code 2 = .ok (.dcmp .l, 1) := by decide +kernel
theorem dJxe99ae_isNaN_b9ae7_3 : decode prog_17_method_6_code 3 = .ok (.ifCond .eq 7, 3) := by decide +kernel
theorem dJxe99ae_isNaN_b9ae7_6 : decode prog_17_method_6_code 6 = .ok (.iconst 1, 1) := by decide +kernel
theorem dJxe99ae_isNaN_b9ae7_7 : decode prog_17_method_6_code 7 = .ok (.goto 4, 3) := by decide +kernel
theorem dJxe99ae_isNaN_b9ae7_10 : decode prog_17_method_6_code 10 = .ok (.iconst 0, 1) := by decide +kernel
theorem dJxe99ae_isNaN_b9ae7_11 : decode prog_17_method_6_code 11 = .ok (.ireturn, 1) := by decide +kernel
def m_Jxe99ae_isNaN_b9ae7 (d0 : UInt64) : Option (Int32) :=
  if (Op.cmpValue (FP.dcmp d0 d0) CmpOp.l) = 0 then (
    some 0) else (
    some 1)
set_option maxHeartbeats 4000000 in
set_option maxRecDepth 100000 in
theorem t_Jxe99ae_isNaN_b9ae7 {L0 : Launch} {M : mM} {d0 : UInt64} {res : Int32} (hf : m_Jxe99ae_isNaN_b9ae7 d0 = some res) : CT L0 yJxe99ae_isNaN_b9ae7 prog_17_method_6_code 2 (some .boolean) 0 0 0 0 [.double d0] M (some (.int res)) M := by
  refine CT.of (by decide +kernel) (Nat.le_of_ble_eq_true rfl) fun X C E => ?_
  have C : CX X RJxe99ae "isNaN" prog_17_method_6_code 2 (some .boolean) := C
  show EV X 2 0 [(0, .double d0)] [] 0 0 M
  unfold m_Jxe99ae_isNaN_b9ae7 at hf
  refine ev_dload_n C dJxe99ae_isNaN_b9ae7_0 rfl (q := 0) rfl ?_
  refine ev_dload_n C dJxe99ae_isNaN_b9ae7_1 rfl (q := 0) rfl ?_
  refine ev_dcmp C dJxe99ae_isNaN_b9ae7_2 ?_
  refine ev_if_eq (tgt := 10) C dJxe99ae_isNaN_b9ae7_3 (by decide) (fun hc => ?_) (fun hc => ?_)
  · have hf := oit hf hc
    refine ev_iconst (v := 0) C dJxe99ae_isNaN_b9ae7_10 (by decide) ?_
    obtain rfl := Option.some.inj hf
    exact ev_zret C (by decide) E (Nat.le_refl 0) (Nat.le_refl 0) dJxe99ae_isNaN_b9ae7_11
  · have hf := oie hf hc
    refine ev_iconst (v := 1) C dJxe99ae_isNaN_b9ae7_6 (by decide) ?_
    refine ev_goto (tgt := 11) C dJxe99ae_isNaN_b9ae7_7 (by decide) ?_
    obtain rfl := Option.some.inj hf
    exact ev_zret C (by decide) E (Nat.le_refl 0) (Nat.le_refl 0) dJxe99ae_isNaN_b9ae7_11
/-! java/lang/Double doubleToLongBits(D)J -/
theorem dJxe99ae_doubleToLongBits_ccdee_0 : decode prog_17_method_23_code 0 = .ok (.dload_n 0, 1) := by decide +kernel
theorem dJxe99ae_doubleToLongBits_ccdee_1 : decode prog_17_method_23_code 1 = .ok (.invokestatic 122, 3) := by decide +kernel
theorem dJxe99ae_doubleToLongBits_ccdee_4 : decode prog_17_method_23_code 4 = .ok (.ifCond .ne 8, 3) := by decide +kernel
theorem dJxe99ae_doubleToLongBits_ccdee_7 : decode prog_17_method_23_code 7 = .ok (.dload_n 0, 1) := by decide +kernel
theorem dJxe99ae_doubleToLongBits_ccdee_8 : decode prog_17_method_23_code 8 = .ok (.invokestatic 134, 3) := by decide +kernel
theorem dJxe99ae_doubleToLongBits_ccdee_11 : decode prog_17_method_23_code 11 = .ok (.lreturn, 1) := by decide +kernel
theorem dJxe99ae_doubleToLongBits_ccdee_12 : decode prog_17_method_23_code 12 = .ok (.ldc2_w 137, 3) := by decide +kernel
theorem dJxe99ae_doubleToLongBits_ccdee_15 : decode prog_17_method_23_code 15 = .ok (.lreturn, 1) := by decide +kernel
def m_Jxe99ae_doubleToLongBits_ccdee (d0 : UInt64) : Option (Int64) :=
  (m_Jxe99ae_isNaN_b9ae7 d0).bind fun x1 =>
  if x1 = 0 then (
    some d0.toInt64) else (
    some 9221120237041090560)
set_option maxHeartbeats 4000000 in
set_option maxRecDepth 100000 in
theorem t_Jxe99ae_doubleToLongBits_ccdee {L0 : Launch} {M : mM} {d0 : UInt64} {res : Int64} (hf : m_Jxe99ae_doubleToLongBits_ccdee d0 = some res) : CT L0 yJxe99ae_doubleToLongBits_ccdee prog_17_method_23_code 2 (some .long) 1 40 0 0 [.double d0] M (some (.long res)) M := by
  refine CT.of (by decide +kernel) (Nat.le_of_ble_eq_true rfl) fun X C E => ?_
  have C : CX X RJxe99ae "doubleToLongBits" prog_17_method_23_code 2 (some .long) := C
  show EV X 2 0 [(0, .double d0)] [] 0 0 M
  unfold m_Jxe99ae_doubleToLongBits_ccdee at hf
  refine ev_dload_n C dJxe99ae_doubleToLongBits_ccdee_0 rfl (q := 0) rfl ?_
  obtain ⟨x1, e2, hf⟩ := obnd hf
  refine ev_callS0 (As := [.double d0]) (st := []) C (t_Jxe99ae_isNaN_b9ae7 e2) hd_Jxe99ae_isNaN_b9ae7 rfl kw_1301 kw_1302 kw_89 kw_1303 (mRoom.of E (Nat.le_of_ble_eq_true rfl) (Nat.le_of_ble_eq_true rfl) (Nat.le_refl 0) (Nat.le_refl 0)) (Nat.le_of_ble_eq_true rfl) dJxe99ae_doubleToLongBits_ccdee_1 ?_
  refine ev_if_ne (tgt := 12) C dJxe99ae_doubleToLongBits_ccdee_4 (by decide) (fun hc => ?_) (fun hc => ?_)
  · have hf := oie hf hc
    refine ev_ldc2 (v := 9221120237041090560) C dJxe99ae_doubleToLongBits_ccdee_12 kw_1307 ?_
    obtain rfl := Option.some.inj hf
    exact ev_lret C E (Nat.le_refl 0) (Nat.le_refl 0) dJxe99ae_doubleToLongBits_ccdee_15
  · have hf := oit hf hc
    refine ev_dload_n C dJxe99ae_doubleToLongBits_ccdee_7 rfl (q := 0) rfl ?_
    refine ev_d2raw C kw_1304 kw_1306 kw_1305 kw_89 (mfr E (by decide)) (mlo E (by decide)) (Nat.le_of_ble_eq_true rfl) dJxe99ae_doubleToLongBits_ccdee_8 ?_
    obtain rfl := Option.some.inj hf
    exact ev_lret C E (Nat.le_refl 0) (Nat.le_refl 0) dJxe99ae_doubleToLongBits_ccdee_11
/-! FareLimitsModel shows(I)J -/
theorem dX12_shows_0 : decode prog_14_method_16_code 0 = .ok (.iload_n 1, 1) := by decide +kernel
theorem dX12_shows_1 : decode prog_14_method_16_code 1 = .ok (.invokestatic 111, 3) := by decide +kernel
theorem dX12_shows_4 : decode prog_14_method_16_code 4 = .ok (.ifCond .eq 14, 3) := by decide +kernel
theorem dX12_shows_7 : decode prog_14_method_16_code 7 = .ok (.aload_n 0, 1) := by decide +kernel
theorem dX12_shows_8 : decode prog_14_method_16_code 8 = .ok (.iload_n 1, 1) := by decide +kernel
theorem dX12_shows_9 : decode prog_14_method_16_code 9 = .ok (.invokevirtual 104, 3) := by decide +kernel
theorem dX12_shows_12 : decode prog_14_method_16_code 12 = .ok (.invokestatic 114, 3) := by decide +kernel
theorem dX12_shows_15 : decode prog_14_method_16_code 15 = .ok (.goto 6, 3) := by decide +kernel
theorem dX12_shows_18 : decode prog_14_method_16_code 18 = .ok (.ldc2_w 120, 3) := by decide +kernel
theorem dX12_shows_21 : decode prog_14_method_16_code 21 = .ok (.lreturn, 1) := by decide +kernel
def m_X12_shows (N : Nat) (a0 : Nat) (i1 : Int32) (M : mM) : Option (Int64) :=
  (m_X12_isStage i1).bind fun x1 =>
  if x1 = 0 then (
    some (-9223372036854775808)) else (
    (oO M a0 12).bind fun _ =>
    (m_X12_showing N a0 i1 M).bind fun x5 =>
    (m_Jxe99ae_doubleToLongBits_ccdee x5).bind fun x7 =>
    some x7)
set_option maxHeartbeats 4000000 in
set_option maxRecDepth 100000 in
theorem t_X12_shows {L0 : Launch} {M : mM} {N : Nat} {a0 : Nat} {i1 : Int32} {res : Int64} (hf : m_X12_shows N a0 i1 M = some res) : CT L0 yX12_shows prog_14_method_16_code 2 (some .long) 2 61 0 0 [.ref a0, .int i1] M (some (.long res)) M := by
  refine CT.of (by decide +kernel) (Nat.le_of_ble_eq_true rfl) fun X C E => ?_
  have C : CX X RX12 "shows" prog_14_method_16_code 2 (some .long) := C
  show EV X 2 0 [(0, .ref a0), (1, .int i1)] [] 0 0 M
  unfold m_X12_shows at hf
  refine ev_iload_n C dX12_shows_0 rfl (q := 1) rfl ?_
  obtain ⟨x1, e2, hf⟩ := obnd hf
  refine ev_callS0 (As := [.int i1]) (st := []) C (t_X12_isStage e2) hd_X12_isStage rfl kw_1289 kw_1290 kw_87 kw_1291 (mRoom.of E (Nat.le_of_ble_eq_true rfl) (Nat.le_of_ble_eq_true rfl) (Nat.le_refl 0) (Nat.le_refl 0)) (Nat.le_of_ble_eq_true rfl) dX12_shows_1 ?_
  refine ev_if_eq (tgt := 18) C dX12_shows_4 (by decide) (fun hc => ?_) (fun hc => ?_)
  · have hf := oit hf hc
    refine ev_ldc2 (v := (-9223372036854775808)) C dX12_shows_18 kw_1308 ?_
    obtain rfl := Option.some.inj hf
    exact ev_lret C E (Nat.le_refl 0) (Nat.le_refl 0) dX12_shows_21
  · have hf := oie hf hc
    refine ev_aload_n C dX12_shows_7 rfl (q := 0) rfl ?_
    refine ev_iload_n C dX12_shows_8 rfl (q := 1) rfl ?_
    obtain ⟨_, e3, hf⟩ := obnd hf
    obtain ⟨fs4, e3⟩ := oO_eq e3
    obtain ⟨x5, e6, hf⟩ := obnd hf
    refine ev_callV0 (As := [.int i1]) (st := []) C rfl e3 (t_X12_showing e6) rfl hd_X12_showing rfl kw_1293 kw_1295 kw_87 kw_22 kw_1296 (mRoom.of E (Nat.le_of_ble_eq_true rfl) (Nat.le_of_ble_eq_true rfl) (Nat.le_refl 0) (Nat.le_refl 0)) (Nat.le_of_ble_eq_true rfl) dX12_shows_9 ?_
    obtain ⟨x7, e8, hf⟩ := obnd hf
    refine ev_callS0 (As := [.double x5]) (st := []) C (t_Jxe99ae_doubleToLongBits_ccdee e8) hd_Jxe99ae_doubleToLongBits_ccdee rfl kw_1298 kw_1299 kw_89 kw_1300 (mRoom.of E (Nat.le_of_ble_eq_true rfl) (Nat.le_of_ble_eq_true rfl) (Nat.le_refl 0) (Nat.le_refl 0)) (Nat.le_of_ble_eq_true rfl) dX12_shows_12 ?_
    refine ev_goto (tgt := 21) C dX12_shows_15 (by decide) ?_
    obtain rfl := Option.some.inj hf
    exact ev_lret C E (Nat.le_refl 0) (Nat.le_refl 0) dX12_shows_21
/-! FareLimitsModel net(II)J -/
theorem dX12_net_0 : decode prog_14_method_17_code 0 = .ok (.aload_n 0, 1) := by decide +kernel
theorem dX12_net_1 : decode prog_14_method_17_code 1 = .ok (.iload_n 1, 1) := by decide +kernel
theorem dX12_net_2 : decode prog_14_method_17_code 2 = .ok (.invokevirtual 82, 3) := by decide +kernel
theorem dX12_net_5 : decode prog_14_method_17_code 5 = .ok (.ifCond .eq 22, 3) := by decide +kernel
theorem dX12_net_8 : decode prog_14_method_17_code 8 = .ok (.iload_n 2, 1) := by decide +kernel
theorem dX12_net_9 : decode prog_14_method_17_code 9 = .ok (.invokestatic 111, 3) := by decide +kernel
theorem dX12_net_12 : decode prog_14_method_17_code 12 = .ok (.ifCond .eq 15, 3) := by decide +kernel
theorem dX12_net_15 : decode prog_14_method_17_code 15 = .ok (.aload_n 0, 1) := by decide +kernel
theorem dX12_net_16 : decode prog_14_method_17_code 16 = .ok (.iload_n 1, 1) := by decide +kernel
theorem dX12_net_17 : decode prog_14_method_17_code 17 = .ok (.iload_n 2, 1) := by decide +kernel
theorem dX12_net_18 : decode prog_14_method_17_code 18 = .ok (.invokevirtual 122, 3) := by decide +kernel
theorem dX12_net_21 : decode prog_14_method_17_code 21 = .ok (.invokestatic 114, 3) := by decide +kernel
theorem dX12_net_24 : decode prog_14_method_17_code 24 = .ok (.goto 6, 3) := by decide +kernel
theorem dX12_net_27 : decode prog_14_method_17_code 27 = .ok (.ldc2_w 120, 3) := by decide +kernel
theorem dX12_net_30 : decode prog_14_method_17_code 30 = .ok (.lreturn, 1) := by decide +kernel
def m_X12_net (N : Nat) (a0 : Nat) (i1 : Int32) (i2 : Int32) (M : mM) : Option (Int64) :=
  (oO M a0 12).bind fun _ =>
  (m_X12_isFare a0 i1 M).bind fun x3 =>
  if x3 = 0 then (
    some (-9223372036854775808)) else (
    (m_X12_isStage i2).bind fun x5 =>
    if x5 = 0 then (
      some (-9223372036854775808)) else (
      (oO M a0 12).bind fun _ =>
      (m_X12_netOf N a0 i1 i2 M).bind fun x9 =>
      (m_Jxe99ae_doubleToLongBits_ccdee x9).bind fun x11 =>
      some x11))
set_option maxHeartbeats 4000000 in
set_option maxRecDepth 100000 in
theorem t_X12_net {L0 : Launch} {M : mM} {N : Nat} {a0 : Nat} {i1 : Int32} {i2 : Int32} {res : Int64} (hf : m_X12_net N a0 i1 i2 M = some res) : CT L0 yX12_net prog_14_method_17_code 3 (some .long) 2 61 0 0 [.ref a0, .int i1, .int i2] M (some (.long res)) M := by
  refine CT.of (by decide +kernel) (Nat.le_of_ble_eq_true rfl) fun X C E => ?_
  have C : CX X RX12 "net" prog_14_method_17_code 3 (some .long) := C
  show EV X 3 0 [(0, .ref a0), (1, .int i1), (2, .int i2)] [] 0 0 M
  unfold m_X12_net at hf
  refine ev_aload_n C dX12_net_0 rfl (q := 0) rfl ?_
  refine ev_iload_n C dX12_net_1 rfl (q := 1) rfl ?_
  obtain ⟨_, e1, hf⟩ := obnd hf
  obtain ⟨fs2, e1⟩ := oO_eq e1
  obtain ⟨x3, e4, hf⟩ := obnd hf
  refine ev_callV0 (As := [.int i1]) (st := []) C rfl e1 (t_X12_isFare e4) rfl hd_X12_isFare rfl kw_1261 kw_1263 kw_87 kw_20 kw_1264 (mRoom.of E (Nat.le_of_ble_eq_true rfl) (Nat.le_of_ble_eq_true rfl) (Nat.le_refl 0) (Nat.le_refl 0)) (Nat.le_of_ble_eq_true rfl) dX12_net_2 ?_
  refine ev_if_eq (tgt := 27) C dX12_net_5 (by decide) (fun hc => ?_) (fun hc => ?_)
  · have hf := oit hf hc
    refine ev_ldc2 (v := (-9223372036854775808)) C dX12_net_27 kw_1308 ?_
    obtain rfl := Option.some.inj hf
    exact ev_lret C E (Nat.le_refl 0) (Nat.le_refl 0) dX12_net_30
  · have hf := oie hf hc
    refine ev_iload_n C dX12_net_8 rfl (q := 2) rfl ?_
    obtain ⟨x5, e6, hf⟩ := obnd hf
    refine ev_callS0 (As := [.int i2]) (st := []) C (t_X12_isStage e6) hd_X12_isStage rfl kw_1289 kw_1290 kw_87 kw_1291 (mRoom.of E (Nat.le_of_ble_eq_true rfl) (Nat.le_of_ble_eq_true rfl) (Nat.le_refl 0) (Nat.le_refl 0)) (Nat.le_of_ble_eq_true rfl) dX12_net_9 ?_
    refine ev_if_eq (tgt := 27) C dX12_net_12 (by decide) (fun hc => ?_) (fun hc => ?_)
    · have hf := oit hf hc
      refine ev_ldc2 (v := (-9223372036854775808)) C dX12_net_27 kw_1308 ?_
      obtain rfl := Option.some.inj hf
      exact ev_lret C E (Nat.le_refl 0) (Nat.le_refl 0) dX12_net_30
    · have hf := oie hf hc
      refine ev_aload_n C dX12_net_15 rfl (q := 0) rfl ?_
      refine ev_iload_n C dX12_net_16 rfl (q := 1) rfl ?_
      refine ev_iload_n C dX12_net_17 rfl (q := 2) rfl ?_
      obtain ⟨_, e7, hf⟩ := obnd hf
      obtain ⟨fs8, e7⟩ := oO_eq e7
      obtain ⟨x9, e10, hf⟩ := obnd hf
      refine ev_callV0 (As := [.int i1, .int i2]) (st := []) C rfl e7 (t_X12_netOf e10) rfl hd_X12_netOf rfl kw_1313 kw_1315 kw_87 kw_23 kw_1316 (mRoom.of E (Nat.le_of_ble_eq_true rfl) (Nat.le_of_ble_eq_true rfl) (Nat.le_refl 0) (Nat.le_refl 0)) (Nat.le_of_ble_eq_true rfl) dX12_net_18 ?_
      obtain ⟨x11, e12, hf⟩ := obnd hf
      refine ev_callS0 (As := [.double x9]) (st := []) C (t_Jxe99ae_doubleToLongBits_ccdee e12) hd_Jxe99ae_doubleToLongBits_ccdee rfl kw_1298 kw_1299 kw_89 kw_1300 (mRoom.of E (Nat.le_of_ble_eq_true rfl) (Nat.le_of_ble_eq_true rfl) (Nat.le_refl 0) (Nat.le_refl 0)) (Nat.le_of_ble_eq_true rfl) dX12_net_21 ?_
      refine ev_goto (tgt := 30) C dX12_net_24 (by decide) ?_
      obtain rfl := Option.some.inj hf
      exact ev_lret C E (Nat.le_refl 0) (Nat.le_refl 0) dX12_net_30
/-! FareLimitsModel netCut(II)I -/
theorem dX12_netCut_0 : decode prog_14_method_18_code 0 = .ok (.aload_n 0, 1) := by decide +kernel
theorem dX12_netCut_1 : decode prog_14_method_18_code 1 = .ok (.iload_n 1, 1) := by decide +kernel
theorem dX12_netCut_2 : decode prog_14_method_18_code 2 = .ok (.invokevirtual 82, 3) := by decide +kernel
theorem dX12_netCut_5 : decode prog_14_method_18_code 5 = .ok (.ifCond .eq 20, 3) := by decide +kernel
theorem dX12_netCut_8 : decode prog_14_method_18_code 8 = .ok (.iload_n 2, 1) := by decide +kernel
theorem dX12_netCut_9 : decode prog_14_method_18_code 9 = .ok (.invokestatic 111, 3) := by decide +kernel
theorem dX12_netCut_12 : decode prog_14_method_18_code 12 = .ok (.ifCond .eq 13, 3) := by decide +kernel
theorem dX12_netCut_15 : decode prog_14_method_18_code 15 = .ok (.aload_n 0, 1) := by decide +kernel
theorem dX12_netCut_16 : decode prog_14_method_18_code 16 = .ok (.iload_n 1, 1) := by decide +kernel
theorem dX12_netCut_17 : decode prog_14_method_18_code 17 = .ok (.iload_n 2, 1) := by decide +kernel
theorem dX12_netCut_18 : decode prog_14_method_18_code 18 = .ok (.invokevirtual 122, 3) := by decide +kernel
theorem dX12_netCut_21 : decode prog_14_method_18_code 21 = .ok (.d2i, 1) := by decide +kernel
theorem dX12_netCut_22 : decode prog_14_method_18_code 22 = .ok (.goto 4, 3) := by decide +kernel
theorem dX12_netCut_25 : decode prog_14_method_18_code 25 = .ok (.iconst (-1), 1) := by decide +kernel
theorem dX12_netCut_26 : decode prog_14_method_18_code 26 = .ok (.ireturn, 1) := by decide +kernel
def m_X12_netCut (N : Nat) (a0 : Nat) (i1 : Int32) (i2 : Int32) (M : mM) : Option (Int32) :=
  (oO M a0 12).bind fun _ =>
  (m_X12_isFare a0 i1 M).bind fun x3 =>
  if x3 = 0 then (
    some (-1)) else (
    (m_X12_isStage i2).bind fun x5 =>
    if x5 = 0 then (
      some (-1)) else (
      (oO M a0 12).bind fun _ =>
      (m_X12_netOf N a0 i1 i2 M).bind fun x9 =>
      some (FP.d2i x9)))
set_option maxHeartbeats 4000000 in
set_option maxRecDepth 100000 in
theorem t_X12_netCut {L0 : Launch} {M : mM} {N : Nat} {a0 : Nat} {i1 : Int32} {i2 : Int32} {res : Int32} (hf : m_X12_netCut N a0 i1 i2 M = some res) : CT L0 yX12_netCut prog_14_method_18_code 3 (some .int) 2 50 0 0 [.ref a0, .int i1, .int i2] M (some (.int res)) M := by
  refine CT.of (by decide +kernel) (Nat.le_of_ble_eq_true rfl) fun X C E => ?_
  have C : CX X RX12 "netCut" prog_14_method_18_code 3 (some .int) := C
  show EV X 3 0 [(0, .ref a0), (1, .int i1), (2, .int i2)] [] 0 0 M
  unfold m_X12_netCut at hf
  refine ev_aload_n C dX12_netCut_0 rfl (q := 0) rfl ?_
  refine ev_iload_n C dX12_netCut_1 rfl (q := 1) rfl ?_
  obtain ⟨_, e1, hf⟩ := obnd hf
  obtain ⟨fs2, e1⟩ := oO_eq e1
  obtain ⟨x3, e4, hf⟩ := obnd hf
  refine ev_callV0 (As := [.int i1]) (st := []) C rfl e1 (t_X12_isFare e4) rfl hd_X12_isFare rfl kw_1261 kw_1263 kw_87 kw_20 kw_1264 (mRoom.of E (Nat.le_of_ble_eq_true rfl) (Nat.le_of_ble_eq_true rfl) (Nat.le_refl 0) (Nat.le_refl 0)) (Nat.le_of_ble_eq_true rfl) dX12_netCut_2 ?_
  refine ev_if_eq (tgt := 25) C dX12_netCut_5 (by decide) (fun hc => ?_) (fun hc => ?_)
  · have hf := oit hf hc
    refine ev_iconst (v := (-1)) C dX12_netCut_25 (by decide) ?_
    obtain rfl := Option.some.inj hf
    exact ev_iret C E (Nat.le_refl 0) (Nat.le_refl 0) dX12_netCut_26
  · have hf := oie hf hc
    refine ev_iload_n C dX12_netCut_8 rfl (q := 2) rfl ?_
    obtain ⟨x5, e6, hf⟩ := obnd hf
    refine ev_callS0 (As := [.int i2]) (st := []) C (t_X12_isStage e6) hd_X12_isStage rfl kw_1289 kw_1290 kw_87 kw_1291 (mRoom.of E (Nat.le_of_ble_eq_true rfl) (Nat.le_of_ble_eq_true rfl) (Nat.le_refl 0) (Nat.le_refl 0)) (Nat.le_of_ble_eq_true rfl) dX12_netCut_9 ?_
    refine ev_if_eq (tgt := 25) C dX12_netCut_12 (by decide) (fun hc => ?_) (fun hc => ?_)
    · have hf := oit hf hc
      refine ev_iconst (v := (-1)) C dX12_netCut_25 (by decide) ?_
      obtain rfl := Option.some.inj hf
      exact ev_iret C E (Nat.le_refl 0) (Nat.le_refl 0) dX12_netCut_26
    · have hf := oie hf hc
      refine ev_aload_n C dX12_netCut_15 rfl (q := 0) rfl ?_
      refine ev_iload_n C dX12_netCut_16 rfl (q := 1) rfl ?_
      refine ev_iload_n C dX12_netCut_17 rfl (q := 2) rfl ?_
      obtain ⟨_, e7, hf⟩ := obnd hf
      obtain ⟨fs8, e7⟩ := oO_eq e7
      obtain ⟨x9, e10, hf⟩ := obnd hf
      refine ev_callV0 (As := [.int i1, .int i2]) (st := []) C rfl e7 (t_X12_netOf e10) rfl hd_X12_netOf rfl kw_1313 kw_1315 kw_87 kw_23 kw_1316 (mRoom.of E (Nat.le_of_ble_eq_true rfl) (Nat.le_of_ble_eq_true rfl) (Nat.le_refl 0) (Nat.le_refl 0)) (Nat.le_of_ble_eq_true rfl) dX12_netCut_18 ?_
      refine ev_d2i C dX12_netCut_21 ?_
      refine ev_goto (tgt := 26) C dX12_netCut_22 (by decide) ?_
      obtain rfl := Option.some.inj hf
      exact ev_iret C E (Nat.le_refl 0) (Nat.le_refl 0) dX12_netCut_26
/-! FareLimitsModel worthOf(II)D -/
theorem dX12_worthOf_0 : decode prog_14_method_19_code 0 = .ok (.aload_n 0, 1) := by decide +kernel
theorem dX12_worthOf_1 : decode prog_14_method_19_code 1 = .ok (.getfield 40, 3) := by decide +kernel
theorem dX12_worthOf_4 : decode prog_14_method_19_code 4 = .ok (.bipush 31, 2) := by decide +kernel
theorem dX12_worthOf_6 : decode prog_14_method_19_code 6 = .ok (.iload_n 1, 1) := by decide +kernel
theorem dX12_worthOf_7 : decode prog_14_method_19_code 7 = .ok (.imul, 1) := by decide +kernel
theorem dX12_worthOf_8 : decode prog_14_method_19_code 8 = .ok (.iload_n 2, 1) := by decide +kernel
theorem dX12_worthOf_9 : decode prog_14_method_19_code 9 = .ok (.iadd, 1) := by decide +kernel
theorem dX12_worthOf_10 : decode prog_14_method_19_code 10 = .ok (.daload, 1) := by decide +kernel
theorem dX12_worthOf_11 : decode prog_14_method_19_code 11 = .ok (.dreturn, 1) := by decide +kernel
def m_X12_worthOf (a0 : Nat) (i1 : Int32) (i2 : Int32) (M : mM) : Option (UInt64) :=
  (fR M a0 12 12).bind fun x1 =>
  (aD M x1 ((31 * i1) + i2)).bind fun x3 =>
  some x3
set_option maxHeartbeats 4000000 in
set_option maxRecDepth 100000 in
theorem t_X12_worthOf {L0 : Launch} {M : mM} {a0 : Nat} {i1 : Int32} {i2 : Int32} {res : UInt64} (hf : m_X12_worthOf a0 i1 i2 M = some res) : CT L0 yX12_worthOf prog_14_method_19_code 3 (some .double) 0 0 0 0 [.ref a0, .int i1, .int i2] M (some (.double res)) M := by
  refine CT.of (by decide +kernel) (Nat.le_of_ble_eq_true rfl) fun X C E => ?_
  have C : CX X RX12 "worthOf" prog_14_method_19_code 3 (some .double) := C
  show EV X 3 0 [(0, .ref a0), (1, .int i1), (2, .int i2)] [] 0 0 M
  unfold m_X12_worthOf at hf
  refine ev_aload_n C dX12_worthOf_0 rfl (q := 0) rfl ?_
  obtain ⟨x1, e2, hf⟩ := obnd hf
  refine ev_get (k := 12) C ok_12 dX12_worthOf_1 (by decide) kw_1171 (fR_V e2) ?_
  refine ev_bipush (v := 31) C dX12_worthOf_4 (by decide) ?_
  refine ev_iload_n C dX12_worthOf_6 rfl (q := 1) rfl ?_
  refine ev_imul C dX12_worthOf_7 ?_
  refine ev_iload_n C dX12_worthOf_8 rfl (q := 2) rfl ?_
  refine ev_iadd C dX12_worthOf_9 ?_
  obtain ⟨x3, e4, hf⟩ := obnd hf
  refine ev_dald C dX12_worthOf_10 e4 ?_
  obtain rfl := Option.some.inj hf
  exact ev_dret C E (Nat.le_refl 0) (Nat.le_refl 0) dX12_worthOf_11
/-! FareLimitsModel gain(III)D -/
theorem dX12_gain_0 : decode prog_14_method_20_code 0 = .ok (.aload_n 0, 1) := by decide +kernel
theorem dX12_gain_1 : decode prog_14_method_20_code 1 = .ok (.iload_n 2, 1) := by decide +kernel
theorem dX12_gain_2 : decode prog_14_method_20_code 2 = .ok (.iconst 1, 1) := by decide +kernel
theorem dX12_gain_3 : decode prog_14_method_20_code 3 = .ok (.isub, 1) := by decide +kernel
theorem dX12_gain_4 : decode prog_14_method_20_code 4 = .ok (.iload_n 3, 1) := by decide +kernel
theorem dX12_gain_5 : decode prog_14_method_20_code 5 = .ok (.invokevirtual 126, 3) := by decide +kernel
theorem dX12_gain_8 : decode prog_14_method_20_code 8 = .ok (.aload_n 0, 1) := by decide +kernel
theorem dX12_gain_9 : decode prog_14_method_20_code 9 = .ok (.iload_n 2, 1) := by decide +kernel
theorem dX12_gain_10 : decode prog_14_method_20_code 10 = .ok (.iconst 1, 1) := by decide +kernel
theorem dX12_gain_11 : decode prog_14_method_20_code 11 = .ok (.isub, 1) := by decide +kernel
theorem dX12_gain_12 : decode prog_14_method_20_code 12 = .ok (.iload_n 3, 1) := by decide +kernel
theorem dX12_gain_13 : decode prog_14_method_20_code 13 = .ok (.iconst 1, 1) := by decide +kernel
theorem dX12_gain_14 : decode prog_14_method_20_code 14 = .ok (.isub, 1) := by decide +kernel
theorem dX12_gain_15 : decode prog_14_method_20_code 15 = .ok (.invokevirtual 126, 3) := by decide +kernel
theorem dX12_gain_18 : decode prog_14_method_20_code 18 = .ok (.dsub, 1) := by decide +kernel
theorem dX12_gain_19 : decode prog_14_method_20_code 19 = .ok (.dstore 4, 2) := by decide +kernel
theorem dX12_gain_21 : decode prog_14_method_20_code 21 = .ok (.aload_n 0, 1) := by decide +kernel
theorem dX12_gain_22 : decode prog_14_method_20_code 22 = .ok (.iload_n 1, 1) := by decide +kernel
theorem dX12_gain_23 : decode prog_14_method_20_code 23 = .ok (.iload_n 2, 1) := by decide +kernel
theorem dX12_gain_24 : decode prog_14_method_20_code 24 = .ok (.iconst 1, 1) := by decide +kernel
theorem dX12_gain_25 : decode prog_14_method_20_code 25 = .ok (.isub, 1) := by decide +kernel
theorem dX12_gain_26 : decode prog_14_method_20_code 26 = .ok (.invokevirtual 122, 3) := by decide +kernel
theorem dX12_gain_29 : decode prog_14_method_20_code 29 = .ok (.dload 4, 2) := by decide +kernel
theorem dX12_gain_31 : decode prog_14_method_20_code 31 = .ok (.dsub, 1) := by decide +kernel
theorem dX12_gain_32 : decode prog_14_method_20_code 32 = .ok (.dreturn, 1) := by decide +kernel
def m_X12_gain (N : Nat) (a0 : Nat) (i1 : Int32) (i2 : Int32) (i3 : Int32) (M : mM) : Option (UInt64) :=
  (oO M a0 12).bind fun _ =>
  (m_X12_worthOf a0 (i2 - 1) i3 M).bind fun x3 =>
  (oO M a0 12).bind fun _ =>
  (m_X12_worthOf a0 (i2 - 1) (i3 - 1) M).bind fun x7 =>
  (oD (FP.dsub x3 x7)).bind fun x9 =>
  (oO M a0 12).bind fun _ =>
  (m_X12_netOf N a0 i1 (i2 - 1) M).bind fun x13 =>
  (oD (FP.dsub x13 x9)).bind fun x15 =>
  some x15
set_option maxHeartbeats 4000000 in
set_option maxRecDepth 100000 in
theorem t_X12_gain {L0 : Launch} {M : mM} {N : Nat} {a0 : Nat} {i1 : Int32} {i2 : Int32} {i3 : Int32} {res : UInt64} (hf : m_X12_gain N a0 i1 i2 i3 M = some res) : CT L0 yX12_gain prog_14_method_20_code 6 (some .double) 2 50 0 0 [.ref a0, .int i1, .int i2, .int i3] M (some (.double res)) M := by
  refine CT.of (by decide +kernel) (Nat.le_of_ble_eq_true rfl) fun X C E => ?_
  have C : CX X RX12 "gain" prog_14_method_20_code 6 (some .double) := C
  show EV X 6 0 [(0, .ref a0), (1, .int i1), (2, .int i2), (3, .int i3)] [] 0 0 M
  unfold m_X12_gain at hf
  refine ev_aload_n C dX12_gain_0 rfl (q := 0) rfl ?_
  refine ev_iload_n C dX12_gain_1 rfl (q := 2) rfl ?_
  refine ev_iconst (v := 1) C dX12_gain_2 (by decide) ?_
  refine ev_isub C dX12_gain_3 ?_
  refine ev_iload_n C dX12_gain_4 rfl (q := 3) rfl ?_
  obtain ⟨_, e1, hf⟩ := obnd hf
  obtain ⟨fs2, e1⟩ := oO_eq e1
  obtain ⟨x3, e4, hf⟩ := obnd hf
  refine ev_callV0 (As := [.int (i2 - 1), .int i3]) (st := []) C rfl e1 (t_X12_worthOf e4) rfl hd_X12_worthOf rfl kw_1338 kw_1340 kw_87 kw_26 kw_1341 (mRoom.of E (Nat.le_of_ble_eq_true rfl) (Nat.le_of_ble_eq_true rfl) (Nat.le_refl 0) (Nat.le_refl 0)) (Nat.le_of_ble_eq_true rfl) dX12_gain_5 ?_
  refine ev_aload_n C dX12_gain_8 rfl (q := 0) rfl ?_
  refine ev_iload_n C dX12_gain_9 rfl (q := 2) rfl ?_
  refine ev_iconst (v := 1) C dX12_gain_10 (by decide) ?_
  refine ev_isub C dX12_gain_11 ?_
  refine ev_iload_n C dX12_gain_12 rfl (q := 3) rfl ?_
  refine ev_iconst (v := 1) C dX12_gain_13 (by decide) ?_
  refine ev_isub C dX12_gain_14 ?_
  obtain ⟨_, e5, hf⟩ := obnd hf
  obtain ⟨fs6, e5⟩ := oO_eq e5
  obtain ⟨x7, e8, hf⟩ := obnd hf
  refine ev_callV0 (As := [.int (i2 - 1), .int (i3 - 1)]) (st := [.double x3]) C rfl e5 (t_X12_worthOf e8) rfl hd_X12_worthOf rfl kw_1338 kw_1340 kw_87 kw_26 kw_1341 (mRoom.of E (Nat.le_of_ble_eq_true rfl) (Nat.le_of_ble_eq_true rfl) (Nat.le_refl 0) (Nat.le_refl 0)) (Nat.le_of_ble_eq_true rfl) dX12_gain_15 ?_
  obtain ⟨x9, e10, hf⟩ := obnd hf
  obtain ⟨e10, e10q⟩ := oD_eq e10
  refine ev_dsub C dX12_gain_18 e10 ?_
  rw [← e10q]
  refine ev_dstore (l' := [(4, .double x9), (0, .ref a0), (1, .int i1), (2, .int i2), (3, .int i3)]) C dX12_gain_19 (by decide) rfl ?_
  refine ev_aload_n C dX12_gain_21 rfl (q := 1) rfl ?_
  refine ev_iload_n C dX12_gain_22 rfl (q := 2) rfl ?_
  refine ev_iload_n C dX12_gain_23 rfl (q := 3) rfl ?_
  refine ev_iconst (v := 1) C dX12_gain_24 (by decide) ?_
  refine ev_isub C dX12_gain_25 ?_
  obtain ⟨_, e11, hf⟩ := obnd hf
  obtain ⟨fs12, e11⟩ := oO_eq e11
  obtain ⟨x13, e14, hf⟩ := obnd hf
  refine ev_callV0 (As := [.int i1, .int (i2 - 1)]) (st := []) C rfl e11 (t_X12_netOf e14) rfl hd_X12_netOf rfl kw_1313 kw_1315 kw_87 kw_23 kw_1316 (mRoom.of E (Nat.le_of_ble_eq_true rfl) (Nat.le_of_ble_eq_true rfl) (Nat.le_refl 0) (Nat.le_refl 0)) (Nat.le_of_ble_eq_true rfl) dX12_gain_26 ?_
  refine ev_dload C dX12_gain_29 (q := 0) rfl ?_
  obtain ⟨x15, e16, hf⟩ := obnd hf
  obtain ⟨e16, e16q⟩ := oD_eq e16
  refine ev_dsub C dX12_gain_31 e16 ?_
  rw [← e16q]
  obtain rfl := Option.some.inj hf
  exact ev_dret C E (Nat.le_refl 0) (Nat.le_refl 0) dX12_gain_32
/-! FareLimitsModel reckons(I)V -/
theorem dX12_reckons_0 : decode prog_14_method_21_code 0 = .ok (.iconst 0, 1) := by decide +kernel
theorem dX12_reckons_1 : decode prog_14_method_21_code 1 = .ok (.istore_n 2, 1) := by decide +kernel
theorem dX12_reckons_2 : decode prog_14_method_21_code 2 = .ok (.iload_n 2, 1) := by decide +kernel
theorem dX12_reckons_3 : decode prog_14_method_21_code 3 = .ok (.aload_n 0, 1) := by decide +kernel
theorem dX12_reckons_4 : decode prog_14_method_21_code 4 = .ok (.getfield 9, 3) := by decide +kernel
theorem dX12_reckons_7 : decode prog_14_method_21_code 7 = .ok (.iconst 1, 1) := by decide +kernel
theorem dX12_reckons_8 : decode prog_14_method_21_code 8 = .ok (.iaload, 1) := by decide +kernel
theorem dX12_reckons_9 : decode prog_14_method_21_code 9 = .ok (.if_icmp .gt 16, 3) := by decide +kernel
theorem dX12_reckons_12 : decode prog_14_method_21_code 12 = .ok (.aload_n 0, 1) := by decide +kernel
theorem dX12_reckons_13 : decode prog_14_method_21_code 13 = .ok (.getfield 40, 3) := by decide +kernel
theorem dX12_reckons_16 : decode prog_14_method_21_code 16 = .ok (.iload_n 2, 1) := by decide +kernel
theorem dX12_reckons_17 : decode prog_14_method_21_code 17 = .ok (.dconst 0, 1) := by decide +kernel
theorem dX12_reckons_18 : decode prog_14_method_21_code 18 = .ok (.dastore, 1) := by decide +kernel
theorem dX12_reckons_19 : decode prog_14_method_21_code 19 = .ok (.iinc 2 1, 3) := by decide +kernel
theorem dX12_reckons_22 : decode prog_14_method_21_code 22 = .ok (.goto (-20), 3) := by decide +kernel
theorem dX12_reckons_25 : decode prog_14_method_21_code 25 = .ok (.iconst 1, 1) := by decide +kernel
theorem dX12_reckons_26 : decode prog_14_method_21_code 26 = .ok (.istore_n 2, 1) := by decide +kernel
theorem dX12_reckons_27 : decode prog_14_method_21_code 27 = .ok (.iload_n 2, 1) := by decide +kernel
theorem dX12_reckons_28 : decode prog_14_method_21_code 28 = .ok (.iload_n 1, 1) := by decide +kernel
theorem dX12_reckons_29 : decode prog_14_method_21_code 29 = .ok (.if_icmp .gt 117, 3) := by decide +kernel
theorem dX12_reckons_32 : decode prog_14_method_21_code 32 = .ok (.aload_n 0, 1) := by decide +kernel
theorem dX12_reckons_33 : decode prog_14_method_21_code 33 = .ok (.getfield 40, 3) := by decide +kernel
theorem dX12_reckons_36 : decode prog_14_method_21_code 36 = .ok (.bipush 31, 2) := by decide +kernel
theorem dX12_reckons_38 : decode prog_14_method_21_code 38 = .ok (.iload_n 2, 1) := by decide +kernel
theorem dX12_reckons_39 : decode prog_14_method_21_code 39 = .ok (.imul, 1) := by decide +kernel
theorem dX12_reckons_40 : decode prog_14_method_21_code 40 = .ok (.dconst 0, 1) := by decide +kernel
theorem dX12_reckons_41 : decode prog_14_method_21_code 41 = .ok (.dastore, 1) := by decide +kernel
theorem dX12_reckons_42 : decode prog_14_method_21_code 42 = .ok (.iconst 1, 1) := by decide +kernel
theorem dX12_reckons_43 : decode prog_14_method_21_code 43 = .ok (.istore_n 3, 1) := by decide +kernel
theorem dX12_reckons_44 : decode prog_14_method_21_code 44 = .ok (.iload_n 3, 1) := by decide +kernel
theorem dX12_reckons_45 : decode prog_14_method_21_code 45 = .ok (.aload_n 0, 1) := by decide +kernel
theorem dX12_reckons_46 : decode prog_14_method_21_code 46 = .ok (.getfield 9, 3) := by decide +kernel
theorem dX12_reckons_49 : decode prog_14_method_21_code 49 = .ok (.iconst 1, 1) := by decide +kernel
theorem dX12_reckons_50 : decode prog_14_method_21_code 50 = .ok (.iaload, 1) := by decide +kernel
theorem dX12_reckons_51 : decode prog_14_method_21_code 51 = .ok (.if_icmp .gt 89, 3) := by decide +kernel
theorem dX12_reckons_54 : decode prog_14_method_21_code 54 = .ok (.aload_n 0, 1) := by decide +kernel
theorem dX12_reckons_55 : decode prog_14_method_21_code 55 = .ok (.iload_n 2, 1) := by decide +kernel
theorem dX12_reckons_56 : decode prog_14_method_21_code 56 = .ok (.iconst 1, 1) := by decide +kernel
theorem dX12_reckons_57 : decode prog_14_method_21_code 57 = .ok (.isub, 1) := by decide +kernel
theorem dX12_reckons_58 : decode prog_14_method_21_code 58 = .ok (.iload_n 3, 1) := by decide +kernel
theorem dX12_reckons_59 : decode prog_14_method_21_code 59 = .ok (.invokevirtual 126, 3) := by decide +kernel
theorem dX12_reckons_62 : decode prog_14_method_21_code 62 = .ok (.dstore 4, 2) := by decide +kernel
theorem dX12_reckons_64 : decode prog_14_method_21_code 64 = .ok (.iconst 0, 1) := by decide +kernel
theorem dX12_reckons_65 : decode prog_14_method_21_code 65 = .ok (.istore 6, 2) := by decide +kernel
theorem dX12_reckons_67 : decode prog_14_method_21_code 67 = .ok (.iload 6, 2) := by decide +kernel
theorem dX12_reckons_69 : decode prog_14_method_21_code 69 = .ok (.aload_n 0, 1) := by decide +kernel
theorem dX12_reckons_70 : decode prog_14_method_21_code 70 = .ok (.getfield 9, 3) := by decide +kernel
theorem dX12_reckons_73 : decode prog_14_method_21_code 73 = .ok (.iconst 0, 1) := by decide +kernel
theorem dX12_reckons_74 : decode prog_14_method_21_code 74 = .ok (.iaload, 1) := by decide +kernel
theorem dX12_reckons_75 : decode prog_14_method_21_code 75 = .ok (.if_icmp .ge 46, 3) := by decide +kernel
theorem dX12_reckons_78 : decode prog_14_method_21_code 78 = .ok (.aload_n 0, 1) := by decide +kernel
theorem dX12_reckons_79 : decode prog_14_method_21_code 79 = .ok (.iload 6, 2) := by decide +kernel
theorem dX12_reckons_81 : decode prog_14_method_21_code 81 = .ok (.iload_n 2, 1) := by decide +kernel
theorem dX12_reckons_82 : decode prog_14_method_21_code 82 = .ok (.iload_n 3, 1) := by decide +kernel
theorem dX12_reckons_83 : decode prog_14_method_21_code 83 = .ok (.invokevirtual 129, 3) := by decide +kernel
theorem dX12_reckons_86 : decode prog_14_method_21_code 86 = .ok (.dstore 7, 2) := by decide +kernel
theorem dX12_reckons_88 : decode prog_14_method_21_code 88 = .ok (.dload 7, 2) := by decide +kernel
theorem dX12_reckons_90 : decode prog_14_method_21_code 90 = .ok (.dconst 0, 1) := by decide +kernel
theorem dX12_reckons_91 : decode prog_14_method_21_code 91 = .ok (.dcmp .l, 1) := by decide +kernel
theorem dX12_reckons_92 : decode prog_14_method_21_code 92 = .ok (.ifCond .le 23, 3) := by decide +kernel
theorem dX12_reckons_95 : decode prog_14_method_21_code 95 = .ok (.dload 4, 2) := by decide +kernel
theorem dX12_reckons_97 : decode prog_14_method_21_code 97 = .ok (.aload_n 0, 1) := by decide +kernel
theorem dX12_reckons_98 : decode prog_14_method_21_code 98 = .ok (.iload 6, 2) := by decide +kernel
theorem dX12_reckons_100 : decode prog_14_method_21_code 100 = .ok (.iload_n 2, 1) := by decide +kernel
theorem dX12_reckons_101 : decode prog_14_method_21_code 101 = .ok (.invokevirtual 133, 3) := by decide +kernel
theorem dX12_reckons_104 : decode prog_14_method_21_code 104 = .ok (.i2d, 1) := by decide +kernel
theorem dX12_reckons_105 : decode prog_14_method_21_code 105 = .ok (.ldc2_w 98, 3) := by decide +kernel
theorem dX12_reckons_108 : decode prog_14_method_21_code 108 = .ok (.ddiv, 1) := by decide +kernel
theorem dX12_reckons_109 : decode prog_14_method_21_code 109 = .ok (.dload 7, 2) := by decide +kernel
theorem dX12_reckons_111 : decode prog_14_method_21_code 111 = .ok (.dmul, 1) := by decide +kernel
theorem dX12_reckons_112 : decode prog_14_method_21_code 112 = .ok (.dadd, 1) := by decide +kernel
theorem dX12_reckons_113 : decode prog_14_method_21_code 113 = .ok (.dstore 4, 2) := by decide +kernel
theorem dX12_reckons_115 : decode prog_14_method_21_code 115 = .ok (.iinc 6 1, 3) := by decide +kernel
theorem dX12_reckons_118 : decode prog_14_method_21_code 118 = .ok (.goto (-51), 3) := by decide +kernel
theorem dX12_reckons_121 : decode prog_14_method_21_code 121 = .ok (.aload_n 0, 1) := by decide +kernel
theorem dX12_reckons_122 : decode prog_14_method_21_code 122 = .ok (.getfield 40, 3) := by decide +kernel
theorem dX12_reckons_125 : decode prog_14_method_21_code 125 = .ok (.bipush 31, 2) := by decide +kernel
theorem dX12_reckons_127 : decode prog_14_method_21_code 127 = .ok (.iload_n 2, 1) := by decide +kernel
theorem dX12_reckons_128 : decode prog_14_method_21_code 128 = .ok (.imul, 1) := by decide +kernel
theorem dX12_reckons_129 : decode prog_14_method_21_code 129 = .ok (.iload_n 3, 1) := by decide +kernel
theorem dX12_reckons_130 : decode prog_14_method_21_code 130 = .ok (.iadd, 1) := by decide +kernel
theorem dX12_reckons_131 : decode prog_14_method_21_code 131 = .ok (.dload 4, 2) := by decide +kernel
theorem dX12_reckons_133 : decode prog_14_method_21_code 133 = .ok (.dastore, 1) := by decide +kernel
theorem dX12_reckons_134 : decode prog_14_method_21_code 134 = .ok (.iinc 3 1, 3) := by decide +kernel
theorem dX12_reckons_137 : decode prog_14_method_21_code 137 = .ok (.goto (-93), 3) := by decide +kernel
theorem dX12_reckons_140 : decode prog_14_method_21_code 140 = .ok (.iinc 2 1, 3) := by decide +kernel
theorem dX12_reckons_143 : decode prog_14_method_21_code 143 = .ok (.goto (-116), 3) := by decide +kernel
theorem dX12_reckons_146 : decode prog_14_method_21_code 146 = .ok (.return_, 1) := by decide +kernel
def m_X12_reckons_J115 (N : Nat) (k67 : Nat → Int32 → Int32 → Int32 → UInt64 → Int32 → mM → Option (mM)) (a0 : Nat) (i1 : Int32) (i2 : Int32) (i3 : Int32) (d4 : UInt64) (i6 : Int32) (M : mM) : Option (mM) :=
  k67 a0 i1 i2 i3 d4 (i6 + 1) M
set_option maxHeartbeats 4000000 in
set_option maxRecDepth 100000 in
theorem t_X12_reckons_J115 {X : mX} {L0 : Launch} {res : mM} {N : Nat} (C : CX X RX12 "reckons" prog_14_method_21_code 9 none) (E : EX X L0 3 75 0 0 none res) (k67 : Nat → Int32 → Int32 → Int32 → UInt64 → Int32 → mM → Option (mM)) (Hk67 : ∀ (a0 : Nat) (i1 : Int32) (i2 : Int32) (i3 : Int32) (d4 : UInt64) (i6 : Int32) (M : mM), k67 a0 i1 i2 i3 d4 i6 M = some res → EV X 9 67 [(0, .ref a0), (1, .int i1), (2, .int i2), (3, .int i3), (4, .double d4), (6, .int i6)] [] 0 0 M) (a0 : Nat) (i1 : Int32) (i2 : Int32) (i3 : Int32) (d4 : UInt64) (i6 : Int32) (M : mM) (hf : m_X12_reckons_J115 N k67 a0 i1 i2 i3 d4 i6 M = some res) : EV X 9 115 [(0, .ref a0), (1, .int i1), (2, .int i2), (3, .int i3), (4, .double d4), (6, .int i6)] [] 0 0 M := by
  unfold m_X12_reckons_J115 at hf
  refine ev_iinc (v := i6 + 1) (l' := [(6, .int (i6 + 1)), (0, .ref a0), (1, .int i1), (2, .int i2), (3, .int i3), (4, .double d4)]) C dX12_reckons_115 (q := 5) rfl rfl (by decide) rfl ?_
  refine ev_goto (tgt := 67) C dX12_reckons_118 (by decide) ?_
  refine ev_sub [1, 2, 3, 4, 5, 0] rfl ?_
  exact Hk67 a0 i1 i2 i3 d4 (i6 + 1) M hf
def m_X12_reckons_L67 (N : Nat) (k44 : Nat → Int32 → Int32 → Int32 → mM → Option (mM)) : Nat → Nat → Int32 → Int32 → Int32 → UInt64 → Int32 → mM → Option (mM)
  | 0, _, _, _, _, _, _, _ => none
  | n + 1, a0, i1, i2, i3, d4, i6, M =>
    (fR M a0 12 0).bind fun x1 =>
    (aI 0 M x1 0).bind fun x3 =>
    if x3 ≤ i6 then (
      (fR M a0 12 12).bind fun x5 =>
      (uD M x5 ((31 * i2) + i3) d4).bind fun M7 =>
      k44 a0 i1 i2 (i3 + 1) M7) else (
      (oO M a0 12).bind fun _ =>
      (m_X12_gain N a0 i6 i2 i3 M).bind fun x11 =>
      if (Op.cmpValue (FP.dcmp x11 FP.dconst0) CmpOp.l) ≤ 0 then (
        m_X12_reckons_J115 N (m_X12_reckons_L67 N k44  n) a0 i1 i2 i3 d4 i6 M) else (
        (oO M a0 12).bind fun _ =>
        (m_X12_odds a0 i6 i2 M).bind fun x15 =>
        (oD (FP.ddiv (FP.i2d x15) 4636737291354636288)).bind fun x17 =>
        (oD (FP.dmul x17 x11)).bind fun x19 =>
        (oD (FP.dadd d4 x19)).bind fun x21 =>
        m_X12_reckons_J115 N (m_X12_reckons_L67 N k44  n) a0 i1 i2 i3 x21 i6 M))
set_option maxHeartbeats 4000000 in
set_option maxRecDepth 100000 in
theorem t_X12_reckons_L67 {X : mX} {L0 : Launch} {res : mM} {N : Nat} (C : CX X RX12 "reckons" prog_14_method_21_code 9 none) (E : EX X L0 3 75 0 0 none res) (k44 : Nat → Int32 → Int32 → Int32 → mM → Option (mM)) (Hk44 : ∀ (a0 : Nat) (i1 : Int32) (i2 : Int32) (i3 : Int32) (M : mM), k44 a0 i1 i2 i3 M = some res → EV X 9 44 [(0, .ref a0), (1, .int i1), (2, .int i2), (3, .int i3)] [] 0 0 M) : ∀ (n : Nat) (a0 : Nat) (i1 : Int32) (i2 : Int32) (i3 : Int32) (d4 : UInt64) (i6 : Int32) (M : mM), m_X12_reckons_L67 N k44 n a0 i1 i2 i3 d4 i6 M = some res → EV X 9 67 [(0, .ref a0), (1, .int i1), (2, .int i2), (3, .int i3), (4, .double d4), (6, .int i6)] [] 0 0 M := by
  intro n
  induction n with
  | zero => intro a0 i1 i2 i3 d4 i6 M hf; cases (show (none : Option (mM)) = some res from hf)
  | succ n ih =>
    intro a0 i1 i2 i3 d4 i6 M hf
    rw [m_X12_reckons_L67] at hf
    refine ev_iload C dX12_reckons_67 (q := 5) rfl ?_
    refine ev_aload_n C dX12_reckons_69 rfl (q := 0) rfl ?_
    obtain ⟨x1, e2, hf⟩ := obnd hf
    refine ev_get (k := 0) C ok_12 dX12_reckons_70 (by decide) kw_1159 (fR_V e2) ?_
    refine ev_iconst (v := 0) C dX12_reckons_73 (by decide) ?_
    obtain ⟨x3, e4, hf⟩ := obnd hf
    refine ev_iald C dX12_reckons_74 e4 ?_
    refine ev_icmp_ge (tgt := 121) C dX12_reckons_75 (by decide) (fun hc => ?_) (fun hc => ?_)
    · have hf := oit hf hc
      refine ev_aload_n C dX12_reckons_121 rfl (q := 0) rfl ?_
      obtain ⟨x5, e6, hf⟩ := obnd hf
      refine ev_get (k := 12) C ok_12 dX12_reckons_122 (by decide) kw_1171 (fR_V e6) ?_
      refine ev_bipush (v := 31) C dX12_reckons_125 (by decide) ?_
      refine ev_iload_n C dX12_reckons_127 rfl (q := 2) rfl ?_
      refine ev_imul C dX12_reckons_128 ?_
      refine ev_iload_n C dX12_reckons_129 rfl (q := 3) rfl ?_
      refine ev_iadd C dX12_reckons_130 ?_
      refine ev_dload C dX12_reckons_131 (q := 4) rfl ?_
      obtain ⟨M7, e8, hf⟩ := obnd hf
      refine ev_dast C dX12_reckons_133 e8 ?_
      refine ev_iinc (v := i3 + 1) (l' := [(3, .int (i3 + 1)), (0, .ref a0), (1, .int i1), (2, .int i2), (4, .double d4), (6, .int i6)]) C dX12_reckons_134 (q := 3) rfl rfl (by decide) rfl ?_
      refine ev_goto (tgt := 44) C dX12_reckons_137 (by decide) ?_
      refine ev_sub [1, 2, 3, 0] rfl ?_
      exact Hk44 a0 i1 i2 (i3 + 1) M7 hf
    · have hf := oie hf hc
      refine ev_aload_n C dX12_reckons_78 rfl (q := 0) rfl ?_
      refine ev_iload C dX12_reckons_79 (q := 5) rfl ?_
      refine ev_iload_n C dX12_reckons_81 rfl (q := 2) rfl ?_
      refine ev_iload_n C dX12_reckons_82 rfl (q := 3) rfl ?_
      obtain ⟨_, e9, hf⟩ := obnd hf
      obtain ⟨fs10, e9⟩ := oO_eq e9
      obtain ⟨x11, e12, hf⟩ := obnd hf
      refine ev_callV0 (As := [.int i6, .int i2, .int i3]) (st := []) C rfl e9 (t_X12_gain e12) rfl hd_X12_gain rfl kw_1342 kw_1344 kw_87 kw_27 kw_1345 (mRoom.of E (Nat.le_of_ble_eq_true rfl) (Nat.le_of_ble_eq_true rfl) (Nat.le_refl 0) (Nat.le_refl 0)) (Nat.le_of_ble_eq_true rfl) dX12_reckons_83 ?_
      refine ev_dstore (l' := [(7, .double x11), (0, .ref a0), (1, .int i1), (2, .int i2), (3, .int i3), (4, .double d4), (6, .int i6)]) C dX12_reckons_86 (by decide) rfl ?_
      refine ev_dload C dX12_reckons_88 (q := 0) rfl ?_
      refine ev_dconst0 C dX12_reckons_90 ?_
      refine ev_dcmp C dX12_reckons_91 ?_
      refine ev_if_le (tgt := 115) C dX12_reckons_92 (by decide) (fun hc => ?_) (fun hc => ?_)
      · have hf := oit hf hc
        refine ev_sub [1, 2, 3, 4, 5, 6] rfl ?_
        exact t_X12_reckons_J115 C E (m_X12_reckons_L67 N k44  n) ih a0 i1 i2 i3 d4 i6 M hf
      · have hf := oie hf hc
        refine ev_dload C dX12_reckons_95 (q := 5) rfl ?_
        refine ev_aload_n C dX12_reckons_97 rfl (q := 1) rfl ?_
        refine ev_iload C dX12_reckons_98 (q := 6) rfl ?_
        refine ev_iload_n C dX12_reckons_100 rfl (q := 3) rfl ?_
        obtain ⟨_, e13, hf⟩ := obnd hf
        obtain ⟨fs14, e13⟩ := oO_eq e13
        obtain ⟨x15, e16, hf⟩ := obnd hf
        refine ev_callV0 (As := [.int i6, .int i2]) (st := [.double d4]) C rfl e13 (t_X12_odds e16) rfl hd_X12_odds rfl kw_1346 kw_1348 kw_87 kw_28 kw_1349 (mRoom.of E (Nat.le_of_ble_eq_true rfl) (Nat.le_of_ble_eq_true rfl) (Nat.le_refl 0) (Nat.le_refl 0)) (Nat.le_of_ble_eq_true rfl) dX12_reckons_101 ?_
        refine ev_i2d C dX12_reckons_104 ?_
        refine ev_ldc2d (v := 4636737291354636288) C dX12_reckons_105 kw_1297 ?_
        obtain ⟨x17, e18, hf⟩ := obnd hf
        obtain ⟨e18, e18q⟩ := oD_eq e18
        refine ev_ddiv C dX12_reckons_108 e18 ?_
        rw [← e18q]
        refine ev_dload C dX12_reckons_109 (q := 0) rfl ?_
        obtain ⟨x19, e20, hf⟩ := obnd hf
        obtain ⟨e20, e20q⟩ := oD_eq e20
        refine ev_dmul C dX12_reckons_111 e20 ?_
        rw [← e20q]
        obtain ⟨x21, e22, hf⟩ := obnd hf
        obtain ⟨e22, e22q⟩ := oD_eq e22
        refine ev_dadd C dX12_reckons_112 e22 ?_
        rw [← e22q]
        refine ev_dstore (l' := [(4, .double x21), (7, .double x11), (0, .ref a0), (1, .int i1), (2, .int i2), (3, .int i3), (6, .int i6)]) C dX12_reckons_113 (by decide) rfl ?_
        refine ev_sub [2, 3, 4, 5, 0, 6] rfl ?_
        exact t_X12_reckons_J115 C E (m_X12_reckons_L67 N k44  n) ih a0 i1 i2 i3 x21 i6 M hf
def m_X12_reckons_L44 (N : Nat) (k27 : Nat → Int32 → Int32 → mM → Option (mM)) : Nat → Nat → Int32 → Int32 → Int32 → mM → Option (mM)
  | 0, _, _, _, _, _ => none
  | n + 1, a0, i1, i2, i3, M =>
    (fR M a0 12 0).bind fun x1 =>
    (aI 0 M x1 1).bind fun x3 =>
    if x3 < i3 then (
      k27 a0 i1 (i2 + 1) M) else (
      (oO M a0 12).bind fun _ =>
      (m_X12_worthOf a0 (i2 - 1) i3 M).bind fun x7 =>
      m_X12_reckons_L67 N (m_X12_reckons_L44 N k27  n) N a0 i1 i2 i3 x7 0 M)
set_option maxHeartbeats 4000000 in
set_option maxRecDepth 100000 in
theorem t_X12_reckons_L44 {X : mX} {L0 : Launch} {res : mM} {N : Nat} (C : CX X RX12 "reckons" prog_14_method_21_code 9 none) (E : EX X L0 3 75 0 0 none res) (k27 : Nat → Int32 → Int32 → mM → Option (mM)) (Hk27 : ∀ (a0 : Nat) (i1 : Int32) (i2 : Int32) (M : mM), k27 a0 i1 i2 M = some res → EV X 9 27 [(0, .ref a0), (1, .int i1), (2, .int i2)] [] 0 0 M) : ∀ (n : Nat) (a0 : Nat) (i1 : Int32) (i2 : Int32) (i3 : Int32) (M : mM), m_X12_reckons_L44 N k27 n a0 i1 i2 i3 M = some res → EV X 9 44 [(0, .ref a0), (1, .int i1), (2, .int i2), (3, .int i3)] [] 0 0 M := by
  intro n
  induction n with
  | zero => intro a0 i1 i2 i3 M hf; cases (show (none : Option (mM)) = some res from hf)
  | succ n ih =>
    intro a0 i1 i2 i3 M hf
    rw [m_X12_reckons_L44] at hf
    refine ev_iload_n C dX12_reckons_44 rfl (q := 3) rfl ?_
    refine ev_aload_n C dX12_reckons_45 rfl (q := 0) rfl ?_
    obtain ⟨x1, e2, hf⟩ := obnd hf
    refine ev_get (k := 0) C ok_12 dX12_reckons_46 (by decide) kw_1159 (fR_V e2) ?_
    refine ev_iconst (v := 1) C dX12_reckons_49 (by decide) ?_
    obtain ⟨x3, e4, hf⟩ := obnd hf
    refine ev_iald C dX12_reckons_50 e4 ?_
    refine ev_icmp_gt (tgt := 140) C dX12_reckons_51 (by decide) (fun hc => ?_) (fun hc => ?_)
    · have hf := oit hf hc
      refine ev_iinc (v := i2 + 1) (l' := [(2, .int (i2 + 1)), (0, .ref a0), (1, .int i1), (3, .int i3)]) C dX12_reckons_140 (q := 2) rfl rfl (by decide) rfl ?_
      refine ev_goto (tgt := 27) C dX12_reckons_143 (by decide) ?_
      refine ev_sub [1, 2, 0] rfl ?_
      exact Hk27 a0 i1 (i2 + 1) M hf
    · have hf := oie hf hc
      refine ev_aload_n C dX12_reckons_54 rfl (q := 0) rfl ?_
      refine ev_iload_n C dX12_reckons_55 rfl (q := 2) rfl ?_
      refine ev_iconst (v := 1) C dX12_reckons_56 (by decide) ?_
      refine ev_isub C dX12_reckons_57 ?_
      refine ev_iload_n C dX12_reckons_58 rfl (q := 3) rfl ?_
      obtain ⟨_, e5, hf⟩ := obnd hf
      obtain ⟨fs6, e5⟩ := oO_eq e5
      obtain ⟨x7, e8, hf⟩ := obnd hf
      refine ev_callV0 (As := [.int (i2 - 1), .int i3]) (st := []) C rfl e5 (t_X12_worthOf e8) rfl hd_X12_worthOf rfl kw_1338 kw_1340 kw_87 kw_26 kw_1341 (mRoom.of E (Nat.le_of_ble_eq_true rfl) (Nat.le_of_ble_eq_true rfl) (Nat.le_refl 0) (Nat.le_refl 0)) (Nat.le_of_ble_eq_true rfl) dX12_reckons_59 ?_
      refine ev_dstore (l' := [(4, .double x7), (0, .ref a0), (1, .int i1), (2, .int i2), (3, .int i3)]) C dX12_reckons_62 (by decide) rfl ?_
      refine ev_iconst (v := 0) C dX12_reckons_64 (by decide) ?_
      refine ev_istore (l' := [(6, .int 0), (4, .double x7), (0, .ref a0), (1, .int i1), (2, .int i2), (3, .int i3)]) C dX12_reckons_65 (by decide) rfl ?_
      refine ev_sub [2, 3, 4, 5, 1, 0] rfl ?_
      exact t_X12_reckons_L67 C E (m_X12_reckons_L44 N k27  n) ih N a0 i1 i2 i3 x7 0 M hf
def m_X12_reckons_L27 (N : Nat)  : Nat → Nat → Int32 → Int32 → mM → Option (mM)
  | 0, _, _, _, _ => none
  | n + 1, a0, i1, i2, M =>
    if i1 < i2 then (
      some M) else (
      (fR M a0 12 12).bind fun x1 =>
      (uD M x1 (31 * i2) FP.dconst0).bind fun M3 =>
      m_X12_reckons_L44 N (m_X12_reckons_L27 N  n) N a0 i1 i2 1 M3)
set_option maxHeartbeats 4000000 in
set_option maxRecDepth 100000 in
theorem t_X12_reckons_L27 {X : mX} {L0 : Launch} {res : mM} {N : Nat} (C : CX X RX12 "reckons" prog_14_method_21_code 9 none) (E : EX X L0 3 75 0 0 none res)   : ∀ (n : Nat) (a0 : Nat) (i1 : Int32) (i2 : Int32) (M : mM), m_X12_reckons_L27 N  n a0 i1 i2 M = some res → EV X 9 27 [(0, .ref a0), (1, .int i1), (2, .int i2)] [] 0 0 M := by
  intro n
  induction n with
  | zero => intro a0 i1 i2 M hf; cases (show (none : Option (mM)) = some res from hf)
  | succ n ih =>
    intro a0 i1 i2 M hf
    rw [m_X12_reckons_L27] at hf
    refine ev_iload_n C dX12_reckons_27 rfl (q := 2) rfl ?_
    refine ev_iload_n C dX12_reckons_28 rfl (q := 1) rfl ?_
    refine ev_icmp_gt (tgt := 146) C dX12_reckons_29 (by decide) (fun hc => ?_) (fun hc => ?_)
    · have hf := oit hf hc
      obtain rfl := Option.some.inj hf
      exact ev_vret C E (Nat.le_refl 0) (Nat.le_refl 0) dX12_reckons_146
    · have hf := oie hf hc
      refine ev_aload_n C dX12_reckons_32 rfl (q := 0) rfl ?_
      obtain ⟨x1, e2, hf⟩ := obnd hf
      refine ev_get (k := 12) C ok_12 dX12_reckons_33 (by decide) kw_1171 (fR_V e2) ?_
      refine ev_bipush (v := 31) C dX12_reckons_36 (by decide) ?_
      refine ev_iload_n C dX12_reckons_38 rfl (q := 2) rfl ?_
      refine ev_imul C dX12_reckons_39 ?_
      refine ev_dconst0 C dX12_reckons_40 ?_
      obtain ⟨M3, e4, hf⟩ := obnd hf
      refine ev_dast C dX12_reckons_41 e4 ?_
      refine ev_iconst (v := 1) C dX12_reckons_42 (by decide) ?_
      refine ev_istore_n (l' := [(3, .int 1), (0, .ref a0), (1, .int i1), (2, .int i2)]) C dX12_reckons_43 rfl (by decide) rfl ?_
      refine ev_sub [1, 2, 3, 0] rfl ?_
      exact t_X12_reckons_L44 C E (m_X12_reckons_L27 N  n) ih N a0 i1 i2 1 M3 hf
def m_X12_reckons_L2 (N : Nat)  : Nat → Nat → Int32 → Int32 → mM → Option (mM)
  | 0, _, _, _, _ => none
  | n + 1, a0, i1, i2, M =>
    (fR M a0 12 0).bind fun x1 =>
    (aI 0 M x1 1).bind fun x3 =>
    if x3 < i2 then (
      m_X12_reckons_L27 N  N a0 i1 1 M) else (
      (fR M a0 12 12).bind fun x5 =>
      (uD M x5 i2 FP.dconst0).bind fun M7 =>
      (m_X12_reckons_L2 N  n) a0 i1 (i2 + 1) M7)
set_option maxHeartbeats 4000000 in
set_option maxRecDepth 100000 in
theorem t_X12_reckons_L2 {X : mX} {L0 : Launch} {res : mM} {N : Nat} (C : CX X RX12 "reckons" prog_14_method_21_code 9 none) (E : EX X L0 3 75 0 0 none res)   : ∀ (n : Nat) (a0 : Nat) (i1 : Int32) (i2 : Int32) (M : mM), m_X12_reckons_L2 N  n a0 i1 i2 M = some res → EV X 9 2 [(0, .ref a0), (1, .int i1), (2, .int i2)] [] 0 0 M := by
  intro n
  induction n with
  | zero => intro a0 i1 i2 M hf; cases (show (none : Option (mM)) = some res from hf)
  | succ n ih =>
    intro a0 i1 i2 M hf
    rw [m_X12_reckons_L2] at hf
    refine ev_iload_n C dX12_reckons_2 rfl (q := 2) rfl ?_
    refine ev_aload_n C dX12_reckons_3 rfl (q := 0) rfl ?_
    obtain ⟨x1, e2, hf⟩ := obnd hf
    refine ev_get (k := 0) C ok_12 dX12_reckons_4 (by decide) kw_1159 (fR_V e2) ?_
    refine ev_iconst (v := 1) C dX12_reckons_7 (by decide) ?_
    obtain ⟨x3, e4, hf⟩ := obnd hf
    refine ev_iald C dX12_reckons_8 e4 ?_
    refine ev_icmp_gt (tgt := 25) C dX12_reckons_9 (by decide) (fun hc => ?_) (fun hc => ?_)
    · have hf := oit hf hc
      refine ev_iconst (v := 1) C dX12_reckons_25 (by decide) ?_
      refine ev_istore_n (l' := [(2, .int 1), (0, .ref a0), (1, .int i1)]) C dX12_reckons_26 rfl (by decide) rfl ?_
      refine ev_sub [1, 2, 0] rfl ?_
      exact t_X12_reckons_L27 C E   N a0 i1 1 M hf
    · have hf := oie hf hc
      refine ev_aload_n C dX12_reckons_12 rfl (q := 0) rfl ?_
      obtain ⟨x5, e6, hf⟩ := obnd hf
      refine ev_get (k := 12) C ok_12 dX12_reckons_13 (by decide) kw_1171 (fR_V e6) ?_
      refine ev_iload_n C dX12_reckons_16 rfl (q := 2) rfl ?_
      refine ev_dconst0 C dX12_reckons_17 ?_
      obtain ⟨M7, e8, hf⟩ := obnd hf
      refine ev_dast C dX12_reckons_18 e8 ?_
      refine ev_iinc (v := i2 + 1) (l' := [(2, .int (i2 + 1)), (0, .ref a0), (1, .int i1)]) C dX12_reckons_19 (q := 2) rfl rfl (by decide) rfl ?_
      refine ev_goto (tgt := 2) C dX12_reckons_22 (by decide) ?_
      refine ev_sub [1, 2, 0] rfl ?_
      exact ih a0 i1 (i2 + 1) M7 hf
def m_X12_reckons (N : Nat) (a0 : Nat) (i1 : Int32) (M : mM) : Option (mM) :=
  m_X12_reckons_L2 N  N a0 i1 0 M
set_option maxHeartbeats 4000000 in
set_option maxRecDepth 100000 in
theorem t_X12_reckons {L0 : Launch} {M : mM} {N : Nat} {a0 : Nat} {i1 : Int32} {res : mM} (hf : m_X12_reckons N a0 i1 M = some res) : CT L0 yX12_reckons prog_14_method_21_code 9 none 3 75 0 0 [.ref a0, .int i1] M none res := by
  refine CT.of (by decide +kernel) (Nat.le_of_ble_eq_true rfl) fun X C E => ?_
  have C : CX X RX12 "reckons" prog_14_method_21_code 9 none := C
  show EV X 9 0 [(0, .ref a0), (1, .int i1)] [] 0 0 M
  unfold m_X12_reckons at hf
  refine ev_iconst (v := 0) C dX12_reckons_0 (by decide) ?_
  refine ev_istore_n (l' := [(2, .int 0), (0, .ref a0), (1, .int i1)]) C dX12_reckons_1 rfl (by decide) rfl ?_
  refine ev_sub [1, 2, 0] rfl ?_
  exact t_X12_reckons_L2 C E   N a0 i1 0 M hf
/-! FareLimitsModel worth(II)J -/
theorem dX12_worth_0 : decode prog_14_method_22_code 0 = .ok (.iload_n 1, 1) := by decide +kernel
theorem dX12_worth_1 : decode prog_14_method_22_code 1 = .ok (.invokestatic 111, 3) := by decide +kernel
theorem dX12_worth_4 : decode prog_14_method_22_code 4 = .ok (.ifCond .eq 11, 3) := by decide +kernel
theorem dX12_worth_7 : decode prog_14_method_22_code 7 = .ok (.aload_n 0, 1) := by decide +kernel
theorem dX12_worth_8 : decode prog_14_method_22_code 8 = .ok (.iload_n 2, 1) := by decide +kernel
theorem dX12_worth_9 : decode prog_14_method_22_code 9 = .ok (.invokevirtual 137, 3) := by decide +kernel
theorem dX12_worth_12 : decode prog_14_method_22_code 12 = .ok (.ifCond .ne 7, 3) := by decide +kernel
theorem dX12_worth_15 : decode prog_14_method_22_code 15 = .ok (.ldc2_w 120, 3) := by decide +kernel
theorem dX12_worth_18 : decode prog_14_method_22_code 18 = .ok (.lreturn, 1) := by decide +kernel
theorem dX12_worth_19 : decode prog_14_method_22_code 19 = .ok (.aload_n 0, 1) := by decide +kernel
theorem dX12_worth_20 : decode prog_14_method_22_code 20 = .ok (.iload_n 1, 1) := by decide +kernel
theorem dX12_worth_21 : decode prog_14_method_22_code 21 = .ok (.invokevirtual 140, 3) := by decide +kernel
theorem dX12_worth_24 : decode prog_14_method_22_code 24 = .ok (.aload_n 0, 1) := by decide +kernel
theorem dX12_worth_25 : decode prog_14_method_22_code 25 = .ok (.iload_n 1, 1) := by decide +kernel
theorem dX12_worth_26 : decode prog_14_method_22_code 26 = .ok (.iload_n 2, 1) := by decide +kernel
theorem dX12_worth_27 : decode prog_14_method_22_code 27 = .ok (.invokevirtual 126, 3) := by decide +kernel
theorem dX12_worth_30 : decode prog_14_method_22_code 30 = .ok (.invokestatic 114, 3) := by decide +kernel
theorem dX12_worth_33 : decode prog_14_method_22_code 33 = .ok (.lreturn, 1) := by decide +kernel
def m_X12_worth (N : Nat) (a0 : Nat) (i1 : Int32) (i2 : Int32) (M : mM) : Option (Int64 × mM) :=
  (m_X12_isStage i1).bind fun x1 =>
  if x1 = 0 then (
    some ((-9223372036854775808), M)) else (
    (oO M a0 12).bind fun _ =>
    (m_X12_isSeat a0 i2 M).bind fun x5 =>
    if x5 = 0 then (
      some ((-9223372036854775808), M)) else (
      (oO M a0 12).bind fun _ =>
      (m_X12_reckons N a0 i1 M).bind fun x9 =>
      (oO x9 a0 12).bind fun _ =>
      (m_X12_worthOf a0 i1 i2 x9).bind fun x13 =>
      (m_Jxe99ae_doubleToLongBits_ccdee x13).bind fun x15 =>
      some (x15, x9)))
set_option maxHeartbeats 4000000 in
set_option maxRecDepth 100000 in
theorem t_X12_worth {L0 : Launch} {M : mM} {N : Nat} {a0 : Nat} {i1 : Int32} {i2 : Int32} {res : Int64 × mM} (hf : m_X12_worth N a0 i1 i2 M = some res) : CT L0 yX12_worth prog_14_method_22_code 3 (some .long) 4 103 0 0 [.ref a0, .int i1, .int i2] M (some (.long res.1)) res.2 := by
  refine CT.of (by decide +kernel) (Nat.le_of_ble_eq_true rfl) fun X C E => ?_
  have C : CX X RX12 "worth" prog_14_method_22_code 3 (some .long) := C
  show EV X 3 0 [(0, .ref a0), (1, .int i1), (2, .int i2)] [] 0 0 M
  unfold m_X12_worth at hf
  refine ev_iload_n C dX12_worth_0 rfl (q := 1) rfl ?_
  obtain ⟨x1, e2, hf⟩ := obnd hf
  refine ev_callS0 (As := [.int i1]) (st := []) C (t_X12_isStage e2) hd_X12_isStage rfl kw_1289 kw_1290 kw_87 kw_1291 (mRoom.of E (Nat.le_of_ble_eq_true rfl) (Nat.le_of_ble_eq_true rfl) (Nat.le_refl 0) (Nat.le_refl 0)) (Nat.le_of_ble_eq_true rfl) dX12_worth_1 ?_
  refine ev_if_eq (tgt := 15) C dX12_worth_4 (by decide) (fun hc => ?_) (fun hc => ?_)
  · have hf := oit hf hc
    refine ev_ldc2 (v := (-9223372036854775808)) C dX12_worth_15 kw_1308 ?_
    obtain rfl := Option.some.inj hf
    exact ev_lret C E (Nat.le_refl 0) (Nat.le_refl 0) dX12_worth_18
  · have hf := oie hf hc
    refine ev_aload_n C dX12_worth_7 rfl (q := 0) rfl ?_
    refine ev_iload_n C dX12_worth_8 rfl (q := 2) rfl ?_
    obtain ⟨_, e3, hf⟩ := obnd hf
    obtain ⟨fs4, e3⟩ := oO_eq e3
    obtain ⟨x5, e6, hf⟩ := obnd hf
    refine ev_callV0 (As := [.int i2]) (st := []) C rfl e3 (t_X12_isSeat e6) rfl hd_X12_isSeat rfl kw_1330 kw_1332 kw_87 kw_24 kw_1333 (mRoom.of E (Nat.le_of_ble_eq_true rfl) (Nat.le_of_ble_eq_true rfl) (Nat.le_refl 0) (Nat.le_refl 0)) (Nat.le_of_ble_eq_true rfl) dX12_worth_9 ?_
    refine ev_if_ne (tgt := 19) C dX12_worth_12 (by decide) (fun hc => ?_) (fun hc => ?_)
    · have hf := oie hf hc
      refine ev_aload_n C dX12_worth_19 rfl (q := 0) rfl ?_
      refine ev_iload_n C dX12_worth_20 rfl (q := 1) rfl ?_
      obtain ⟨_, e7, hf⟩ := obnd hf
      obtain ⟨fs8, e7⟩ := oO_eq e7
      obtain ⟨x9, e10, hf⟩ := obnd hf
      refine ev_callV0 (As := [.int i1]) (st := []) C rfl e7 (t_X12_reckons e10) rfl hd_X12_reckons rfl kw_1334 kw_1336 kw_87 kw_25 kw_1337 (mRoom.of E (Nat.le_of_ble_eq_true rfl) (Nat.le_of_ble_eq_true rfl) (Nat.le_refl 0) (Nat.le_refl 0)) (Nat.le_of_ble_eq_true rfl) dX12_worth_21 ?_
      refine ev_aload_n C dX12_worth_24 rfl (q := 0) rfl ?_
      refine ev_iload_n C dX12_worth_25 rfl (q := 1) rfl ?_
      refine ev_iload_n C dX12_worth_26 rfl (q := 2) rfl ?_
      obtain ⟨_, e11, hf⟩ := obnd hf
      obtain ⟨fs12, e11⟩ := oO_eq e11
      obtain ⟨x13, e14, hf⟩ := obnd hf
      refine ev_callV0 (As := [.int i1, .int i2]) (st := []) C rfl e11 (t_X12_worthOf e14) rfl hd_X12_worthOf rfl kw_1338 kw_1340 kw_87 kw_26 kw_1341 (mRoom.of E (Nat.le_of_ble_eq_true rfl) (Nat.le_of_ble_eq_true rfl) (Nat.le_refl 0) (Nat.le_refl 0)) (Nat.le_of_ble_eq_true rfl) dX12_worth_27 ?_
      obtain ⟨x15, e16, hf⟩ := obnd hf
      refine ev_callS0 (As := [.double x13]) (st := []) C (t_Jxe99ae_doubleToLongBits_ccdee e16) hd_Jxe99ae_doubleToLongBits_ccdee rfl kw_1298 kw_1299 kw_89 kw_1300 (mRoom.of E (Nat.le_of_ble_eq_true rfl) (Nat.le_of_ble_eq_true rfl) (Nat.le_refl 0) (Nat.le_refl 0)) (Nat.le_of_ble_eq_true rfl) dX12_worth_30 ?_
      obtain rfl := Option.some.inj hf
      exact ev_lret C E (Nat.le_refl 0) (Nat.le_refl 0) dX12_worth_33
    · have hf := oit hf hc
      refine ev_ldc2 (v := (-9223372036854775808)) C dX12_worth_15 kw_1308 ?_
      obtain rfl := Option.some.inj hf
      exact ev_lret C E (Nat.le_refl 0) (Nat.le_refl 0) dX12_worth_18
/-! java/lang/Float isNaN(F)Z -/
theorem dJxf58ca_isNaN_12338_0 : decode prog_19_method_6_code 0 = .ok (.fload_n 0, 1) := by decide +kernel
theorem dJxf58ca_isNaN_12338_1 : decode prog_19_method_6_code 1 = .ok (.fload_n 0, 1) := by decide +kernel
theorem dJxf58ca_isNaN_12338_2 : decode prog_19_method_6_code 2 = .ok (.fcmp .l, 1) := by decide +kernel
theorem dJxf58ca_isNaN_12338_3 : decode prog_19_method_6_code 3 = .ok (.ifCond .eq 7, 3) := by decide +kernel
theorem dJxf58ca_isNaN_12338_6 : decode prog_19_method_6_code 6 = .ok (.iconst 1, 1) := by decide +kernel
theorem dJxf58ca_isNaN_12338_7 : decode prog_19_method_6_code 7 = .ok (.goto 4, 3) := by decide +kernel
theorem dJxf58ca_isNaN_12338_10 : decode prog_19_method_6_code 10 = .ok (.iconst 0, 1) := by decide +kernel
theorem dJxf58ca_isNaN_12338_11 : decode prog_19_method_6_code 11 = .ok (.ireturn, 1) := by decide +kernel
def m_Jxf58ca_isNaN_12338 (f0 : UInt32) : Option (Int32) :=
  if (Op.cmpValue (FP.fcmp f0 f0) CmpOp.l) = 0 then (
    some 0) else (
    some 1)
set_option maxHeartbeats 4000000 in
set_option maxRecDepth 100000 in
theorem t_Jxf58ca_isNaN_12338 {L0 : Launch} {M : mM} {f0 : UInt32} {res : Int32} (hf : m_Jxf58ca_isNaN_12338 f0 = some res) : CT L0 yJxf58ca_isNaN_12338 prog_19_method_6_code 1 (some .boolean) 0 0 0 0 [.float f0] M (some (.int res)) M := by
  refine CT.of (by decide +kernel) (Nat.le_of_ble_eq_true rfl) fun X C E => ?_
  have C : CX X RJxf58ca "isNaN" prog_19_method_6_code 1 (some .boolean) := C
  show EV X 1 0 [(0, .float f0)] [] 0 0 M
  unfold m_Jxf58ca_isNaN_12338 at hf
  refine ev_fload_n C dJxf58ca_isNaN_12338_0 rfl (q := 0) rfl ?_
  refine ev_fload_n C dJxf58ca_isNaN_12338_1 rfl (q := 0) rfl ?_
  refine ev_fcmp C dJxf58ca_isNaN_12338_2 ?_
  refine ev_if_eq (tgt := 10) C dJxf58ca_isNaN_12338_3 (by decide) (fun hc => ?_) (fun hc => ?_)
  · have hf := oit hf hc
    refine ev_iconst (v := 0) C dJxf58ca_isNaN_12338_10 (by decide) ?_
    obtain rfl := Option.some.inj hf
    exact ev_zret C (by decide) E (Nat.le_refl 0) (Nat.le_refl 0) dJxf58ca_isNaN_12338_11
  · have hf := oie hf hc
    refine ev_iconst (v := 1) C dJxf58ca_isNaN_12338_6 (by decide) ?_
    refine ev_goto (tgt := 11) C dJxf58ca_isNaN_12338_7 (by decide) ?_
    obtain rfl := Option.some.inj hf
    exact ev_zret C (by decide) E (Nat.le_refl 0) (Nat.le_refl 0) dJxf58ca_isNaN_12338_11
/-! java/lang/Float floatToIntBits(F)I -/
theorem dJxf58ca_floatToIntBits_5c35a_0 : decode prog_19_method_24_code 0 = .ok (.fload_n 0, 1) := by decide +kernel
theorem dJxf58ca_floatToIntBits_5c35a_1 : decode prog_19_method_24_code 1 = .ok (.invokestatic 59, 3) := by decide +kernel
theorem dJxf58ca_floatToIntBits_5c35a_4 : decode prog_19_method_24_code 4 = .ok (.ifCond .ne 8, 3) := by decide +kernel
theorem dJxf58ca_floatToIntBits_5c35a_7 : decode prog_19_method_24_code 7 = .ok (.fload_n 0, 1) := by decide +kernel
theorem dJxf58ca_floatToIntBits_5c35a_8 : decode prog_19_method_24_code 8 = .ok (.invokestatic 74, 3) := by decide +kernel
theorem dJxf58ca_floatToIntBits_5c35a_11 : decode prog_19_method_24_code 11 = .ok (.ireturn, 1) := by decide +kernel
theorem dJxf58ca_floatToIntBits_5c35a_12 : decode prog_19_method_24_code 12 = .ok (.ldc 77, 2) := by decide +kernel
theorem dJxf58ca_floatToIntBits_5c35a_14 : decode prog_19_method_24_code 14 = .ok (.ireturn, 1) := by decide +kernel
def m_Jxf58ca_floatToIntBits_5c35a (f0 : UInt32) : Option (Int32) :=
  (m_Jxf58ca_isNaN_12338 f0).bind fun x1 =>
  if x1 = 0 then (
    some f0.toInt32) else (
    some 2143289344)
set_option maxHeartbeats 4000000 in
set_option maxRecDepth 100000 in
theorem t_Jxf58ca_floatToIntBits_5c35a {L0 : Launch} {M : mM} {f0 : UInt32} {res : Int32} (hf : m_Jxf58ca_floatToIntBits_5c35a f0 = some res) : CT L0 yJxf58ca_floatToIntBits_5c35a prog_19_method_24_code 1 (some .int) 1 40 0 0 [.float f0] M (some (.int res)) M := by
  refine CT.of (by decide +kernel) (Nat.le_of_ble_eq_true rfl) fun X C E => ?_
  have C : CX X RJxf58ca "floatToIntBits" prog_19_method_24_code 1 (some .int) := C
  show EV X 1 0 [(0, .float f0)] [] 0 0 M
  unfold m_Jxf58ca_floatToIntBits_5c35a at hf
  refine ev_fload_n C dJxf58ca_floatToIntBits_5c35a_0 rfl (q := 0) rfl ?_
  obtain ⟨x1, e2, hf⟩ := obnd hf
  refine ev_callS0 (As := [.float f0]) (st := []) C (t_Jxf58ca_isNaN_12338 e2) hd_Jxf58ca_isNaN_12338 rfl kw_1357 kw_1358 kw_91 kw_1359 (mRoom.of E (Nat.le_of_ble_eq_true rfl) (Nat.le_of_ble_eq_true rfl) (Nat.le_refl 0) (Nat.le_refl 0)) (Nat.le_of_ble_eq_true rfl) dJxf58ca_floatToIntBits_5c35a_1 ?_
  refine ev_if_ne (tgt := 12) C dJxf58ca_floatToIntBits_5c35a_4 (by decide) (fun hc => ?_) (fun hc => ?_)
  · have hf := oie hf hc
    refine ev_ldc (v := 2143289344) C dJxf58ca_floatToIntBits_5c35a_12 kw_1363 ?_
    obtain rfl := Option.some.inj hf
    exact ev_iret C E (Nat.le_refl 0) (Nat.le_refl 0) dJxf58ca_floatToIntBits_5c35a_14
  · have hf := oit hf hc
    refine ev_fload_n C dJxf58ca_floatToIntBits_5c35a_7 rfl (q := 0) rfl ?_
    refine ev_f2raw C kw_1360 kw_1362 kw_1361 kw_91 (mfr E (by decide)) (mlo E (by decide)) (Nat.le_of_ble_eq_true rfl) dJxf58ca_floatToIntBits_5c35a_8 ?_
    obtain rfl := Option.some.inj hf
    exact ev_iret C E (Nat.le_refl 0) (Nat.le_refl 0) dJxf58ca_floatToIntBits_5c35a_11
/-! FareLimitsModel worthShort(II)I -/
theorem dX12_worthShort_0 : decode prog_14_method_23_code 0 = .ok (.iload_n 1, 1) := by decide +kernel
theorem dX12_worthShort_1 : decode prog_14_method_23_code 1 = .ok (.invokestatic 111, 3) := by decide +kernel
theorem dX12_worthShort_4 : decode prog_14_method_23_code 4 = .ok (.ifCond .eq 11, 3) := by decide +kernel
theorem dX12_worthShort_7 : decode prog_14_method_23_code 7 = .ok (.aload_n 0, 1) := by decide +kernel
theorem dX12_worthShort_8 : decode prog_14_method_23_code 8 = .ok (.iload_n 2, 1) := by decide +kernel
theorem dX12_worthShort_9 : decode prog_14_method_23_code 9 = .ok (.invokevirtual 137, 3) := by decide +kernel
theorem dX12_worthShort_12 : decode prog_14_method_23_code 12 = .ok (.ifCond .ne 5, 3) := by decide +kernel
theorem dX12_worthShort_15 : decode prog_14_method_23_code 15 = .ok (.iconst (-1), 1) := by decide +kernel
theorem dX12_worthShort_16 : decode prog_14_method_23_code 16 = .ok (.ireturn, 1) := by decide +kernel
theorem dX12_worthShort_17 : decode prog_14_method_23_code 17 = .ok (.aload_n 0, 1) := by decide +kernel
theorem dX12_worthShort_18 : decode prog_14_method_23_code 18 = .ok (.iload_n 1, 1) := by decide +kernel
theorem dX12_worthShort_19 : decode prog_14_method_23_code 19 = .ok (.invokevirtual 140, 3) := by decide +kernel
theorem dX12_worthShort_22 : decode prog_14_method_23_code 22 = .ok (.aload_n 0, 1) := by decide +kernel
theorem dX12_worthShort_23 : decode prog_14_method_23_code 23 = .ok (.iload_n 1, 1) := by decide +kernel
theorem dX12_worthShort_24 : decode prog_14_method_23_code 24 = .ok (.iload_n 2, 1) := by decide +kernel
theorem dX12_worthShort_25 : decode prog_14_method_23_code 25 = .ok (.invokevirtual 126, 3) := by decide +kernel
theorem dX12_worthShort_28 : decode prog_14_method_23_code 28 = .ok (.d2f, 1) := by decide +kernel
theorem dX12_worthShort_29 : decode prog_14_method_23_code 29 = .ok (.invokestatic 144, 3) := by decide +kernel
theorem dX12_worthShort_32 : decode prog_14_method_23_code 32 = .ok (.ireturn, 1) := by decide +kernel
def m_X12_worthShort (N : Nat) (a0 : Nat) (i1 : Int32) (i2 : Int32) (M : mM) : Option (Int32 × mM) :=
  (m_X12_isStage i1).bind fun x1 =>
  if x1 = 0 then (
    some ((-1), M)) else (
    (oO M a0 12).bind fun _ =>
    (m_X12_isSeat a0 i2 M).bind fun x5 =>
    if x5 = 0 then (
      some ((-1), M)) else (
      (oO M a0 12).bind fun _ =>
      (m_X12_reckons N a0 i1 M).bind fun x9 =>
      (oO x9 a0 12).bind fun _ =>
      (m_X12_worthOf a0 i1 i2 x9).bind fun x13 =>
      (oF (FP.d2f x13)).bind fun x15 =>
      (m_Jxf58ca_floatToIntBits_5c35a x15).bind fun x17 =>
      some (x17, x9)))
set_option maxHeartbeats 4000000 in
set_option maxRecDepth 100000 in
theorem t_X12_worthShort {L0 : Launch} {M : mM} {N : Nat} {a0 : Nat} {i1 : Int32} {i2 : Int32} {res : Int32 × mM} (hf : m_X12_worthShort N a0 i1 i2 M = some res) : CT L0 yX12_worthShort prog_14_method_23_code 3 (some .int) 4 103 0 0 [.ref a0, .int i1, .int i2] M (some (.int res.1)) res.2 := by
  refine CT.of (by decide +kernel) (Nat.le_of_ble_eq_true rfl) fun X C E => ?_
  have C : CX X RX12 "worthShort" prog_14_method_23_code 3 (some .int) := C
  show EV X 3 0 [(0, .ref a0), (1, .int i1), (2, .int i2)] [] 0 0 M
  unfold m_X12_worthShort at hf
  refine ev_iload_n C dX12_worthShort_0 rfl (q := 1) rfl ?_
  obtain ⟨x1, e2, hf⟩ := obnd hf
  refine ev_callS0 (As := [.int i1]) (st := []) C (t_X12_isStage e2) hd_X12_isStage rfl kw_1289 kw_1290 kw_87 kw_1291 (mRoom.of E (Nat.le_of_ble_eq_true rfl) (Nat.le_of_ble_eq_true rfl) (Nat.le_refl 0) (Nat.le_refl 0)) (Nat.le_of_ble_eq_true rfl) dX12_worthShort_1 ?_
  refine ev_if_eq (tgt := 15) C dX12_worthShort_4 (by decide) (fun hc => ?_) (fun hc => ?_)
  · have hf := oit hf hc
    refine ev_iconst (v := (-1)) C dX12_worthShort_15 (by decide) ?_
    obtain rfl := Option.some.inj hf
    exact ev_iret C E (Nat.le_refl 0) (Nat.le_refl 0) dX12_worthShort_16
  · have hf := oie hf hc
    refine ev_aload_n C dX12_worthShort_7 rfl (q := 0) rfl ?_
    refine ev_iload_n C dX12_worthShort_8 rfl (q := 2) rfl ?_
    obtain ⟨_, e3, hf⟩ := obnd hf
    obtain ⟨fs4, e3⟩ := oO_eq e3
    obtain ⟨x5, e6, hf⟩ := obnd hf
    refine ev_callV0 (As := [.int i2]) (st := []) C rfl e3 (t_X12_isSeat e6) rfl hd_X12_isSeat rfl kw_1330 kw_1332 kw_87 kw_24 kw_1333 (mRoom.of E (Nat.le_of_ble_eq_true rfl) (Nat.le_of_ble_eq_true rfl) (Nat.le_refl 0) (Nat.le_refl 0)) (Nat.le_of_ble_eq_true rfl) dX12_worthShort_9 ?_
    refine ev_if_ne (tgt := 17) C dX12_worthShort_12 (by decide) (fun hc => ?_) (fun hc => ?_)
    · have hf := oie hf hc
      refine ev_aload_n C dX12_worthShort_17 rfl (q := 0) rfl ?_
      refine ev_iload_n C dX12_worthShort_18 rfl (q := 1) rfl ?_
      obtain ⟨_, e7, hf⟩ := obnd hf
      obtain ⟨fs8, e7⟩ := oO_eq e7
      obtain ⟨x9, e10, hf⟩ := obnd hf
      refine ev_callV0 (As := [.int i1]) (st := []) C rfl e7 (t_X12_reckons e10) rfl hd_X12_reckons rfl kw_1334 kw_1336 kw_87 kw_25 kw_1337 (mRoom.of E (Nat.le_of_ble_eq_true rfl) (Nat.le_of_ble_eq_true rfl) (Nat.le_refl 0) (Nat.le_refl 0)) (Nat.le_of_ble_eq_true rfl) dX12_worthShort_19 ?_
      refine ev_aload_n C dX12_worthShort_22 rfl (q := 0) rfl ?_
      refine ev_iload_n C dX12_worthShort_23 rfl (q := 1) rfl ?_
      refine ev_iload_n C dX12_worthShort_24 rfl (q := 2) rfl ?_
      obtain ⟨_, e11, hf⟩ := obnd hf
      obtain ⟨fs12, e11⟩ := oO_eq e11
      obtain ⟨x13, e14, hf⟩ := obnd hf
      refine ev_callV0 (As := [.int i1, .int i2]) (st := []) C rfl e11 (t_X12_worthOf e14) rfl hd_X12_worthOf rfl kw_1338 kw_1340 kw_87 kw_26 kw_1341 (mRoom.of E (Nat.le_of_ble_eq_true rfl) (Nat.le_of_ble_eq_true rfl) (Nat.le_refl 0) (Nat.le_refl 0)) (Nat.le_of_ble_eq_true rfl) dX12_worthShort_25 ?_
      obtain ⟨x15, e16, hf⟩ := obnd hf
      obtain ⟨e16, e16q⟩ := oF_eq e16
      refine ev_d2f C dX12_worthShort_28 e16 ?_
      rw [← e16q]
      obtain ⟨x17, e18, hf⟩ := obnd hf
      refine ev_callS0 (As := [.float x15]) (st := []) C (t_Jxf58ca_floatToIntBits_5c35a e18) hd_Jxf58ca_floatToIntBits_5c35a rfl kw_1354 kw_1355 kw_91 kw_1356 (mRoom.of E (Nat.le_of_ble_eq_true rfl) (Nat.le_of_ble_eq_true rfl) (Nat.le_refl 0) (Nat.le_refl 0)) (Nat.le_of_ble_eq_true rfl) dX12_worthShort_29 ?_
      obtain rfl := Option.some.inj hf
      exact ev_iret C E (Nat.le_refl 0) (Nat.le_refl 0) dX12_worthShort_32
    · have hf := oit hf hc
      refine ev_iconst (v := (-1)) C dX12_worthShort_15 (by decide) ?_
      obtain rfl := Option.some.inj hf
      exact ev_iret C E (Nat.le_refl 0) (Nat.le_refl 0) dX12_worthShort_16
/-! FareLimitsModel times(JJ)J -/
theorem dX12_times_0 : decode prog_14_method_24_code 0 = .ok (.lload_n 1, 1) := by decide +kernel
theorem dX12_times_1 : decode prog_14_method_24_code 1 = .ok (.lconst 0, 1) := by decide +kernel
theorem dX12_times_2 : decode prog_14_method_24_code 2 = .ok (.lcmp, 1) := by decide +kernel
theorem dX12_times_3 : decode prog_14_method_24_code 3 = .ok (.ifCond .le 18, 3) := by decide +kernel
theorem dX12_times_6 : decode prog_14_method_24_code 6 = .ok (.lload_n 3, 1) := by decide +kernel
theorem dX12_times_7 : decode prog_14_method_24_code 7 = .ok (.ldc2_w 150, 3) := by decide +kernel
theorem dX12_times_10 : decode prog_14_method_24_code 10 = .ok (.lload_n 1, 1) := by decide +kernel
theorem dX12_times_11 : decode prog_14_method_24_code 11 = .ok (.ldiv, 1) := by decide +kernel
theorem dX12_times_12 : decode prog_14_method_24_code 12 = .ok (.lcmp, 1) := by decide +kernel
theorem dX12_times_13 : decode prog_14_method_24_code 13 = .ok (.ifCond .le 8, 3) := by decide +kernel
theorem dX12_times_16 : decode prog_14_method_24_code 16 = .ok (.aload_n 0, 1) := by decide +kernel
theorem dX12_times_17 : decode prog_14_method_24_code 17 = .ok (.iconst 1, 1) := by decide +kernel
theorem dX12_times_18 : decode prog_14_method_24_code 18 = .ok (.putfield 152, 3) := by decide +kernel
theorem dX12_times_21 : decode prog_14_method_24_code 21 = .ok (.lload_n 1, 1) := by decide +kernel
theorem dX12_times_22 : decode prog_14_method_24_code 22 = .ok (.lload_n 3, 1) := by decide +kernel
theorem dX12_times_23 : decode prog_14_method_24_code 23 = .ok (.lmul, 1) := by decide +kernel
theorem dX12_times_24 : decode prog_14_method_24_code 24 = .ok (.lreturn, 1) := by decide +kernel
def m_X12_times (a0 : Nat) (j1 : Int64) (j3 : Int64) (M : mM) : Option (Int64 × mM) :=
  if (lg_cmp j1 0) ≤ 0 then (
    some (j1 * j3, M)) else (
    (oif (¬ j1 = 0)).bind fun _ =>
    if (lg_cmp j3 (9223372036854775807 / j1)) ≤ 0 then (
      some (j1 * j3, M)) else (
      (sZ M a0 12 15 1).bind fun M2 =>
      some (j1 * j3, M2)))
set_option maxHeartbeats 4000000 in
set_option maxRecDepth 100000 in
theorem t_X12_times {L0 : Launch} {M : mM} {a0 : Nat} {j1 : Int64} {j3 : Int64} {res : Int64 × mM} (hf : m_X12_times a0 j1 j3 M = some res) : CT L0 yX12_times prog_14_method_24_code 5 (some .long) 0 0 0 0 [.ref a0, .long j1, .long j3] M (some (.long res.1)) res.2 := by
  refine CT.of (by decide +kernel) (Nat.le_of_ble_eq_true rfl) fun X C E => ?_
  have C : CX X RX12 "times" prog_14_method_24_code 5 (some .long) := C
  show EV X 5 0 [(0, .ref a0), (1, .long j1), (3, .long j3)] [] 0 0 M
  unfold m_X12_times at hf
  refine ev_lload_n C dX12_times_0 rfl (q := 1) rfl ?_
  refine ev_lconst (v := 0) C dX12_times_1 (by decide) ?_
  refine ev_lcmp C dX12_times_2 ?_
  refine ev_if_le (tgt := 21) C dX12_times_3 (by decide) (fun hc => ?_) (fun hc => ?_)
  · have hf := oit hf hc
    refine ev_lload_n C dX12_times_21 rfl (q := 1) rfl ?_
    refine ev_lload_n C dX12_times_22 rfl (q := 2) rfl ?_
    refine ev_lmul C dX12_times_23 ?_
    obtain rfl := Option.some.inj hf
    exact ev_lret C E (Nat.le_refl 0) (Nat.le_refl 0) dX12_times_24
  · have hf := oie hf hc
    refine ev_lload_n C dX12_times_6 rfl (q := 2) rfl ?_
    refine ev_ldc2 (v := 9223372036854775807) C dX12_times_7 kw_1376 ?_
    refine ev_lload_n C dX12_times_10 rfl (q := 1) rfl ?_
    obtain ⟨_, e1, hf⟩ := obnd hf
    refine ev_ldiv C dX12_times_11 (oif_eq e1) ?_
    refine ev_lcmp C dX12_times_12 ?_
    refine ev_if_le (tgt := 21) C dX12_times_13 (by decide) (fun hc => ?_) (fun hc => ?_)
    · have hf := oit hf hc
      refine ev_lload_n C dX12_times_21 rfl (q := 1) rfl ?_
      refine ev_lload_n C dX12_times_22 rfl (q := 2) rfl ?_
      refine ev_lmul C dX12_times_23 ?_
      obtain rfl := Option.some.inj hf
      exact ev_lret C E (Nat.le_refl 0) (Nat.le_refl 0) dX12_times_24
    · have hf := oie hf hc
      refine ev_aload_n C dX12_times_16 rfl (q := 0) rfl ?_
      refine ev_iconst (v := 1) C dX12_times_17 (by decide) ?_
      obtain ⟨M2, e3, hf⟩ := obnd hf
      refine ev_put (k := 15) C ok_12 dX12_times_18 (by decide) kw_1174 rfl (sZ_fit e3) (sZ_V e3) ?_
      refine ev_lload_n C dX12_times_21 rfl (q := 1) rfl ?_
      refine ev_lload_n C dX12_times_22 rfl (q := 2) rfl ?_
      refine ev_lmul C dX12_times_23 ?_
      obtain rfl := Option.some.inj hf
      exact ev_lret C E (Nat.le_refl 0) (Nat.le_refl 0) dX12_times_24
/-! FareLimitsModel plus(JJ)J -/
theorem dX12_plus_0 : decode prog_14_method_25_code 0 = .ok (.lload_n 3, 1) := by decide +kernel
theorem dX12_plus_1 : decode prog_14_method_25_code 1 = .ok (.lconst 0, 1) := by decide +kernel
theorem dX12_plus_2 : decode prog_14_method_25_code 2 = .ok (.lcmp, 1) := by decide +kernel
theorem dX12_plus_3 : decode prog_14_method_25_code 3 = .ok (.ifCond .le 18, 3) := by decide +kernel
theorem dX12_plus_6 : decode prog_14_method_25_code 6 = .ok (.lload_n 1, 1) := by decide +kernel
theorem dX12_plus_7 : decode prog_14_method_25_code 7 = .ok (.ldc2_w 150, 3) := by decide +kernel
theorem dX12_plus_10 : decode prog_14_method_25_code 10 = .ok (.lload_n 3, 1) := by decide +kernel
theorem dX12_plus_11 : decode prog_14_method_25_code 11 = .ok (.lsub, 1) := by decide +kernel
theorem dX12_plus_12 : decode prog_14_method_25_code 12 = .ok (.lcmp, 1) := by decide +kernel
theorem dX12_plus_13 : decode prog_14_method_25_code 13 = .ok (.ifCond .le 8, 3) := by decide +kernel
theorem dX12_plus_16 : decode prog_14_method_25_code 16 = .ok (.aload_n 0, 1) := by decide +kernel
theorem dX12_plus_17 : decode prog_14_method_25_code 17 = .ok (.iconst 1, 1) := by decide +kernel
theorem dX12_plus_18 : decode prog_14_method_25_code 18 = .ok (.putfield 152, 3) := by decide +kernel
theorem dX12_plus_21 : decode prog_14_method_25_code 21 = .ok (.lload_n 1, 1) := by decide +kernel
theorem dX12_plus_22 : decode prog_14_method_25_code 22 = .ok (.lload_n 3, 1) := by decide +kernel
theorem dX12_plus_23 : decode prog_14_method_25_code 23 = .ok (.ladd, 1) := by decide +kernel
theorem dX12_plus_24 : decode prog_14_method_25_code 24 = .ok (.lreturn, 1) := by decide +kernel
def m_X12_plus (a0 : Nat) (j1 : Int64) (j3 : Int64) (M : mM) : Option (Int64 × mM) :=
  if (lg_cmp j3 0) ≤ 0 then (
    some (j1 + j3, M)) else (
    if (lg_cmp j1 (9223372036854775807 - j3)) ≤ 0 then (
      some (j1 + j3, M)) else (
      (sZ M a0 12 15 1).bind fun M1 =>
      some (j1 + j3, M1)))
set_option maxHeartbeats 4000000 in
set_option maxRecDepth 100000 in
theorem t_X12_plus {L0 : Launch} {M : mM} {a0 : Nat} {j1 : Int64} {j3 : Int64} {res : Int64 × mM} (hf : m_X12_plus a0 j1 j3 M = some res) : CT L0 yX12_plus prog_14_method_25_code 5 (some .long) 0 0 0 0 [.ref a0, .long j1, .long j3] M (some (.long res.1)) res.2 := by
  refine CT.of (by decide +kernel) (Nat.le_of_ble_eq_true rfl) fun X C E => ?_
  have C : CX X RX12 "plus" prog_14_method_25_code 5 (some .long) := C
  show EV X 5 0 [(0, .ref a0), (1, .long j1), (3, .long j3)] [] 0 0 M
  unfold m_X12_plus at hf
  refine ev_lload_n C dX12_plus_0 rfl (q := 2) rfl ?_
  refine ev_lconst (v := 0) C dX12_plus_1 (by decide) ?_
  refine ev_lcmp C dX12_plus_2 ?_
  refine ev_if_le (tgt := 21) C dX12_plus_3 (by decide) (fun hc => ?_) (fun hc => ?_)
  · have hf := oit hf hc
    refine ev_lload_n C dX12_plus_21 rfl (q := 1) rfl ?_
    refine ev_lload_n C dX12_plus_22 rfl (q := 2) rfl ?_
    refine ev_ladd C dX12_plus_23 ?_
    obtain rfl := Option.some.inj hf
    exact ev_lret C E (Nat.le_refl 0) (Nat.le_refl 0) dX12_plus_24
  · have hf := oie hf hc
    refine ev_lload_n C dX12_plus_6 rfl (q := 1) rfl ?_
    refine ev_ldc2 (v := 9223372036854775807) C dX12_plus_7 kw_1376 ?_
    refine ev_lload_n C dX12_plus_10 rfl (q := 2) rfl ?_
    refine ev_lsub C dX12_plus_11 ?_
    refine ev_lcmp C dX12_plus_12 ?_
    refine ev_if_le (tgt := 21) C dX12_plus_13 (by decide) (fun hc => ?_) (fun hc => ?_)
    · have hf := oit hf hc
      refine ev_lload_n C dX12_plus_21 rfl (q := 1) rfl ?_
      refine ev_lload_n C dX12_plus_22 rfl (q := 2) rfl ?_
      refine ev_ladd C dX12_plus_23 ?_
      obtain rfl := Option.some.inj hf
      exact ev_lret C E (Nat.le_refl 0) (Nat.le_refl 0) dX12_plus_24
    · have hf := oie hf hc
      refine ev_aload_n C dX12_plus_16 rfl (q := 0) rfl ?_
      refine ev_iconst (v := 1) C dX12_plus_17 (by decide) ?_
      obtain ⟨M1, e2, hf⟩ := obnd hf
      refine ev_put (k := 15) C ok_12 dX12_plus_18 (by decide) kw_1174 rfl (sZ_fit e2) (sZ_V e2) ?_
      refine ev_lload_n C dX12_plus_21 rfl (q := 1) rfl ?_
      refine ev_lload_n C dX12_plus_22 rfl (q := 2) rfl ?_
      refine ev_ladd C dX12_plus_23 ?_
      obtain rfl := Option.some.inj hf
      exact ev_lret C E (Nat.le_refl 0) (Nat.le_refl 0) dX12_plus_24
/-! FareLimitsModel power(II)J -/
theorem dX12_power_0 : decode prog_14_method_26_code 0 = .ok (.lconst 1, 1) := by decide +kernel
theorem dX12_power_1 : decode prog_14_method_26_code 1 = .ok (.lstore_n 3, 1) := by decide +kernel
theorem dX12_power_2 : decode prog_14_method_26_code 2 = .ok (.iconst 0, 1) := by decide +kernel
theorem dX12_power_3 : decode prog_14_method_26_code 3 = .ok (.istore 5, 2) := by decide +kernel
theorem dX12_power_5 : decode prog_14_method_26_code 5 = .ok (.iload 5, 2) := by decide +kernel
theorem dX12_power_7 : decode prog_14_method_26_code 7 = .ok (.iload_n 2, 1) := by decide +kernel
theorem dX12_power_8 : decode prog_14_method_26_code 8 = .ok (.if_icmp .ge 28, 3) := by decide +kernel
theorem dX12_power_11 : decode prog_14_method_26_code 11 = .ok (.aload_n 0, 1) := by decide +kernel
theorem dX12_power_12 : decode prog_14_method_26_code 12 = .ok (.getfield 152, 3) := by decide +kernel
theorem dX12_power_15 : decode prog_14_method_26_code 15 = .ok (.ifCond .eq 7, 3) := by decide +kernel
theorem dX12_power_18 : decode prog_14_method_26_code 18 = .ok (.lconst 0, 1) := by decide +kernel
theorem dX12_power_19 : decode prog_14_method_26_code 19 = .ok (.goto 10, 3) := by decide +kernel
theorem dX12_power_22 : decode prog_14_method_26_code 22 = .ok (.aload_n 0, 1) := by decide +kernel
theorem dX12_power_23 : decode prog_14_method_26_code 23 = .ok (.lload_n 3, 1) := by decide +kernel
theorem dX12_power_24 : decode prog_14_method_26_code 24 = .ok (.iload_n 1, 1) := by decide +kernel
theorem dX12_power_25 : decode prog_14_method_26_code 25 = .ok (.i2l, 1) := by decide +kernel
theorem dX12_power_26 : decode prog_14_method_26_code 26 = .ok (.invokevirtual 156, 3) := by decide +kernel
theorem dX12_power_29 : decode prog_14_method_26_code 29 = .ok (.lstore_n 3, 1) := by decide +kernel
theorem dX12_power_30 : decode prog_14_method_26_code 30 = .ok (.iinc 5 1, 3) := by decide +kernel
theorem dX12_power_33 : decode prog_14_method_26_code 33 = .ok (.goto (-28), 3) := by decide +kernel
theorem dX12_power_36 : decode prog_14_method_26_code 36 = .ok (.aload_n 0, 1) := by decide +kernel
theorem dX12_power_37 : decode prog_14_method_26_code 37 = .ok (.getfield 152, 3) := by decide +kernel
theorem dX12_power_40 : decode prog_14_method_26_code 40 = .ok (.ifCond .eq 7, 3) := by decide +kernel
theorem dX12_power_43 : decode prog_14_method_26_code 43 = .ok (.lconst 0, 1) := by decide +kernel
theorem dX12_power_44 : decode prog_14_method_26_code 44 = .ok (.goto 4, 3) := by decide +kernel
theorem dX12_power_47 : decode prog_14_method_26_code 47 = .ok (.lload_n 3, 1) := by decide +kernel
theorem dX12_power_48 : decode prog_14_method_26_code 48 = .ok (.lreturn, 1) := by decide +kernel
def m_X12_power_J29 (N : Nat) (k5 : Nat → Int32 → Int32 → Int64 → Int32 → mM → Option (Int64 × mM)) (a0 : Nat) (i1 : Int32) (i2 : Int32) (i5 : Int32) (sj0 : Int64) (M : mM) : Option (Int64 × mM) :=
  k5 a0 i1 i2 sj0 (i5 + 1) M
set_option maxHeartbeats 4000000 in
set_option maxRecDepth 100000 in
theorem t_X12_power_J29 {X : mX} {L0 : Launch} {res : Int64 × mM} {N : Nat} (C : CX X RX12 "power" prog_14_method_26_code 6 (some .long)) (E : EX X L0 1 24 0 0 (some (.long res.1)) res.2) (k5 : Nat → Int32 → Int32 → Int64 → Int32 → mM → Option (Int64 × mM)) (Hk5 : ∀ (a0 : Nat) (i1 : Int32) (i2 : Int32) (j3 : Int64) (i5 : Int32) (M : mM), k5 a0 i1 i2 j3 i5 M = some res → EV X 6 5 [(0, .ref a0), (1, .int i1), (2, .int i2), (3, .long j3), (5, .int i5)] [] 0 0 M) (a0 : Nat) (i1 : Int32) (i2 : Int32) (i5 : Int32) (sj0 : Int64) (M : mM) (hf : m_X12_power_J29 N k5 a0 i1 i2 i5 sj0 M = some res) : EV X 6 29 [(0, .ref a0), (1, .int i1), (2, .int i2), (5, .int i5)] [.long sj0] 0 0 M := by
  unfold m_X12_power_J29 at hf
  refine ev_lstore_n (l' := [(3, .long sj0), (0, .ref a0), (1, .int i1), (2, .int i2), (5, .int i5)]) C dX12_power_29 rfl (by decide) rfl ?_
  refine ev_iinc (v := i5 + 1) (l' := [(5, .int (i5 + 1)), (3, .long sj0), (0, .ref a0), (1, .int i1), (2, .int i2)]) C dX12_power_30 (q := 4) rfl rfl (by decide) rfl ?_
  refine ev_goto (tgt := 5) C dX12_power_33 (by decide) ?_
  refine ev_sub [2, 3, 4, 1, 0] rfl ?_
  exact Hk5 a0 i1 i2 sj0 (i5 + 1) M hf
def m_X12_power_L5 (N : Nat)  : Nat → Nat → Int32 → Int32 → Int64 → Int32 → mM → Option (Int64 × mM)
  | 0, _, _, _, _, _, _ => none
  | n + 1, a0, i1, i2, j3, i5, M =>
    if i2 ≤ i5 then (
      (fI M a0 12 15).bind fun x1 =>
      if x1 = 0 then (
        some (j3, M)) else (
        some (0, M))) else (
      (fI M a0 12 15).bind fun x3 =>
      if x3 = 0 then (
        (oO M a0 12).bind fun _ =>
        (m_X12_times a0 j3 i1.toInt64 M).bind fun x7 =>
        m_X12_power_J29 N (m_X12_power_L5 N  n) a0 i1 i2 i5 x7.1 x7.2) else (
        m_X12_power_J29 N (m_X12_power_L5 N  n) a0 i1 i2 i5 0 M))
set_option maxHeartbeats 4000000 in
set_option maxRecDepth 100000 in
theorem t_X12_power_L5 {X : mX} {L0 : Launch} {res : Int64 × mM} {N : Nat} (C : CX X RX12 "power" prog_14_method_26_code 6 (some .long)) (E : EX X L0 1 24 0 0 (some (.long res.1)) res.2)   : ∀ (n : Nat) (a0 : Nat) (i1 : Int32) (i2 : Int32) (j3 : Int64) (i5 : Int32) (M : mM), m_X12_power_L5 N  n a0 i1 i2 j3 i5 M = some res → EV X 6 5 [(0, .ref a0), (1, .int i1), (2, .int i2), (3, .long j3), (5, .int i5)] [] 0 0 M := by
  intro n
  induction n with
  | zero => intro a0 i1 i2 j3 i5 M hf; cases (show (none : Option (Int64 × mM)) = some res from hf)
  | succ n ih =>
    intro a0 i1 i2 j3 i5 M hf
    rw [m_X12_power_L5] at hf
    refine ev_iload C dX12_power_5 (q := 4) rfl ?_
    refine ev_iload_n C dX12_power_7 rfl (q := 2) rfl ?_
    refine ev_icmp_ge (tgt := 36) C dX12_power_8 (by decide) (fun hc => ?_) (fun hc => ?_)
    · have hf := oit hf hc
      refine ev_aload_n C dX12_power_36 rfl (q := 0) rfl ?_
      obtain ⟨x1, e2, hf⟩ := obnd hf
      refine ev_get (k := 15) C ok_12 dX12_power_37 (by decide) kw_1174 (fI_V e2) ?_
      refine ev_if_eq (tgt := 47) C dX12_power_40 (by decide) (fun hc => ?_) (fun hc => ?_)
      · have hf := oit hf hc
        refine ev_lload_n C dX12_power_47 rfl (q := 3) rfl ?_
        obtain rfl := Option.some.inj hf
        exact ev_lret C E (Nat.le_refl 0) (Nat.le_refl 0) dX12_power_48
      · have hf := oie hf hc
        refine ev_lconst (v := 0) C dX12_power_43 (by decide) ?_
        refine ev_goto (tgt := 48) C dX12_power_44 (by decide) ?_
        obtain rfl := Option.some.inj hf
        exact ev_lret C E (Nat.le_refl 0) (Nat.le_refl 0) dX12_power_48
    · have hf := oie hf hc
      refine ev_aload_n C dX12_power_11 rfl (q := 0) rfl ?_
      obtain ⟨x3, e4, hf⟩ := obnd hf
      refine ev_get (k := 15) C ok_12 dX12_power_12 (by decide) kw_1174 (fI_V e4) ?_
      refine ev_if_eq (tgt := 22) C dX12_power_15 (by decide) (fun hc => ?_) (fun hc => ?_)
      · have hf := oit hf hc
        refine ev_aload_n C dX12_power_22 rfl (q := 0) rfl ?_
        refine ev_lload_n C dX12_power_23 rfl (q := 3) rfl ?_
        refine ev_iload_n C dX12_power_24 rfl (q := 1) rfl ?_
        refine ev_i2l C dX12_power_25 ?_
        obtain ⟨_, e5, hf⟩ := obnd hf
        obtain ⟨fs6, e5⟩ := oO_eq e5
        obtain ⟨x7, e8, hf⟩ := obnd hf
        refine ev_callV0 (As := [.long j3, .long i1.toInt64]) (st := []) C rfl e5 (t_X12_times e8) rfl hd_X12_times rfl kw_1372 kw_1374 kw_87 kw_30 kw_1375 (mRoom.of E (Nat.le_of_ble_eq_true rfl) (Nat.le_of_ble_eq_true rfl) (Nat.le_refl 0) (Nat.le_refl 0)) (Nat.le_of_ble_eq_true rfl) dX12_power_26 ?_
        refine ev_sub [0, 1, 2, 4] rfl ?_
        exact t_X12_power_J29 C E (m_X12_power_L5 N  n) ih a0 i1 i2 i5 x7.1 x7.2 hf
      · have hf := oie hf hc
        refine ev_lconst (v := 0) C dX12_power_18 (by decide) ?_
        refine ev_goto (tgt := 29) C dX12_power_19 (by decide) ?_
        refine ev_sub [0, 1, 2, 4] rfl ?_
        exact t_X12_power_J29 C E (m_X12_power_L5 N  n) ih a0 i1 i2 i5 0 M hf
def m_X12_power (N : Nat) (a0 : Nat) (i1 : Int32) (i2 : Int32) (M : mM) : Option (Int64 × mM) :=
  m_X12_power_L5 N  N a0 i1 i2 1 0 M
set_option maxHeartbeats 4000000 in
set_option maxRecDepth 100000 in
theorem t_X12_power {L0 : Launch} {M : mM} {N : Nat} {a0 : Nat} {i1 : Int32} {i2 : Int32} {res : Int64 × mM} (hf : m_X12_power N a0 i1 i2 M = some res) : CT L0 yX12_power prog_14_method_26_code 6 (some .long) 1 24 0 0 [.ref a0, .int i1, .int i2] M (some (.long res.1)) res.2 := by
  refine CT.of (by decide +kernel) (Nat.le_of_ble_eq_true rfl) fun X C E => ?_
  have C : CX X RX12 "power" prog_14_method_26_code 6 (some .long) := C
  show EV X 6 0 [(0, .ref a0), (1, .int i1), (2, .int i2)] [] 0 0 M
  unfold m_X12_power at hf
  refine ev_lconst (v := 1) C dX12_power_0 (by decide) ?_
  refine ev_lstore_n (l' := [(3, .long 1), (0, .ref a0), (1, .int i1), (2, .int i2)]) C dX12_power_1 rfl (by decide) rfl ?_
  refine ev_iconst (v := 0) C dX12_power_2 (by decide) ?_
  refine ev_istore (l' := [(5, .int 0), (3, .long 1), (0, .ref a0), (1, .int i1), (2, .int i2)]) C dX12_power_3 (by decide) rfl ?_
  refine ev_sub [2, 3, 4, 1, 0] rfl ?_
  exact t_X12_power_L5 C E   N a0 i1 i2 1 0 M hf
/-! FareLimitsModel next(II)J -/
theorem dX12_next_0 : decode prog_14_method_27_code 0 = .ok (.aload_n 0, 1) := by decide +kernel
theorem dX12_next_1 : decode prog_14_method_27_code 1 = .ok (.ldc2_w 92, 3) := by decide +kernel
theorem dX12_next_4 : decode prog_14_method_27_code 4 = .ok (.aload_n 0, 1) := by decide +kernel
theorem dX12_next_5 : decode prog_14_method_27_code 5 = .ok (.getfield 50, 3) := by decide +kernel
theorem dX12_next_8 : decode prog_14_method_27_code 8 = .ok (.iload_n 2, 1) := by decide +kernel
theorem dX12_next_9 : decode prog_14_method_27_code 9 = .ok (.laload, 1) := by decide +kernel
theorem dX12_next_10 : decode prog_14_method_27_code 10 = .ok (.invokevirtual 156, 3) := by decide +kernel
theorem dX12_next_13 : decode prog_14_method_27_code 13 = .ok (.lstore_n 3, 1) := by decide +kernel
theorem dX12_next_14 : decode prog_14_method_27_code 14 = .ok (.iconst 0, 1) := by decide +kernel
theorem dX12_next_15 : decode prog_14_method_27_code 15 = .ok (.istore 5, 2) := by decide +kernel
theorem dX12_next_17 : decode prog_14_method_27_code 17 = .ok (.iload 5, 2) := by decide +kernel
theorem dX12_next_19 : decode prog_14_method_27_code 19 = .ok (.aload_n 0, 1) := by decide +kernel
theorem dX12_next_20 : decode prog_14_method_27_code 20 = .ok (.getfield 9, 3) := by decide +kernel
theorem dX12_next_23 : decode prog_14_method_27_code 23 = .ok (.iconst 0, 1) := by decide +kernel
theorem dX12_next_24 : decode prog_14_method_27_code 24 = .ok (.iaload, 1) := by decide +kernel
theorem dX12_next_25 : decode prog_14_method_27_code 25 = .ok (.if_icmp .ge 81, 3) := by decide +kernel
theorem dX12_next_28 : decode prog_14_method_27_code 28 = .ok (.aload_n 0, 1) := by decide +kernel
theorem dX12_next_29 : decode prog_14_method_27_code 29 = .ok (.aload_n 0, 1) := by decide +kernel
theorem dX12_next_30 : decode prog_14_method_27_code 30 = .ok (.iload 5, 2) := by decide +kernel
theorem dX12_next_32 : decode prog_14_method_27_code 32 = .ok (.invokevirtual 88, 3) := by decide +kernel
theorem dX12_next_35 : decode prog_14_method_27_code 35 = .ok (.i2l, 1) := by decide +kernel
theorem dX12_next_36 : decode prog_14_method_27_code 36 = .ok (.aload_n 0, 1) := by decide +kernel
theorem dX12_next_37 : decode prog_14_method_27_code 37 = .ok (.bipush 100, 2) := by decide +kernel
theorem dX12_next_39 : decode prog_14_method_27_code 39 = .ok (.iload_n 1, 1) := by decide +kernel
theorem dX12_next_40 : decode prog_14_method_27_code 40 = .ok (.iconst 1, 1) := by decide +kernel
theorem dX12_next_41 : decode prog_14_method_27_code 41 = .ok (.isub, 1) := by decide +kernel
theorem dX12_next_42 : decode prog_14_method_27_code 42 = .ok (.invokevirtual 160, 3) := by decide +kernel
theorem dX12_next_45 : decode prog_14_method_27_code 45 = .ok (.invokevirtual 156, 3) := by decide +kernel
theorem dX12_next_48 : decode prog_14_method_27_code 48 = .ok (.aload_n 0, 1) := by decide +kernel
theorem dX12_next_49 : decode prog_14_method_27_code 49 = .ok (.getfield 50, 3) := by decide +kernel
theorem dX12_next_52 : decode prog_14_method_27_code 52 = .ok (.iload_n 2, 1) := by decide +kernel
theorem dX12_next_53 : decode prog_14_method_27_code 53 = .ok (.laload, 1) := by decide +kernel
theorem dX12_next_54 : decode prog_14_method_27_code 54 = .ok (.aload_n 0, 1) := by decide +kernel
theorem dX12_next_55 : decode prog_14_method_27_code 55 = .ok (.getfield 50, 3) := by decide +kernel
theorem dX12_next_58 : decode prog_14_method_27_code 58 = .ok (.iload_n 2, 1) := by decide +kernel
theorem dX12_next_59 : decode prog_14_method_27_code 59 = .ok (.iconst 1, 1) := by decide +kernel
theorem dX12_next_60 : decode prog_14_method_27_code 60 = .ok (.isub, 1) := by decide +kernel
theorem dX12_next_61 : decode prog_14_method_27_code 61 = .ok (.laload, 1) := by decide +kernel
theorem dX12_next_62 : decode prog_14_method_27_code 62 = .ok (.lsub, 1) := by decide +kernel
theorem dX12_next_63 : decode prog_14_method_27_code 63 = .ok (.lsub, 1) := by decide +kernel
theorem dX12_next_64 : decode prog_14_method_27_code 64 = .ok (.lstore 6, 2) := by decide +kernel
theorem dX12_next_66 : decode prog_14_method_27_code 66 = .ok (.lload 6, 2) := by decide +kernel
theorem dX12_next_68 : decode prog_14_method_27_code 68 = .ok (.lconst 0, 1) := by decide +kernel
theorem dX12_next_69 : decode prog_14_method_27_code 69 = .ok (.lcmp, 1) := by decide +kernel
theorem dX12_next_70 : decode prog_14_method_27_code 70 = .ok (.ifCond .le 30, 3) := by decide +kernel
theorem dX12_next_73 : decode prog_14_method_27_code 73 = .ok (.aload_n 0, 1) := by decide +kernel
theorem dX12_next_74 : decode prog_14_method_27_code 74 = .ok (.getfield 152, 3) := by decide +kernel
theorem dX12_next_77 : decode prog_14_method_27_code 77 = .ok (.ifCond .ne 23, 3) := by decide +kernel
theorem dX12_next_80 : decode prog_14_method_27_code 80 = .ok (.aload_n 0, 1) := by decide +kernel
theorem dX12_next_81 : decode prog_14_method_27_code 81 = .ok (.lload_n 3, 1) := by decide +kernel
theorem dX12_next_82 : decode prog_14_method_27_code 82 = .ok (.aload_n 0, 1) := by decide +kernel
theorem dX12_next_83 : decode prog_14_method_27_code 83 = .ok (.aload_n 0, 1) := by decide +kernel
theorem dX12_next_84 : decode prog_14_method_27_code 84 = .ok (.iload 5, 2) := by decide +kernel
theorem dX12_next_86 : decode prog_14_method_27_code 86 = .ok (.iload_n 1, 1) := by decide +kernel
theorem dX12_next_87 : decode prog_14_method_27_code 87 = .ok (.invokevirtual 133, 3) := by decide +kernel
theorem dX12_next_90 : decode prog_14_method_27_code 90 = .ok (.i2l, 1) := by decide +kernel
theorem dX12_next_91 : decode prog_14_method_27_code 91 = .ok (.lload 6, 2) := by decide +kernel
theorem dX12_next_93 : decode prog_14_method_27_code 93 = .ok (.invokevirtual 156, 3) := by decide +kernel
theorem dX12_next_96 : decode prog_14_method_27_code 96 = .ok (.invokevirtual 164, 3) := by decide +kernel
theorem dX12_next_99 : decode prog_14_method_27_code 99 = .ok (.lstore_n 3, 1) := by decide +kernel
theorem dX12_next_100 : decode prog_14_method_27_code 100 = .ok (.iinc 5 1, 3) := by decide +kernel
theorem dX12_next_103 : decode prog_14_method_27_code 103 = .ok (.goto (-86), 3) := by decide +kernel
theorem dX12_next_106 : decode prog_14_method_27_code 106 = .ok (.lload_n 3, 1) := by decide +kernel
theorem dX12_next_107 : decode prog_14_method_27_code 107 = .ok (.lreturn, 1) := by decide +kernel
def m_X12_next_J100 (N : Nat) (k17 : Nat → Int32 → Int32 → Int64 → Int32 → mM → Option (Int64 × mM)) (a0 : Nat) (i1 : Int32) (i2 : Int32) (j3 : Int64) (i5 : Int32) (M : mM) : Option (Int64 × mM) :=
  k17 a0 i1 i2 j3 (i5 + 1) M
set_option maxHeartbeats 4000000 in
set_option maxRecDepth 100000 in
theorem t_X12_next_J100 {X : mX} {L0 : Launch} {res : Int64 × mM} {N : Nat} (C : CX X RX12 "next" prog_14_method_27_code 8 (some .long)) (E : EX X L0 2 49 0 0 (some (.long res.1)) res.2) (k17 : Nat → Int32 → Int32 → Int64 → Int32 → mM → Option (Int64 × mM)) (Hk17 : ∀ (a0 : Nat) (i1 : Int32) (i2 : Int32) (j3 : Int64) (i5 : Int32) (M : mM), k17 a0 i1 i2 j3 i5 M = some res → EV X 8 17 [(0, .ref a0), (1, .int i1), (2, .int i2), (3, .long j3), (5, .int i5)] [] 0 0 M) (a0 : Nat) (i1 : Int32) (i2 : Int32) (j3 : Int64) (i5 : Int32) (M : mM) (hf : m_X12_next_J100 N k17 a0 i1 i2 j3 i5 M = some res) : EV X 8 100 [(0, .ref a0), (1, .int i1), (2, .int i2), (3, .long j3), (5, .int i5)] [] 0 0 M := by
  unfold m_X12_next_J100 at hf
  refine ev_iinc (v := i5 + 1) (l' := [(5, .int (i5 + 1)), (0, .ref a0), (1, .int i1), (2, .int i2), (3, .long j3)]) C dX12_next_100 (q := 4) rfl rfl (by decide) rfl ?_
  refine ev_goto (tgt := 17) C dX12_next_103 (by decide) ?_
  refine ev_sub [1, 2, 3, 4, 0] rfl ?_
  exact Hk17 a0 i1 i2 j3 (i5 + 1) M hf
def m_X12_next_L17 (N : Nat)  : Nat → Nat → Int32 → Int32 → Int64 → Int32 → mM → Option (Int64 × mM)
  | 0, _, _, _, _, _, _ => none
  | n + 1, a0, i1, i2, j3, i5, M =>
    (fR M a0 12 0).bind fun x1 =>
    (aI 0 M x1 0).bind fun x3 =>
    if x3 ≤ i5 then (
      some (j3, M)) else (
      (oO M a0 12).bind fun _ =>
      (m_X12_price a0 i5 M).bind fun x7 =>
      (oO M a0 12).bind fun _ =>
      (m_X12_power N a0 100 (i1 - 1) M).bind fun x11 =>
      (oO x11.2 a0 12).bind fun _ =>
      (m_X12_times a0 x7.toInt64 x11.1 x11.2).bind fun x15 =>
      (fR x15.2 a0 12 16).bind fun x17 =>
      (aL x15.2 x17 i2).bind fun x19 =>
      (fR x15.2 a0 12 16).bind fun x21 =>
      (aL x15.2 x21 (i2 - 1)).bind fun x23 =>
      if (lg_cmp (x15.1 - (x19 - x23)) 0) ≤ 0 then (
        m_X12_next_J100 N (m_X12_next_L17 N  n) a0 i1 i2 j3 i5 x15.2) else (
        (fI x15.2 a0 12 15).bind fun x25 =>
        if x25 = 0 then (
          (oO x15.2 a0 12).bind fun _ =>
          (m_X12_odds a0 i5 i1 x15.2).bind fun x29 =>
          (oO x15.2 a0 12).bind fun _ =>
          (m_X12_times a0 x29.toInt64 (x15.1 - (x19 - x23)) x15.2).bind fun x33 =>
          (oO x33.2 a0 12).bind fun _ =>
          (m_X12_plus a0 j3 x33.1 x33.2).bind fun x37 =>
          m_X12_next_J100 N (m_X12_next_L17 N  n) a0 i1 i2 x37.1 i5 x37.2) else (
          m_X12_next_J100 N (m_X12_next_L17 N  n) a0 i1 i2 j3 i5 x15.2)))
set_option maxHeartbeats 4000000 in
set_option maxRecDepth 100000 in
theorem t_X12_next_L17 {X : mX} {L0 : Launch} {res : Int64 × mM} {N : Nat} (C : CX X RX12 "next" prog_14_method_27_code 8 (some .long)) (E : EX X L0 2 49 0 0 (some (.long res.1)) res.2)   : ∀ (n : Nat) (a0 : Nat) (i1 : Int32) (i2 : Int32) (j3 : Int64) (i5 : Int32) (M : mM), m_X12_next_L17 N  n a0 i1 i2 j3 i5 M = some res → EV X 8 17 [(0, .ref a0), (1, .int i1), (2, .int i2), (3, .long j3), (5, .int i5)] [] 0 0 M := by
  intro n
  induction n with
  | zero => intro a0 i1 i2 j3 i5 M hf; cases (show (none : Option (Int64 × mM)) = some res from hf)
  | succ n ih =>
    intro a0 i1 i2 j3 i5 M hf
    rw [m_X12_next_L17] at hf
    refine ev_iload C dX12_next_17 (q := 4) rfl ?_
    refine ev_aload_n C dX12_next_19 rfl (q := 0) rfl ?_
    obtain ⟨x1, e2, hf⟩ := obnd hf
    refine ev_get (k := 0) C ok_12 dX12_next_20 (by decide) kw_1159 (fR_V e2) ?_
    refine ev_iconst (v := 0) C dX12_next_23 (by decide) ?_
    obtain ⟨x3, e4, hf⟩ := obnd hf
    refine ev_iald C dX12_next_24 e4 ?_
    refine ev_icmp_ge (tgt := 106) C dX12_next_25 (by decide) (fun hc => ?_) (fun hc => ?_)
    · have hf := oit hf hc
      refine ev_lload_n C dX12_next_106 rfl (q := 3) rfl ?_
      obtain rfl := Option.some.inj hf
      exact ev_lret C E (Nat.le_refl 0) (Nat.le_refl 0) dX12_next_107
    · have hf := oie hf hc
      refine ev_aload_n C dX12_next_28 rfl (q := 0) rfl ?_
      refine ev_aload_n C dX12_next_29 rfl (q := 0) rfl ?_
      refine ev_iload C dX12_next_30 (q := 4) rfl ?_
      obtain ⟨_, e5, hf⟩ := obnd hf
      obtain ⟨fs6, e5⟩ := oO_eq e5
      obtain ⟨x7, e8, hf⟩ := obnd hf
      refine ev_callV0 (As := [.int i5]) (st := [.ref a0]) C rfl e5 (t_X12_price e8) rfl hd_X12_price rfl kw_1266 kw_1268 kw_87 kw_21 kw_1269 (mRoom.of E (Nat.le_of_ble_eq_true rfl) (Nat.le_of_ble_eq_true rfl) (Nat.le_refl 0) (Nat.le_refl 0)) (Nat.le_of_ble_eq_true rfl) dX12_next_32 ?_
      refine ev_i2l C dX12_next_35 ?_
      refine ev_aload_n C dX12_next_36 rfl (q := 0) rfl ?_
      refine ev_bipush (v := 100) C dX12_next_37 (by decide) ?_
      refine ev_iload_n C dX12_next_39 rfl (q := 1) rfl ?_
      refine ev_iconst (v := 1) C dX12_next_40 (by decide) ?_
      refine ev_isub C dX12_next_41 ?_
      obtain ⟨_, e9, hf⟩ := obnd hf
      obtain ⟨fs10, e9⟩ := oO_eq e9
      obtain ⟨x11, e12, hf⟩ := obnd hf
      refine ev_callV0 (As := [.int 100, .int (i1 - 1)]) (st := [.long x7.toInt64, .ref a0]) C rfl e9 (t_X12_power e12) rfl hd_X12_power rfl kw_1377 kw_1379 kw_87 kw_31 kw_1380 (mRoom.of E (Nat.le_of_ble_eq_true rfl) (Nat.le_of_ble_eq_true rfl) (Nat.le_refl 0) (Nat.le_refl 0)) (Nat.le_of_ble_eq_true rfl) dX12_next_42 ?_
      obtain ⟨_, e13, hf⟩ := obnd hf
      obtain ⟨fs14, e13⟩ := oO_eq e13
      obtain ⟨x15, e16, hf⟩ := obnd hf
      refine ev_callV0 (As := [.long x7.toInt64, .long x11.1]) (st := []) C rfl e13 (t_X12_times e16) rfl hd_X12_times rfl kw_1372 kw_1374 kw_87 kw_30 kw_1375 (mRoom.of E (Nat.le_of_ble_eq_true rfl) (Nat.le_of_ble_eq_true rfl) (Nat.le_refl 0) (Nat.le_refl 0)) (Nat.le_of_ble_eq_true rfl) dX12_next_45 ?_
      refine ev_aload_n C dX12_next_48 rfl (q := 0) rfl ?_
      obtain ⟨x17, e18, hf⟩ := obnd hf
      refine ev_get (k := 16) C ok_12 dX12_next_49 (by decide) kw_1175 (fR_V e18) ?_
      refine ev_iload_n C dX12_next_52 rfl (q := 2) rfl ?_
      obtain ⟨x19, e20, hf⟩ := obnd hf
      refine ev_lald C dX12_next_53 e20 ?_
      refine ev_aload_n C dX12_next_54 rfl (q := 0) rfl ?_
      obtain ⟨x21, e22, hf⟩ := obnd hf
      refine ev_get (k := 16) C ok_12 dX12_next_55 (by decide) kw_1175 (fR_V e22) ?_
      refine ev_iload_n C dX12_next_58 rfl (q := 2) rfl ?_
      refine ev_iconst (v := 1) C dX12_next_59 (by decide) ?_
      refine ev_isub C dX12_next_60 ?_
      obtain ⟨x23, e24, hf⟩ := obnd hf
      refine ev_lald C dX12_next_61 e24 ?_
      refine ev_lsub C dX12_next_62 ?_
      refine ev_lsub C dX12_next_63 ?_
      refine ev_lstore (l' := [(6, .long (x15.1 - (x19 - x23))), (0, .ref a0), (1, .int i1), (2, .int i2), (3, .long j3), (5, .int i5)]) C dX12_next_64 (by decide) rfl ?_
      refine ev_lload C dX12_next_66 (q := 0) rfl ?_
      refine ev_lconst (v := 0) C dX12_next_68 (by decide) ?_
      refine ev_lcmp C dX12_next_69 ?_
      refine ev_if_le (tgt := 100) C dX12_next_70 (by decide) (fun hc => ?_) (fun hc => ?_)
      · have hf := oit hf hc
        refine ev_sub [1, 2, 3, 4, 5] rfl ?_
        exact t_X12_next_J100 C E (m_X12_next_L17 N  n) ih a0 i1 i2 j3 i5 x15.2 hf
      · have hf := oie hf hc
        refine ev_aload_n C dX12_next_73 rfl (q := 1) rfl ?_
        obtain ⟨x25, e26, hf⟩ := obnd hf
        refine ev_get (k := 15) C ok_12 dX12_next_74 (by decide) kw_1174 (fI_V e26) ?_
        refine ev_if_ne (tgt := 100) C dX12_next_77 (by decide) (fun hc => ?_) (fun hc => ?_)
        · have hf := oie hf hc
          refine ev_sub [1, 2, 3, 4, 5] rfl ?_
          exact t_X12_next_J100 C E (m_X12_next_L17 N  n) ih a0 i1 i2 j3 i5 x15.2 hf
        · have hf := oit hf hc
          refine ev_aload_n C dX12_next_80 rfl (q := 1) rfl ?_
          refine ev_lload_n C dX12_next_81 rfl (q := 4) rfl ?_
          refine ev_aload_n C dX12_next_82 rfl (q := 1) rfl ?_
          refine ev_aload_n C dX12_next_83 rfl (q := 1) rfl ?_
          refine ev_iload C dX12_next_84 (q := 5) rfl ?_
          refine ev_iload_n C dX12_next_86 rfl (q := 2) rfl ?_
          obtain ⟨_, e27, hf⟩ := obnd hf
          obtain ⟨fs28, e27⟩ := oO_eq e27
          obtain ⟨x29, e30, hf⟩ := obnd hf
          refine ev_callV0 (As := [.int i5, .int i1]) (st := [.ref a0, .long j3, .ref a0]) C rfl e27 (t_X12_odds e30) rfl hd_X12_odds rfl kw_1346 kw_1348 kw_87 kw_28 kw_1349 (mRoom.of E (Nat.le_of_ble_eq_true rfl) (Nat.le_of_ble_eq_true rfl) (Nat.le_refl 0) (Nat.le_refl 0)) (Nat.le_of_ble_eq_true rfl) dX12_next_87 ?_
          refine ev_i2l C dX12_next_90 ?_
          refine ev_lload C dX12_next_91 (q := 0) rfl ?_
          obtain ⟨_, e31, hf⟩ := obnd hf
          obtain ⟨fs32, e31⟩ := oO_eq e31
          obtain ⟨x33, e34, hf⟩ := obnd hf
          refine ev_callV0 (As := [.long x29.toInt64, .long (x15.1 - (x19 - x23))]) (st := [.long j3, .ref a0]) C rfl e31 (t_X12_times e34) rfl hd_X12_times rfl kw_1372 kw_1374 kw_87 kw_30 kw_1375 (mRoom.of E (Nat.le_of_ble_eq_true rfl) (Nat.le_of_ble_eq_true rfl) (Nat.le_refl 0) (Nat.le_refl 0)) (Nat.le_of_ble_eq_true rfl) dX12_next_93 ?_
          obtain ⟨_, e35, hf⟩ := obnd hf
          obtain ⟨fs36, e35⟩ := oO_eq e35
          obtain ⟨x37, e38, hf⟩ := obnd hf
          refine ev_callV0 (As := [.long j3, .long x33.1]) (st := []) C rfl e35 (t_X12_plus e38) rfl hd_X12_plus rfl kw_1381 kw_1383 kw_87 kw_32 kw_1384 (mRoom.of E (Nat.le_of_ble_eq_true rfl) (Nat.le_of_ble_eq_true rfl) (Nat.le_refl 0) (Nat.le_refl 0)) (Nat.le_of_ble_eq_true rfl) dX12_next_96 ?_
          refine ev_lstore_n (l' := [(3, .long x37.1), (6, .long (x15.1 - (x19 - x23))), (0, .ref a0), (1, .int i1), (2, .int i2), (5, .int i5)]) C dX12_next_99 rfl (by decide) rfl ?_
          refine ev_sub [2, 3, 4, 0, 5] rfl ?_
          exact t_X12_next_J100 C E (m_X12_next_L17 N  n) ih a0 i1 i2 x37.1 i5 x37.2 hf
def m_X12_next (N : Nat) (a0 : Nat) (i1 : Int32) (i2 : Int32) (M : mM) : Option (Int64 × mM) :=
  (fR M a0 12 16).bind fun x1 =>
  (aL M x1 i2).bind fun x3 =>
  (oO M a0 12).bind fun _ =>
  (m_X12_times a0 100 x3 M).bind fun x7 =>
  m_X12_next_L17 N  N a0 i1 i2 x7.1 0 x7.2
set_option maxHeartbeats 4000000 in
set_option maxRecDepth 100000 in
theorem t_X12_next {L0 : Launch} {M : mM} {N : Nat} {a0 : Nat} {i1 : Int32} {i2 : Int32} {res : Int64 × mM} (hf : m_X12_next N a0 i1 i2 M = some res) : CT L0 yX12_next prog_14_method_27_code 8 (some .long) 2 49 0 0 [.ref a0, .int i1, .int i2] M (some (.long res.1)) res.2 := by
  refine CT.of (by decide +kernel) (Nat.le_of_ble_eq_true rfl) fun X C E => ?_
  have C : CX X RX12 "next" prog_14_method_27_code 8 (some .long) := C
  show EV X 8 0 [(0, .ref a0), (1, .int i1), (2, .int i2)] [] 0 0 M
  unfold m_X12_next at hf
  refine ev_aload_n C dX12_next_0 rfl (q := 0) rfl ?_
  refine ev_ldc2 (v := 100) C dX12_next_1 kw_1274 ?_
  refine ev_aload_n C dX12_next_4 rfl (q := 0) rfl ?_
  obtain ⟨x1, e2, hf⟩ := obnd hf
  refine ev_get (k := 16) C ok_12 dX12_next_5 (by decide) kw_1175 (fR_V e2) ?_
  refine ev_iload_n C dX12_next_8 rfl (q := 2) rfl ?_
  obtain ⟨x3, e4, hf⟩ := obnd hf
  refine ev_lald C dX12_next_9 e4 ?_
  obtain ⟨_, e5, hf⟩ := obnd hf
  obtain ⟨fs6, e5⟩ := oO_eq e5
  obtain ⟨x7, e8, hf⟩ := obnd hf
  refine ev_callV0 (As := [.long 100, .long x3]) (st := []) C rfl e5 (t_X12_times e8) rfl hd_X12_times rfl kw_1372 kw_1374 kw_87 kw_30 kw_1375 (mRoom.of E (Nat.le_of_ble_eq_true rfl) (Nat.le_of_ble_eq_true rfl) (Nat.le_refl 0) (Nat.le_refl 0)) (Nat.le_of_ble_eq_true rfl) dX12_next_10 ?_
  refine ev_lstore_n (l' := [(3, .long x7.1), (0, .ref a0), (1, .int i1), (2, .int i2)]) C dX12_next_13 rfl (by decide) rfl ?_
  refine ev_iconst (v := 0) C dX12_next_14 (by decide) ?_
  refine ev_istore (l' := [(5, .int 0), (3, .long x7.1), (0, .ref a0), (1, .int i1), (2, .int i2)]) C dX12_next_15 (by decide) rfl ?_
  refine ev_sub [2, 3, 4, 1, 0] rfl ?_
  exact t_X12_next_L17 C E   N a0 i1 i2 x7.1 0 x7.2 hf
