/-! FareLimits$Worths <init>(LFareLimits$Plan;)V -/
theorem dX10_init_0 : decode prog_12_method_1_code 0 = .ok (.aload_n 0, 1) := by decide +kernel
theorem dX10_init_1 : decode prog_12_method_1_code 1 = .ok (.invokespecial 3, 3) := by decide +kernel
theorem dX10_init_4 : decode prog_12_method_1_code 4 = .ok (.aload_n 0, 1) := by decide +kernel
theorem dX10_init_5 : decode prog_12_method_1_code 5 = .ok (.bipush 21, 2) := by decide +kernel
theorem dX10_init_7 : decode prog_12_method_1_code 7 = .ok (.bipush 31, 2) := by decide +kernel
theorem dX10_init_9 : decode prog_12_method_1_code 9 = .ok (.multianewarray 9 2, 4) := by decide +kernel
theorem dX10_init_13 : decode prog_12_method_1_code 13 = .ok (.putfield 11, 3) := by decide +kernel
theorem dX10_init_16 : decode prog_12_method_1_code 16 = .ok (.aload_n 0, 1) := by decide +kernel
theorem dX10_init_17 : decode prog_12_method_1_code 17 = .ok (.bipush 6, 2) := by decide +kernel
theorem dX10_init_19 : decode prog_12_method_1_code 19 = .ok (.newarray .double, 2) := by decide +kernel
theorem dX10_init_21 : decode prog_12_method_1_code 21 = .ok (.putfield 16, 3) := by decide +kernel
theorem dX10_init_24 : decode prog_12_method_1_code 24 = .ok (.aload_n 0, 1) := by decide +kernel
theorem dX10_init_25 : decode prog_12_method_1_code 25 = .ok (.aload_n 1, 1) := by decide +kernel
theorem dX10_init_26 : decode prog_12_method_1_code 26 = .ok (.putfield 20, 3) := by decide +kernel
theorem dX10_init_29 : decode prog_12_method_1_code 29 = .ok (.return_, 1) := by decide +kernel
def m_X10_init (mc ms : Nat) (a0 : Nat) (a1 : Nat) (M : mM) : Option (mM) :=
  (oif (0 + 22 ≤ mc ∧ 0 + 672 ≤ ms)).bind fun _ =>
  (sV (mnaD 21 31 M) a0 10 1 (.ref M.length)).bind fun M1 =>
  (oif ((0 + 22) + 1 ≤ mc ∧ (0 + 672) + 6 ≤ ms)).bind fun _ =>
  (sV (M1 ++ [.inl (2, 6, .inr (.inr (.inr (.inl (fun _ => 0)))))]) a0 10 2 (.ref M1.length)).bind fun M3 =>
  (sV M3 a0 10 0 (.ref a1)).bind fun M5 =>
  some M5
set_option maxHeartbeats 4000000 in
set_option maxRecDepth 100000 in
theorem t_X10_init {L0 : Launch} {M : mM} {mc ms : Nat} {a0 : Nat} {a1 : Nat} {res : mM} (hf : m_X10_init mc ms a0 a1 M = some res) : CT L0 yX10_init prog_12_method_1_code 2 none 1 20 mc ms [.ref a0, .ref a1] M none res := by
  refine CT.of (by decide +kernel) (Nat.le_of_ble_eq_true rfl) fun X C E => ?_
  have C : CX X RX10 "<init>" prog_12_method_1_code 2 none := C
  show EV X 2 0 [(0, .ref a0), (1, .ref a1)] [] 0 0 M
  unfold m_X10_init at hf
  have hk : 0 ≤ mc ∧ 0 ≤ ms := ⟨Nat.zero_le _, Nat.zero_le _⟩
  refine ev_aload_n C dX10_init_0 rfl (q := 0) rfl ?_
  refine ev_objInit C kw_213 kw_104 kw_105 (mfr E (by decide)) (mlo E (by decide)) (Nat.le_of_ble_eq_true rfl) dX10_init_1 ?_
  refine ev_aload_n C dX10_init_4 rfl (q := 0) rfl ?_
  refine ev_bipush (v := 21) C dX10_init_5 (by decide) ?_
  refine ev_bipush (v := 31) C dX10_init_7 (by decide) ?_
  obtain ⟨_, hk, hf⟩ := obnd hf
  have hk := oif_eq hk
  refine ev_mna_D (n := 21) (k := 31) C dX10_init_9 kw_214 kw_229 (by decide) (by decide) (mcap E hk).1 (mcap E hk).2 ?_
  obtain ⟨M1, e2, hf⟩ := obnd hf
  refine ev_putF (k := 1) C ok_10 dX10_init_13 (by decide) kw_217 rfl rfl ⟨rfl, rfl⟩ e2 ?_
  refine ev_aload_n C dX10_init_16 rfl (q := 0) rfl ?_
  refine ev_bipush (v := 6) C dX10_init_17 (by decide) ?_
  obtain ⟨_, hk, hf⟩ := obnd hf
  have hk := oif_eq hk
  refine ev_newa_d (N := 6) C dX10_init_19 kw_229 (by decide) (by decide) (by decide) (mcap E hk).1 (mcap E hk).2 ?_
  obtain ⟨M3, e4, hf⟩ := obnd hf
  refine ev_putF (k := 2) C ok_10 dX10_init_21 (by decide) kw_218 rfl rfl ⟨rfl, rfl⟩ e4 ?_
  refine ev_aload_n C dX10_init_24 rfl (q := 0) rfl ?_
  refine ev_aload_n C dX10_init_25 rfl (q := 1) rfl ?_
  obtain ⟨M5, e6, hf⟩ := obnd hf
  refine ev_putF (k := 0) C ok_10 dX10_init_26 (by decide) kw_216 rfl rfl ⟨rfl, rfl⟩ e6 ?_
  obtain rfl := Option.some.inj hf
  exact ev_vret C E hk.1 hk.2 dX10_init_29
/-! FareLimits <init>()V -/
theorem dX11_init_0 : decode prog_1_method_1_code 0 = .ok (.aload_n 0, 1) := by decide +kernel
theorem dX11_init_1 : decode prog_1_method_1_code 1 = .ok (.invokespecial 3, 3) := by decide +kernel
theorem dX11_init_4 : decode prog_1_method_1_code 4 = .ok (.aload_n 0, 1) := by decide +kernel
theorem dX11_init_5 : decode prog_1_method_1_code 5 = .ok (.new 9, 3) := by decide +kernel
theorem dX11_init_8 : decode prog_1_method_1_code 8 = .ok (.dup, 1) := by decide +kernel
theorem dX11_init_9 : decode prog_1_method_1_code 9 = .ok (.invokespecial 11, 3) := by decide +kernel
theorem dX11_init_12 : decode prog_1_method_1_code 12 = .ok (.putfield 12, 3) := by decide +kernel
theorem dX11_init_15 : decode prog_1_method_1_code 15 = .ok (.aload_n 0, 1) := by decide +kernel
theorem dX11_init_16 : decode prog_1_method_1_code 16 = .ok (.new 9, 3) := by decide +kernel
theorem dX11_init_19 : decode prog_1_method_1_code 19 = .ok (.dup, 1) := by decide +kernel
theorem dX11_init_20 : decode prog_1_method_1_code 20 = .ok (.invokespecial 11, 3) := by decide +kernel
theorem dX11_init_23 : decode prog_1_method_1_code 23 = .ok (.putfield 16, 3) := by decide +kernel
theorem dX11_init_26 : decode prog_1_method_1_code 26 = .ok (.aload_n 0, 1) := by decide +kernel
theorem dX11_init_27 : decode prog_1_method_1_code 27 = .ok (.new 19, 3) := by decide +kernel
theorem dX11_init_30 : decode prog_1_method_1_code 30 = .ok (.dup, 1) := by decide +kernel
theorem dX11_init_31 : decode prog_1_method_1_code 31 = .ok (.aload_n 0, 1) := by decide +kernel
theorem dX11_init_32 : decode prog_1_method_1_code 32 = .ok (.getfield 12, 3) := by decide +kernel
theorem dX11_init_35 : decode prog_1_method_1_code 35 = .ok (.invokespecial 21, 3) := by decide +kernel
theorem dX11_init_38 : decode prog_1_method_1_code 38 = .ok (.putfield 24, 3) := by decide +kernel
theorem dX11_init_41 : decode prog_1_method_1_code 41 = .ok (.aload_n 0, 1) := by decide +kernel
theorem dX11_init_42 : decode prog_1_method_1_code 42 = .ok (.new 28, 3) := by decide +kernel
theorem dX11_init_45 : decode prog_1_method_1_code 45 = .ok (.dup, 1) := by decide +kernel
theorem dX11_init_46 : decode prog_1_method_1_code 46 = .ok (.aload_n 0, 1) := by decide +kernel
theorem dX11_init_47 : decode prog_1_method_1_code 47 = .ok (.getfield 12, 3) := by decide +kernel
theorem dX11_init_50 : decode prog_1_method_1_code 50 = .ok (.invokespecial 30, 3) := by decide +kernel
theorem dX11_init_53 : decode prog_1_method_1_code 53 = .ok (.putfield 31, 3) := by decide +kernel
theorem dX11_init_56 : decode prog_1_method_1_code 56 = .ok (.aload_n 0, 1) := by decide +kernel
theorem dX11_init_57 : decode prog_1_method_1_code 57 = .ok (.new 35, 3) := by decide +kernel
theorem dX11_init_60 : decode prog_1_method_1_code 60 = .ok (.dup, 1) := by decide +kernel
theorem dX11_init_61 : decode prog_1_method_1_code 61 = .ok (.aload_n 0, 1) := by decide +kernel
theorem dX11_init_62 : decode prog_1_method_1_code 62 = .ok (.getfield 12, 3) := by decide +kernel
theorem dX11_init_65 : decode prog_1_method_1_code 65 = .ok (.invokespecial 37, 3) := by decide +kernel
theorem dX11_init_68 : decode prog_1_method_1_code 68 = .ok (.putfield 38, 3) := by decide +kernel
theorem dX11_init_71 : decode prog_1_method_1_code 71 = .ok (.aload_n 0, 1) := by decide +kernel
theorem dX11_init_72 : decode prog_1_method_1_code 72 = .ok (.new 42, 3) := by decide +kernel
theorem dX11_init_75 : decode prog_1_method_1_code 75 = .ok (.dup, 1) := by decide +kernel
theorem dX11_init_76 : decode prog_1_method_1_code 76 = .ok (.invokespecial 44, 3) := by decide +kernel
theorem dX11_init_79 : decode prog_1_method_1_code 79 = .ok (.putfield 45, 3) := by decide +kernel
theorem dX11_init_82 : decode prog_1_method_1_code 82 = .ok (.aload_n 0, 1) := by decide +kernel
theorem dX11_init_83 : decode prog_1_method_1_code 83 = .ok (.new 49, 3) := by decide +kernel
theorem dX11_init_86 : decode prog_1_method_1_code 86 = .ok (.dup, 1) := by decide +kernel
theorem dX11_init_87 : decode prog_1_method_1_code 87 = .ok (.aload_n 0, 1) := by decide +kernel
theorem dX11_init_88 : decode prog_1_method_1_code 88 = .ok (.getfield 12, 3) := by decide +kernel
theorem dX11_init_91 : decode prog_1_method_1_code 91 = .ok (.aload_n 0, 1) := by decide +kernel
theorem dX11_init_92 : decode prog_1_method_1_code 92 = .ok (.getfield 24, 3) := by decide +kernel
theorem dX11_init_95 : decode prog_1_method_1_code 95 = .ok (.invokespecial 51, 3) := by decide +kernel
theorem dX11_init_98 : decode prog_1_method_1_code 98 = .ok (.putfield 54, 3) := by decide +kernel
theorem dX11_init_101 : decode prog_1_method_1_code 101 = .ok (.aload_n 0, 1) := by decide +kernel
theorem dX11_init_102 : decode prog_1_method_1_code 102 = .ok (.new 58, 3) := by decide +kernel
theorem dX11_init_105 : decode prog_1_method_1_code 105 = .ok (.dup, 1) := by decide +kernel
theorem dX11_init_106 : decode prog_1_method_1_code 106 = .ok (.invokespecial 60, 3) := by decide +kernel
theorem dX11_init_109 : decode prog_1_method_1_code 109 = .ok (.putfield 61, 3) := by decide +kernel
theorem dX11_init_112 : decode prog_1_method_1_code 112 = .ok (.aload_n 0, 1) := by decide +kernel
theorem dX11_init_113 : decode prog_1_method_1_code 113 = .ok (.iconst 4, 1) := by decide +kernel
theorem dX11_init_114 : decode prog_1_method_1_code 114 = .ok (.anewarray 65, 3) := by decide +kernel
theorem dX11_init_117 : decode prog_1_method_1_code 117 = .ok (.putfield 67, 3) := by decide +kernel
theorem dX11_init_120 : decode prog_1_method_1_code 120 = .ok (.iconst 0, 1) := by decide +kernel
theorem dX11_init_121 : decode prog_1_method_1_code 121 = .ok (.istore_n 1, 1) := by decide +kernel
theorem dX11_init_122 : decode prog_1_method_1_code 122 = .ok (.iload_n 1, 1) := by decide +kernel
theorem dX11_init_123 : decode prog_1_method_1_code 123 = .ok (.iconst 4, 1) := by decide +kernel
theorem dX11_init_124 : decode prog_1_method_1_code 124 = .ok (.if_icmp .ge 22, 3) := by decide +kernel
theorem dX11_init_127 : decode prog_1_method_1_code 127 = .ok (.aload_n 0, 1) := by decide +kernel
theorem dX11_init_128 : decode prog_1_method_1_code 128 = .ok (.getfield 67, 3) := by decide +kernel
theorem dX11_init_131 : decode prog_1_method_1_code 131 = .ok (.iload_n 1, 1) := by decide +kernel
theorem dX11_init_132 : decode prog_1_method_1_code 132 = .ok (.new 65, 3) := by decide +kernel
theorem dX11_init_135 : decode prog_1_method_1_code 135 = .ok (.dup, 1) := by decide +kernel
theorem dX11_init_136 : decode prog_1_method_1_code 136 = .ok (.invokespecial 71, 3) := by decide +kernel
theorem dX11_init_139 : decode prog_1_method_1_code 139 = .ok (.aastore, 1) := by decide +kernel
theorem dX11_init_140 : decode prog_1_method_1_code 140 = .ok (.iinc 1 1, 3) := by decide +kernel
theorem dX11_init_143 : decode prog_1_method_1_code 143 = .ok (.goto (-21), 3) := by decide +kernel
theorem dX11_init_146 : decode prog_1_method_1_code 146 = .ok (.aload_n 0, 1) := by decide +kernel
theorem dX11_init_147 : decode prog_1_method_1_code 147 = .ok (.iconst 4, 1) := by decide +kernel
theorem dX11_init_148 : decode prog_1_method_1_code 148 = .ok (.bipush 31, 2) := by decide +kernel
theorem dX11_init_150 : decode prog_1_method_1_code 150 = .ok (.multianewarray 72 2, 4) := by decide +kernel
theorem dX11_init_154 : decode prog_1_method_1_code 154 = .ok (.putfield 74, 3) := by decide +kernel
theorem dX11_init_157 : decode prog_1_method_1_code 157 = .ok (.aload_n 0, 1) := by decide +kernel
theorem dX11_init_158 : decode prog_1_method_1_code 158 = .ok (.iconst 4, 1) := by decide +kernel
theorem dX11_init_159 : decode prog_1_method_1_code 159 = .ok (.newarray .int, 2) := by decide +kernel
theorem dX11_init_161 : decode prog_1_method_1_code 161 = .ok (.putfield 77, 3) := by decide +kernel
theorem dX11_init_164 : decode prog_1_method_1_code 164 = .ok (.aload_n 0, 1) := by decide +kernel
theorem dX11_init_165 : decode prog_1_method_1_code 165 = .ok (.getfield 77, 3) := by decide +kernel
theorem dX11_init_168 : decode prog_1_method_1_code 168 = .ok (.bipush (-11), 2) := by decide +kernel
theorem dX11_init_170 : decode prog_1_method_1_code 170 = .ok (.invokestatic 81, 3) := by decide +kernel
theorem dX11_init_173 : decode prog_1_method_1_code 173 = .ok (.return_, 1) := by decide +kernel
def m_X11_init_L122 (N : Nat) (mc ms : Nat)  : Nat → Nat → Int32 → mM → Nat → Nat → Option (mM)
  | 0, _, _, _, _, _ => none
  | n + 1, a0, i1, M, kc, ks =>
    if 4 ≤ i1 then (
      (oif (kc + 5 ≤ mc ∧ ks + 128 ≤ ms)).bind fun _ =>
      (sV (mnaJ 4 31 M) a0 11 10 (.ref M.length)).bind fun M1 =>
      (oif ((kc + 5) + 1 ≤ mc ∧ (ks + 128) + 4 ≤ ms)).bind fun _ =>
      (sV (M1 ++ [.inl (0, 4, .inl (fun _ => 0))]) a0 11 11 (.ref M1.length)).bind fun M3 =>
      (fR M3 a0 11 11).bind fun x5 =>
      (m_J7_fill_53178 N x5 (-11) M3).bind fun x7 =>
      some x7) else (
      (fR M a0 11 9).bind fun x9 =>
      (oif (kc + 1 ≤ mc ∧ ks + 3 ≤ ms)).bind fun _ =>
      (oif ((kc + 1) + 1 ≤ mc ∧ (ks + 3) + 20 ≤ ms)).bind fun _ =>
      (m_X8_init 1 20 M.length (M ++ [.inr (8, [.null, .int 0, .null])])).bind fun x11 =>
      (uQ 7 8 x11 x9 i1 (some M.length)).bind fun M13 =>
      (m_X11_init_L122 N mc ms  n) a0 (i1 + 1) M13 ((kc + 1) + 1) ((ks + 3) + 20))
set_option maxHeartbeats 4000000 in
set_option maxRecDepth 100000 in
theorem t_X11_init_L122 {X : mX} {L0 : Launch} {res : mM} {N : Nat} {mc ms : Nat} (C : CX X RX11 "<init>" prog_1_method_1_code 2 none) (E : EX X L0 3 61 mc ms none res)   : ∀ (n : Nat) (a0 : Nat) (i1 : Int32) (M : mM) (kc ks : Nat) (hk : kc ≤ mc ∧ ks ≤ ms), m_X11_init_L122 N mc ms  n a0 i1 M kc ks = some res → EV X 2 122 [(0, .ref a0), (1, .int i1)] [] kc ks M := by
  intro n
  induction n with
  | zero => intro a0 i1 M kc ks hk hf; cases (show (none : Option (mM)) = some res from hf)
  | succ n ih =>
    intro a0 i1 M kc ks hk hf
    rw [m_X11_init_L122] at hf
    refine ev_iload_n C dX11_init_122 rfl (q := 1) rfl ?_
    refine ev_iconst (v := 4) C dX11_init_123 (by decide) ?_
    refine ev_icmp_ge (tgt := 146) C dX11_init_124 (by decide) (fun hc => ?_) (fun hc => ?_)
    · have hf := oit hf hc
      refine ev_aload_n C dX11_init_146 rfl (q := 0) rfl ?_
      refine ev_iconst (v := 4) C dX11_init_147 (by decide) ?_
      refine ev_bipush (v := 31) C dX11_init_148 (by decide) ?_
      obtain ⟨_, hk, hf⟩ := obnd hf
      have hk := oif_eq hk
      refine ev_mna_J (n := 4) (k := 31) C dX11_init_150 kw_387 kw_243 (by decide) (by decide) (mcap E hk).1 (mcap E hk).2 ?_
      obtain ⟨M1, e2, hf⟩ := obnd hf
      refine ev_putF (k := 10) C ok_11 dX11_init_154 (by decide) kw_402 rfl rfl ⟨rfl, rfl⟩ e2 ?_
      refine ev_aload_n C dX11_init_157 rfl (q := 0) rfl ?_
      refine ev_iconst (v := 4) C dX11_init_158 (by decide) ?_
      obtain ⟨_, hk, hf⟩ := obnd hf
      have hk := oif_eq hk
      refine ev_newa_i (N := 4) C dX11_init_159 kw_140 (by decide) (by decide) (by decide) (mcap E hk).1 (mcap E hk).2 ?_
      obtain ⟨M3, e4, hf⟩ := obnd hf
      refine ev_putF (k := 11) C ok_11 dX11_init_161 (by decide) kw_403 rfl rfl ⟨rfl, rfl⟩ e4 ?_
      refine ev_aload_n C dX11_init_164 rfl (q := 0) rfl ?_
      obtain ⟨x5, e6, hf⟩ := obnd hf
      refine ev_get (k := 11) C ok_11 dX11_init_165 (by decide) kw_403 (fR_V e6) ?_
      refine ev_bipush (v := (-11)) C dX11_init_168 (by decide) ?_
      obtain ⟨x7, e8, hf⟩ := obnd hf
      refine ev_callS0 (As := [.ref x5, .int (-11)]) (st := []) C (t_J7_fill_53178 e8) hd_J7_fill_53178 rfl kw_389 kw_390 kw_86 kw_391 (mRoom.of E (Nat.le_of_ble_eq_true rfl) (Nat.le_of_ble_eq_true rfl) hk.1 hk.2) (Nat.le_of_ble_eq_true rfl) dX11_init_170 ?_
      obtain rfl := Option.some.inj hf
      exact ev_vret C E hk.1 hk.2 dX11_init_173
    · have hf := oie hf hc
      refine ev_aload_n C dX11_init_127 rfl (q := 0) rfl ?_
      obtain ⟨x9, e10, hf⟩ := obnd hf
      refine ev_get (k := 9) C ok_11 dX11_init_128 (by decide) kw_401 (fR_V e10) ?_
      refine ev_iload_n C dX11_init_131 rfl (q := 1) rfl ?_
      obtain ⟨_, hk, hf⟩ := obnd hf
      have hk := oif_eq hk
      refine ev_new (fs := [.null, .int 0, .null]) C ok_8 dX11_init_132 kw_366 kw_368 kw_85 (fun j hj => newf_8 _ j hj) (mcap E hk).1 (mcap E hk).2 ?_
      refine ev_dup C dX11_init_135 rfl ?_
      obtain ⟨_, hk, hf⟩ := obnd hf
      have hk := oif_eq hk
      obtain ⟨x11, e12, hf⟩ := obnd hf
      refine ev_callIN (As := []) (st := [.ref M.length, .int i1, .ref x9]) C (t_X8_init e12) rfl hd_X8_init rfl C.K.2.2.1.2.2.2.1 kw_370 kw_85 kw_371 (mRoom.of E (Nat.le_of_ble_eq_true rfl) (Nat.le_of_ble_eq_true rfl) hk.1 hk.2) (Nat.le_of_ble_eq_true rfl) dX11_init_136 ?_
      obtain ⟨M13, e14, hf⟩ := obnd hf
      refine ev_astr C (t := 7) (ci := 8) rfl rfl dX11_init_139 e14 ?_
      refine ev_iinc (v := i1 + 1) (l' := [(1, .int (i1 + 1)), (0, .ref a0)]) C dX11_init_140 (q := 1) rfl rfl (by decide) rfl ?_
      refine ev_goto (tgt := 122) C dX11_init_143 (by decide) ?_
      refine ev_sub [1, 0] rfl ?_
      exact ih a0 (i1 + 1) M13 ((kc + 1) + 1) ((ks + 3) + 20) hk hf
def m_X11_init (N : Nat) (mc ms : Nat) (a0 : Nat) (M : mM) : Option (mM) :=
  (oif (0 + 1 ≤ mc ∧ 0 + 5 ≤ ms)).bind fun _ =>
  (oif ((0 + 1) + 18 ≤ mc ∧ (0 + 5) + 82 ≤ ms)).bind fun _ =>
  (m_X5_init N 18 82 M.length (M ++ [.inr (5, [.null, .int 0, .null, .null, .int 0])])).bind fun x1 =>
  (sV x1 a0 11 0 (.ref M.length)).bind fun M3 =>
  (oif (((0 + 1) + 18) + 1 ≤ mc ∧ ((0 + 5) + 82) + 5 ≤ ms)).bind fun _ =>
  (oif ((((0 + 1) + 18) + 1) + 18 ≤ mc ∧ (((0 + 5) + 82) + 5) + 82 ≤ ms)).bind fun _ =>
  (m_X5_init N 18 82 M3.length (M3 ++ [.inr (5, [.null, .int 0, .null, .null, .int 0])])).bind fun x5 =>
  (sV x5 a0 11 1 (.ref M3.length)).bind fun M7 =>
  (oif (((((0 + 1) + 18) + 1) + 18) + 1 ≤ mc ∧ ((((0 + 5) + 82) + 5) + 82) + 4 ≤ ms)).bind fun _ =>
  (fR (M7 ++ [.inr (10, [.null, .null, .null, .int 0])]) a0 11 0).bind fun x9 =>
  (oif ((((((0 + 1) + 18) + 1) + 18) + 1) + 23 ≤ mc ∧ (((((0 + 5) + 82) + 5) + 82) + 4) + 678 ≤ ms)).bind fun _ =>
  (m_X10_init 23 678 M7.length x9 (M7 ++ [.inr (10, [.null, .null, .null, .int 0])])).bind fun x11 =>
  (sV x11 a0 11 3 (.ref M7.length)).bind fun M13 =>
  (oif (((((((0 + 1) + 18) + 1) + 18) + 1) + 23) + 1 ≤ mc ∧ ((((((0 + 5) + 82) + 5) + 82) + 4) + 678) + 2 ≤ ms)).bind fun _ =>
  (fR (M13 ++ [.inr (9, [.null, .null])]) a0 11 0).bind fun x15 =>
  (oif ((((((((0 + 1) + 18) + 1) + 18) + 1) + 23) + 1) + 1 ≤ mc ∧ (((((((0 + 5) + 82) + 5) + 82) + 4) + 678) + 2) + 41 ≤ ms)).bind fun _ =>
  (m_X9_init 1 41 M13.length x15 (M13 ++ [.inr (9, [.null, .null])])).bind fun x17 =>
  (sV x17 a0 11 4 (.ref M13.length)).bind fun M19 =>
  (oif (((((((((0 + 1) + 18) + 1) + 18) + 1) + 23) + 1) + 1) + 1 ≤ mc ∧ ((((((((0 + 5) + 82) + 5) + 82) + 4) + 678) + 2) + 41) + 2 ≤ ms)).bind fun _ =>
  (fR (M19 ++ [.inr (1, [.null, .null])]) a0 11 0).bind fun x21 =>
  (oif ((((((((((0 + 1) + 18) + 1) + 18) + 1) + 23) + 1) + 1) + 1) + 1 ≤ mc ∧ (((((((((0 + 5) + 82) + 5) + 82) + 4) + 678) + 2) + 41) + 2) + 41 ≤ ms)).bind fun _ =>
  (m_X0_init 1 41 M19.length x21 (M19 ++ [.inr (1, [.null, .null])])).bind fun x23 =>
  (sV x23 a0 11 5 (.ref M19.length)).bind fun M25 =>
  (oif (((((((((((0 + 1) + 18) + 1) + 18) + 1) + 23) + 1) + 1) + 1) + 1) + 1 ≤ mc ∧ ((((((((((0 + 5) + 82) + 5) + 82) + 4) + 678) + 2) + 41) + 2) + 41) + 9 ≤ ms)).bind fun _ =>
  (oif ((((((((((((0 + 1) + 18) + 1) + 18) + 1) + 23) + 1) + 1) + 1) + 1) + 1) + 2 ≤ mc ∧ (((((((((((0 + 5) + 82) + 5) + 82) + 4) + 678) + 2) + 41) + 2) + 41) + 9) + 132 ≤ ms)).bind fun _ =>
  (m_X7_init 2 132 M25.length (M25 ++ [.inr (7, [.null, .int 0, .null, .int 0, .int 0, .int 0, .int 0, .int 0, .int 0])])).bind fun x27 =>
  (sV x27 a0 11 6 (.ref M25.length)).bind fun M29 =>
  (oif (((((((((((((0 + 1) + 18) + 1) + 18) + 1) + 23) + 1) + 1) + 1) + 1) + 1) + 2) + 1 ≤ mc ∧ ((((((((((((0 + 5) + 82) + 5) + 82) + 4) + 678) + 2) + 41) + 2) + 41) + 9) + 132) + 9 ≤ ms)).bind fun _ =>
  (fR (M29 ++ [.inr (2, [.null, .null, .null, .null, .int 0, .int 0, .int 0, .int 0, .int 0])]) a0 11 0).bind fun x31 =>
  (fR (M29 ++ [.inr (2, [.null, .null, .null, .null, .int 0, .int 0, .int 0, .int 0, .int 0])]) a0 11 3).bind fun x33 =>
  (oif ((((((((((((((0 + 1) + 18) + 1) + 18) + 1) + 23) + 1) + 1) + 1) + 1) + 1) + 2) + 1) + 2 ≤ mc ∧ (((((((((((((0 + 5) + 82) + 5) + 82) + 4) + 678) + 2) + 41) + 2) + 41) + 9) + 132) + 9) + 40 ≤ ms)).bind fun _ =>
  (m_X1_init 2 40 M29.length x31 x33 (M29 ++ [.inr (2, [.null, .null, .null, .null, .int 0, .int 0, .int 0, .int 0, .int 0])])).bind fun x35 =>
  (sV x35 a0 11 7 (.ref M29.length)).bind fun M37 =>
  (oif (((((((((((((((0 + 1) + 18) + 1) + 18) + 1) + 23) + 1) + 1) + 1) + 1) + 1) + 2) + 1) + 2) + 1 ≤ mc ∧ ((((((((((((((0 + 5) + 82) + 5) + 82) + 4) + 678) + 2) + 41) + 2) + 41) + 9) + 132) + 9) + 40) + 4 ≤ ms)).bind fun _ =>
  (oif ((((((((((((((((0 + 1) + 18) + 1) + 18) + 1) + 23) + 1) + 1) + 1) + 1) + 1) + 2) + 1) + 2) + 1) + 1 ≤ mc ∧ (((((((((((((((0 + 5) + 82) + 5) + 82) + 4) + 678) + 2) + 41) + 2) + 41) + 9) + 132) + 9) + 40) + 4) + 16 ≤ ms)).bind fun _ =>
  (m_J4_init_da8c8 1 16 M37.length (M37 ++ [.inr (0, [.null, .int 0, .int 0, .int 0])])).bind fun x39 =>
  (sV x39 a0 11 8 (.ref M37.length)).bind fun M41 =>
  (oif (((((((((((((((((0 + 1) + 18) + 1) + 18) + 1) + 23) + 1) + 1) + 1) + 1) + 1) + 2) + 1) + 2) + 1) + 1) + 1 ≤ mc ∧ ((((((((((((((((0 + 5) + 82) + 5) + 82) + 4) + 678) + 2) + 41) + 2) + 41) + 9) + 132) + 9) + 40) + 4) + 16) + 4 ≤ ms)).bind fun _ =>
  (sV (M41 ++ [.inl (7, 4, .inr (.inr (.inr (.inr (fun _ => none)))))]) a0 11 9 (.ref M41.length)).bind fun M43 =>
  m_X11_init_L122 N mc ms  N a0 0 M43 (((((((((((((((((0 + 1) + 18) + 1) + 18) + 1) + 23) + 1) + 1) + 1) + 1) + 1) + 2) + 1) + 2) + 1) + 1) + 1) (((((((((((((((((0 + 5) + 82) + 5) + 82) + 4) + 678) + 2) + 41) + 2) + 41) + 9) + 132) + 9) + 40) + 4) + 16) + 4)
set_option maxHeartbeats 4000000 in
set_option maxRecDepth 100000 in
theorem t_X11_init {L0 : Launch} {M : mM} {N : Nat} {mc ms : Nat} {a0 : Nat} {res : mM} (hf : m_X11_init N mc ms a0 M = some res) : CT L0 yX11_init prog_1_method_1_code 2 none 3 61 mc ms [.ref a0] M none res := by
  refine CT.of (by decide +kernel) (Nat.le_of_ble_eq_true rfl) fun X C E => ?_
  have C : CX X RX11 "<init>" prog_1_method_1_code 2 none := C
  show EV X 2 0 [(0, .ref a0)] [] 0 0 M
  unfold m_X11_init at hf
  have hk : 0 ≤ mc ∧ 0 ≤ ms := ⟨Nat.zero_le _, Nat.zero_le _⟩
  refine ev_aload_n C dX11_init_0 rfl (q := 0) rfl ?_
  refine ev_objInit C kw_103 kw_104 kw_105 (mfr E (by decide)) (mlo E (by decide)) (Nat.le_of_ble_eq_true rfl) dX11_init_1 ?_
  refine ev_aload_n C dX11_init_4 rfl (q := 0) rfl ?_
  obtain ⟨_, hk, hf⟩ := obnd hf
  have hk := oif_eq hk
  refine ev_new (fs := [.null, .int 0, .null, .null, .int 0]) C ok_5 dX11_init_5 kw_106 kw_107 kw_71 (fun j hj => newf_5 _ j hj) (mcap E hk).1 (mcap E hk).2 ?_
  refine ev_dup C dX11_init_8 rfl ?_
  obtain ⟨_, hk, hf⟩ := obnd hf
  have hk := oif_eq hk
  obtain ⟨x1, e2, hf⟩ := obnd hf
  refine ev_callI (As := []) (st := [.ref M.length, .ref a0]) C (t_X5_init e2) rfl hd_X5_init rfl kw_108 kw_109 kw_71 kw_110 (mRoom.of E (Nat.le_of_ble_eq_true rfl) (Nat.le_of_ble_eq_true rfl) hk.1 hk.2) (Nat.le_of_ble_eq_true rfl) dX11_init_9 ?_
  obtain ⟨M3, e4, hf⟩ := obnd hf
  refine ev_putF (k := 0) C ok_11 dX11_init_12 (by decide) kw_392 rfl rfl ⟨rfl, rfl⟩ e4 ?_
  refine ev_aload_n C dX11_init_15 rfl (q := 0) rfl ?_
  obtain ⟨_, hk, hf⟩ := obnd hf
  have hk := oif_eq hk
  refine ev_new (fs := [.null, .int 0, .null, .null, .int 0]) C ok_5 dX11_init_16 kw_106 kw_107 kw_71 (fun j hj => newf_5 _ j hj) (mcap E hk).1 (mcap E hk).2 ?_
  refine ev_dup C dX11_init_19 rfl ?_
  obtain ⟨_, hk, hf⟩ := obnd hf
  have hk := oif_eq hk
  obtain ⟨x5, e6, hf⟩ := obnd hf
  refine ev_callI (As := []) (st := [.ref M3.length, .ref a0]) C (t_X5_init e6) rfl hd_X5_init rfl kw_108 kw_109 kw_71 kw_110 (mRoom.of E (Nat.le_of_ble_eq_true rfl) (Nat.le_of_ble_eq_true rfl) hk.1 hk.2) (Nat.le_of_ble_eq_true rfl) dX11_init_20 ?_
  obtain ⟨M7, e8, hf⟩ := obnd hf
  refine ev_putF (k := 1) C ok_11 dX11_init_23 (by decide) kw_393 rfl rfl ⟨rfl, rfl⟩ e8 ?_
  refine ev_aload_n C dX11_init_26 rfl (q := 0) rfl ?_
  obtain ⟨_, hk, hf⟩ := obnd hf
  have hk := oif_eq hk
  refine ev_new (fs := [.null, .null, .null, .int 0]) C ok_10 dX11_init_27 kw_208 kw_209 kw_76 (fun j hj => newf_10 _ j hj) (mcap E hk).1 (mcap E hk).2 ?_
  refine ev_dup C dX11_init_30 rfl ?_
  refine ev_aload_n C dX11_init_31 rfl (q := 0) rfl ?_
  obtain ⟨x9, e10, hf⟩ := obnd hf
  refine ev_get (k := 0) C ok_11 dX11_init_32 (by decide) kw_392 (fR_V e10) ?_
  obtain ⟨_, hk, hf⟩ := obnd hf
  have hk := oif_eq hk
  obtain ⟨x11, e12, hf⟩ := obnd hf
  refine ev_callI (As := [.ref x9]) (st := [.ref M7.length, .ref a0]) C (t_X10_init e12) rfl hd_X10_init rfl kw_210 kw_211 kw_76 kw_212 (mRoom.of E (Nat.le_of_ble_eq_true rfl) (Nat.le_of_ble_eq_true rfl) hk.1 hk.2) (Nat.le_of_ble_eq_true rfl) dX11_init_35 ?_
  obtain ⟨M13, e14, hf⟩ := obnd hf
  refine ev_putF (k := 3) C ok_11 dX11_init_38 (by decide) kw_395 rfl rfl ⟨rfl, rfl⟩ e14 ?_
  refine ev_aload_n C dX11_init_41 rfl (q := 0) rfl ?_
  obtain ⟨_, hk, hf⟩ := obnd hf
  have hk := oif_eq hk
  refine ev_new (fs := [.null, .null]) C ok_9 dX11_init_42 kw_230 kw_231 kw_77 (fun j hj => newf_9 _ j hj) (mcap E hk).1 (mcap E hk).2 ?_
  refine ev_dup C dX11_init_45 rfl ?_
  refine ev_aload_n C dX11_init_46 rfl (q := 0) rfl ?_
  obtain ⟨x15, e16, hf⟩ := obnd hf
  refine ev_get (k := 0) C ok_11 dX11_init_47 (by decide) kw_392 (fR_V e16) ?_
  obtain ⟨_, hk, hf⟩ := obnd hf
  have hk := oif_eq hk
  obtain ⟨x17, e18, hf⟩ := obnd hf
  refine ev_callI (As := [.ref x15]) (st := [.ref M13.length, .ref a0]) C (t_X9_init e18) rfl hd_X9_init rfl kw_232 kw_233 kw_77 kw_234 (mRoom.of E (Nat.le_of_ble_eq_true rfl) (Nat.le_of_ble_eq_true rfl) hk.1 hk.2) (Nat.le_of_ble_eq_true rfl) dX11_init_50 ?_
  obtain ⟨M19, e20, hf⟩ := obnd hf
  refine ev_putF (k := 4) C ok_11 dX11_init_53 (by decide) kw_396 rfl rfl ⟨rfl, rfl⟩ e20 ?_
  refine ev_aload_n C dX11_init_56 rfl (q := 0) rfl ?_
  obtain ⟨_, hk, hf⟩ := obnd hf
  have hk := oif_eq hk
  refine ev_new (fs := [.null, .null]) C ok_1 dX11_init_57 kw_244 kw_245 kw_78 (fun j hj => newf_1 _ j hj) (mcap E hk).1 (mcap E hk).2 ?_
  refine ev_dup C dX11_init_60 rfl ?_
  refine ev_aload_n C dX11_init_61 rfl (q := 0) rfl ?_
  obtain ⟨x21, e22, hf⟩ := obnd hf
  refine ev_get (k := 0) C ok_11 dX11_init_62 (by decide) kw_392 (fR_V e22) ?_
  obtain ⟨_, hk, hf⟩ := obnd hf
  have hk := oif_eq hk
  obtain ⟨x23, e24, hf⟩ := obnd hf
  refine ev_callI (As := [.ref x21]) (st := [.ref M19.length, .ref a0]) C (t_X0_init e24) rfl hd_X0_init rfl kw_246 kw_247 kw_78 kw_248 (mRoom.of E (Nat.le_of_ble_eq_true rfl) (Nat.le_of_ble_eq_true rfl) hk.1 hk.2) (Nat.le_of_ble_eq_true rfl) dX11_init_65 ?_
  obtain ⟨M25, e26, hf⟩ := obnd hf
  refine ev_putF (k := 5) C ok_11 dX11_init_68 (by decide) kw_397 rfl rfl ⟨rfl, rfl⟩ e26 ?_
  refine ev_aload_n C dX11_init_71 rfl (q := 0) rfl ?_
  obtain ⟨_, hk, hf⟩ := obnd hf
  have hk := oif_eq hk
  refine ev_new (fs := [.null, .int 0, .null, .int 0, .int 0, .int 0, .int 0, .int 0, .int 0]) C ok_7 dX11_init_72 kw_257 kw_258 kw_79 (fun j hj => newf_7 _ j hj) (mcap E hk).1 (mcap E hk).2 ?_
  refine ev_dup C dX11_init_75 rfl ?_
  obtain ⟨_, hk, hf⟩ := obnd hf
  have hk := oif_eq hk
  obtain ⟨x27, e28, hf⟩ := obnd hf
  refine ev_callIN (As := []) (st := [.ref M25.length, .ref a0]) C (t_X7_init e28) rfl hd_X7_init rfl C.K.2.2.1.2.2.1 kw_260 kw_79 kw_261 (mRoom.of E (Nat.le_of_ble_eq_true rfl) (Nat.le_of_ble_eq_true rfl) hk.1 hk.2) (Nat.le_of_ble_eq_true rfl) dX11_init_76 ?_
  obtain ⟨M29, e30, hf⟩ := obnd hf
  refine ev_putF (k := 6) C ok_11 dX11_init_79 (by decide) kw_398 rfl rfl ⟨rfl, rfl⟩ e30 ?_
  refine ev_aload_n C dX11_init_82 rfl (q := 0) rfl ?_
  obtain ⟨_, hk, hf⟩ := obnd hf
  have hk := oif_eq hk
  refine ev_new (fs := [.null, .null, .null, .null, .int 0, .int 0, .int 0, .int 0, .int 0]) C ok_2 dX11_init_83 kw_295 kw_296 kw_80 (fun j hj => newf_2 _ j hj) (mcap E hk).1 (mcap E hk).2 ?_
  refine ev_dup C dX11_init_86 rfl ?_
  refine ev_aload_n C dX11_init_87 rfl (q := 0) rfl ?_
  obtain ⟨x31, e32, hf⟩ := obnd hf
  refine ev_get (k := 0) C ok_11 dX11_init_88 (by decide) kw_392 (fR_V e32) ?_
  refine ev_aload_n C dX11_init_91 rfl (q := 0) rfl ?_
  obtain ⟨x33, e34, hf⟩ := obnd hf
  refine ev_get (k := 3) C ok_11 dX11_init_92 (by decide) kw_395 (fR_V e34) ?_
  obtain ⟨_, hk, hf⟩ := obnd hf
  have hk := oif_eq hk
  obtain ⟨x35, e36, hf⟩ := obnd hf
  refine ev_callI (As := [.ref x31, .ref x33]) (st := [.ref M29.length, .ref a0]) C (t_X1_init e36) rfl hd_X1_init rfl kw_297 kw_298 kw_80 kw_299 (mRoom.of E (Nat.le_of_ble_eq_true rfl) (Nat.le_of_ble_eq_true rfl) hk.1 hk.2) (Nat.le_of_ble_eq_true rfl) dX11_init_95 ?_
  obtain ⟨M37, e38, hf⟩ := obnd hf
  refine ev_putF (k := 7) C ok_11 dX11_init_98 (by decide) kw_399 rfl rfl ⟨rfl, rfl⟩ e38 ?_
  refine ev_aload_n C dX11_init_101 rfl (q := 0) rfl ?_
  obtain ⟨_, hk, hf⟩ := obnd hf
  have hk := oif_eq hk
  refine ev_new (fs := [.null, .int 0, .int 0, .int 0]) C ok_0 dX11_init_102 kw_334 kw_335 kw_82 (fun j hj => newf_0 _ j hj) (mcap E hk).1 (mcap E hk).2 ?_
  refine ev_dup C dX11_init_105 rfl ?_
  obtain ⟨_, hk, hf⟩ := obnd hf
  have hk := oif_eq hk
  obtain ⟨x39, e40, hf⟩ := obnd hf
  refine ev_callI (As := []) (st := [.ref M37.length, .ref a0]) C (t_J4_init_da8c8 e40) rfl hd_J4_init_da8c8 rfl kw_336 kw_337 kw_82 kw_338 (mRoom.of E (Nat.le_of_ble_eq_true rfl) (Nat.le_of_ble_eq_true rfl) hk.1 hk.2) (Nat.le_of_ble_eq_true rfl) dX11_init_106 ?_
  obtain ⟨M41, e42, hf⟩ := obnd hf
  refine ev_putF (k := 8) C ok_11 dX11_init_109 (by decide) kw_400 rfl rfl ⟨rfl, rfl⟩ e42 ?_
  refine ev_aload_n C dX11_init_112 rfl (q := 0) rfl ?_
  refine ev_iconst (v := 4) C dX11_init_113 (by decide) ?_
  obtain ⟨_, hk, hf⟩ := obnd hf
  have hk := oif_eq hk
  refine ev_newq (t := 7) (N := 4) C rfl dX11_init_114 kw_366 C.K.2.2.2.1.2.2 (by decide) (by decide) (by decide) (mcap E hk).1 (mcap E hk).2 ?_
  obtain ⟨M43, e44, hf⟩ := obnd hf
  refine ev_putF (k := 9) C ok_11 dX11_init_117 (by decide) kw_401 rfl rfl ⟨rfl, rfl⟩ e44 ?_
  refine ev_iconst (v := 0) C dX11_init_120 (by decide) ?_
  refine ev_istore_n (l' := [(1, .int 0), (0, .ref a0)]) C dX11_init_121 rfl (by decide) rfl ?_
  refine ev_sub [1, 0] rfl ?_
  exact t_X11_init_L122 C E   N a0 0 M43 (((((((((((((((((0 + 1) + 18) + 1) + 18) + 1) + 23) + 1) + 1) + 1) + 1) + 1) + 2) + 1) + 2) + 1) + 1) + 1) (((((((((((((((((0 + 5) + 82) + 5) + 82) + 4) + 678) + 2) + 41) + 2) + 41) + 9) + 132) + 9) + 40) + 4) + 16) + 4) hk hf
