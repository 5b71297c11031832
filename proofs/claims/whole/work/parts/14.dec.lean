/-! java/lang/Integer getChars(II[B)I -/
theorem dJ6_getChars_ba4f3_0 : decode prog_20_method_12_code 0 = .ok (.iload_n 1, 1) := by decide +kernel
theorem dJ6_getChars_ba4f3_1 : decode prog_20_method_12_code 1 = .ok (.istore 5, 2) := by decide +kernel
theorem dJ6_getChars_ba4f3_3 : decode prog_20_method_12_code 3 = .ok (.iload_n 0, 1) := by decide +kernel
theorem dJ6_getChars_ba4f3_4 : decode prog_20_method_12_code 4 = .ok (.ifCond .ge 7, 3) := by decide +kernel
theorem dJ6_getChars_ba4f3_7 : decode prog_20_method_12_code 7 = .ok (.iconst 1, 1) := by decide +kernel
theorem dJ6_getChars_ba4f3_8 : decode prog_20_method_12_code 8 = .ok (.goto 4, 3) := by decide +kernel
theorem dJ6_getChars_ba4f3_11 : decode prog_20_method_12_code 11 = .ok (.iconst 0, 1) := by decide +kernel
theorem dJ6_getChars_ba4f3_12 : decode prog_20_method_12_code 12 = .ok (.istore 6, 2) := by decide +kernel
theorem dJ6_getChars_ba4f3_14 : decode prog_20_method_12_code 14 = .ok (.iload 6, 2) := by decide +kernel
theorem dJ6_getChars_ba4f3_16 : decode prog_20_method_12_code 16 = .ok (.ifCond .ne 6, 3) := by decide +kernel
theorem dJ6_getChars_ba4f3_19 : decode prog_20_method_12_code 19 = .ok (.iload_n 0, 1) := by decide +kernel
theorem dJ6_getChars_ba4f3_20 : decode prog_20_method_12_code 20 = .ok (.ineg, 1) := by decide +kernel
theorem dJ6_getChars_ba4f3_21 : decode prog_20_method_12_code 21 = .ok (.istore_n 0, 1) := by decide +kernel
theorem dJ6_getChars_ba4f3_22 : decode prog_20_method_12_code 22 = .ok (.iload_n 0, 1) := by decide +kernel
theorem dJ6_getChars_ba4f3_23 : decode prog_20_method_12_code 23 = .ok (.bipush (-100), 2) := by decide +kernel
theorem dJ6_getChars_ba4f3_25 : decode prog_20_method_12_code 25 = .ok (.if_icmp .gt 47, 3) := by decide +kernel
theorem dJ6_getChars_ba4f3_28 : decode prog_20_method_12_code 28 = .ok (.iload_n 0, 1) := by decide +kernel
theorem dJ6_getChars_ba4f3_29 : decode prog_20_method_12_code 29 = .ok (.bipush 100, 2) := by decide +kernel
theorem dJ6_getChars_ba4f3_31 : decode prog_20_method_12_code 31 = .ok (.idiv, 1) := by decide +kernel
theorem dJ6_getChars_ba4f3_32 : decode prog_20_method_12_code 32 = .ok (.istore_n 3, 1) := by decide +kernel
theorem dJ6_getChars_ba4f3_33 : decode prog_20_method_12_code 33 = .ok (.iload_n 3, 1) := by decide +kernel
theorem dJ6_getChars_ba4f3_34 : decode prog_20_method_12_code 34 = .ok (.bipush 100, 2) := by decide +kernel
theorem dJ6_getChars_ba4f3_36 : decode prog_20_method_12_code 36 = .ok (.imul, 1) := by decide +kernel
theorem dJ6_getChars_ba4f3_37 : decode prog_20_method_12_code 37 = .ok (.iload_n 0, 1) := by decide +kernel
theorem dJ6_getChars_ba4f3_38 : decode prog_20_method_12_code 38 = .ok (.isub, 1) := by decide +kernel
theorem dJ6_getChars_ba4f3_39 : decode prog_20_method_12_code 39 = .ok (.istore 4, 2) := by decide +kernel
theorem dJ6_getChars_ba4f3_41 : decode prog_20_method_12_code 41 = .ok (.iload_n 3, 1) := by decide +kernel
theorem dJ6_getChars_ba4f3_42 : decode prog_20_method_12_code 42 = .ok (.istore_n 0, 1) := by decide +kernel
theorem dJ6_getChars_ba4f3_43 : decode prog_20_method_12_code 43 = .ok (.aload_n 2, 1) := by decide +kernel
theorem dJ6_getChars_ba4f3_44 : decode prog_20_method_12_code 44 = .ok (.iinc 5 (-1), 3) := by decide +kernel
theorem dJ6_getChars_ba4f3_47 : decode prog_20_method_12_code 47 = .ok (.iload 5, 2) := by decide +kernel
theorem dJ6_getChars_ba4f3_49 : decode prog_20_method_12_code 49 = .ok (.getstatic 83, 3) := by decide +kernel
theorem dJ6_getChars_ba4f3_52 : decode prog_20_method_12_code 52 = .ok (.iload 4, 2) := by decide +kernel
theorem dJ6_getChars_ba4f3_54 : decode prog_20_method_12_code 54 = .ok (.baload, 1) := by decide +kernel
theorem dJ6_getChars_ba4f3_55 : decode prog_20_method_12_code 55 = .ok (.bastore, 1) := by decide +kernel
theorem dJ6_getChars_ba4f3_56 : decode prog_20_method_12_code 56 = .ok (.aload_n 2, 1) := by decide +kernel
theorem dJ6_getChars_ba4f3_57 : decode prog_20_method_12_code 57 = .ok (.iinc 5 (-1), 3) := by decide +kernel
theorem dJ6_getChars_ba4f3_60 : decode prog_20_method_12_code 60 = .ok (.iload 5, 2) := by decide +kernel
theorem dJ6_getChars_ba4f3_62 : decode prog_20_method_12_code 62 = .ok (.getstatic 87, 3) := by decide +kernel
theorem dJ6_getChars_ba4f3_65 : decode prog_20_method_12_code 65 = .ok (.iload 4, 2) := by decide +kernel
theorem dJ6_getChars_ba4f3_67 : decode prog_20_method_12_code 67 = .ok (.baload, 1) := by decide +kernel
theorem dJ6_getChars_ba4f3_68 : decode prog_20_method_12_code 68 = .ok (.bastore, 1) := by decide +kernel
theorem dJ6_getChars_ba4f3_69 : decode prog_20_method_12_code 69 = .ok (.goto (-47), 3) := by decide +kernel
theorem dJ6_getChars_ba4f3_72 : decode prog_20_method_12_code 72 = .ok (.aload_n 2, 1) := by decide +kernel
theorem dJ6_getChars_ba4f3_73 : decode prog_20_method_12_code 73 = .ok (.iinc 5 (-1), 3) := by decide +kernel
theorem dJ6_getChars_ba4f3_76 : decode prog_20_method_12_code 76 = .ok (.iload 5, 2) := by decide +kernel
theorem dJ6_getChars_ba4f3_78 : decode prog_20_method_12_code 78 = .ok (.getstatic 83, 3) := by decide +kernel
theorem dJ6_getChars_ba4f3_81 : decode prog_20_method_12_code 81 = .ok (.iload_n 0, 1) := by decide +kernel
theorem dJ6_getChars_ba4f3_82 : decode prog_20_method_12_code 82 = .ok (.ineg, 1) := by decide +kernel
theorem dJ6_getChars_ba4f3_83 : decode prog_20_method_12_code 83 = .ok (.baload, 1) := by decide +kernel
theorem dJ6_getChars_ba4f3_84 : decode prog_20_method_12_code 84 = .ok (.bastore, 1) := by decide +kernel
theorem dJ6_getChars_ba4f3_85 : decode prog_20_method_12_code 85 = .ok (.iload_n 0, 1) := by decide +kernel
theorem dJ6_getChars_ba4f3_86 : decode prog_20_method_12_code 86 = .ok (.bipush (-9), 2) := by decide +kernel
theorem dJ6_getChars_ba4f3_88 : decode prog_20_method_12_code 88 = .ok (.if_icmp .ge 16, 3) := by decide +kernel
theorem dJ6_getChars_ba4f3_91 : decode prog_20_method_12_code 91 = .ok (.aload_n 2, 1) := by decide +kernel
theorem dJ6_getChars_ba4f3_92 : decode prog_20_method_12_code 92 = .ok (.iinc 5 (-1), 3) := by decide +kernel
theorem dJ6_getChars_ba4f3_95 : decode prog_20_method_12_code 95 = .ok (.iload 5, 2) := by decide +kernel
theorem dJ6_getChars_ba4f3_97 : decode prog_20_method_12_code 97 = .ok (.getstatic 87, 3) := by decide +kernel
theorem dJ6_getChars_ba4f3_100 : decode prog_20_method_12_code 100 = .ok (.iload_n 0, 1) := by decide +kernel
theorem dJ6_getChars_ba4f3_101 : decode prog_20_method_12_code 101 = .ok (.ineg, 1) := by decide +kernel
theorem dJ6_getChars_ba4f3_102 : decode prog_20_method_12_code 102 = .ok (.baload, 1) := by decide +kernel
theorem dJ6_getChars_ba4f3_103 : decode prog_20_method_12_code 103 = .ok (.bastore, 1) := by decide +kernel
theorem dJ6_getChars_ba4f3_104 : decode prog_20_method_12_code 104 = .ok (.iload 6, 2) := by decide +kernel
theorem dJ6_getChars_ba4f3_106 : decode prog_20_method_12_code 106 = .ok (.ifCond .eq 12, 3) := by decide +kernel
theorem dJ6_getChars_ba4f3_109 : decode prog_20_method_12_code 109 = .ok (.aload_n 2, 1) := by decide +kernel
theorem dJ6_getChars_ba4f3_110 : decode prog_20_method_12_code 110 = .ok (.iinc 5 (-1), 3) := by decide +kernel
theorem dJ6_getChars_ba4f3_113 : decode prog_20_method_12_code 113 = .ok (.iload 5, 2) := by decide +kernel
theorem dJ6_getChars_ba4f3_115 : decode prog_20_method_12_code 115 = .ok (.bipush 45, 2) := by decide +kernel
theorem dJ6_getChars_ba4f3_117 : decode prog_20_method_12_code 117 = .ok (.bastore, 1) := by decide +kernel
theorem dJ6_getChars_ba4f3_118 : decode prog_20_method_12_code 118 = .ok (.iload 5, 2) := by decide +kernel
theorem dJ6_getChars_ba4f3_120 : decode prog_20_method_12_code 120 = .ok (.ireturn, 1) := by decide +kernel
def m_J6_getChars_ba4f3_J104 (N : Nat)  (a2 : Nat) (i5 : Int32) (i6 : Int32) (M : mM) : Option (Int32 × mM) :=
  if i6 = 0 then (
    some (i5, M)) else (
    (uI 4 .byte M a2 (i5 + (-1)) 45).bind fun M1 =>
    some (i5 + (-1), M1))
set_option maxHeartbeats 4000000 in
set_option maxRecDepth 100000 in
theorem t_J6_getChars_ba4f3_J104 {X : mX} {L0 : Launch} {res : Int32 × mM} {N : Nat} (C : CX X RJ6 "getChars" prog_20_method_12_code 7 (some .int)) (E : EX X L0 0 0 0 0 (some (.int res.1)) res.2)   (a2 : Nat) (i5 : Int32) (i6 : Int32) (M : mM) (hf : m_J6_getChars_ba4f3_J104 N  a2 i5 i6 M = some res) : EV X 7 104 [(2, .ref a2), (5, .int i5), (6, .int i6)] [] 0 0 M := by
  unfold m_J6_getChars_ba4f3_J104 at hf
  refine ev_iload C dJ6_getChars_ba4f3_104 (q := 2) rfl ?_
  refine ev_if_eq (tgt := 118) C dJ6_getChars_ba4f3_106 (by decide) (fun hc => ?_) (fun hc => ?_)
  · have hf := oit hf hc
    refine ev_iload C dJ6_getChars_ba4f3_118 (q := 1) rfl ?_
    obtain rfl := Option.some.inj hf
    exact ev_iret C E (Nat.le_refl 0) (Nat.le_refl 0) dJ6_getChars_ba4f3_120
  · have hf := oie hf hc
    refine ev_aload_n C dJ6_getChars_ba4f3_109 rfl (q := 0) rfl ?_
    refine ev_iinc (v := i5 + (-1)) (l' := [(5, .int (i5 + (-1))), (2, .ref a2), (6, .int i6)]) C dJ6_getChars_ba4f3_110 (q := 1) rfl rfl (by decide) rfl ?_
    refine ev_iload C dJ6_getChars_ba4f3_113 (q := 0) rfl ?_
    refine ev_bipush (v := 45) C dJ6_getChars_ba4f3_115 (by decide) ?_
    obtain ⟨M1, e2, hf⟩ := obnd hf
    refine ev_bast C dJ6_getChars_ba4f3_117 e2 ?_
    refine ev_iload C dJ6_getChars_ba4f3_118 (q := 0) rfl ?_
    obtain rfl := Option.some.inj hf
    exact ev_iret C E (Nat.le_refl 0) (Nat.le_refl 0) dJ6_getChars_ba4f3_120
def m_J6_getChars_ba4f3_L22 (N : Nat)  : Nat → Int32 → Nat → Int32 → Int32 → mM → Option (Int32 × mM)
  | 0, _, _, _, _, _ => none
  | n + 1, i0, a2, i5, i6, M =>
    if (-100) < i0 then (
      (zDgO (-i0)).bind fun x1 =>
      (uI 4 .byte M a2 (i5 + (-1)) x1).bind fun M3 =>
      if (-9) ≤ i0 then (
        m_J6_getChars_ba4f3_J104 N  a2 (i5 + (-1)) i6 M3) else (
        (zDgT (-i0)).bind fun x5 =>
        (uI 4 .byte M3 a2 ((i5 + (-1)) + (-1)) x5).bind fun M7 =>
        m_J6_getChars_ba4f3_J104 N  a2 ((i5 + (-1)) + (-1)) i6 M7)) else (
      (zDgO (((i0 / 100) * 100) - i0)).bind fun x9 =>
      (uI 4 .byte M a2 (i5 + (-1)) x9).bind fun M11 =>
      (zDgT (((i0 / 100) * 100) - i0)).bind fun x13 =>
      (uI 4 .byte M11 a2 ((i5 + (-1)) + (-1)) x13).bind fun M15 =>
      (m_J6_getChars_ba4f3_L22 N  n) (i0 / 100) a2 ((i5 + (-1)) + (-1)) i6 M15)
set_option maxHeartbeats 4000000 in
set_option maxRecDepth 100000 in
theorem t_J6_getChars_ba4f3_L22 {X : mX} {L0 : Launch} {res : Int32 × mM} {N : Nat} (C : CX X RJ6 "getChars" prog_20_method_12_code 7 (some .int)) (E : EX X L0 0 0 0 0 (some (.int res.1)) res.2)   : ∀ (n : Nat) (i0 : Int32) (a2 : Nat) (i5 : Int32) (i6 : Int32) (M : mM), m_J6_getChars_ba4f3_L22 N  n i0 a2 i5 i6 M = some res → EV X 7 22 [(0, .int i0), (2, .ref a2), (5, .int i5), (6, .int i6)] [] 0 0 M := by
  intro n
  induction n with
  | zero => intro i0 a2 i5 i6 M hf; cases (show (none : Option (Int32 × mM)) = some res from hf)
  | succ n ih =>
    intro i0 a2 i5 i6 M hf
    rw [m_J6_getChars_ba4f3_L22] at hf
    refine ev_iload_n C dJ6_getChars_ba4f3_22 rfl (q := 0) rfl ?_
    refine ev_bipush (v := (-100)) C dJ6_getChars_ba4f3_23 (by decide) ?_
    refine ev_icmp_gt (tgt := 72) C dJ6_getChars_ba4f3_25 (by decide) (fun hc => ?_) (fun hc => ?_)
    · have hf := oit hf hc
      refine ev_aload_n C dJ6_getChars_ba4f3_72 rfl (q := 1) rfl ?_
      refine ev_iinc (v := i5 + (-1)) (l' := [(5, .int (i5 + (-1))), (0, .int i0), (2, .ref a2), (6, .int i6)]) C dJ6_getChars_ba4f3_73 (q := 2) rfl rfl (by decide) rfl ?_
      refine ev_iload C dJ6_getChars_ba4f3_76 (q := 0) rfl ?_
      refine ev_sDgO C kw_965 dJ6_getChars_ba4f3_78 ?_
      refine ev_iload_n C dJ6_getChars_ba4f3_81 rfl (q := 1) rfl ?_
      refine ev_ineg C dJ6_getChars_ba4f3_82 ?_
      obtain ⟨x1, e2, hf⟩ := obnd hf
      refine ev_zDgO C dJ6_getChars_ba4f3_83 e2 ?_
      obtain ⟨M3, e4, hf⟩ := obnd hf
      refine ev_bast C dJ6_getChars_ba4f3_84 e4 ?_
      refine ev_iload_n C dJ6_getChars_ba4f3_85 rfl (q := 1) rfl ?_
      refine ev_bipush (v := (-9)) C dJ6_getChars_ba4f3_86 (by decide) ?_
      refine ev_icmp_ge (tgt := 104) C dJ6_getChars_ba4f3_88 (by decide) (fun hc => ?_) (fun hc => ?_)
      · have hf := oit hf hc
        refine ev_sub [2, 0, 3] rfl ?_
        exact t_J6_getChars_ba4f3_J104 C E   a2 (i5 + (-1)) i6 M3 hf
      · have hf := oie hf hc
        refine ev_aload_n C dJ6_getChars_ba4f3_91 rfl (q := 2) rfl ?_
        refine ev_iinc (v := (i5 + (-1)) + (-1)) (l' := [(5, .int ((i5 + (-1)) + (-1))), (0, .int i0), (2, .ref a2), (6, .int i6)]) C dJ6_getChars_ba4f3_92 (q := 0) rfl rfl (by decide) rfl ?_
        refine ev_iload C dJ6_getChars_ba4f3_95 (q := 0) rfl ?_
        refine ev_sDgT C kw_967 dJ6_getChars_ba4f3_97 ?_
        refine ev_iload_n C dJ6_getChars_ba4f3_100 rfl (q := 1) rfl ?_
        refine ev_ineg C dJ6_getChars_ba4f3_101 ?_
        obtain ⟨x5, e6, hf⟩ := obnd hf
        refine ev_zDgT C dJ6_getChars_ba4f3_102 e6 ?_
        obtain ⟨M7, e8, hf⟩ := obnd hf
        refine ev_bast C dJ6_getChars_ba4f3_103 e8 ?_
        refine ev_sub [2, 0, 3] rfl ?_
        exact t_J6_getChars_ba4f3_J104 C E   a2 ((i5 + (-1)) + (-1)) i6 M7 hf
    · have hf := oie hf hc
      refine ev_iload_n C dJ6_getChars_ba4f3_28 rfl (q := 0) rfl ?_
      refine ev_bipush (v := 100) C dJ6_getChars_ba4f3_29 (by decide) ?_
      refine ev_idiv C dJ6_getChars_ba4f3_31 (by decide) ?_
      refine ev_istore_n (l' := [(3, .int (i0 / 100)), (0, .int i0), (2, .ref a2), (5, .int i5), (6, .int i6)]) C dJ6_getChars_ba4f3_32 rfl (by decide) rfl ?_
      refine ev_iload_n C dJ6_getChars_ba4f3_33 rfl (q := 0) rfl ?_
      refine ev_bipush (v := 100) C dJ6_getChars_ba4f3_34 (by decide) ?_
      refine ev_imul C dJ6_getChars_ba4f3_36 ?_
      refine ev_iload_n C dJ6_getChars_ba4f3_37 rfl (q := 1) rfl ?_
      refine ev_isub C dJ6_getChars_ba4f3_38 ?_
      refine ev_istore (l' := [(4, .int (((i0 / 100) * 100) - i0)), (3, .int (i0 / 100)), (0, .int i0), (2, .ref a2), (5, .int i5), (6, .int i6)]) C dJ6_getChars_ba4f3_39 (by decide) rfl ?_
      refine ev_iload_n C dJ6_getChars_ba4f3_41 rfl (q := 1) rfl ?_
      refine ev_istore_n (l' := [(0, .int (i0 / 100)), (4, .int (((i0 / 100) * 100) - i0)), (3, .int (i0 / 100)), (2, .ref a2), (5, .int i5), (6, .int i6)]) C dJ6_getChars_ba4f3_42 rfl (by decide) rfl ?_
      refine ev_aload_n C dJ6_getChars_ba4f3_43 rfl (q := 3) rfl ?_
      refine ev_iinc (v := i5 + (-1)) (l' := [(5, .int (i5 + (-1))), (0, .int (i0 / 100)), (4, .int (((i0 / 100) * 100) - i0)), (3, .int (i0 / 100)), (2, .ref a2), (6, .int i6)]) C dJ6_getChars_ba4f3_44 (q := 4) rfl rfl (by decide) rfl ?_
      refine ev_iload C dJ6_getChars_ba4f3_47 (q := 0) rfl ?_
      refine ev_sDgO C kw_965 dJ6_getChars_ba4f3_49 ?_
      refine ev_iload C dJ6_getChars_ba4f3_52 (q := 2) rfl ?_
      obtain ⟨x9, e10, hf⟩ := obnd hf
      refine ev_zDgO C dJ6_getChars_ba4f3_54 e10 ?_
      obtain ⟨M11, e12, hf⟩ := obnd hf
      refine ev_bast C dJ6_getChars_ba4f3_55 e12 ?_
      refine ev_aload_n C dJ6_getChars_ba4f3_56 rfl (q := 4) rfl ?_
      refine ev_iinc (v := (i5 + (-1)) + (-1)) (l' := [(5, .int ((i5 + (-1)) + (-1))), (0, .int (i0 / 100)), (4, .int (((i0 / 100) * 100) - i0)), (3, .int (i0 / 100)), (2, .ref a2), (6, .int i6)]) C dJ6_getChars_ba4f3_57 (q := 0) rfl rfl (by decide) rfl ?_
      refine ev_iload C dJ6_getChars_ba4f3_60 (q := 0) rfl ?_
      refine ev_sDgT C kw_967 dJ6_getChars_ba4f3_62 ?_
      refine ev_iload C dJ6_getChars_ba4f3_65 (q := 2) rfl ?_
      obtain ⟨x13, e14, hf⟩ := obnd hf
      refine ev_zDgT C dJ6_getChars_ba4f3_67 e14 ?_
      obtain ⟨M15, e16, hf⟩ := obnd hf
      refine ev_bast C dJ6_getChars_ba4f3_68 e16 ?_
      refine ev_goto (tgt := 22) C dJ6_getChars_ba4f3_69 (by decide) ?_
      refine ev_sub [1, 4, 0, 5] rfl ?_
      exact ih (i0 / 100) a2 ((i5 + (-1)) + (-1)) i6 M15 hf
def m_J6_getChars_ba4f3_J12 (N : Nat)  (i0 : Int32) (a2 : Nat) (i5 : Int32) (si0 : Int32) (M : mM) : Option (Int32 × mM) :=
  if si0 = 0 then (
    m_J6_getChars_ba4f3_L22 N  N (-i0) a2 i5 si0 M) else (
    m_J6_getChars_ba4f3_L22 N  N i0 a2 i5 si0 M)
set_option maxHeartbeats 4000000 in
set_option maxRecDepth 100000 in
theorem t_J6_getChars_ba4f3_J12 {X : mX} {L0 : Launch} {res : Int32 × mM} {N : Nat} (C : CX X RJ6 "getChars" prog_20_method_12_code 7 (some .int)) (E : EX X L0 0 0 0 0 (some (.int res.1)) res.2)   (i0 : Int32) (a2 : Nat) (i5 : Int32) (si0 : Int32) (M : mM) (hf : m_J6_getChars_ba4f3_J12 N  i0 a2 i5 si0 M = some res) : EV X 7 12 [(0, .int i0), (2, .ref a2), (5, .int i5)] [.int si0] 0 0 M := by
  unfold m_J6_getChars_ba4f3_J12 at hf
  refine ev_istore (l' := [(6, .int si0), (0, .int i0), (2, .ref a2), (5, .int i5)]) C dJ6_getChars_ba4f3_12 (by decide) rfl ?_
  refine ev_iload C dJ6_getChars_ba4f3_14 (q := 0) rfl ?_
  refine ev_if_ne (tgt := 22) C dJ6_getChars_ba4f3_16 (by decide) (fun hc => ?_) (fun hc => ?_)
  · have hf := oie hf hc
    refine ev_sub [1, 2, 3, 0] rfl ?_
    exact t_J6_getChars_ba4f3_L22 C E   N i0 a2 i5 si0 M hf
  · have hf := oit hf hc
    refine ev_iload_n C dJ6_getChars_ba4f3_19 rfl (q := 1) rfl ?_
    refine ev_ineg C dJ6_getChars_ba4f3_20 ?_
    refine ev_istore_n (l' := [(0, .int (-i0)), (6, .int si0), (2, .ref a2), (5, .int i5)]) C dJ6_getChars_ba4f3_21 rfl (by decide) rfl ?_
    refine ev_sub [0, 2, 3, 1] rfl ?_
    exact t_J6_getChars_ba4f3_L22 C E   N (-i0) a2 i5 si0 M hf
def m_J6_getChars_ba4f3 (N : Nat) (i0 : Int32) (i1 : Int32) (a2 : Nat) (M : mM) : Option (Int32 × mM) :=
  if 0 ≤ i0 then (
    m_J6_getChars_ba4f3_J12 N  i0 a2 i1 0 M) else (
    m_J6_getChars_ba4f3_J12 N  i0 a2 i1 1 M)
set_option maxHeartbeats 4000000 in
set_option maxRecDepth 100000 in
theorem t_J6_getChars_ba4f3 {L0 : Launch} {M : mM} {N : Nat} {i0 : Int32} {i1 : Int32} {a2 : Nat} {res : Int32 × mM} (hf : m_J6_getChars_ba4f3 N i0 i1 a2 M = some res) : CT L0 yJ6_getChars_ba4f3 prog_20_method_12_code 7 (some .int) 0 0 0 0 [.int i0, .int i1, .ref a2] M (some (.int res.1)) res.2 := by
  refine CT.of (by decide +kernel) (Nat.le_of_ble_eq_true rfl) fun X C E => ?_
  have C : CX X RJ6 "getChars" prog_20_method_12_code 7 (some .int) := C
  show EV X 7 0 [(0, .int i0), (1, .int i1), (2, .ref a2)] [] 0 0 M
  unfold m_J6_getChars_ba4f3 at hf
  refine ev_iload_n C dJ6_getChars_ba4f3_0 rfl (q := 1) rfl ?_
  refine ev_istore (l' := [(5, .int i1), (0, .int i0), (1, .int i1), (2, .ref a2)]) C dJ6_getChars_ba4f3_1 (by decide) rfl ?_
  refine ev_iload_n C dJ6_getChars_ba4f3_3 rfl (q := 1) rfl ?_
  refine ev_if_ge (tgt := 11) C dJ6_getChars_ba4f3_4 (by decide) (fun hc => ?_) (fun hc => ?_)
  · have hf := oit hf hc
    refine ev_iconst (v := 0) C dJ6_getChars_ba4f3_11 (by decide) ?_
    refine ev_sub [1, 3, 0] rfl ?_
    exact t_J6_getChars_ba4f3_J12 C E   i0 a2 i1 0 M hf
  · have hf := oie hf hc
    refine ev_iconst (v := 1) C dJ6_getChars_ba4f3_7 (by decide) ?_
    refine ev_goto (tgt := 12) C dJ6_getChars_ba4f3_8 (by decide) ?_
    refine ev_sub [1, 3, 0] rfl ?_
    exact t_J6_getChars_ba4f3_J12 C E   i0 a2 i1 1 M hf
/-! java/lang/AbstractStringBuilder length()I -/
theorem dJ5_length_8abf5_0 : decode prog_15_method_6_code 0 = .ok (.aload_n 0, 1) := by decide +kernel
theorem dJ5_length_8abf5_1 : decode prog_15_method_6_code 1 = .ok (.getfield 79, 3) := by decide +kernel
theorem dJ5_length_8abf5_4 : decode prog_15_method_6_code 4 = .ok (.ireturn, 1) := by decide +kernel
def m_J5_length_8abf5 (a0 : Nat) (M : mM) : Option (Int32) :=
  (fI M a0 0 3).bind fun x1 =>
  some x1
set_option maxHeartbeats 4000000 in
set_option maxRecDepth 100000 in
theorem t_J5_length_8abf5 {L0 : Launch} {M : mM} {a0 : Nat} {res : Int32} (hf : m_J5_length_8abf5 a0 M = some res) : CT L0 yJ5_length_8abf5 prog_15_method_6_code 1 (some .int) 0 0 0 0 [.ref a0] M (some (.int res)) M := by
  refine CT.of (by decide +kernel) (Nat.le_of_ble_eq_true rfl) fun X C E => ?_
  have C : CX X RJ5 "length" prog_15_method_6_code 1 (some .int) := C
  show EV X 1 0 [(0, .ref a0)] [] 0 0 M
  unfold m_J5_length_8abf5 at hf
  refine ev_aload_n C dJ5_length_8abf5_0 rfl (q := 0) rfl ?_
  obtain ⟨x1, e2, hf⟩ := obnd hf
  refine ev_get (k := 3) C ok_0 dJ5_length_8abf5_1 (by decide) kw_355 (fI_V e2) ?_
  obtain rfl := Option.some.inj hf
  exact ev_iret C E (Nat.le_refl 0) (Nat.le_refl 0) dJ5_length_8abf5_4
/-! java/lang/StringBuilder length()I -/
theorem dJ4_length_8abf5_0 : decode prog_24_method_93_code 0 = .ok (.aload_n 0, 1) := by decide +kernel
theorem dJ4_length_8abf5_1 : decode prog_24_method_93_code 1 = .ok (.invokespecial 343, 3) := by decide +kernel
theorem dJ4_length_8abf5_4 : decode prog_24_method_93_code 4 = .ok (.ireturn, 1) := by decide +kernel
def m_J4_length_8abf5 (a0 : Nat) (M : mM) : Option (Int32) :=
  (oO M a0 0).bind fun _ =>
  (m_J5_length_8abf5 a0 M).bind fun x3 =>
  some x3
set_option maxHeartbeats 4000000 in
set_option maxRecDepth 100000 in
theorem t_J4_length_8abf5 {L0 : Launch} {M : mM} {a0 : Nat} {res : Int32} (hf : m_J4_length_8abf5 a0 M = some res) : CT L0 yJ4_length_8abf5 prog_24_method_93_code 1 (some .int) 1 20 0 0 [.ref a0] M (some (.int res)) M := by
  refine CT.of (by decide +kernel) (Nat.le_of_ble_eq_true rfl) fun X C E => ?_
  have C : CX X RJ4 "length" prog_24_method_93_code 1 (some .int) := C
  show EV X 1 0 [(0, .ref a0)] [] 0 0 M
  unfold m_J4_length_8abf5 at hf
  refine ev_aload_n C dJ4_length_8abf5_0 rfl (q := 0) rfl ?_
  obtain ⟨_, e1, hf⟩ := obnd hf
  obtain ⟨fs2, e1⟩ := oO_eq e1
  obtain ⟨x3, e4, hf⟩ := obnd hf
  refine ev_callSU0 (As := []) (st := []) C rfl e1 (t_J5_length_8abf5 e4) (by decide +kernel) hd_J5_length_8abf5 rfl kw_990 kw_1709 kw_364 kw_991 kw_81 kw_992 (mRoom.of E (Nat.le_of_ble_eq_true rfl) (Nat.le_of_ble_eq_true rfl) (Nat.le_refl 0) (Nat.le_refl 0)) (Nat.le_of_ble_eq_true rfl) dJ4_length_8abf5_1 ?_
  obtain rfl := Option.some.inj hf
  exact ev_iret C E (Nat.le_refl 0) (Nat.le_refl 0) dJ4_length_8abf5_4
/-! jdk/internal/util/Preconditions checkIndex(IILjava/util/function/BiFunction;)I -/
theorem dJ3_checkIndex_8e157_0 : decode prog_30_method_11_code 0 = .ok (.iload_n 0, 1) := by decide +kernel
theorem dJ3_checkIndex_8e157_1 : decode prog_30_method_11_code 1 = .ok (.ifCond .lt 8, 3) := by decide +kernel
theorem dJ3_checkIndex_8e157_4 : decode prog_30_method_11_code 4 = .ok (.iload_n 0, 1) := by decide +kernel
theorem dJ3_checkIndex_8e157_5 : decode prog_30_method_11_code 5 = .ok (.iload_n 1, 1) := by decide +kernel
theorem dJ3_checkIndex_8e157_6 : decode prog_30_method_11_code 6 = .ok (.if_icmp .lt 10, 3) := by decide +kernel
theorem dJ3_checkIndex_8e157_9 : decode prog_30_method_11_code 9 = .ok (.aload_n 2, 1) := by decide +kernel
theorem dJ3_checkIndex_8e157_10 : decode prog_30_method_11_code 10 = .ok (.iload_n 0, 1) := by decide +kernel
theorem dJ3_checkIndex_8e157_11 : decode prog_30_method_11_code 11 = .ok (.iload_n 1, 1) := by decide +kernel
theorem dJ3_checkIndex_8e157_12 : decode prog_30_method_11_code 12 = .ok (.invokestatic 95, 3) := by decide +kernel
theorem dJ3_checkIndex_8e157_15 : decode prog_30_method_11_code 15 = .ok (.athrow, 1) := by decide +kernel
theorem dJ3_checkIndex_8e157_16 : decode prog_30_method_11_code 16 = .ok (.iload_n 0, 1) := by decide +kernel
theorem dJ3_checkIndex_8e157_17 : decode prog_30_method_11_code 17 = .ok (.ireturn, 1) := by decide +kernel
def m_J3_checkIndex_8e157 (i0 : Int32) (i1 : Int32) : Option (Int32) :=
  if i0 < 0 then (
    none) else (
    if i0 < i1 then (
      some i0) else (
      none))
set_option maxHeartbeats 4000000 in
set_option maxRecDepth 100000 in
theorem t_J3_checkIndex_8e157 {L0 : Launch} {M : mM} {i0 : Int32} {i1 : Int32} {res : Int32} (hf : m_J3_checkIndex_8e157 i0 i1 = some res) : CT L0 yJ3_checkIndex_8e157 prog_30_method_11_code 3 (some .int) 0 0 0 0 [.int i0, .int i1, .retAddr 0] M (some (.int res)) M := by
  refine CT.of (by decide +kernel) (Nat.le_of_ble_eq_true rfl) fun X C E => ?_
  have C : CX X RJ3 "checkIndex" prog_30_method_11_code 3 (some .int) := C
  show EV X 3 0 [(0, .int i0), (1, .int i1), (2, .retAddr 0)] [] 0 0 M
  unfold m_J3_checkIndex_8e157 at hf
  refine ev_iload_n C dJ3_checkIndex_8e157_0 rfl (q := 0) rfl ?_
  refine ev_if_lt (tgt := 9) C dJ3_checkIndex_8e157_1 (by decide) (fun hc => ?_) (fun hc => ?_)
  · have hf := oit hf hc
    cases hf
  · have hf := oie hf hc
    refine ev_iload_n C dJ3_checkIndex_8e157_4 rfl (q := 0) rfl ?_
    refine ev_iload_n C dJ3_checkIndex_8e157_5 rfl (q := 1) rfl ?_
    refine ev_icmp_lt (tgt := 16) C dJ3_checkIndex_8e157_6 (by decide) (fun hc => ?_) (fun hc => ?_)
    · have hf := oit hf hc
      refine ev_iload_n C dJ3_checkIndex_8e157_16 rfl (q := 0) rfl ?_
      obtain rfl := Option.some.inj hf
      exact ev_iret C E (Nat.le_refl 0) (Nat.le_refl 0) dJ3_checkIndex_8e157_17
    · have hf := oie hf hc
      cases hf
/-! java/lang/String checkIndex(II)V -/
theorem dJ0_checkIndex_df160_0 : decode prog_23_method_155_code 0 = .ok (.iload_n 0, 1) := by decide +kernel
theorem dJ0_checkIndex_df160_1 : decode prog_23_method_155_code 1 = .ok (.iload_n 1, 1) := by decide +kernel
theorem dJ0_checkIndex_df160_2 : decode prog_23_method_155_code 2 = .ok (.getstatic 1053, 3) := by decide +kernel
theorem dJ0_checkIndex_df160_5 : decode prog_23_method_155_code 5 = .ok (.invokestatic 1059, 3) := by decide +kernel
theorem dJ0_checkIndex_df160_8 : decode prog_23_method_155_code 8 = .ok (.pop, 1) := by decide +kernel
theorem dJ0_checkIndex_df160_9 : decode prog_23_method_155_code 9 = .ok (.return_, 1) := by decide +kernel
def m_J0_checkIndex_df160 (i0 : Int32) (i1 : Int32) : Option (Unit) :=
  (m_J3_checkIndex_8e157 i0 i1).bind fun x1 =>
  some ()
set_option maxHeartbeats 4000000 in
set_option maxRecDepth 100000 in
theorem t_J0_checkIndex_df160 {L0 : Launch} {M : mM} {i0 : Int32} {i1 : Int32} {res : Unit} (hf : m_J0_checkIndex_df160 i0 i1 = some res) : CT L0 yJ0_checkIndex_df160 prog_23_method_155_code 2 none 1 22 0 0 [.int i0, .int i1] M none M := by
  refine CT.of (by decide +kernel) (Nat.le_of_ble_eq_true rfl) fun X C E => ?_
  have C : CX X RJ0 "checkIndex" prog_23_method_155_code 2 none := C
  show EV X 2 0 [(0, .int i0), (1, .int i1)] [] 0 0 M
  unfold m_J0_checkIndex_df160 at hf
  refine ev_iload_n C dJ0_checkIndex_df160_0 rfl (q := 0) rfl ?_
  refine ev_iload_n C dJ0_checkIndex_df160_1 rfl (q := 1) rfl ?_
  refine ev_sFmt C kw_920 dJ0_checkIndex_df160_2 ?_
  obtain ⟨x1, e2, hf⟩ := obnd hf
  refine ev_callS0 (As := [.int i0, .int i1, .retAddr 0]) (st := []) C (t_J3_checkIndex_8e157 e2) hd_J3_checkIndex_8e157 rfl kw_943 kw_944 kw_96 kw_945 (mRoom.of E (Nat.le_of_ble_eq_true rfl) (Nat.le_of_ble_eq_true rfl) (Nat.le_refl 0) (Nat.le_refl 0)) (Nat.le_of_ble_eq_true rfl) dJ0_checkIndex_df160_5 ?_
  refine ev_pop C dJ0_checkIndex_df160_8 rfl ?_
  obtain rfl := Option.some.inj hf
  exact ev_vret C E (Nat.le_refl 0) (Nat.le_refl 0) dJ0_checkIndex_df160_9
/-! java/lang/AbstractStringBuilder charAt(I)C -/
theorem dJ5_charAt_5068e_0 : decode prog_15_method_14_code 0 = .ok (.aload_n 0, 1) := by decide +kernel
theorem dJ5_charAt_5068e_1 : decode prog_15_method_14_code 1 = .ok (.getfield 22, 3) := by decide +kernel
theorem dJ5_charAt_5068e_4 : decode prog_15_method_14_code 4 = .ok (.istore_n 2, 1) := by decide +kernel
theorem dJ5_charAt_5068e_5 : decode prog_15_method_14_code 5 = .ok (.aload_n 0, 1) := by decide +kernel
theorem dJ5_charAt_5068e_6 : decode prog_15_method_14_code 6 = .ok (.getfield 15, 3) := by decide +kernel
theorem dJ5_charAt_5068e_9 : decode prog_15_method_14_code 9 = .ok (.astore_n 3, 1) := by decide +kernel
theorem dJ5_charAt_5068e_10 : decode prog_15_method_14_code 10 = .ok (.aload_n 0, 1) := by decide +kernel
theorem dJ5_charAt_5068e_11 : decode prog_15_method_14_code 11 = .ok (.getfield 79, 3) := by decide +kernel
theorem dJ5_charAt_5068e_14 : decode prog_15_method_14_code 14 = .ok (.aload_n 3, 1) := by decide +kernel
theorem dJ5_charAt_5068e_15 : decode prog_15_method_14_code 15 = .ok (.arraylength, 1) := by decide +kernel
theorem dJ5_charAt_5068e_16 : decode prog_15_method_14_code 16 = .ok (.iload_n 2, 1) := by decide +kernel
theorem dJ5_charAt_5068e_17 : decode prog_15_method_14_code 17 = .ok (.ishr, 1) := by decide +kernel
theorem dJ5_charAt_5068e_18 : decode prog_15_method_14_code 18 = .ok (.invokestatic 138, 3) := by decide +kernel
theorem dJ5_charAt_5068e_21 : decode prog_15_method_14_code 21 = .ok (.istore 4, 2) := by decide +kernel
theorem dJ5_charAt_5068e_23 : decode prog_15_method_14_code 23 = .ok (.iload_n 1, 1) := by decide +kernel
theorem dJ5_charAt_5068e_24 : decode prog_15_method_14_code 24 = .ok (.iload 4, 2) := by decide +kernel
theorem dJ5_charAt_5068e_26 : decode prog_15_method_14_code 26 = .ok (.invokestatic 144, 3) := by decide +kernel
theorem dJ5_charAt_5068e_29 : decode prog_15_method_14_code 29 = .ok (.iload_n 2, 1) := by decide +kernel
theorem dJ5_charAt_5068e_30 : decode prog_15_method_14_code 30 = .ok (.ifCond .ne 12, 3) := by decide +kernel
theorem dJ5_charAt_5068e_33 : decode prog_15_method_14_code 33 = .ok (.aload_n 3, 1) := by decide +kernel
theorem dJ5_charAt_5068e_34 : decode prog_15_method_14_code 34 = .ok (.iload_n 1, 1) := by decide +kernel
theorem dJ5_charAt_5068e_35 : decode prog_15_method_14_code 35 = .ok (.baload, 1) := by decide +kernel
theorem dJ5_charAt_5068e_36 : decode prog_15_method_14_code 36 = .ok (.sipush 255, 3) := by decide +kernel
theorem dJ5_charAt_5068e_39 : decode prog_15_method_14_code 39 = .ok (.iand, 1) := by decide +kernel
theorem dJ5_charAt_5068e_40 : decode prog_15_method_14_code 40 = .ok (.i2c, 1) := by decide +kernel
theorem dJ5_charAt_5068e_41 : decode prog_15_method_14_code 41 = .ok (.ireturn, 1) := by decide +kernel
theorem dJ5_charAt_5068e_42 : decode prog_15_method_14_code 42 = .ok (.aload_n 3, 1) := by decide +kernel
theorem dJ5_charAt_5068e_43 : decode prog_15_method_14_code 43 = .ok (.iload_n 1, 1) := by decide +kernel
theorem dJ5_charAt_5068e_44 : decode prog_15_method_14_code 44 = .ok (.invokestatic 148, 3) := by decide +kernel
theorem dJ5_charAt_5068e_47 : decode prog_15_method_14_code 47 = .ok (.ireturn, 1) := by decide +kernel
def m_J5_charAt_5068e (a0 : Nat) (i1 : Int32) (M : mM) : Option (Int32) :=
  (fI M a0 0 1).bind fun x1 =>
  (fR M a0 0 0).bind fun x3 =>
  (fI M a0 0 3).bind fun x5 =>
  (aN 4 M x3).bind fun x7 =>
  (m_J0_checkIndex_df160 i1 (iMin x5 (x7 >>> (x1 &&& 31)))).bind fun x9 =>
  if x1 = 0 then (
    (aI 4 M x3 i1).bind fun x11 =>
    (oif (narrow .char (.int (((x11 &&& 255).toUInt32 % 65536).toInt32)) = .int (((x11 &&& 255).toUInt32 % 65536).toInt32))).bind fun _ =>
    some (((x11 &&& 255).toUInt32 % 65536).toInt32)) else (
    none)
set_option maxHeartbeats 4000000 in
set_option maxRecDepth 100000 in
theorem t_J5_charAt_5068e {L0 : Launch} {M : mM} {a0 : Nat} {i1 : Int32} {res : Int32} (hf : m_J5_charAt_5068e a0 i1 M = some res) : CT L0 yJ5_charAt_5068e prog_15_method_14_code 5 (some .char) 2 43 0 0 [.ref a0, .int i1] M (some (.int res)) M := by
  refine CT.of (by decide +kernel) (Nat.le_of_ble_eq_true rfl) fun X C E => ?_
  have C : CX X RJ5 "charAt" prog_15_method_14_code 5 (some .char) := C
  show EV X 5 0 [(0, .ref a0), (1, .int i1)] [] 0 0 M
  unfold m_J5_charAt_5068e at hf
  refine ev_aload_n C dJ5_charAt_5068e_0 rfl (q := 0) rfl ?_
  obtain ⟨x1, e2, hf⟩ := obnd hf
  refine ev_get (k := 1) C ok_0 dJ5_charAt_5068e_1 (by decide) kw_353 (fI_V e2) ?_
  refine ev_istore_n (l' := [(2, .int x1), (0, .ref a0), (1, .int i1)]) C dJ5_charAt_5068e_4 rfl (by decide) rfl ?_
  refine ev_aload_n C dJ5_charAt_5068e_5 rfl (q := 1) rfl ?_
  obtain ⟨x3, e4, hf⟩ := obnd hf
  refine ev_get (k := 0) C ok_0 dJ5_charAt_5068e_6 (by decide) kw_352 (fR_V e4) ?_
  refine ev_astore_n (l' := [(3, .ref x3), (2, .int x1), (0, .ref a0), (1, .int i1)]) C dJ5_charAt_5068e_9 rfl (by decide) rfl ?_
  refine ev_aload_n C dJ5_charAt_5068e_10 rfl (q := 2) rfl ?_
  obtain ⟨x5, e6, hf⟩ := obnd hf
  refine ev_get (k := 3) C ok_0 dJ5_charAt_5068e_11 (by decide) kw_355 (fI_V e6) ?_
  refine ev_aload_n C dJ5_charAt_5068e_14 rfl (q := 0) rfl ?_
  obtain ⟨x7, e8, hf⟩ := obnd hf
  refine ev_alen (t := 4) C rfl dJ5_charAt_5068e_15 e8 ?_
  refine ev_iload_n C dJ5_charAt_5068e_16 rfl (q := 1) rfl ?_
  refine ev_ishr C dJ5_charAt_5068e_17 ?_
  refine ev_mmin C kw_1004 kw_630 kw_90 kw_631 (mfr E (by decide)) (mlo E (by decide)) (Nat.zero_le _) (Nat.zero_le _) (Nat.le_of_ble_eq_true rfl) dJ5_charAt_5068e_18 ?_
  refine ev_istore (l' := [(4, .int (iMin x5 (x7 >>> (x1 &&& 31)))), (3, .ref x3), (2, .int x1), (0, .ref a0), (1, .int i1)]) C dJ5_charAt_5068e_21 (by decide) rfl ?_
  refine ev_iload_n C dJ5_charAt_5068e_23 rfl (q := 4) rfl ?_
  refine ev_iload C dJ5_charAt_5068e_24 (q := 0) rfl ?_
  obtain ⟨x9, e10, hf⟩ := obnd hf
  refine ev_callS0 (As := [.int i1, .int (iMin x5 (x7 >>> (x1 &&& 31)))]) (st := []) C (t_J0_checkIndex_df160 e10) hd_J0_checkIndex_df160 rfl kw_1005 kw_941 kw_83 kw_942 (mRoom.of E (Nat.le_of_ble_eq_true rfl) (Nat.le_of_ble_eq_true rfl) (Nat.le_refl 0) (Nat.le_refl 0)) (Nat.le_of_ble_eq_true rfl) dJ5_charAt_5068e_26 ?_
  refine ev_iload_n C dJ5_charAt_5068e_29 rfl (q := 2) rfl ?_
  refine ev_if_ne (tgt := 42) C dJ5_charAt_5068e_30 (by decide) (fun hc => ?_) (fun hc => ?_)
  · have hf := oie hf hc
    refine ev_aload_n C dJ5_charAt_5068e_42 rfl (q := 1) rfl ?_
    refine ev_iload_n C dJ5_charAt_5068e_43 rfl (q := 4) rfl ?_
    cases hf
  · have hf := oit hf hc
    refine ev_aload_n C dJ5_charAt_5068e_33 rfl (q := 1) rfl ?_
    refine ev_iload_n C dJ5_charAt_5068e_34 rfl (q := 4) rfl ?_
    obtain ⟨x11, e12, hf⟩ := obnd hf
    refine ev_bald C dJ5_charAt_5068e_35 e12 ?_
    refine ev_sipush (v := 255) C dJ5_charAt_5068e_36 (by decide) ?_
    refine ev_iand C dJ5_charAt_5068e_39 ?_
    refine ev_i2c C dJ5_charAt_5068e_40 ?_
    obtain ⟨_, e13, hf⟩ := obnd hf
    obtain rfl := Option.some.inj hf
    exact ev_cret C (oif_eq e13) E (Nat.le_refl 0) (Nat.le_refl 0) dJ5_charAt_5068e_41
/-! java/lang/StringBuilder charAt(I)C -/
theorem dJ4_charAt_5068e_0 : decode prog_24_method_88_code 0 = .ok (.aload_n 0, 1) := by decide +kernel
theorem dJ4_charAt_5068e_1 : decode prog_24_method_88_code 1 = .ok (.iload_n 1, 1) := by decide +kernel
theorem dJ4_charAt_5068e_2 : decode prog_24_method_88_code 2 = .ok (.invokespecial 329, 3) := by decide +kernel
theorem dJ4_charAt_5068e_5 : decode prog_24_method_88_code 5 = .ok (.ireturn, 1) := by decide +kernel
def m_J4_charAt_5068e (a0 : Nat) (i1 : Int32) (M : mM) : Option (Int32) :=
  (oO M a0 0).bind fun _ =>
  (m_J5_charAt_5068e a0 i1 M).bind fun x3 =>
  (oif (narrow .char (.int x3) = .int x3)).bind fun _ =>
  some x3
set_option maxHeartbeats 4000000 in
set_option maxRecDepth 100000 in
theorem t_J4_charAt_5068e {L0 : Launch} {M : mM} {a0 : Nat} {i1 : Int32} {res : Int32} (hf : m_J4_charAt_5068e a0 i1 M = some res) : CT L0 yJ4_charAt_5068e prog_24_method_88_code 2 (some .char) 3 67 0 0 [.ref a0, .int i1] M (some (.int res)) M := by
  refine CT.of (by decide +kernel) (Nat.le_of_ble_eq_true rfl) fun X C E => ?_
  have C : CX X RJ4 "charAt" prog_24_method_88_code 2 (some .char) := C
  show EV X 2 0 [(0, .ref a0), (1, .int i1)] [] 0 0 M
  unfold m_J4_charAt_5068e at hf
  refine ev_aload_n C dJ4_charAt_5068e_0 rfl (q := 0) rfl ?_
  refine ev_iload_n C dJ4_charAt_5068e_1 rfl (q := 1) rfl ?_
  obtain ⟨_, e1, hf⟩ := obnd hf
  obtain ⟨fs2, e1⟩ := oO_eq e1
  obtain ⟨x3, e4, hf⟩ := obnd hf
  refine ev_callSU0 (As := [.int i1]) (st := []) C rfl e1 (t_J5_charAt_5068e e4) (by decide +kernel) hd_J5_charAt_5068e rfl kw_1001 kw_1710 kw_364 kw_1002 kw_81 kw_1003 (mRoom.of E (Nat.le_of_ble_eq_true rfl) (Nat.le_of_ble_eq_true rfl) (Nat.le_refl 0) (Nat.le_refl 0)) (Nat.le_of_ble_eq_true rfl) dJ4_charAt_5068e_2 ?_
  obtain ⟨_, e5, hf⟩ := obnd hf
  obtain rfl := Option.some.inj hf
  exact ev_cret C (oif_eq e5) E (Nat.le_refl 0) (Nat.le_refl 0) dJ4_charAt_5068e_5
/-! FareLimits paper(I)I -/
theorem dX11_paper_0 : decode prog_1_method_33_code 0 = .ok (.iload_n 1, 1) := by decide +kernel
theorem dX11_paper_1 : decode prog_1_method_33_code 1 = .ok (.aload_n 0, 1) := by decide +kernel
theorem dX11_paper_2 : decode prog_1_method_33_code 2 = .ok (.getfield 61, 3) := by decide +kernel
theorem dX11_paper_5 : decode prog_1_method_33_code 5 = .ok (.invokevirtual 286, 3) := by decide +kernel
theorem dX11_paper_8 : decode prog_1_method_33_code 8 = .ok (.iconst 1, 1) := by decide +kernel
theorem dX11_paper_9 : decode prog_1_method_33_code 9 = .ok (.isub, 1) := by decide +kernel
theorem dX11_paper_10 : decode prog_1_method_33_code 10 = .ok (.invokestatic 91, 3) := by decide +kernel
theorem dX11_paper_13 : decode prog_1_method_33_code 13 = .ok (.ifCond .eq 14, 3) := by decide +kernel
theorem dX11_paper_16 : decode prog_1_method_33_code 16 = .ok (.aload_n 0, 1) := by decide +kernel
theorem dX11_paper_17 : decode prog_1_method_33_code 17 = .ok (.getfield 61, 3) := by decide +kernel
theorem dX11_paper_20 : decode prog_1_method_33_code 20 = .ok (.iload_n 1, 1) := by decide +kernel
theorem dX11_paper_21 : decode prog_1_method_33_code 21 = .ok (.invokevirtual 289, 3) := by decide +kernel
theorem dX11_paper_24 : decode prog_1_method_33_code 24 = .ok (.goto 4, 3) := by decide +kernel
theorem dX11_paper_27 : decode prog_1_method_33_code 27 = .ok (.iconst (-1), 1) := by decide +kernel
theorem dX11_paper_28 : decode prog_1_method_33_code 28 = .ok (.ireturn, 1) := by decide +kernel
def m_X11_paper (a0 : Nat) (i1 : Int32) (M : mM) : Option (Int32) :=
  (fR M a0 11 8).bind fun x1 =>
  (oO M x1 0).bind fun _ =>
  (m_J4_length_8abf5 x1 M).bind fun x5 =>
  (m_X11_within i1 (x5 - 1)).bind fun x7 =>
  if x7 = 0 then (
    some (-1)) else (
    (fR M a0 11 8).bind fun x9 =>
    (oO M x9 0).bind fun _ =>
    (m_J4_charAt_5068e x9 i1 M).bind fun x13 =>
    some x13)
set_option maxHeartbeats 4000000 in
set_option maxRecDepth 100000 in
theorem t_X11_paper {L0 : Launch} {M : mM} {a0 : Nat} {i1 : Int32} {res : Int32} (hf : m_X11_paper a0 i1 M = some res) : CT L0 yX11_paper prog_1_method_33_code 2 (some .int) 4 88 0 0 [.ref a0, .int i1] M (some (.int res)) M := by
  refine CT.of (by decide +kernel) (Nat.le_of_ble_eq_true rfl) fun X C E => ?_
  have C : CX X RX11 "paper" prog_1_method_33_code 2 (some .int) := C
  show EV X 2 0 [(0, .ref a0), (1, .int i1)] [] 0 0 M
  unfold m_X11_paper at hf
  refine ev_iload_n C dX11_paper_0 rfl (q := 1) rfl ?_
  refine ev_aload_n C dX11_paper_1 rfl (q := 0) rfl ?_
  obtain ⟨x1, e2, hf⟩ := obnd hf
  refine ev_get (k := 8) C ok_11 dX11_paper_2 (by decide) kw_400 (fR_V e2) ?_
  obtain ⟨_, e3, hf⟩ := obnd hf
  obtain ⟨fs4, e3⟩ := oO_eq e3
  obtain ⟨x5, e6, hf⟩ := obnd hf
  refine ev_callV0 (As := []) (st := [.int i1]) C rfl e3 (t_J4_length_8abf5 e6) rfl hd_J4_length_8abf5 rfl kw_986 kw_987 kw_82 kw_988 kw_989 (mRoom.of E (Nat.le_of_ble_eq_true rfl) (Nat.le_of_ble_eq_true rfl) (Nat.le_refl 0) (Nat.le_refl 0)) (Nat.le_of_ble_eq_true rfl) dX11_paper_5 ?_
  refine ev_iconst (v := 1) C dX11_paper_8 (by decide) ?_
  refine ev_isub C dX11_paper_9 ?_
  obtain ⟨x7, e8, hf⟩ := obnd hf
  refine ev_callS0 (As := [.int i1, .int (x5 - 1)]) (st := []) C (t_X11_within e8) hd_X11_within rfl kw_435 kw_436 kw_70 kw_437 (mRoom.of E (Nat.le_of_ble_eq_true rfl) (Nat.le_of_ble_eq_true rfl) (Nat.le_refl 0) (Nat.le_refl 0)) (Nat.le_of_ble_eq_true rfl) dX11_paper_10 ?_
  refine ev_if_eq (tgt := 27) C dX11_paper_13 (by decide) (fun hc => ?_) (fun hc => ?_)
  · have hf := oit hf hc
    refine ev_iconst (v := (-1)) C dX11_paper_27 (by decide) ?_
    obtain rfl := Option.some.inj hf
    exact ev_iret C E (Nat.le_refl 0) (Nat.le_refl 0) dX11_paper_28
  · have hf := oie hf hc
    refine ev_aload_n C dX11_paper_16 rfl (q := 0) rfl ?_
    obtain ⟨x9, e10, hf⟩ := obnd hf
    refine ev_get (k := 8) C ok_11 dX11_paper_17 (by decide) kw_400 (fR_V e10) ?_
    refine ev_iload_n C dX11_paper_20 rfl (q := 1) rfl ?_
    obtain ⟨_, e11, hf⟩ := obnd hf
    obtain ⟨fs12, e11⟩ := oO_eq e11
    obtain ⟨x13, e14, hf⟩ := obnd hf
    refine ev_callV0 (As := [.int i1]) (st := []) C rfl e11 (t_J4_charAt_5068e e14) rfl hd_J4_charAt_5068e rfl kw_997 kw_998 kw_82 kw_999 kw_1000 (mRoom.of E (Nat.le_of_ble_eq_true rfl) (Nat.le_of_ble_eq_true rfl) (Nat.le_refl 0) (Nat.le_refl 0)) (Nat.le_of_ble_eq_true rfl) dX11_paper_21 ?_
    refine ev_goto (tgt := 28) C dX11_paper_24 (by decide) ?_
    obtain rfl := Option.some.inj hf
    exact ev_iret C E (Nat.le_refl 0) (Nat.le_refl 0) dX11_paper_28
/-! FareLimits$Tape fareAsked(I)I -/
theorem dX7_fareAsked_0 : decode prog_9_method_5_code 0 = .ok (.aload_n 0, 1) := by decide +kernel
theorem dX7_fareAsked_1 : decode prog_9_method_5_code 1 = .ok (.iload_n 1, 1) := by decide +kernel
theorem dX7_fareAsked_2 : decode prog_9_method_5_code 2 = .ok (.invokevirtual 25, 3) := by decide +kernel
theorem dX7_fareAsked_5 : decode prog_9_method_5_code 5 = .ok (.bipush 97, 2) := by decide +kernel
theorem dX7_fareAsked_7 : decode prog_9_method_5_code 7 = .ok (.isub, 1) := by decide +kernel
theorem dX7_fareAsked_8 : decode prog_9_method_5_code 8 = .ok (.ireturn, 1) := by decide +kernel
def m_X7_fareAsked (a0 : Nat) (i1 : Int32) (M : mM) : Option (Int32) :=
  (oO M a0 7).bind fun _ =>
  (m_X7_byteAt a0 i1 M).bind fun x3 =>
  some (x3 - 97)
set_option maxHeartbeats 4000000 in
set_option maxRecDepth 100000 in
theorem t_X7_fareAsked {L0 : Launch} {M : mM} {a0 : Nat} {i1 : Int32} {res : Int32} (hf : m_X7_fareAsked a0 i1 M = some res) : CT L0 yX7_fareAsked prog_9_method_5_code 2 (some .int) 1 21 0 0 [.ref a0, .int i1] M (some (.int res)) M := by
  refine CT.of (by decide +kernel) (Nat.le_of_ble_eq_true rfl) fun X C E => ?_
  have C : CX X RX7 "fareAsked" prog_9_method_5_code 2 (some .int) := C
  show EV X 2 0 [(0, .ref a0), (1, .int i1)] [] 0 0 M
  unfold m_X7_fareAsked at hf
  refine ev_aload_n C dX7_fareAsked_0 rfl (q := 0) rfl ?_
  refine ev_iload_n C dX7_fareAsked_1 rfl (q := 1) rfl ?_
  obtain ⟨_, e1, hf⟩ := obnd hf
  obtain ⟨fs2, e1⟩ := oO_eq e1
  obtain ⟨x3, e4, hf⟩ := obnd hf
  refine ev_callV0 (As := [.int i1]) (st := []) C rfl e1 (t_X7_byteAt e4) rfl hd_X7_byteAt rfl kw_707 kw_709 kw_79 kw_8 kw_710 (mRoom.of E (Nat.le_of_ble_eq_true rfl) (Nat.le_of_ble_eq_true rfl) (Nat.le_refl 0) (Nat.le_refl 0)) (Nat.le_of_ble_eq_true rfl) dX7_fareAsked_2 ?_
  refine ev_bipush (v := 97) C dX7_fareAsked_5 (by decide) ?_
  refine ev_isub C dX7_fareAsked_7 ?_
  obtain rfl := Option.some.inj hf
  exact ev_iret C E (Nat.le_refl 0) (Nat.le_refl 0) dX7_fareAsked_8
/-! FareLimits$Tape faultAsRequests(I)I -/
theorem dX7_faultAsRequests_0 : decode prog_9_method_6_code 0 = .ok (.iconst 0, 1) := by decide +kernel
theorem dX7_faultAsRequests_1 : decode prog_9_method_6_code 1 = .ok (.istore_n 2, 1) := by decide +kernel
theorem dX7_faultAsRequests_2 : decode prog_9_method_6_code 2 = .ok (.iload_n 2, 1) := by decide +kernel
theorem dX7_faultAsRequests_3 : decode prog_9_method_6_code 3 = .ok (.aload_n 0, 1) := by decide +kernel
theorem dX7_faultAsRequests_4 : decode prog_9_method_6_code 4 = .ok (.getfield 21, 3) := by decide +kernel
theorem dX7_faultAsRequests_7 : decode prog_9_method_6_code 7 = .ok (.if_icmp .ge 51, 3) := by decide +kernel
theorem dX7_faultAsRequests_10 : decode prog_9_method_6_code 10 = .ok (.aload_n 0, 1) := by decide +kernel
theorem dX7_faultAsRequests_11 : decode prog_9_method_6_code 11 = .ok (.iload_n 2, 1) := by decide +kernel
theorem dX7_faultAsRequests_12 : decode prog_9_method_6_code 12 = .ok (.invokevirtual 25, 3) := by decide +kernel
theorem dX7_faultAsRequests_15 : decode prog_9_method_6_code 15 = .ok (.bipush 45, 2) := by decide +kernel
theorem dX7_faultAsRequests_17 : decode prog_9_method_6_code 17 = .ok (.if_icmp .eq 17, 3) := by decide +kernel
theorem dX7_faultAsRequests_20 : decode prog_9_method_6_code 20 = .ok (.aload_n 0, 1) := by decide +kernel
theorem dX7_faultAsRequests_21 : decode prog_9_method_6_code 21 = .ok (.iload_n 2, 1) := by decide +kernel
theorem dX7_faultAsRequests_22 : decode prog_9_method_6_code 22 = .ok (.invokevirtual 29, 3) := by decide +kernel
theorem dX7_faultAsRequests_25 : decode prog_9_method_6_code 25 = .ok (.iload_n 1, 1) := by decide +kernel
theorem dX7_faultAsRequests_26 : decode prog_9_method_6_code 26 = .ok (.iconst 1, 1) := by decide +kernel
theorem dX7_faultAsRequests_27 : decode prog_9_method_6_code 27 = .ok (.isub, 1) := by decide +kernel
theorem dX7_faultAsRequests_28 : decode prog_9_method_6_code 28 = .ok (.invokestatic 32, 3) := by decide +kernel
theorem dX7_faultAsRequests_31 : decode prog_9_method_6_code 31 = .ok (.ifCond .eq 7, 3) := by decide +kernel
theorem dX7_faultAsRequests_34 : decode prog_9_method_6_code 34 = .ok (.iconst 1, 1) := by decide +kernel
theorem dX7_faultAsRequests_35 : decode prog_9_method_6_code 35 = .ok (.goto 4, 3) := by decide +kernel
theorem dX7_faultAsRequests_38 : decode prog_9_method_6_code 38 = .ok (.iconst 0, 1) := by decide +kernel
theorem dX7_faultAsRequests_39 : decode prog_9_method_6_code 39 = .ok (.istore_n 3, 1) := by decide +kernel
theorem dX7_faultAsRequests_40 : decode prog_9_method_6_code 40 = .ok (.iload_n 2, 1) := by decide +kernel
theorem dX7_faultAsRequests_41 : decode prog_9_method_6_code 41 = .ok (.bipush 20, 2) := by decide +kernel
theorem dX7_faultAsRequests_43 : decode prog_9_method_6_code 43 = .ok (.if_icmp .ge 7, 3) := by decide +kernel
theorem dX7_faultAsRequests_46 : decode prog_9_method_6_code 46 = .ok (.iload_n 3, 1) := by decide +kernel
theorem dX7_faultAsRequests_47 : decode prog_9_method_6_code 47 = .ok (.ifCond .ne 5, 3) := by decide +kernel
theorem dX7_faultAsRequests_50 : decode prog_9_method_6_code 50 = .ok (.iload_n 2, 1) := by decide +kernel
theorem dX7_faultAsRequests_51 : decode prog_9_method_6_code 51 = .ok (.ireturn, 1) := by decide +kernel
theorem dX7_faultAsRequests_52 : decode prog_9_method_6_code 52 = .ok (.iinc 2 1, 3) := by decide +kernel
theorem dX7_faultAsRequests_55 : decode prog_9_method_6_code 55 = .ok (.goto (-53), 3) := by decide +kernel
theorem dX7_faultAsRequests_58 : decode prog_9_method_6_code 58 = .ok (.aload_n 0, 1) := by decide +kernel
theorem dX7_faultAsRequests_59 : decode prog_9_method_6_code 59 = .ok (.getfield 21, 3) := by decide +kernel
theorem dX7_faultAsRequests_62 : decode prog_9_method_6_code 62 = .ok (.ifCond .ne 7, 3) := by decide +kernel
theorem dX7_faultAsRequests_65 : decode prog_9_method_6_code 65 = .ok (.iconst 0, 1) := by decide +kernel
theorem dX7_faultAsRequests_66 : decode prog_9_method_6_code 66 = .ok (.goto 4, 3) := by decide +kernel
theorem dX7_faultAsRequests_69 : decode prog_9_method_6_code 69 = .ok (.iconst (-1), 1) := by decide +kernel
theorem dX7_faultAsRequests_70 : decode prog_9_method_6_code 70 = .ok (.ireturn, 1) := by decide +kernel
def m_X7_faultAsRequests_J39 (N : Nat) (M : mM) (k2 : Nat → Int32 → Int32 → Option (Int32)) (a0 : Nat) (i1 : Int32) (i2 : Int32) (si0 : Int32) : Option (Int32) :=
  if 20 ≤ i2 then (
    some i2) else (
    if si0 = 0 then (
      some i2) else (
      k2 a0 i1 (i2 + 1)))
set_option maxHeartbeats 4000000 in
set_option maxRecDepth 100000 in
theorem t_X7_faultAsRequests_J39 {X : mX} {M : mM} {L0 : Launch} {res : Int32} {N : Nat} (C : CX X RX7 "faultAsRequests" prog_9_method_6_code 4 (some .int)) (E : EX X L0 2 42 0 0 (some (.int res)) M) (k2 : Nat → Int32 → Int32 → Option (Int32)) (Hk2 : ∀ (a0 : Nat) (i1 : Int32) (i2 : Int32), k2 a0 i1 i2 = some res → EV X 4 2 [(0, .ref a0), (1, .int i1), (2, .int i2)] [] 0 0 M) (a0 : Nat) (i1 : Int32) (i2 : Int32) (si0 : Int32) (hf : m_X7_faultAsRequests_J39 N M k2 a0 i1 i2 si0 = some res) : EV X 4 39 [(0, .ref a0), (1, .int i1), (2, .int i2)] [.int si0] 0 0 M := by
  unfold m_X7_faultAsRequests_J39 at hf
  refine ev_istore_n (l' := [(3, .int si0), (0, .ref a0), (1, .int i1), (2, .int i2)]) C dX7_faultAsRequests_39 rfl (by decide) rfl ?_
  refine ev_iload_n C dX7_faultAsRequests_40 rfl (q := 3) rfl ?_
  refine ev_bipush (v := 20) C dX7_faultAsRequests_41 (by decide) ?_
  refine ev_icmp_ge (tgt := 50) C dX7_faultAsRequests_43 (by decide) (fun hc => ?_) (fun hc => ?_)
  · have hf := oit hf hc
    refine ev_iload_n C dX7_faultAsRequests_50 rfl (q := 3) rfl ?_
    obtain rfl := Option.some.inj hf
    exact ev_iret C E (Nat.le_refl 0) (Nat.le_refl 0) dX7_faultAsRequests_51
  · have hf := oie hf hc
    refine ev_iload_n C dX7_faultAsRequests_46 rfl (q := 0) rfl ?_
    refine ev_if_ne (tgt := 52) C dX7_faultAsRequests_47 (by decide) (fun hc => ?_) (fun hc => ?_)
    · have hf := oie hf hc
      refine ev_iinc (v := i2 + 1) (l' := [(2, .int (i2 + 1)), (3, .int si0), (0, .ref a0), (1, .int i1)]) C dX7_faultAsRequests_52 (q := 3) rfl rfl (by decide) rfl ?_
      refine ev_goto (tgt := 2) C dX7_faultAsRequests_55 (by decide) ?_
      refine ev_sub [2, 3, 0] rfl ?_
      exact Hk2 a0 i1 (i2 + 1) hf
    · have hf := oit hf hc
      refine ev_iload_n C dX7_faultAsRequests_50 rfl (q := 3) rfl ?_
      obtain rfl := Option.some.inj hf
      exact ev_iret C E (Nat.le_refl 0) (Nat.le_refl 0) dX7_faultAsRequests_51
def m_X7_faultAsRequests_J34 (N : Nat) (M : mM) (k2 : Nat → Int32 → Int32 → Option (Int32)) (a0 : Nat) (i1 : Int32) (i2 : Int32) : Option (Int32) :=
  m_X7_faultAsRequests_J39 N M k2 a0 i1 i2 1
set_option maxHeartbeats 4000000 in
set_option maxRecDepth 100000 in
theorem t_X7_faultAsRequests_J34 {X : mX} {M : mM} {L0 : Launch} {res : Int32} {N : Nat} (C : CX X RX7 "faultAsRequests" prog_9_method_6_code 4 (some .int)) (E : EX X L0 2 42 0 0 (some (.int res)) M) (k2 : Nat → Int32 → Int32 → Option (Int32)) (Hk2 : ∀ (a0 : Nat) (i1 : Int32) (i2 : Int32), k2 a0 i1 i2 = some res → EV X 4 2 [(0, .ref a0), (1, .int i1), (2, .int i2)] [] 0 0 M) (a0 : Nat) (i1 : Int32) (i2 : Int32) (hf : m_X7_faultAsRequests_J34 N M k2 a0 i1 i2 = some res) : EV X 4 34 [(0, .ref a0), (1, .int i1), (2, .int i2)] [] 0 0 M := by
  unfold m_X7_faultAsRequests_J34 at hf
  refine ev_iconst (v := 1) C dX7_faultAsRequests_34 (by decide) ?_
  refine ev_goto (tgt := 39) C dX7_faultAsRequests_35 (by decide) ?_
  exact t_X7_faultAsRequests_J39 C E k2 Hk2 a0 i1 i2 1 hf
def m_X7_faultAsRequests_L2 (N : Nat) (M : mM)  : Nat → Nat → Int32 → Int32 → Option (Int32)
  | 0, _, _, _ => none
  | n + 1, a0, i1, i2 =>
    (fI M a0 7 1).bind fun x1 =>
    if x1 ≤ i2 then (
      (fI M a0 7 1).bind fun x3 =>
      if x3 = 0 then (
        some 0) else (
        some (-1))) else (
      (oO M a0 7).bind fun _ =>
      (m_X7_byteAt a0 i2 M).bind fun x7 =>
      if x7 = 45 then (
        m_X7_faultAsRequests_J34 N M (m_X7_faultAsRequests_L2 N M  n) a0 i1 i2) else (
        (oO M a0 7).bind fun _ =>
        (m_X7_fareAsked a0 i2 M).bind fun x11 =>
        (m_X11_within x11 (i1 - 1)).bind fun x13 =>
        if x13 = 0 then (
          m_X7_faultAsRequests_J39 N M (m_X7_faultAsRequests_L2 N M  n) a0 i1 i2 0) else (
          m_X7_faultAsRequests_J34 N M (m_X7_faultAsRequests_L2 N M  n) a0 i1 i2)))
set_option maxHeartbeats 4000000 in
set_option maxRecDepth 100000 in
theorem t_X7_faultAsRequests_L2 {X : mX} {M : mM} {L0 : Launch} {res : Int32} {N : Nat} (C : CX X RX7 "faultAsRequests" prog_9_method_6_code 4 (some .int)) (E : EX X L0 2 42 0 0 (some (.int res)) M)   : ∀ (n : Nat) (a0 : Nat) (i1 : Int32) (i2 : Int32), m_X7_faultAsRequests_L2 N M  n a0 i1 i2 = some res → EV X 4 2 [(0, .ref a0), (1, .int i1), (2, .int i2)] [] 0 0 M := by
  intro n
  induction n with
  | zero => intro a0 i1 i2 hf; cases (show (none : Option (Int32)) = some res from hf)
  | succ n ih =>
    intro a0 i1 i2 hf
    rw [m_X7_faultAsRequests_L2] at hf
    refine ev_iload_n C dX7_faultAsRequests_2 rfl (q := 2) rfl ?_
    refine ev_aload_n C dX7_faultAsRequests_3 rfl (q := 0) rfl ?_
    obtain ⟨x1, e2, hf⟩ := obnd hf
    refine ev_get (k := 1) C ok_7 dX7_faultAsRequests_4 (by decide) kw_265 (fI_V e2) ?_
    refine ev_icmp_ge (tgt := 58) C dX7_faultAsRequests_7 (by decide) (fun hc => ?_) (fun hc => ?_)
    · have hf := oit hf hc
      refine ev_aload_n C dX7_faultAsRequests_58 rfl (q := 0) rfl ?_
      obtain ⟨x3, e4, hf⟩ := obnd hf
      refine ev_get (k := 1) C ok_7 dX7_faultAsRequests_59 (by decide) kw_265 (fI_V e4) ?_
      refine ev_if_ne (tgt := 69) C dX7_faultAsRequests_62 (by decide) (fun hc => ?_) (fun hc => ?_)
      · have hf := oie hf hc
        refine ev_iconst (v := (-1)) C dX7_faultAsRequests_69 (by decide) ?_
        obtain rfl := Option.some.inj hf
        exact ev_iret C E (Nat.le_refl 0) (Nat.le_refl 0) dX7_faultAsRequests_70
      · have hf := oit hf hc
        refine ev_iconst (v := 0) C dX7_faultAsRequests_65 (by decide) ?_
        refine ev_goto (tgt := 70) C dX7_faultAsRequests_66 (by decide) ?_
        obtain rfl := Option.some.inj hf
        exact ev_iret C E (Nat.le_refl 0) (Nat.le_refl 0) dX7_faultAsRequests_70
    · have hf := oie hf hc
      refine ev_aload_n C dX7_faultAsRequests_10 rfl (q := 0) rfl ?_
      refine ev_iload_n C dX7_faultAsRequests_11 rfl (q := 2) rfl ?_
      obtain ⟨_, e5, hf⟩ := obnd hf
      obtain ⟨fs6, e5⟩ := oO_eq e5
      obtain ⟨x7, e8, hf⟩ := obnd hf
      refine ev_callV0 (As := [.int i2]) (st := []) C rfl e5 (t_X7_byteAt e8) rfl hd_X7_byteAt rfl kw_707 kw_709 kw_79 kw_8 kw_710 (mRoom.of E (Nat.le_of_ble_eq_true rfl) (Nat.le_of_ble_eq_true rfl) (Nat.le_refl 0) (Nat.le_refl 0)) (Nat.le_of_ble_eq_true rfl) dX7_faultAsRequests_12 ?_
      refine ev_bipush (v := 45) C dX7_faultAsRequests_15 (by decide) ?_
      refine ev_icmp_eq (tgt := 34) C dX7_faultAsRequests_17 (by decide) (fun hc => ?_) (fun hc => ?_)
      · have hf := oit hf hc
        exact t_X7_faultAsRequests_J34 C E (m_X7_faultAsRequests_L2 N M  n) ih a0 i1 i2 hf
      · have hf := oie hf hc
        refine ev_aload_n C dX7_faultAsRequests_20 rfl (q := 0) rfl ?_
        refine ev_iload_n C dX7_faultAsRequests_21 rfl (q := 2) rfl ?_
        obtain ⟨_, e9, hf⟩ := obnd hf
        obtain ⟨fs10, e9⟩ := oO_eq e9
        obtain ⟨x11, e12, hf⟩ := obnd hf
        refine ev_callV0 (As := [.int i2]) (st := []) C rfl e9 (t_X7_fareAsked e12) rfl hd_X7_fareAsked rfl kw_1021 kw_1022 kw_79 kw_1023 kw_1024 (mRoom.of E (Nat.le_of_ble_eq_true rfl) (Nat.le_of_ble_eq_true rfl) (Nat.le_refl 0) (Nat.le_refl 0)) (Nat.le_of_ble_eq_true rfl) dX7_faultAsRequests_22 ?_
        refine ev_iload_n C dX7_faultAsRequests_25 rfl (q := 1) rfl ?_
        refine ev_iconst (v := 1) C dX7_faultAsRequests_26 (by decide) ?_
        refine ev_isub C dX7_faultAsRequests_27 ?_
        obtain ⟨x13, e14, hf⟩ := obnd hf
        refine ev_callSN0 (As := [.int x11, .int (i1 - 1)]) (st := []) C (t_X11_within e14) hd_X11_within rfl C.K.2.2.1.2.2.2.2.2.2.2.1 kw_436 kw_70 kw_437 (mRoom.of E (Nat.le_of_ble_eq_true rfl) (Nat.le_of_ble_eq_true rfl) (Nat.le_refl 0) (Nat.le_refl 0)) (Nat.le_of_ble_eq_true rfl) dX7_faultAsRequests_28 ?_
        refine ev_if_eq (tgt := 38) C dX7_faultAsRequests_31 (by decide) (fun hc => ?_) (fun hc => ?_)
        · have hf := oit hf hc
          refine ev_iconst (v := 0) C dX7_faultAsRequests_38 (by decide) ?_
          exact t_X7_faultAsRequests_J39 C E (m_X7_faultAsRequests_L2 N M  n) ih a0 i1 i2 0 hf
        · have hf := oie hf hc
          exact t_X7_faultAsRequests_J34 C E (m_X7_faultAsRequests_L2 N M  n) ih a0 i1 i2 hf
def m_X7_faultAsRequests (N : Nat) (a0 : Nat) (i1 : Int32) (M : mM) : Option (Int32) :=
  m_X7_faultAsRequests_L2 N M  N a0 i1 0
set_option maxHeartbeats 4000000 in
set_option maxRecDepth 100000 in
theorem t_X7_faultAsRequests {L0 : Launch} {M : mM} {N : Nat} {a0 : Nat} {i1 : Int32} {res : Int32} (hf : m_X7_faultAsRequests N a0 i1 M = some res) : CT L0 yX7_faultAsRequests prog_9_method_6_code 4 (some .int) 2 42 0 0 [.ref a0, .int i1] M (some (.int res)) M := by
  refine CT.of (by decide +kernel) (Nat.le_of_ble_eq_true rfl) fun X C E => ?_
  have C : CX X RX7 "faultAsRequests" prog_9_method_6_code 4 (some .int) := C
  show EV X 4 0 [(0, .ref a0), (1, .int i1)] [] 0 0 M
  unfold m_X7_faultAsRequests at hf
  refine ev_iconst (v := 0) C dX7_faultAsRequests_0 (by decide) ?_
  refine ev_istore_n (l' := [(2, .int 0), (0, .ref a0), (1, .int i1)]) C dX7_faultAsRequests_1 rfl (by decide) rfl ?_
  refine ev_sub [1, 2, 0] rfl ?_
  exact t_X7_faultAsRequests_L2 C E   N a0 i1 0 hf
/-! FareLimits$Day begin()V -/
theorem dX1_begin_0 : decode prog_3_method_2_code 0 = .ok (.aload_n 0, 1) := by decide +kernel
theorem dX1_begin_1 : decode prog_3_method_2_code 1 = .ok (.aload_n 0, 1) := by decide +kernel
theorem dX1_begin_2 : decode prog_3_method_2_code 2 = .ok (.getfield 18, 3) := by decide +kernel
theorem dX1_begin_5 : decode prog_3_method_2_code 5 = .ok (.getfield 26, 3) := by decide +kernel
theorem dX1_begin_8 : decode prog_3_method_2_code 8 = .ok (.iconst 0, 1) := by decide +kernel
theorem dX1_begin_9 : decode prog_3_method_2_code 9 = .ok (.iaload, 1) := by decide +kernel
theorem dX1_begin_10 : decode prog_3_method_2_code 10 = .ok (.putfield 31, 3) := by decide +kernel
theorem dX1_begin_13 : decode prog_3_method_2_code 13 = .ok (.aload_n 0, 1) := by decide +kernel
theorem dX1_begin_14 : decode prog_3_method_2_code 14 = .ok (.iconst 0, 1) := by decide +kernel
theorem dX1_begin_15 : decode prog_3_method_2_code 15 = .ok (.putfield 35, 3) := by decide +kernel
theorem dX1_begin_18 : decode prog_3_method_2_code 18 = .ok (.aload_n 0, 1) := by decide +kernel
theorem dX1_begin_19 : decode prog_3_method_2_code 19 = .ok (.iconst 0, 1) := by decide +kernel
theorem dX1_begin_20 : decode prog_3_method_2_code 20 = .ok (.putfield 38, 3) := by decide +kernel
theorem dX1_begin_23 : decode prog_3_method_2_code 23 = .ok (.aload_n 0, 1) := by decide +kernel
theorem dX1_begin_24 : decode prog_3_method_2_code 24 = .ok (.iconst 0, 1) := by decide +kernel
theorem dX1_begin_25 : decode prog_3_method_2_code 25 = .ok (.putfield 41, 3) := by decide +kernel
theorem dX1_begin_28 : decode prog_3_method_2_code 28 = .ok (.aload_n 0, 1) := by decide +kernel
theorem dX1_begin_29 : decode prog_3_method_2_code 29 = .ok (.iconst 0, 1) := by decide +kernel
theorem dX1_begin_30 : decode prog_3_method_2_code 30 = .ok (.putfield 44, 3) := by decide +kernel
theorem dX1_begin_33 : decode prog_3_method_2_code 33 = .ok (.return_, 1) := by decide +kernel
def m_X1_begin (a0 : Nat) (M : mM) : Option (mM) :=
  (fR M a0 2 0).bind fun x1 =>
  (fR M x1 5 2).bind fun x3 =>
  (aI 0 M x3 0).bind fun x5 =>
  (sV M a0 2 4 (.int x5)).bind fun M7 =>
  (sV M7 a0 2 5 (.int 0)).bind fun M9 =>
  (sV M9 a0 2 6 (.int 0)).bind fun M11 =>
  (sV M11 a0 2 7 (.int 0)).bind fun M13 =>
  (sV M13 a0 2 8 (.int 0)).bind fun M15 =>
  some M15
set_option maxHeartbeats 4000000 in
set_option maxRecDepth 100000 in
theorem t_X1_begin {L0 : Launch} {M : mM} {a0 : Nat} {res : mM} (hf : m_X1_begin a0 M = some res) : CT L0 yX1_begin prog_3_method_2_code 1 none 0 0 0 0 [.ref a0] M none res := by
  refine CT.of (by decide +kernel) (Nat.le_of_ble_eq_true rfl) fun X C E => ?_
  have C : CX X RX1 "begin" prog_3_method_2_code 1 none := C
  show EV X 1 0 [(0, .ref a0)] [] 0 0 M
  unfold m_X1_begin at hf
  refine ev_aload_n C dX1_begin_0 rfl (q := 0) rfl ?_
  refine ev_aload_n C dX1_begin_1 rfl (q := 0) rfl ?_
  obtain ⟨x1, e2, hf⟩ := obnd hf
  refine ev_get (k := 0) C ok_2 dX1_begin_2 (by decide) kw_301 (fR_V e2) ?_
  obtain ⟨x3, e4, hf⟩ := obnd hf
  refine ev_get (k := 2) C ok_5 dX1_begin_5 (by decide) kw_188 (fR_V e4) ?_
  refine ev_iconst (v := 0) C dX1_begin_8 (by decide) ?_
  obtain ⟨x5, e6, hf⟩ := obnd hf
  refine ev_iald C dX1_begin_9 e6 ?_
  obtain ⟨M7, e8, hf⟩ := obnd hf
  refine ev_put (k := 4) C ok_2 dX1_begin_10 (by decide) kw_305 rfl ⟨rfl, rfl⟩ e8 ?_
  refine ev_aload_n C dX1_begin_13 rfl (q := 0) rfl ?_
  refine ev_iconst (v := 0) C dX1_begin_14 (by decide) ?_
  obtain ⟨M9, e10, hf⟩ := obnd hf
  refine ev_put (k := 5) C ok_2 dX1_begin_15 (by decide) kw_307 rfl ⟨rfl, rfl⟩ e10 ?_
  refine ev_aload_n C dX1_begin_18 rfl (q := 0) rfl ?_
  refine ev_iconst (v := 0) C dX1_begin_19 (by decide) ?_
  obtain ⟨M11, e12, hf⟩ := obnd hf
  refine ev_put (k := 6) C ok_2 dX1_begin_20 (by decide) kw_309 rfl ⟨rfl, rfl⟩ e12 ?_
  refine ev_aload_n C dX1_begin_23 rfl (q := 0) rfl ?_
  refine ev_iconst (v := 0) C dX1_begin_24 (by decide) ?_
  obtain ⟨M13, e14, hf⟩ := obnd hf
  refine ev_put (k := 7) C ok_2 dX1_begin_25 (by decide) kw_311 rfl ⟨rfl, rfl⟩ e14 ?_
  refine ev_aload_n C dX1_begin_28 rfl (q := 0) rfl ?_
  refine ev_iconst (v := 0) C dX1_begin_29 (by decide) ?_
  obtain ⟨M15, e16, hf⟩ := obnd hf
  refine ev_put (k := 8) C ok_2 dX1_begin_30 (by decide) kw_313 rfl ⟨rfl, rfl⟩ e16 ?_
  obtain rfl := Option.some.inj hf
  exact ev_vret C E (Nat.le_refl 0) (Nat.le_refl 0) dX1_begin_33
/-! FareLimits$Day handGives(I)Z -/
theorem dX1_handGives_0 : decode prog_3_method_4_code 0 = .ok (.iconst 0, 1) := by decide +kernel
theorem dX1_handGives_1 : decode prog_3_method_4_code 1 = .ok (.istore_n 2, 1) := by decide +kernel
theorem dX1_handGives_2 : decode prog_3_method_4_code 2 = .ok (.iconst 0, 1) := by decide +kernel
theorem dX1_handGives_3 : decode prog_3_method_4_code 3 = .ok (.istore_n 3, 1) := by decide +kernel
theorem dX1_handGives_4 : decode prog_3_method_4_code 4 = .ok (.iload_n 3, 1) := by decide +kernel
theorem dX1_handGives_5 : decode prog_3_method_4_code 5 = .ok (.aload_n 0, 1) := by decide +kernel
theorem dX1_handGives_6 : decode prog_3_method_4_code 6 = .ok (.getfield 38, 3) := by decide +kernel
theorem dX1_handGives_9 : decode prog_3_method_4_code 9 = .ok (.if_icmp .ge 38, 3) := by decide +kernel
theorem dX1_handGives_12 : decode prog_3_method_4_code 12 = .ok (.iload_n 2, 1) := by decide +kernel
theorem dX1_handGives_13 : decode prog_3_method_4_code 13 = .ok (.aload_n 0, 1) := by decide +kernel
theorem dX1_handGives_14 : decode prog_3_method_4_code 14 = .ok (.getfield 15, 3) := by decide +kernel
theorem dX1_handGives_17 : decode prog_3_method_4_code 17 = .ok (.iload_n 3, 1) := by decide +kernel
theorem dX1_handGives_18 : decode prog_3_method_4_code 18 = .ok (.iaload, 1) := by decide +kernel
theorem dX1_handGives_19 : decode prog_3_method_4_code 19 = .ok (.aload_n 0, 1) := by decide +kernel
theorem dX1_handGives_20 : decode prog_3_method_4_code 20 = .ok (.getfield 18, 3) := by decide +kernel
theorem dX1_handGives_23 : decode prog_3_method_4_code 23 = .ok (.getfield 51, 3) := by decide +kernel
theorem dX1_handGives_26 : decode prog_3_method_4_code 26 = .ok (.iload_n 1, 1) := by decide +kernel
theorem dX1_handGives_27 : decode prog_3_method_4_code 27 = .ok (.aaload, 1) := by decide +kernel
theorem dX1_handGives_28 : decode prog_3_method_4_code 28 = .ok (.getfield 55, 3) := by decide +kernel
theorem dX1_handGives_31 : decode prog_3_method_4_code 31 = .ok (.if_icmp .gt 7, 3) := by decide +kernel
theorem dX1_handGives_34 : decode prog_3_method_4_code 34 = .ok (.iconst 1, 1) := by decide +kernel
theorem dX1_handGives_35 : decode prog_3_method_4_code 35 = .ok (.goto 4, 3) := by decide +kernel
theorem dX1_handGives_38 : decode prog_3_method_4_code 38 = .ok (.iconst 0, 1) := by decide +kernel
theorem dX1_handGives_39 : decode prog_3_method_4_code 39 = .ok (.iadd, 1) := by decide +kernel
theorem dX1_handGives_40 : decode prog_3_method_4_code 40 = .ok (.istore_n 2, 1) := by decide +kernel
theorem dX1_handGives_41 : decode prog_3_method_4_code 41 = .ok (.iinc 3 1, 3) := by decide +kernel
theorem dX1_handGives_44 : decode prog_3_method_4_code 44 = .ok (.goto (-40), 3) := by decide +kernel
theorem dX1_handGives_47 : decode prog_3_method_4_code 47 = .ok (.iload_n 2, 1) := by decide +kernel
theorem dX1_handGives_48 : decode prog_3_method_4_code 48 = .ok (.aload_n 0, 1) := by decide +kernel
theorem dX1_handGives_49 : decode prog_3_method_4_code 49 = .ok (.getfield 18, 3) := by decide +kernel
theorem dX1_handGives_52 : decode prog_3_method_4_code 52 = .ok (.getfield 51, 3) := by decide +kernel
theorem dX1_handGives_55 : decode prog_3_method_4_code 55 = .ok (.iload_n 1, 1) := by decide +kernel
theorem dX1_handGives_56 : decode prog_3_method_4_code 56 = .ok (.aaload, 1) := by decide +kernel
theorem dX1_handGives_57 : decode prog_3_method_4_code 57 = .ok (.getfield 69, 3) := by decide +kernel
theorem dX1_handGives_60 : decode prog_3_method_4_code 60 = .ok (.if_icmp .ge 7, 3) := by decide +kernel
theorem dX1_handGives_63 : decode prog_3_method_4_code 63 = .ok (.iconst 1, 1) := by decide +kernel
theorem dX1_handGives_64 : decode prog_3_method_4_code 64 = .ok (.goto 4, 3) := by decide +kernel
theorem dX1_handGives_67 : decode prog_3_method_4_code 67 = .ok (.iconst 0, 1) := by decide +kernel
theorem dX1_handGives_68 : decode prog_3_method_4_code 68 = .ok (.ireturn, 1) := by decide +kernel
def m_X1_handGives_J39 (N : Nat) (M : mM) (k4 : Nat → Int32 → Int32 → Int32 → Option (Int32)) (a0 : Nat) (i1 : Int32) (i3 : Int32) (si0 : Int32) (si1 : Int32) : Option (Int32) :=
  k4 a0 i1 (si0 + si1) (i3 + 1)
set_option maxHeartbeats 4000000 in
set_option maxRecDepth 100000 in
theorem t_X1_handGives_J39 {X : mX} {M : mM} {L0 : Launch} {res : Int32} {N : Nat} (C : CX X RX1 "handGives" prog_3_method_4_code 4 (some .boolean)) (E : EX X L0 0 0 0 0 (some (.int res)) M) (k4 : Nat → Int32 → Int32 → Int32 → Option (Int32)) (Hk4 : ∀ (a0 : Nat) (i1 : Int32) (i2 : Int32) (i3 : Int32), k4 a0 i1 i2 i3 = some res → EV X 4 4 [(0, .ref a0), (1, .int i1), (2, .int i2), (3, .int i3)] [] 0 0 M) (a0 : Nat) (i1 : Int32) (i3 : Int32) (si0 : Int32) (si1 : Int32) (hf : m_X1_handGives_J39 N M k4 a0 i1 i3 si0 si1 = some res) : EV X 4 39 [(0, .ref a0), (1, .int i1), (3, .int i3)] [.int si1, .int si0] 0 0 M := by
  unfold m_X1_handGives_J39 at hf
  refine ev_iadd C dX1_handGives_39 ?_
  refine ev_istore_n (l' := [(2, .int (si0 + si1)), (0, .ref a0), (1, .int i1), (3, .int i3)]) C dX1_handGives_40 rfl (by decide) rfl ?_
  refine ev_iinc (v := i3 + 1) (l' := [(3, .int (i3 + 1)), (2, .int (si0 + si1)), (0, .ref a0), (1, .int i1)]) C dX1_handGives_41 (q := 3) rfl rfl (by decide) rfl ?_
  refine ev_goto (tgt := 4) C dX1_handGives_44 (by decide) ?_
  refine ev_sub [2, 3, 1, 0] rfl ?_
  exact Hk4 a0 i1 (si0 + si1) (i3 + 1) hf
def m_X1_handGives_L4 (N : Nat) (M : mM)  : Nat → Nat → Int32 → Int32 → Int32 → Option (Int32)
  | 0, _, _, _, _ => none
  | n + 1, a0, i1, i2, i3 =>
    (fI M a0 2 6).bind fun x1 =>
    if x1 ≤ i3 then (
      (fR M a0 2 0).bind fun x3 =>
      (fR M x3 5 0).bind fun x5 =>
      (aR 5 M x5 i1).bind fun x7 =>
      (fI M x7 3 2).bind fun x9 =>
      if x9 ≤ i2 then (
        some 0) else (
        some 1)) else (
      (fR M a0 2 3).bind fun x11 =>
      (aI 0 M x11 i3).bind fun x13 =>
      (fR M a0 2 0).bind fun x15 =>
      (fR M x15 5 0).bind fun x17 =>
      (aR 5 M x17 i1).bind fun x19 =>
      (fI M x19 3 1).bind fun x21 =>
      if x21 < x13 then (
        m_X1_handGives_J39 N M (m_X1_handGives_L4 N M  n) a0 i1 i3 i2 0) else (
        m_X1_handGives_J39 N M (m_X1_handGives_L4 N M  n) a0 i1 i3 i2 1))
set_option maxHeartbeats 4000000 in
set_option maxRecDepth 100000 in
theorem t_X1_handGives_L4 {X : mX} {M : mM} {L0 : Launch} {res : Int32} {N : Nat} (C : CX X RX1 "handGives" prog_3_method_4_code 4 (some .boolean)) (E : EX X L0 0 0 0 0 (some (.int res)) M)   : ∀ (n : Nat) (a0 : Nat) (i1 : Int32) (i2 : Int32) (i3 : Int32), m_X1_handGives_L4 N M  n a0 i1 i2 i3 = some res → EV X 4 4 [(0, .ref a0), (1, .int i1), (2, .int i2), (3, .int i3)] [] 0 0 M := by
  intro n
  induction n with
  | zero => intro a0 i1 i2 i3 hf; cases (show (none : Option (Int32)) = some res from hf)
  | succ n ih =>
    intro a0 i1 i2 i3 hf
    rw [m_X1_handGives_L4] at hf
    refine ev_iload_n C dX1_handGives_4 rfl (q := 3) rfl ?_
    refine ev_aload_n C dX1_handGives_5 rfl (q := 0) rfl ?_
    obtain ⟨x1, e2, hf⟩ := obnd hf
    refine ev_get (k := 6) C ok_2 dX1_handGives_6 (by decide) kw_309 (fI_V e2) ?_
    refine ev_icmp_ge (tgt := 47) C dX1_handGives_9 (by decide) (fun hc => ?_) (fun hc => ?_)
    · have hf := oit hf hc
      refine ev_iload_n C dX1_handGives_47 rfl (q := 2) rfl ?_
      refine ev_aload_n C dX1_handGives_48 rfl (q := 0) rfl ?_
      obtain ⟨x3, e4, hf⟩ := obnd hf
      refine ev_get (k := 0) C ok_2 dX1_handGives_49 (by decide) kw_301 (fR_V e4) ?_
      obtain ⟨x5, e6, hf⟩ := obnd hf
      refine ev_get (k := 0) C ok_5 dX1_handGives_52 (by decide) kw_179 (fR_V e6) ?_
      refine ev_iload_n C dX1_handGives_55 rfl (q := 1) rfl ?_
      obtain ⟨x7, e8, hf⟩ := obnd hf
      refine ev_aldr C (t := 5) rfl rfl dX1_handGives_56 e8 ?_
      obtain ⟨x9, e10, hf⟩ := obnd hf
      refine ev_get (k := 2) C ok_3 dX1_handGives_57 (by decide) kw_158 (fI_V e10) ?_
      refine ev_icmp_ge (tgt := 67) C dX1_handGives_60 (by decide) (fun hc => ?_) (fun hc => ?_)
      · have hf := oit hf hc
        refine ev_iconst (v := 0) C dX1_handGives_67 (by decide) ?_
        obtain rfl := Option.some.inj hf
        exact ev_zret C (by decide) E (Nat.le_refl 0) (Nat.le_refl 0) dX1_handGives_68
      · have hf := oie hf hc
        refine ev_iconst (v := 1) C dX1_handGives_63 (by decide) ?_
        refine ev_goto (tgt := 68) C dX1_handGives_64 (by decide) ?_
        obtain rfl := Option.some.inj hf
        exact ev_zret C (by decide) E (Nat.le_refl 0) (Nat.le_refl 0) dX1_handGives_68
    · have hf := oie hf hc
      refine ev_iload_n C dX1_handGives_12 rfl (q := 2) rfl ?_
      refine ev_aload_n C dX1_handGives_13 rfl (q := 0) rfl ?_
      obtain ⟨x11, e12, hf⟩ := obnd hf
      refine ev_get (k := 3) C ok_2 dX1_handGives_14 (by decide) kw_304 (fR_V e12) ?_
      refine ev_iload_n C dX1_handGives_17 rfl (q := 3) rfl ?_
      obtain ⟨x13, e14, hf⟩ := obnd hf
      refine ev_iald C dX1_handGives_18 e14 ?_
      refine ev_aload_n C dX1_handGives_19 rfl (q := 0) rfl ?_
      obtain ⟨x15, e16, hf⟩ := obnd hf
      refine ev_get (k := 0) C ok_2 dX1_handGives_20 (by decide) kw_301 (fR_V e16) ?_
      obtain ⟨x17, e18, hf⟩ := obnd hf
      refine ev_get (k := 0) C ok_5 dX1_handGives_23 (by decide) kw_179 (fR_V e18) ?_
      refine ev_iload_n C dX1_handGives_26 rfl (q := 1) rfl ?_
      obtain ⟨x19, e20, hf⟩ := obnd hf
      refine ev_aldr C (t := 5) rfl rfl dX1_handGives_27 e20 ?_
      obtain ⟨x21, e22, hf⟩ := obnd hf
      refine ev_get (k := 1) C ok_3 dX1_handGives_28 (by decide) kw_152 (fI_V e22) ?_
      refine ev_icmp_gt (tgt := 38) C dX1_handGives_31 (by decide) (fun hc => ?_) (fun hc => ?_)
      · have hf := oit hf hc
        refine ev_iconst (v := 0) C dX1_handGives_38 (by decide) ?_
        refine ev_sub [0, 1, 3] rfl ?_
        exact t_X1_handGives_J39 C E (m_X1_handGives_L4 N M  n) ih a0 i1 i3 i2 0 hf
      · have hf := oie hf hc
        refine ev_iconst (v := 1) C dX1_handGives_34 (by decide) ?_
        refine ev_goto (tgt := 39) C dX1_handGives_35 (by decide) ?_
        refine ev_sub [0, 1, 3] rfl ?_
        exact t_X1_handGives_J39 C E (m_X1_handGives_L4 N M  n) ih a0 i1 i3 i2 1 hf
def m_X1_handGives (N : Nat) (a0 : Nat) (i1 : Int32) (M : mM) : Option (Int32) :=
  m_X1_handGives_L4 N M  N a0 i1 0 0
set_option maxHeartbeats 4000000 in
set_option maxRecDepth 100000 in
theorem t_X1_handGives {L0 : Launch} {M : mM} {N : Nat} {a0 : Nat} {i1 : Int32} {res : Int32} (hf : m_X1_handGives N a0 i1 M = some res) : CT L0 yX1_handGives prog_3_method_4_code 4 (some .boolean) 0 0 0 0 [.ref a0, .int i1] M (some (.int res)) M := by
  refine CT.of (by decide +kernel) (Nat.le_of_ble_eq_true rfl) fun X C E => ?_
  have C : CX X RX1 "handGives" prog_3_method_4_code 4 (some .boolean) := C
  show EV X 4 0 [(0, .ref a0), (1, .int i1)] [] 0 0 M
  unfold m_X1_handGives at hf
  refine ev_iconst (v := 0) C dX1_handGives_0 (by decide) ?_
  refine ev_istore_n (l' := [(2, .int 0), (0, .ref a0), (1, .int i1)]) C dX1_handGives_1 rfl (by decide) rfl ?_
  refine ev_iconst (v := 0) C dX1_handGives_2 (by decide) ?_
  refine ev_istore_n (l' := [(3, .int 0), (2, .int 0), (0, .ref a0), (1, .int i1)]) C dX1_handGives_3 rfl (by decide) rfl ?_
  refine ev_sub [2, 3, 1, 0] rfl ?_
  exact t_X1_handGives_L4 C E   N a0 i1 0 0 hf
/-! FareLimits$Day ask(IIII)V -/
theorem dX1_ask_0 : decode prog_3_method_3_code 0 = .ok (.aload_n 0, 1) := by decide +kernel
theorem dX1_ask_1 : decode prog_3_method_3_code 1 = .ok (.getfield 18, 3) := by decide +kernel
theorem dX1_ask_4 : decode prog_3_method_3_code 4 = .ok (.iload_n 1, 1) := by decide +kernel
theorem dX1_ask_5 : decode prog_3_method_3_code 5 = .ok (.invokevirtual 47, 3) := by decide +kernel
theorem dX1_ask_8 : decode prog_3_method_3_code 8 = .ok (.ifCond .eq 12, 3) := by decide +kernel
theorem dX1_ask_11 : decode prog_3_method_3_code 11 = .ok (.aload_n 0, 1) := by decide +kernel
theorem dX1_ask_12 : decode prog_3_method_3_code 12 = .ok (.getfield 35, 3) := by decide +kernel
theorem dX1_ask_15 : decode prog_3_method_3_code 15 = .ok (.bipush 20, 2) := by decide +kernel
theorem dX1_ask_17 : decode prog_3_method_3_code 17 = .ok (.if_icmp .lt 4, 3) := by decide +kernel
theorem dX1_ask_20 : decode prog_3_method_3_code 20 = .ok (.return_, 1) := by decide +kernel
theorem dX1_ask_21 : decode prog_3_method_3_code 21 = .ok (.aload_n 0, 1) := by decide +kernel
theorem dX1_ask_22 : decode prog_3_method_3_code 22 = .ok (.getfield 18, 3) := by decide +kernel
theorem dX1_ask_25 : decode prog_3_method_3_code 25 = .ok (.getfield 51, 3) := by decide +kernel
theorem dX1_ask_28 : decode prog_3_method_3_code 28 = .ok (.iload_n 1, 1) := by decide +kernel
theorem dX1_ask_29 : decode prog_3_method_3_code 29 = .ok (.aaload, 1) := by decide +kernel
theorem dX1_ask_30 : decode prog_3_method_3_code 30 = .ok (.getfield 55, 3) := by decide +kernel
theorem dX1_ask_33 : decode prog_3_method_3_code 33 = .ok (.istore 5, 2) := by decide +kernel
theorem dX1_ask_35 : decode prog_3_method_3_code 35 = .ok (.aload_n 0, 1) := by decide +kernel
theorem dX1_ask_36 : decode prog_3_method_3_code 36 = .ok (.getfield 9, 3) := by decide +kernel
theorem dX1_ask_39 : decode prog_3_method_3_code 39 = .ok (.aload_n 0, 1) := by decide +kernel
theorem dX1_ask_40 : decode prog_3_method_3_code 40 = .ok (.getfield 35, 3) := by decide +kernel
theorem dX1_ask_43 : decode prog_3_method_3_code 43 = .ok (.iload 5, 2) := by decide +kernel
theorem dX1_ask_45 : decode prog_3_method_3_code 45 = .ok (.iastore, 1) := by decide +kernel
theorem dX1_ask_46 : decode prog_3_method_3_code 46 = .ok (.aload_n 0, 1) := by decide +kernel
theorem dX1_ask_47 : decode prog_3_method_3_code 47 = .ok (.dup, 1) := by decide +kernel
theorem dX1_ask_48 : decode prog_3_method_3_code 48 = .ok (.getfield 35, 3) := by decide +kernel
theorem dX1_ask_51 : decode prog_3_method_3_code 51 = .ok (.iconst 1, 1) := by decide +kernel
theorem dX1_ask_52 : decode prog_3_method_3_code 52 = .ok (.iadd, 1) := by decide +kernel
theorem dX1_ask_53 : decode prog_3_method_3_code 53 = .ok (.putfield 35, 3) := by decide +kernel
theorem dX1_ask_56 : decode prog_3_method_3_code 56 = .ok (.aload_n 0, 1) := by decide +kernel
theorem dX1_ask_57 : decode prog_3_method_3_code 57 = .ok (.getfield 31, 3) := by decide +kernel
theorem dX1_ask_60 : decode prog_3_method_3_code 60 = .ok (.ifCond .le 90, 3) := by decide +kernel
theorem dX1_ask_63 : decode prog_3_method_3_code 63 = .ok (.iload 4, 2) := by decide +kernel
theorem dX1_ask_65 : decode prog_3_method_3_code 65 = .ok (.iconst 1, 1) := by decide +kernel
theorem dX1_ask_66 : decode prog_3_method_3_code 66 = .ok (.if_icmp .ne 14, 3) := by decide +kernel
theorem dX1_ask_69 : decode prog_3_method_3_code 69 = .ok (.aload_n 0, 1) := by decide +kernel
theorem dX1_ask_70 : decode prog_3_method_3_code 70 = .ok (.iload_n 1, 1) := by decide +kernel
theorem dX1_ask_71 : decode prog_3_method_3_code 71 = .ok (.invokevirtual 60, 3) := by decide +kernel
theorem dX1_ask_74 : decode prog_3_method_3_code 74 = .ok (.ifCond .eq 76, 3) := by decide +kernel
theorem dX1_ask_77 : decode prog_3_method_3_code 77 = .ok (.goto 19, 3) := by decide +kernel
theorem dX1_ask_80 : decode prog_3_method_3_code 80 = .ok (.aload_n 0, 1) := by decide +kernel
theorem dX1_ask_81 : decode prog_3_method_3_code 81 = .ok (.getfield 22, 3) := by decide +kernel
theorem dX1_ask_84 : decode prog_3_method_3_code 84 = .ok (.iload_n 1, 1) := by decide +kernel
theorem dX1_ask_85 : decode prog_3_method_3_code 85 = .ok (.iload_n 2, 1) := by decide +kernel
theorem dX1_ask_86 : decode prog_3_method_3_code 86 = .ok (.aload_n 0, 1) := by decide +kernel
theorem dX1_ask_87 : decode prog_3_method_3_code 87 = .ok (.getfield 31, 3) := by decide +kernel
theorem dX1_ask_90 : decode prog_3_method_3_code 90 = .ok (.invokevirtual 63, 3) := by decide +kernel
theorem dX1_ask_93 : decode prog_3_method_3_code 93 = .ok (.ifCond .eq 57, 3) := by decide +kernel
theorem dX1_ask_96 : decode prog_3_method_3_code 96 = .ok (.aload_n 0, 1) := by decide +kernel
theorem dX1_ask_97 : decode prog_3_method_3_code 97 = .ok (.getfield 15, 3) := by decide +kernel
theorem dX1_ask_100 : decode prog_3_method_3_code 100 = .ok (.aload_n 0, 1) := by decide +kernel
theorem dX1_ask_101 : decode prog_3_method_3_code 101 = .ok (.getfield 38, 3) := by decide +kernel
theorem dX1_ask_104 : decode prog_3_method_3_code 104 = .ok (.iload 5, 2) := by decide +kernel
theorem dX1_ask_106 : decode prog_3_method_3_code 106 = .ok (.iastore, 1) := by decide +kernel
theorem dX1_ask_107 : decode prog_3_method_3_code 107 = .ok (.aload_n 0, 1) := by decide +kernel
theorem dX1_ask_108 : decode prog_3_method_3_code 108 = .ok (.dup, 1) := by decide +kernel
theorem dX1_ask_109 : decode prog_3_method_3_code 109 = .ok (.getfield 38, 3) := by decide +kernel
theorem dX1_ask_112 : decode prog_3_method_3_code 112 = .ok (.iconst 1, 1) := by decide +kernel
theorem dX1_ask_113 : decode prog_3_method_3_code 113 = .ok (.iadd, 1) := by decide +kernel
theorem dX1_ask_114 : decode prog_3_method_3_code 114 = .ok (.putfield 38, 3) := by decide +kernel
theorem dX1_ask_117 : decode prog_3_method_3_code 117 = .ok (.aload_n 0, 1) := by decide +kernel
theorem dX1_ask_118 : decode prog_3_method_3_code 118 = .ok (.dup, 1) := by decide +kernel
theorem dX1_ask_119 : decode prog_3_method_3_code 119 = .ok (.getfield 31, 3) := by decide +kernel
theorem dX1_ask_122 : decode prog_3_method_3_code 122 = .ok (.iconst 1, 1) := by decide +kernel
theorem dX1_ask_123 : decode prog_3_method_3_code 123 = .ok (.isub, 1) := by decide +kernel
theorem dX1_ask_124 : decode prog_3_method_3_code 124 = .ok (.putfield 31, 3) := by decide +kernel
theorem dX1_ask_127 : decode prog_3_method_3_code 127 = .ok (.aload_n 0, 1) := by decide +kernel
theorem dX1_ask_128 : decode prog_3_method_3_code 128 = .ok (.dup, 1) := by decide +kernel
theorem dX1_ask_129 : decode prog_3_method_3_code 129 = .ok (.getfield 41, 3) := by decide +kernel
theorem dX1_ask_132 : decode prog_3_method_3_code 132 = .ok (.iload 5, 2) := by decide +kernel
theorem dX1_ask_134 : decode prog_3_method_3_code 134 = .ok (.iadd, 1) := by decide +kernel
theorem dX1_ask_135 : decode prog_3_method_3_code 135 = .ok (.putfield 41, 3) := by decide +kernel
theorem dX1_ask_138 : decode prog_3_method_3_code 138 = .ok (.aload_n 0, 1) := by decide +kernel
theorem dX1_ask_139 : decode prog_3_method_3_code 139 = .ok (.aload_n 0, 1) := by decide +kernel
theorem dX1_ask_140 : decode prog_3_method_3_code 140 = .ok (.getfield 44, 3) := by decide +kernel
theorem dX1_ask_143 : decode prog_3_method_3_code 143 = .ok (.iconst 1, 1) := by decide +kernel
theorem dX1_ask_144 : decode prog_3_method_3_code 144 = .ok (.iload_n 3, 1) := by decide +kernel
theorem dX1_ask_145 : decode prog_3_method_3_code 145 = .ok (.ishl, 1) := by decide +kernel
theorem dX1_ask_146 : decode prog_3_method_3_code 146 = .ok (.ior, 1) := by decide +kernel
theorem dX1_ask_147 : decode prog_3_method_3_code 147 = .ok (.putfield 44, 3) := by decide +kernel
theorem dX1_ask_150 : decode prog_3_method_3_code 150 = .ok (.return_, 1) := by decide +kernel
def m_X1_ask_J96 (N : Nat)  (a0 : Nat) (i3 : Int32) (i5 : Int32) (M : mM) : Option (mM) :=
  (fR M a0 2 3).bind fun x1 =>
  (fI M a0 2 6).bind fun x3 =>
  (uI 0 .int M x1 x3 i5).bind fun M5 =>
  (fI M5 a0 2 6).bind fun x7 =>
  (sV M5 a0 2 6 (.int (x7 + 1))).bind fun M9 =>
  (fI M9 a0 2 4).bind fun x11 =>
  (sV M9 a0 2 4 (.int (x11 - 1))).bind fun M13 =>
  (fI M13 a0 2 7).bind fun x15 =>
  (sV M13 a0 2 7 (.int (x15 + i5))).bind fun M17 =>
  (fI M17 a0 2 8).bind fun x19 =>
  (sV M17 a0 2 8 (.int (x19 ||| (1 <<< (i3 &&& 31))))).bind fun M21 =>
  some M21
set_option maxHeartbeats 4000000 in
set_option maxRecDepth 100000 in
theorem t_X1_ask_J96 {X : mX} {L0 : Launch} {res : mM} {N : Nat} (C : CX X RX1 "ask" prog_3_method_3_code 6 none) (E : EX X L0 4 102 0 0 none res)   (a0 : Nat) (i3 : Int32) (i5 : Int32) (M : mM) (hf : m_X1_ask_J96 N  a0 i3 i5 M = some res) : EV X 6 96 [(0, .ref a0), (3, .int i3), (5, .int i5)] [] 0 0 M := by
  unfold m_X1_ask_J96 at hf
  refine ev_aload_n C dX1_ask_96 rfl (q := 0) rfl ?_
  obtain ⟨x1, e2, hf⟩ := obnd hf
  refine ev_get (k := 3) C ok_2 dX1_ask_97 (by decide) kw_304 (fR_V e2) ?_
  refine ev_aload_n C dX1_ask_100 rfl (q := 0) rfl ?_
  obtain ⟨x3, e4, hf⟩ := obnd hf
  refine ev_get (k := 6) C ok_2 dX1_ask_101 (by decide) kw_309 (fI_V e4) ?_
  refine ev_iload C dX1_ask_104 (q := 2) rfl ?_
  obtain ⟨M5, e6, hf⟩ := obnd hf
  refine ev_iast C dX1_ask_106 e6 ?_
  refine ev_aload_n C dX1_ask_107 rfl (q := 0) rfl ?_
  refine ev_dup C dX1_ask_108 rfl ?_
  obtain ⟨x7, e8, hf⟩ := obnd hf
  refine ev_get (k := 6) C ok_2 dX1_ask_109 (by decide) kw_309 (fI_V e8) ?_
  refine ev_iconst (v := 1) C dX1_ask_112 (by decide) ?_
  refine ev_iadd C dX1_ask_113 ?_
  obtain ⟨M9, e10, hf⟩ := obnd hf
  refine ev_put (k := 6) C ok_2 dX1_ask_114 (by decide) kw_309 rfl ⟨rfl, rfl⟩ e10 ?_
  refine ev_aload_n C dX1_ask_117 rfl (q := 0) rfl ?_
  refine ev_dup C dX1_ask_118 rfl ?_
  obtain ⟨x11, e12, hf⟩ := obnd hf
  refine ev_get (k := 4) C ok_2 dX1_ask_119 (by decide) kw_305 (fI_V e12) ?_
  refine ev_iconst (v := 1) C dX1_ask_122 (by decide) ?_
  refine ev_isub C dX1_ask_123 ?_
  obtain ⟨M13, e14, hf⟩ := obnd hf
  refine ev_put (k := 4) C ok_2 dX1_ask_124 (by decide) kw_305 rfl ⟨rfl, rfl⟩ e14 ?_
  refine ev_aload_n C dX1_ask_127 rfl (q := 0) rfl ?_
  refine ev_dup C dX1_ask_128 rfl ?_
  obtain ⟨x15, e16, hf⟩ := obnd hf
  refine ev_get (k := 7) C ok_2 dX1_ask_129 (by decide) kw_311 (fI_V e16) ?_
  refine ev_iload C dX1_ask_132 (q := 2) rfl ?_
  refine ev_iadd C dX1_ask_134 ?_
  obtain ⟨M17, e18, hf⟩ := obnd hf
  refine ev_put (k := 7) C ok_2 dX1_ask_135 (by decide) kw_311 rfl ⟨rfl, rfl⟩ e18 ?_
  refine ev_aload_n C dX1_ask_138 rfl (q := 0) rfl ?_
  refine ev_aload_n C dX1_ask_139 rfl (q := 0) rfl ?_
  obtain ⟨x19, e20, hf⟩ := obnd hf
  refine ev_get (k := 8) C ok_2 dX1_ask_140 (by decide) kw_313 (fI_V e20) ?_
  refine ev_iconst (v := 1) C dX1_ask_143 (by decide) ?_
  refine ev_iload_n C dX1_ask_144 rfl (q := 1) rfl ?_
  refine ev_ishl C dX1_ask_145 ?_
  refine ev_ior C dX1_ask_146 ?_
  obtain ⟨M21, e22, hf⟩ := obnd hf
  refine ev_put (k := 8) C ok_2 dX1_ask_147 (by decide) kw_313 rfl ⟨rfl, rfl⟩ e22 ?_
  obtain rfl := Option.some.inj hf
  exact ev_vret C E (Nat.le_refl 0) (Nat.le_refl 0) dX1_ask_150
def m_X1_ask (N : Nat) (a0 : Nat) (i1 : Int32) (i2 : Int32) (i3 : Int32) (i4 : Int32) (M : mM) : Option (mM) :=
  (fR M a0 2 0).bind fun x1 =>
  (oO M x1 5).bind fun _ =>
  (m_X5_hasFare x1 i1 M).bind fun x5 =>
  if x5 = 0 then (
    some M) else (
    (fI M a0 2 5).bind fun x7 =>
    if x7 < 20 then (
      (fR M a0 2 0).bind fun x9 =>
      (fR M x9 5 0).bind fun x11 =>
      (aR 5 M x11 i1).bind fun x13 =>
      (fI M x13 3 1).bind fun x15 =>
      (fR M a0 2 2).bind fun x17 =>
      (fI M a0 2 5).bind fun x19 =>
      (uI 0 .int M x17 x19 x15).bind fun M21 =>
      (fI M21 a0 2 5).bind fun x23 =>
      (sV M21 a0 2 5 (.int (x23 + 1))).bind fun M25 =>
      (fI M25 a0 2 4).bind fun x27 =>
      if x27 ≤ 0 then (
        some M25) else (
        if i4 = 1 then (
          (oO M25 a0 2).bind fun _ =>
          (m_X1_handGives N a0 i1 M25).bind fun x39 =>
          if x39 = 0 then (
            some M25) else (
            m_X1_ask_J96 N  a0 i3 x15 M25)) else (
          (fR M25 a0 2 1).bind fun x29 =>
          (fI M25 a0 2 4).bind fun x31 =>
          (oO M25 x29 10).bind fun _ =>
          (m_X10_takes N x29 i1 i2 x31 M25).bind fun x35 =>
          if x35.1 = 0 then (
            some x35.2) else (
            m_X1_ask_J96 N  a0 i3 x15 x35.2)))) else (
      some M))
set_option maxHeartbeats 4000000 in
set_option maxRecDepth 100000 in
theorem t_X1_ask {L0 : Launch} {M : mM} {N : Nat} {a0 : Nat} {i1 : Int32} {i2 : Int32} {i3 : Int32} {i4 : Int32} {res : mM} (hf : m_X1_ask N a0 i1 i2 i3 i4 M = some res) : CT L0 yX1_ask prog_3_method_3_code 6 none 4 102 0 0 [.ref a0, .int i1, .int i2, .int i3, .int i4] M none res := by
  refine CT.of (by decide +kernel) (Nat.le_of_ble_eq_true rfl) fun X C E => ?_
  have C : CX X RX1 "ask" prog_3_method_3_code 6 none := C
  show EV X 6 0 [(0, .ref a0), (1, .int i1), (2, .int i2), (3, .int i3), (4, .int i4)] [] 0 0 M
  unfold m_X1_ask at hf
  refine ev_aload_n C dX1_ask_0 rfl (q := 0) rfl ?_
  obtain ⟨x1, e2, hf⟩ := obnd hf
  refine ev_get (k := 0) C ok_2 dX1_ask_1 (by decide) kw_301 (fR_V e2) ?_
  refine ev_iload_n C dX1_ask_4 rfl (q := 1) rfl ?_
  obtain ⟨_, e3, hf⟩ := obnd hf
  obtain ⟨fs4, e3⟩ := oO_eq e3
  obtain ⟨x5, e6, hf⟩ := obnd hf
  refine ev_callV0 (As := [.int i1]) (st := []) C rfl e3 (t_X5_hasFare e6) rfl hd_X5_hasFare rfl kw_1035 kw_452 kw_71 kw_453 kw_454 (mRoom.of E (Nat.le_of_ble_eq_true rfl) (Nat.le_of_ble_eq_true rfl) (Nat.le_refl 0) (Nat.le_refl 0)) (Nat.le_of_ble_eq_true rfl) dX1_ask_5 ?_
  refine ev_if_eq (tgt := 20) C dX1_ask_8 (by decide) (fun hc => ?_) (fun hc => ?_)
  · have hf := oit hf hc
    obtain rfl := Option.some.inj hf
    exact ev_vret C E (Nat.le_refl 0) (Nat.le_refl 0) dX1_ask_20
  · have hf := oie hf hc
    refine ev_aload_n C dX1_ask_11 rfl (q := 0) rfl ?_
    obtain ⟨x7, e8, hf⟩ := obnd hf
    refine ev_get (k := 5) C ok_2 dX1_ask_12 (by decide) kw_307 (fI_V e8) ?_
    refine ev_bipush (v := 20) C dX1_ask_15 (by decide) ?_
    refine ev_icmp_lt (tgt := 21) C dX1_ask_17 (by decide) (fun hc => ?_) (fun hc => ?_)
    · have hf := oit hf hc
      refine ev_aload_n C dX1_ask_21 rfl (q := 0) rfl ?_
      obtain ⟨x9, e10, hf⟩ := obnd hf
      refine ev_get (k := 0) C ok_2 dX1_ask_22 (by decide) kw_301 (fR_V e10) ?_
      obtain ⟨x11, e12, hf⟩ := obnd hf
      refine ev_get (k := 0) C ok_5 dX1_ask_25 (by decide) kw_179 (fR_V e12) ?_
      refine ev_iload_n C dX1_ask_28 rfl (q := 1) rfl ?_
      obtain ⟨x13, e14, hf⟩ := obnd hf
      refine ev_aldr C (t := 5) rfl rfl dX1_ask_29 e14 ?_
      obtain ⟨x15, e16, hf⟩ := obnd hf
      refine ev_get (k := 1) C ok_3 dX1_ask_30 (by decide) kw_152 (fI_V e16) ?_
      refine ev_istore (l' := [(5, .int x15), (0, .ref a0), (1, .int i1), (2, .int i2), (3, .int i3), (4, .int i4)]) C dX1_ask_33 (by decide) rfl ?_
      refine ev_aload_n C dX1_ask_35 rfl (q := 1) rfl ?_
      obtain ⟨x17, e18, hf⟩ := obnd hf
      refine ev_get (k := 2) C ok_2 dX1_ask_36 (by decide) kw_303 (fR_V e18) ?_
      refine ev_aload_n C dX1_ask_39 rfl (q := 1) rfl ?_
      obtain ⟨x19, e20, hf⟩ := obnd hf
      refine ev_get (k := 5) C ok_2 dX1_ask_40 (by decide) kw_307 (fI_V e20) ?_
      refine ev_iload C dX1_ask_43 (q := 0) rfl ?_
      obtain ⟨M21, e22, hf⟩ := obnd hf
      refine ev_iast C dX1_ask_45 e22 ?_
      refine ev_aload_n C dX1_ask_46 rfl (q := 1) rfl ?_
      refine ev_dup C dX1_ask_47 rfl ?_
      obtain ⟨x23, e24, hf⟩ := obnd hf
      refine ev_get (k := 5) C ok_2 dX1_ask_48 (by decide) kw_307 (fI_V e24) ?_
      refine ev_iconst (v := 1) C dX1_ask_51 (by decide) ?_
      refine ev_iadd C dX1_ask_52 ?_
      obtain ⟨M25, e26, hf⟩ := obnd hf
      refine ev_put (k := 5) C ok_2 dX1_ask_53 (by decide) kw_307 rfl ⟨rfl, rfl⟩ e26 ?_
      refine ev_aload_n C dX1_ask_56 rfl (q := 1) rfl ?_
      obtain ⟨x27, e28, hf⟩ := obnd hf
      refine ev_get (k := 4) C ok_2 dX1_ask_57 (by decide) kw_305 (fI_V e28) ?_
      refine ev_if_le (tgt := 150) C dX1_ask_60 (by decide) (fun hc => ?_) (fun hc => ?_)
      · have hf := oit hf hc
        obtain rfl := Option.some.inj hf
        exact ev_vret C E (Nat.le_refl 0) (Nat.le_refl 0) dX1_ask_150
      · have hf := oie hf hc
        refine ev_iload C dX1_ask_63 (q := 5) rfl ?_
        refine ev_iconst (v := 1) C dX1_ask_65 (by decide) ?_
        refine ev_icmp_ne (tgt := 80) C dX1_ask_66 (by decide) (fun hc => ?_) (fun hc => ?_)
        · have hf := oie hf hc
          refine ev_aload_n C dX1_ask_80 rfl (q := 1) rfl ?_
          obtain ⟨x29, e30, hf⟩ := obnd hf
          refine ev_get (k := 1) C ok_2 dX1_ask_81 (by decide) kw_302 (fR_V e30) ?_
          refine ev_iload_n C dX1_ask_84 rfl (q := 2) rfl ?_
          refine ev_iload_n C dX1_ask_85 rfl (q := 3) rfl ?_
          refine ev_aload_n C dX1_ask_86 rfl (q := 1) rfl ?_
          obtain ⟨x31, e32, hf⟩ := obnd hf
          refine ev_get (k := 4) C ok_2 dX1_ask_87 (by decide) kw_305 (fI_V e32) ?_
          obtain ⟨_, e33, hf⟩ := obnd hf
          obtain ⟨fs34, e33⟩ := oO_eq e33
          obtain ⟨x35, e36, hf⟩ := obnd hf
          refine ev_callV0 (As := [.int i1, .int i2, .int x31]) (st := []) C rfl e33 (t_X10_takes e36) rfl hd_X10_takes rfl kw_1040 kw_576 kw_76 kw_577 kw_578 (mRoom.of E (Nat.le_of_ble_eq_true rfl) (Nat.le_of_ble_eq_true rfl) (Nat.le_refl 0) (Nat.le_refl 0)) (Nat.le_of_ble_eq_true rfl) dX1_ask_90 ?_
          refine ev_if_eq (tgt := 150) C dX1_ask_93 (by decide) (fun hc => ?_) (fun hc => ?_)
          · have hf := oit hf hc
            obtain rfl := Option.some.inj hf
            exact ev_vret C E (Nat.le_refl 0) (Nat.le_refl 0) dX1_ask_150
          · have hf := oie hf hc
            refine ev_sub [1, 4, 0] rfl ?_
            exact t_X1_ask_J96 C E   a0 i3 x15 x35.2 hf
        · have hf := oit hf hc
          refine ev_aload_n C dX1_ask_69 rfl (q := 1) rfl ?_
          refine ev_iload_n C dX1_ask_70 rfl (q := 2) rfl ?_
          obtain ⟨_, e37, hf⟩ := obnd hf
          obtain ⟨fs38, e37⟩ := oO_eq e37
          obtain ⟨x39, e40, hf⟩ := obnd hf
          refine ev_callV0 (As := [.int i1]) (st := []) C rfl e37 (t_X1_handGives e40) rfl hd_X1_handGives rfl kw_1036 kw_1038 kw_80 kw_18 kw_1039 (mRoom.of E (Nat.le_of_ble_eq_true rfl) (Nat.le_of_ble_eq_true rfl) (Nat.le_refl 0) (Nat.le_refl 0)) (Nat.le_of_ble_eq_true rfl) dX1_ask_71 ?_
          refine ev_if_eq (tgt := 150) C dX1_ask_74 (by decide) (fun hc => ?_) (fun hc => ?_)
          · have hf := oit hf hc
            obtain rfl := Option.some.inj hf
            exact ev_vret C E (Nat.le_refl 0) (Nat.le_refl 0) dX1_ask_150
          · have hf := oie hf hc
            refine ev_goto (tgt := 96) C dX1_ask_77 (by decide) ?_
            refine ev_sub [1, 4, 0] rfl ?_
            exact t_X1_ask_J96 C E   a0 i3 x15 M25 hf
    · have hf := oie hf hc
      obtain rfl := Option.some.inj hf
      exact ev_vret C E (Nat.le_refl 0) (Nat.le_refl 0) dX1_ask_20
/-! FareLimits$Day pricesBehind()I -/
theorem dX1_pricesBehind_0 : decode prog_3_method_7_code 0 = .ok (.iconst 0, 1) := by decide +kernel
theorem dX1_pricesBehind_1 : decode prog_3_method_7_code 1 = .ok (.istore_n 1, 1) := by decide +kernel
theorem dX1_pricesBehind_2 : decode prog_3_method_7_code 2 = .ok (.iconst 0, 1) := by decide +kernel
theorem dX1_pricesBehind_3 : decode prog_3_method_7_code 3 = .ok (.istore_n 2, 1) := by decide +kernel
theorem dX1_pricesBehind_4 : decode prog_3_method_7_code 4 = .ok (.iconst 0, 1) := by decide +kernel
theorem dX1_pricesBehind_5 : decode prog_3_method_7_code 5 = .ok (.istore_n 3, 1) := by decide +kernel
theorem dX1_pricesBehind_6 : decode prog_3_method_7_code 6 = .ok (.iload_n 3, 1) := by decide +kernel
theorem dX1_pricesBehind_7 : decode prog_3_method_7_code 7 = .ok (.aload_n 0, 1) := by decide +kernel
theorem dX1_pricesBehind_8 : decode prog_3_method_7_code 8 = .ok (.getfield 18, 3) := by decide +kernel
theorem dX1_pricesBehind_11 : decode prog_3_method_7_code 11 = .ok (.getfield 26, 3) := by decide +kernel
theorem dX1_pricesBehind_14 : decode prog_3_method_7_code 14 = .ok (.iconst 0, 1) := by decide +kernel
theorem dX1_pricesBehind_15 : decode prog_3_method_7_code 15 = .ok (.iaload, 1) := by decide +kernel
theorem dX1_pricesBehind_16 : decode prog_3_method_7_code 16 = .ok (.if_icmp .ge 97, 3) := by decide +kernel
theorem dX1_pricesBehind_19 : decode prog_3_method_7_code 19 = .ok (.iload_n 3, 1) := by decide +kernel
theorem dX1_pricesBehind_20 : decode prog_3_method_7_code 20 = .ok (.aload_n 0, 1) := by decide +kernel
theorem dX1_pricesBehind_21 : decode prog_3_method_7_code 21 = .ok (.getfield 35, 3) := by decide +kernel
theorem dX1_pricesBehind_24 : decode prog_3_method_7_code 24 = .ok (.if_icmp .ge 89, 3) := by decide +kernel
theorem dX1_pricesBehind_27 : decode prog_3_method_7_code 27 = .ok (.iconst (-1), 1) := by decide +kernel
theorem dX1_pricesBehind_28 : decode prog_3_method_7_code 28 = .ok (.istore 4, 2) := by decide +kernel
theorem dX1_pricesBehind_30 : decode prog_3_method_7_code 30 = .ok (.iconst 0, 1) := by decide +kernel
theorem dX1_pricesBehind_31 : decode prog_3_method_7_code 31 = .ok (.istore 5, 2) := by decide +kernel
theorem dX1_pricesBehind_33 : decode prog_3_method_7_code 33 = .ok (.iload 5, 2) := by decide +kernel
theorem dX1_pricesBehind_35 : decode prog_3_method_7_code 35 = .ok (.aload_n 0, 1) := by decide +kernel
theorem dX1_pricesBehind_36 : decode prog_3_method_7_code 36 = .ok (.getfield 35, 3) := by decide +kernel
theorem dX1_pricesBehind_39 : decode prog_3_method_7_code 39 = .ok (.if_icmp .ge 45, 3) := by decide +kernel
theorem dX1_pricesBehind_42 : decode prog_3_method_7_code 42 = .ok (.iload_n 2, 1) := by decide +kernel
theorem dX1_pricesBehind_43 : decode prog_3_method_7_code 43 = .ok (.iload 5, 2) := by decide +kernel
theorem dX1_pricesBehind_45 : decode prog_3_method_7_code 45 = .ok (.ishr, 1) := by decide +kernel
theorem dX1_pricesBehind_46 : decode prog_3_method_7_code 46 = .ok (.iconst 1, 1) := by decide +kernel
theorem dX1_pricesBehind_47 : decode prog_3_method_7_code 47 = .ok (.iand, 1) := by decide +kernel
theorem dX1_pricesBehind_48 : decode prog_3_method_7_code 48 = .ok (.ifCond .ne 30, 3) := by decide +kernel
theorem dX1_pricesBehind_51 : decode prog_3_method_7_code 51 = .ok (.iload 4, 2) := by decide +kernel
theorem dX1_pricesBehind_53 : decode prog_3_method_7_code 53 = .ok (.iconst (-1), 1) := by decide +kernel
theorem dX1_pricesBehind_54 : decode prog_3_method_7_code 54 = .ok (.if_icmp .eq 20, 3) := by decide +kernel
theorem dX1_pricesBehind_57 : decode prog_3_method_7_code 57 = .ok (.aload_n 0, 1) := by decide +kernel
theorem dX1_pricesBehind_58 : decode prog_3_method_7_code 58 = .ok (.getfield 9, 3) := by decide +kernel
theorem dX1_pricesBehind_61 : decode prog_3_method_7_code 61 = .ok (.iload 5, 2) := by decide +kernel
theorem dX1_pricesBehind_63 : decode prog_3_method_7_code 63 = .ok (.iaload, 1) := by decide +kernel
theorem dX1_pricesBehind_64 : decode prog_3_method_7_code 64 = .ok (.aload_n 0, 1) := by decide +kernel
theorem dX1_pricesBehind_65 : decode prog_3_method_7_code 65 = .ok (.getfield 9, 3) := by decide +kernel
theorem dX1_pricesBehind_68 : decode prog_3_method_7_code 68 = .ok (.iload 4, 2) := by decide +kernel
theorem dX1_pricesBehind_70 : decode prog_3_method_7_code 70 = .ok (.iaload, 1) := by decide +kernel
theorem dX1_pricesBehind_71 : decode prog_3_method_7_code 71 = .ok (.if_icmp .le 7, 3) := by decide +kernel
theorem dX1_pricesBehind_74 : decode prog_3_method_7_code 74 = .ok (.iload 5, 2) := by decide +kernel
theorem dX1_pricesBehind_76 : decode prog_3_method_7_code 76 = .ok (.istore 4, 2) := by decide +kernel
theorem dX1_pricesBehind_78 : decode prog_3_method_7_code 78 = .ok (.iinc 5 1, 3) := by decide +kernel
theorem dX1_pricesBehind_81 : decode prog_3_method_7_code 81 = .ok (.goto (-48), 3) := by decide +kernel
theorem dX1_pricesBehind_84 : decode prog_3_method_7_code 84 = .ok (.iload 4, 2) := by decide +kernel
theorem dX1_pricesBehind_86 : decode prog_3_method_7_code 86 = .ok (.iconst (-1), 1) := by decide +kernel
theorem dX1_pricesBehind_87 : decode prog_3_method_7_code 87 = .ok (.if_icmp .eq 20, 3) := by decide +kernel
theorem dX1_pricesBehind_90 : decode prog_3_method_7_code 90 = .ok (.iload_n 1, 1) := by decide +kernel
theorem dX1_pricesBehind_91 : decode prog_3_method_7_code 91 = .ok (.aload_n 0, 1) := by decide +kernel
theorem dX1_pricesBehind_92 : decode prog_3_method_7_code 92 = .ok (.getfield 9, 3) := by decide +kernel
theorem dX1_pricesBehind_95 : decode prog_3_method_7_code 95 = .ok (.iload 4, 2) := by decide +kernel
theorem dX1_pricesBehind_97 : decode prog_3_method_7_code 97 = .ok (.iaload, 1) := by decide +kernel
theorem dX1_pricesBehind_98 : decode prog_3_method_7_code 98 = .ok (.iadd, 1) := by decide +kernel
theorem dX1_pricesBehind_99 : decode prog_3_method_7_code 99 = .ok (.istore_n 1, 1) := by decide +kernel
theorem dX1_pricesBehind_100 : decode prog_3_method_7_code 100 = .ok (.iload_n 2, 1) := by decide +kernel
theorem dX1_pricesBehind_101 : decode prog_3_method_7_code 101 = .ok (.iconst 1, 1) := by decide +kernel
theorem dX1_pricesBehind_102 : decode prog_3_method_7_code 102 = .ok (.iload 4, 2) := by decide +kernel
theorem dX1_pricesBehind_104 : decode prog_3_method_7_code 104 = .ok (.ishl, 1) := by decide +kernel
theorem dX1_pricesBehind_105 : decode prog_3_method_7_code 105 = .ok (.ior, 1) := by decide +kernel
theorem dX1_pricesBehind_106 : decode prog_3_method_7_code 106 = .ok (.istore_n 2, 1) := by decide +kernel
theorem dX1_pricesBehind_107 : decode prog_3_method_7_code 107 = .ok (.iinc 3 1, 3) := by decide +kernel
theorem dX1_pricesBehind_110 : decode prog_3_method_7_code 110 = .ok (.goto (-104), 3) := by decide +kernel
theorem dX1_pricesBehind_113 : decode prog_3_method_7_code 113 = .ok (.iload_n 1, 1) := by decide +kernel
theorem dX1_pricesBehind_114 : decode prog_3_method_7_code 114 = .ok (.ireturn, 1) := by decide +kernel
def m_X1_pricesBehind_J107 (N : Nat) (M : mM) (k6 : Nat → Int32 → Int32 → Int32 → Option (Int32)) (a0 : Nat) (i1 : Int32) (i2 : Int32) (i3 : Int32) : Option (Int32) :=
  k6 a0 i1 i2 (i3 + 1)
set_option maxHeartbeats 4000000 in
set_option maxRecDepth 100000 in
theorem t_X1_pricesBehind_J107 {X : mX} {M : mM} {L0 : Launch} {res : Int32} {N : Nat} (C : CX X RX1 "pricesBehind" prog_3_method_7_code 6 (some .int)) (E : EX X L0 0 0 0 0 (some (.int res)) M) (k6 : Nat → Int32 → Int32 → Int32 → Option (Int32)) (Hk6 : ∀ (a0 : Nat) (i1 : Int32) (i2 : Int32) (i3 : Int32), k6 a0 i1 i2 i3 = some res → EV X 6 6 [(0, .ref a0), (1, .int i1), (2, .int i2), (3, .int i3)] [] 0 0 M) (a0 : Nat) (i1 : Int32) (i2 : Int32) (i3 : Int32) (hf : m_X1_pricesBehind_J107 N M k6 a0 i1 i2 i3 = some res) : EV X 6 107 [(0, .ref a0), (1, .int i1), (2, .int i2), (3, .int i3)] [] 0 0 M := by
  unfold m_X1_pricesBehind_J107 at hf
  refine ev_iinc (v := i3 + 1) (l' := [(3, .int (i3 + 1)), (0, .ref a0), (1, .int i1), (2, .int i2)]) C dX1_pricesBehind_107 (q := 3) rfl rfl (by decide) rfl ?_
  refine ev_goto (tgt := 6) C dX1_pricesBehind_110 (by decide) ?_
  refine ev_sub [1, 2, 3, 0] rfl ?_
  exact Hk6 a0 i1 i2 (i3 + 1) hf
def m_X1_pricesBehind_J78 (N : Nat) (M : mM) (k33 : Nat → Int32 → Int32 → Int32 → Int32 → Int32 → Option (Int32)) (a0 : Nat) (i1 : Int32) (i2 : Int32) (i3 : Int32) (i4 : Int32) (i5 : Int32) : Option (Int32) :=
  k33 a0 i1 i2 i3 i4 (i5 + 1)
set_option maxHeartbeats 4000000 in
set_option maxRecDepth 100000 in
theorem t_X1_pricesBehind_J78 {X : mX} {M : mM} {L0 : Launch} {res : Int32} {N : Nat} (C : CX X RX1 "pricesBehind" prog_3_method_7_code 6 (some .int)) (E : EX X L0 0 0 0 0 (some (.int res)) M) (k33 : Nat → Int32 → Int32 → Int32 → Int32 → Int32 → Option (Int32)) (Hk33 : ∀ (a0 : Nat) (i1 : Int32) (i2 : Int32) (i3 : Int32) (i4 : Int32) (i5 : Int32), k33 a0 i1 i2 i3 i4 i5 = some res → EV X 6 33 [(0, .ref a0), (1, .int i1), (2, .int i2), (3, .int i3), (4, .int i4), (5, .int i5)] [] 0 0 M) (a0 : Nat) (i1 : Int32) (i2 : Int32) (i3 : Int32) (i4 : Int32) (i5 : Int32) (hf : m_X1_pricesBehind_J78 N M k33 a0 i1 i2 i3 i4 i5 = some res) : EV X 6 78 [(0, .ref a0), (1, .int i1), (2, .int i2), (3, .int i3), (4, .int i4), (5, .int i5)] [] 0 0 M := by
  unfold m_X1_pricesBehind_J78 at hf
  refine ev_iinc (v := i5 + 1) (l' := [(5, .int (i5 + 1)), (0, .ref a0), (1, .int i1), (2, .int i2), (3, .int i3), (4, .int i4)]) C dX1_pricesBehind_78 (q := 5) rfl rfl (by decide) rfl ?_
  refine ev_goto (tgt := 33) C dX1_pricesBehind_81 (by decide) ?_
  refine ev_sub [1, 2, 3, 4, 5, 0] rfl ?_
  exact Hk33 a0 i1 i2 i3 i4 (i5 + 1) hf
def m_X1_pricesBehind_J74 (N : Nat) (M : mM) (k33 : Nat → Int32 → Int32 → Int32 → Int32 → Int32 → Option (Int32)) (a0 : Nat) (i1 : Int32) (i2 : Int32) (i3 : Int32) (i5 : Int32) : Option (Int32) :=
  m_X1_pricesBehind_J78 N M k33 a0 i1 i2 i3 i5 i5
set_option maxHeartbeats 4000000 in
set_option maxRecDepth 100000 in
theorem t_X1_pricesBehind_J74 {X : mX} {M : mM} {L0 : Launch} {res : Int32} {N : Nat} (C : CX X RX1 "pricesBehind" prog_3_method_7_code 6 (some .int)) (E : EX X L0 0 0 0 0 (some (.int res)) M) (k33 : Nat → Int32 → Int32 → Int32 → Int32 → Int32 → Option (Int32)) (Hk33 : ∀ (a0 : Nat) (i1 : Int32) (i2 : Int32) (i3 : Int32) (i4 : Int32) (i5 : Int32), k33 a0 i1 i2 i3 i4 i5 = some res → EV X 6 33 [(0, .ref a0), (1, .int i1), (2, .int i2), (3, .int i3), (4, .int i4), (5, .int i5)] [] 0 0 M) (a0 : Nat) (i1 : Int32) (i2 : Int32) (i3 : Int32) (i5 : Int32) (hf : m_X1_pricesBehind_J74 N M k33 a0 i1 i2 i3 i5 = some res) : EV X 6 74 [(0, .ref a0), (1, .int i1), (2, .int i2), (3, .int i3), (5, .int i5)] [] 0 0 M := by
  unfold m_X1_pricesBehind_J74 at hf
  refine ev_iload C dX1_pricesBehind_74 (q := 4) rfl ?_
  refine ev_istore (l' := [(4, .int i5), (0, .ref a0), (1, .int i1), (2, .int i2), (3, .int i3), (5, .int i5)]) C dX1_pricesBehind_76 (by decide) rfl ?_
  refine ev_sub [1, 2, 3, 4, 0, 5] rfl ?_
  exact t_X1_pricesBehind_J78 C E k33 Hk33 a0 i1 i2 i3 i5 i5 hf
def m_X1_pricesBehind_L33 (N : Nat) (M : mM) (k6 : Nat → Int32 → Int32 → Int32 → Option (Int32)) : Nat → Nat → Int32 → Int32 → Int32 → Int32 → Int32 → Option (Int32)
  | 0, _, _, _, _, _, _ => none
  | n + 1, a0, i1, i2, i3, i4, i5 =>
    (fI M a0 2 5).bind fun x1 =>
    if x1 ≤ i5 then (
      if i4 = (-1) then (
        m_X1_pricesBehind_J107 N M k6 a0 i1 i2 i3) else (
        (fR M a0 2 2).bind fun x3 =>
        (aI 0 M x3 i4).bind fun x5 =>
        m_X1_pricesBehind_J107 N M k6 a0 (i1 + x5) (i2 ||| (1 <<< (i4 &&& 31))) i3)) else (
      if ((i2 >>> (i5 &&& 31)) &&& 1) = 0 then (
        if i4 = (-1) then (
          m_X1_pricesBehind_J74 N M (m_X1_pricesBehind_L33 N M k6  n) a0 i1 i2 i3 i5) else (
          (fR M a0 2 2).bind fun x7 =>
          (aI 0 M x7 i5).bind fun x9 =>
          (fR M a0 2 2).bind fun x11 =>
          (aI 0 M x11 i4).bind fun x13 =>
          if x9 ≤ x13 then (
            m_X1_pricesBehind_J78 N M (m_X1_pricesBehind_L33 N M k6  n) a0 i1 i2 i3 i4 i5) else (
            m_X1_pricesBehind_J74 N M (m_X1_pricesBehind_L33 N M k6  n) a0 i1 i2 i3 i5))) else (
        m_X1_pricesBehind_J78 N M (m_X1_pricesBehind_L33 N M k6  n) a0 i1 i2 i3 i4 i5))
set_option maxHeartbeats 4000000 in
set_option maxRecDepth 100000 in
theorem t_X1_pricesBehind_L33 {X : mX} {M : mM} {L0 : Launch} {res : Int32} {N : Nat} (C : CX X RX1 "pricesBehind" prog_3_method_7_code 6 (some .int)) (E : EX X L0 0 0 0 0 (some (.int res)) M) (k6 : Nat → Int32 → Int32 → Int32 → Option (Int32)) (Hk6 : ∀ (a0 : Nat) (i1 : Int32) (i2 : Int32) (i3 : Int32), k6 a0 i1 i2 i3 = some res → EV X 6 6 [(0, .ref a0), (1, .int i1), (2, .int i2), (3, .int i3)] [] 0 0 M) : ∀ (n : Nat) (a0 : Nat) (i1 : Int32) (i2 : Int32) (i3 : Int32) (i4 : Int32) (i5 : Int32), m_X1_pricesBehind_L33 N M k6 n a0 i1 i2 i3 i4 i5 = some res → EV X 6 33 [(0, .ref a0), (1, .int i1), (2, .int i2), (3, .int i3), (4, .int i4), (5, .int i5)] [] 0 0 M := by
  intro n
  induction n with
  | zero => intro a0 i1 i2 i3 i4 i5 hf; cases (show (none : Option (Int32)) = some res from hf)
  | succ n ih =>
    intro a0 i1 i2 i3 i4 i5 hf
    rw [m_X1_pricesBehind_L33] at hf
    refine ev_iload C dX1_pricesBehind_33 (q := 5) rfl ?_
    refine ev_aload_n C dX1_pricesBehind_35 rfl (q := 0) rfl ?_
    obtain ⟨x1, e2, hf⟩ := obnd hf
    refine ev_get (k := 5) C ok_2 dX1_pricesBehind_36 (by decide) kw_307 (fI_V e2) ?_
    refine ev_icmp_ge (tgt := 84) C dX1_pricesBehind_39 (by decide) (fun hc => ?_) (fun hc => ?_)
    · have hf := oit hf hc
      refine ev_iload C dX1_pricesBehind_84 (q := 4) rfl ?_
      refine ev_iconst (v := (-1)) C dX1_pricesBehind_86 (by decide) ?_
      refine ev_icmp_eq (tgt := 107) C dX1_pricesBehind_87 (by decide) (fun hc => ?_) (fun hc => ?_)
      · have hf := oit hf hc
        refine ev_sub [0, 1, 2, 3] rfl ?_
        exact t_X1_pricesBehind_J107 C E k6 Hk6 a0 i1 i2 i3 hf
      · have hf := oie hf hc
        refine ev_iload_n C dX1_pricesBehind_90 rfl (q := 1) rfl ?_
        refine ev_aload_n C dX1_pricesBehind_91 rfl (q := 0) rfl ?_
        obtain ⟨x3, e4, hf⟩ := obnd hf
        refine ev_get (k := 2) C ok_2 dX1_pricesBehind_92 (by decide) kw_303 (fR_V e4) ?_
        refine ev_iload C dX1_pricesBehind_95 (q := 4) rfl ?_
        obtain ⟨x5, e6, hf⟩ := obnd hf
        refine ev_iald C dX1_pricesBehind_97 e6 ?_
        refine ev_iadd C dX1_pricesBehind_98 ?_
        refine ev_istore_n (l' := [(1, .int (i1 + x5)), (0, .ref a0), (2, .int i2), (3, .int i3), (4, .int i4), (5, .int i5)]) C dX1_pricesBehind_99 rfl (by decide) rfl ?_
        refine ev_iload_n C dX1_pricesBehind_100 rfl (q := 2) rfl ?_
        refine ev_iconst (v := 1) C dX1_pricesBehind_101 (by decide) ?_
        refine ev_iload C dX1_pricesBehind_102 (q := 4) rfl ?_
        refine ev_ishl C dX1_pricesBehind_104 ?_
        refine ev_ior C dX1_pricesBehind_105 ?_
        refine ev_istore_n (l' := [(2, .int (i2 ||| (1 <<< (i4 &&& 31)))), (1, .int (i1 + x5)), (0, .ref a0), (3, .int i3), (4, .int i4), (5, .int i5)]) C dX1_pricesBehind_106 rfl (by decide) rfl ?_
        refine ev_sub [2, 1, 0, 3] rfl ?_
        exact t_X1_pricesBehind_J107 C E k6 Hk6 a0 (i1 + x5) (i2 ||| (1 <<< (i4 &&& 31))) i3 hf
    · have hf := oie hf hc
      refine ev_iload_n C dX1_pricesBehind_42 rfl (q := 2) rfl ?_
      refine ev_iload C dX1_pricesBehind_43 (q := 5) rfl ?_
      refine ev_ishr C dX1_pricesBehind_45 ?_
      refine ev_iconst (v := 1) C dX1_pricesBehind_46 (by decide) ?_
      refine ev_iand C dX1_pricesBehind_47 ?_
      refine ev_if_ne (tgt := 78) C dX1_pricesBehind_48 (by decide) (fun hc => ?_) (fun hc => ?_)
      · have hf := oie hf hc
        exact t_X1_pricesBehind_J78 C E (m_X1_pricesBehind_L33 N M k6  n) ih a0 i1 i2 i3 i4 i5 hf
      · have hf := oit hf hc
        refine ev_iload C dX1_pricesBehind_51 (q := 4) rfl ?_
        refine ev_iconst (v := (-1)) C dX1_pricesBehind_53 (by decide) ?_
        refine ev_icmp_eq (tgt := 74) C dX1_pricesBehind_54 (by decide) (fun hc => ?_) (fun hc => ?_)
        · have hf := oit hf hc
          refine ev_sub [0, 1, 2, 3, 5] rfl ?_
          exact t_X1_pricesBehind_J74 C E (m_X1_pricesBehind_L33 N M k6  n) ih a0 i1 i2 i3 i5 hf
        · have hf := oie hf hc
          refine ev_aload_n C dX1_pricesBehind_57 rfl (q := 0) rfl ?_
          obtain ⟨x7, e8, hf⟩ := obnd hf
          refine ev_get (k := 2) C ok_2 dX1_pricesBehind_58 (by decide) kw_303 (fR_V e8) ?_
          refine ev_iload C dX1_pricesBehind_61 (q := 5) rfl ?_
          obtain ⟨x9, e10, hf⟩ := obnd hf
          refine ev_iald C dX1_pricesBehind_63 e10 ?_
          refine ev_aload_n C dX1_pricesBehind_64 rfl (q := 0) rfl ?_
          obtain ⟨x11, e12, hf⟩ := obnd hf
          refine ev_get (k := 2) C ok_2 dX1_pricesBehind_65 (by decide) kw_303 (fR_V e12) ?_
          refine ev_iload C dX1_pricesBehind_68 (q := 4) rfl ?_
          obtain ⟨x13, e14, hf⟩ := obnd hf
          refine ev_iald C dX1_pricesBehind_70 e14 ?_
          refine ev_icmp_le (tgt := 78) C dX1_pricesBehind_71 (by decide) (fun hc => ?_) (fun hc => ?_)
          · have hf := oit hf hc
            exact t_X1_pricesBehind_J78 C E (m_X1_pricesBehind_L33 N M k6  n) ih a0 i1 i2 i3 i4 i5 hf
          · have hf := oie hf hc
            refine ev_sub [0, 1, 2, 3, 5] rfl ?_
            exact t_X1_pricesBehind_J74 C E (m_X1_pricesBehind_L33 N M k6  n) ih a0 i1 i2 i3 i5 hf
def m_X1_pricesBehind_L6 (N : Nat) (M : mM)  : Nat → Nat → Int32 → Int32 → Int32 → Option (Int32)
  | 0, _, _, _, _ => none
  | n + 1, a0, i1, i2, i3 =>
    (fR M a0 2 0).bind fun x1 =>
    (fR M x1 5 2).bind fun x3 =>
    (aI 0 M x3 0).bind fun x5 =>
    if x5 ≤ i3 then (
      some i1) else (
      (fI M a0 2 5).bind fun x7 =>
      if x7 ≤ i3 then (
        some i1) else (
        m_X1_pricesBehind_L33 N M (m_X1_pricesBehind_L6 N M  n) N a0 i1 i2 i3 (-1) 0))
set_option maxHeartbeats 4000000 in
set_option maxRecDepth 100000 in
theorem t_X1_pricesBehind_L6 {X : mX} {M : mM} {L0 : Launch} {res : Int32} {N : Nat} (C : CX X RX1 "pricesBehind" prog_3_method_7_code 6 (some .int)) (E : EX X L0 0 0 0 0 (some (.int res)) M)   : ∀ (n : Nat) (a0 : Nat) (i1 : Int32) (i2 : Int32) (i3 : Int32), m_X1_pricesBehind_L6 N M  n a0 i1 i2 i3 = some res → EV X 6 6 [(0, .ref a0), (1, .int i1), (2, .int i2), (3, .int i3)] [] 0 0 M := by
  intro n
  induction n with
  | zero => intro a0 i1 i2 i3 hf; cases (show (none : Option (Int32)) = some res from hf)
  | succ n ih =>
    intro a0 i1 i2 i3 hf
    rw [m_X1_pricesBehind_L6] at hf
    refine ev_iload_n C dX1_pricesBehind_6 rfl (q := 3) rfl ?_
    refine ev_aload_n C dX1_pricesBehind_7 rfl (q := 0) rfl ?_
    obtain ⟨x1, e2, hf⟩ := obnd hf
    refine ev_get (k := 0) C ok_2 dX1_pricesBehind_8 (by decide) kw_301 (fR_V e2) ?_
    obtain ⟨x3, e4, hf⟩ := obnd hf
    refine ev_get (k := 2) C ok_5 dX1_pricesBehind_11 (by decide) kw_188 (fR_V e4) ?_
    refine ev_iconst (v := 0) C dX1_pricesBehind_14 (by decide) ?_
    obtain ⟨x5, e6, hf⟩ := obnd hf
    refine ev_iald C dX1_pricesBehind_15 e6 ?_
    refine ev_icmp_ge (tgt := 113) C dX1_pricesBehind_16 (by decide) (fun hc => ?_) (fun hc => ?_)
    · have hf := oit hf hc
      refine ev_iload_n C dX1_pricesBehind_113 rfl (q := 1) rfl ?_
      obtain rfl := Option.some.inj hf
      exact ev_iret C E (Nat.le_refl 0) (Nat.le_refl 0) dX1_pricesBehind_114
    · have hf := oie hf hc
      refine ev_iload_n C dX1_pricesBehind_19 rfl (q := 3) rfl ?_
      refine ev_aload_n C dX1_pricesBehind_20 rfl (q := 0) rfl ?_
      obtain ⟨x7, e8, hf⟩ := obnd hf
      refine ev_get (k := 5) C ok_2 dX1_pricesBehind_21 (by decide) kw_307 (fI_V e8) ?_
      refine ev_icmp_ge (tgt := 113) C dX1_pricesBehind_24 (by decide) (fun hc => ?_) (fun hc => ?_)
      · have hf := oit hf hc
        refine ev_iload_n C dX1_pricesBehind_113 rfl (q := 1) rfl ?_
        obtain rfl := Option.some.inj hf
        exact ev_iret C E (Nat.le_refl 0) (Nat.le_refl 0) dX1_pricesBehind_114
      · have hf := oie hf hc
        refine ev_iconst (v := (-1)) C dX1_pricesBehind_27 (by decide) ?_
        refine ev_istore (l' := [(4, .int (-1)), (0, .ref a0), (1, .int i1), (2, .int i2), (3, .int i3)]) C dX1_pricesBehind_28 (by decide) rfl ?_
        refine ev_iconst (v := 0) C dX1_pricesBehind_30 (by decide) ?_
        refine ev_istore (l' := [(5, .int 0), (4, .int (-1)), (0, .ref a0), (1, .int i1), (2, .int i2), (3, .int i3)]) C dX1_pricesBehind_31 (by decide) rfl ?_
        refine ev_sub [2, 3, 4, 5, 1, 0] rfl ?_
        exact t_X1_pricesBehind_L33 C E (m_X1_pricesBehind_L6 N M  n) ih N a0 i1 i2 i3 (-1) 0 hf
def m_X1_pricesBehind (N : Nat) (a0 : Nat) (M : mM) : Option (Int32) :=
  m_X1_pricesBehind_L6 N M  N a0 0 0 0
set_option maxHeartbeats 4000000 in
set_option maxRecDepth 100000 in
theorem t_X1_pricesBehind {L0 : Launch} {M : mM} {N : Nat} {a0 : Nat} {res : Int32} (hf : m_X1_pricesBehind N a0 M = some res) : CT L0 yX1_pricesBehind prog_3_method_7_code 6 (some .int) 0 0 0 0 [.ref a0] M (some (.int res)) M := by
  refine CT.of (by decide +kernel) (Nat.le_of_ble_eq_true rfl) fun X C E => ?_
  have C : CX X RX1 "pricesBehind" prog_3_method_7_code 6 (some .int) := C
  show EV X 6 0 [(0, .ref a0)] [] 0 0 M
  unfold m_X1_pricesBehind at hf
  refine ev_iconst (v := 0) C dX1_pricesBehind_0 (by decide) ?_
  refine ev_istore_n (l' := [(1, .int 0), (0, .ref a0)]) C dX1_pricesBehind_1 rfl (by decide) rfl ?_
  refine ev_iconst (v := 0) C dX1_pricesBehind_2 (by decide) ?_
  refine ev_istore_n (l' := [(2, .int 0), (1, .int 0), (0, .ref a0)]) C dX1_pricesBehind_3 rfl (by decide) rfl ?_
  refine ev_iconst (v := 0) C dX1_pricesBehind_4 (by decide) ?_
  refine ev_istore_n (l' := [(3, .int 0), (2, .int 0), (1, .int 0), (0, .ref a0)]) C dX1_pricesBehind_5 rfl (by decide) rfl ?_
  refine ev_sub [3, 2, 1, 0] rfl ?_
  exact t_X1_pricesBehind_L6 C E   N a0 0 0 0 hf
/-! FareLimits answerRequests(II)I -/
theorem dX11_answerRequests_0 : decode prog_1_method_36_code 0 = .ok (.aload_n 0, 1) := by decide +kernel
theorem dX11_answerRequests_1 : decode prog_1_method_36_code 1 = .ok (.getfield 45, 3) := by decide +kernel
theorem dX11_answerRequests_4 : decode prog_1_method_36_code 4 = .ok (.aload_n 0, 1) := by decide +kernel
theorem dX11_answerRequests_5 : decode prog_1_method_36_code 5 = .ok (.getfield 12, 3) := by decide +kernel
theorem dX11_answerRequests_8 : decode prog_1_method_36_code 8 = .ok (.getfield 95, 3) := by decide +kernel
theorem dX11_answerRequests_11 : decode prog_1_method_36_code 11 = .ok (.invokevirtual 296, 3) := by decide +kernel
theorem dX11_answerRequests_14 : decode prog_1_method_36_code 14 = .ok (.istore_n 3, 1) := by decide +kernel
theorem dX11_answerRequests_15 : decode prog_1_method_36_code 15 = .ok (.iload_n 3, 1) := by decide +kernel
theorem dX11_answerRequests_16 : decode prog_1_method_36_code 16 = .ok (.iconst (-1), 1) := by decide +kernel
theorem dX11_answerRequests_17 : decode prog_1_method_36_code 17 = .ok (.if_icmp .eq 15, 3) := by decide +kernel
theorem dX11_answerRequests_20 : decode prog_1_method_36_code 20 = .ok (.aload_n 0, 1) := by decide +kernel
theorem dX11_answerRequests_21 : decode prog_1_method_36_code 21 = .ok (.getfield 45, 3) := by decide +kernel
theorem dX11_answerRequests_24 : decode prog_1_method_36_code 24 = .ok (.invokevirtual 220, 3) := by decide +kernel
theorem dX11_answerRequests_27 : decode prog_1_method_36_code 27 = .ok (.bipush (-100), 2) := by decide +kernel
theorem dX11_answerRequests_29 : decode prog_1_method_36_code 29 = .ok (.iload_n 3, 1) := by decide +kernel
theorem dX11_answerRequests_30 : decode prog_1_method_36_code 30 = .ok (.isub, 1) := by decide +kernel
theorem dX11_answerRequests_31 : decode prog_1_method_36_code 31 = .ok (.ireturn, 1) := by decide +kernel
theorem dX11_answerRequests_32 : decode prog_1_method_36_code 32 = .ok (.aload_n 0, 1) := by decide +kernel
theorem dX11_answerRequests_33 : decode prog_1_method_36_code 33 = .ok (.getfield 54, 3) := by decide +kernel
theorem dX11_answerRequests_36 : decode prog_1_method_36_code 36 = .ok (.invokevirtual 299, 3) := by decide +kernel
theorem dX11_answerRequests_39 : decode prog_1_method_36_code 39 = .ok (.iconst 0, 1) := by decide +kernel
theorem dX11_answerRequests_40 : decode prog_1_method_36_code 40 = .ok (.istore 4, 2) := by decide +kernel
theorem dX11_answerRequests_42 : decode prog_1_method_36_code 42 = .ok (.iload 4, 2) := by decide +kernel
theorem dX11_answerRequests_44 : decode prog_1_method_36_code 44 = .ok (.aload_n 0, 1) := by decide +kernel
theorem dX11_answerRequests_45 : decode prog_1_method_36_code 45 = .ok (.getfield 45, 3) := by decide +kernel
theorem dX11_answerRequests_48 : decode prog_1_method_36_code 48 = .ok (.getfield 217, 3) := by decide +kernel
theorem dX11_answerRequests_51 : decode prog_1_method_36_code 51 = .ok (.if_icmp .ge 38, 3) := by decide +kernel
theorem dX11_answerRequests_54 : decode prog_1_method_36_code 54 = .ok (.aload_n 0, 1) := by decide +kernel
theorem dX11_answerRequests_55 : decode prog_1_method_36_code 55 = .ok (.getfield 54, 3) := by decide +kernel
theorem dX11_answerRequests_58 : decode prog_1_method_36_code 58 = .ok (.aload_n 0, 1) := by decide +kernel
theorem dX11_answerRequests_59 : decode prog_1_method_36_code 59 = .ok (.getfield 45, 3) := by decide +kernel
theorem dX11_answerRequests_62 : decode prog_1_method_36_code 62 = .ok (.iload 4, 2) := by decide +kernel
theorem dX11_answerRequests_64 : decode prog_1_method_36_code 64 = .ok (.invokevirtual 301, 3) := by decide +kernel
theorem dX11_answerRequests_67 : decode prog_1_method_36_code 67 = .ok (.aload_n 0, 1) := by decide +kernel
theorem dX11_answerRequests_68 : decode prog_1_method_36_code 68 = .ok (.getfield 45, 3) := by decide +kernel
theorem dX11_answerRequests_71 : decode prog_1_method_36_code 71 = .ok (.getfield 217, 3) := by decide +kernel
theorem dX11_answerRequests_74 : decode prog_1_method_36_code 74 = .ok (.iload 4, 2) := by decide +kernel
theorem dX11_answerRequests_76 : decode prog_1_method_36_code 76 = .ok (.isub, 1) := by decide +kernel
theorem dX11_answerRequests_77 : decode prog_1_method_36_code 77 = .ok (.iload 4, 2) := by decide +kernel
theorem dX11_answerRequests_79 : decode prog_1_method_36_code 79 = .ok (.iload_n 2, 1) := by decide +kernel
theorem dX11_answerRequests_80 : decode prog_1_method_36_code 80 = .ok (.invokevirtual 304, 3) := by decide +kernel
theorem dX11_answerRequests_83 : decode prog_1_method_36_code 83 = .ok (.iinc 4 1, 3) := by decide +kernel
theorem dX11_answerRequests_86 : decode prog_1_method_36_code 86 = .ok (.goto (-44), 3) := by decide +kernel
theorem dX11_answerRequests_89 : decode prog_1_method_36_code 89 = .ok (.aload_n 0, 1) := by decide +kernel
theorem dX11_answerRequests_90 : decode prog_1_method_36_code 90 = .ok (.getfield 45, 3) := by decide +kernel
theorem dX11_answerRequests_93 : decode prog_1_method_36_code 93 = .ok (.invokevirtual 220, 3) := by decide +kernel
theorem dX11_answerRequests_96 : decode prog_1_method_36_code 96 = .ok (.iload_n 1, 1) := by decide +kernel
theorem dX11_answerRequests_97 : decode prog_1_method_36_code 97 = .ok (.tableswitch 63 0 3 #[31, 39, 47, 55], 31) := by decide +kernel
theorem dX11_answerRequests_128 : decode prog_1_method_36_code 128 = .ok (.aload_n 0, 1) := by decide +kernel
theorem dX11_answerRequests_129 : decode prog_1_method_36_code 129 = .ok (.getfield 54, 3) := by decide +kernel
theorem dX11_answerRequests_132 : decode prog_1_method_36_code 132 = .ok (.getfield 308, 3) := by decide +kernel
theorem dX11_answerRequests_135 : decode prog_1_method_36_code 135 = .ok (.ireturn, 1) := by decide +kernel
theorem dX11_answerRequests_136 : decode prog_1_method_36_code 136 = .ok (.aload_n 0, 1) := by decide +kernel
theorem dX11_answerRequests_137 : decode prog_1_method_36_code 137 = .ok (.getfield 54, 3) := by decide +kernel
theorem dX11_answerRequests_140 : decode prog_1_method_36_code 140 = .ok (.getfield 311, 3) := by decide +kernel
theorem dX11_answerRequests_143 : decode prog_1_method_36_code 143 = .ok (.ireturn, 1) := by decide +kernel
theorem dX11_answerRequests_144 : decode prog_1_method_36_code 144 = .ok (.aload_n 0, 1) := by decide +kernel
theorem dX11_answerRequests_145 : decode prog_1_method_36_code 145 = .ok (.getfield 54, 3) := by decide +kernel
theorem dX11_answerRequests_148 : decode prog_1_method_36_code 148 = .ok (.getfield 312, 3) := by decide +kernel
theorem dX11_answerRequests_151 : decode prog_1_method_36_code 151 = .ok (.ireturn, 1) := by decide +kernel
theorem dX11_answerRequests_152 : decode prog_1_method_36_code 152 = .ok (.aload_n 0, 1) := by decide +kernel
theorem dX11_answerRequests_153 : decode prog_1_method_36_code 153 = .ok (.getfield 54, 3) := by decide +kernel
theorem dX11_answerRequests_156 : decode prog_1_method_36_code 156 = .ok (.getfield 315, 3) := by decide +kernel
theorem dX11_answerRequests_159 : decode prog_1_method_36_code 159 = .ok (.ireturn, 1) := by decide +kernel
theorem dX11_answerRequests_160 : decode prog_1_method_36_code 160 = .ok (.aload_n 0, 1) := by decide +kernel
theorem dX11_answerRequests_161 : decode prog_1_method_36_code 161 = .ok (.getfield 54, 3) := by decide +kernel
theorem dX11_answerRequests_164 : decode prog_1_method_36_code 164 = .ok (.invokevirtual 318, 3) := by decide +kernel
theorem dX11_answerRequests_167 : decode prog_1_method_36_code 167 = .ok (.ireturn, 1) := by decide +kernel
def m_X11_answerRequests_L42 (N : Nat)  : Nat → Nat → Int32 → Int32 → Int32 → mM → Option (Int32 × mM)
  | 0, _, _, _, _, _ => none
  | n + 1, a0, i1, i2, i4, M =>
    (fR M a0 11 6).bind fun x1 =>
    (fI M x1 7 1).bind fun x3 =>
    if x3 ≤ i4 then (
      (fR M a0 11 6).bind fun x5 =>
      (oO M x5 7).bind fun _ =>
      (m_X7_wipe x5 M).bind fun x9 =>
      if i1 = 0 then (
        (fR x9 a0 11 7).bind fun x29 =>
        (fI x9 x29 2 7).bind fun x31 =>
        some (x31, x9)) else (
        if i1 = 1 then (
          (fR x9 a0 11 7).bind fun x25 =>
          (fI x9 x25 2 6).bind fun x27 =>
          some (x27, x9)) else (
          if i1 = 2 then (
            (fR x9 a0 11 7).bind fun x21 =>
            (fI x9 x21 2 4).bind fun x23 =>
            some (x23, x9)) else (
            if i1 = 3 then (
              (fR x9 a0 11 7).bind fun x17 =>
              (fI x9 x17 2 8).bind fun x19 =>
              some (x19, x9)) else (
              (fR x9 a0 11 7).bind fun x11 =>
              (oO x9 x11 2).bind fun _ =>
              (m_X1_pricesBehind N x11 x9).bind fun x15 =>
              some (x15, x9)))))) else (
      (fR M a0 11 7).bind fun x33 =>
      (fR M a0 11 6).bind fun x35 =>
      (oO M x35 7).bind fun _ =>
      (m_X7_fareAsked x35 i4 M).bind fun x39 =>
      (fR M a0 11 6).bind fun x41 =>
      (fI M x41 7 1).bind fun x43 =>
      (oO M x33 2).bind fun _ =>
      (m_X1_ask N x33 x39 (x43 - i4) i4 i2 M).bind fun x47 =>
      (m_X11_answerRequests_L42 N  n) a0 i1 i2 (i4 + 1) x47)
set_option maxHeartbeats 4000000 in
set_option maxRecDepth 100000 in
theorem t_X11_answerRequests_L42 {X : mX} {L0 : Launch} {res : Int32 × mM} {N : Nat} (C : CX X RX11 "answerRequests" prog_1_method_36_code 5 (some .int)) (E : EX X L0 5 127 0 0 (some (.int res.1)) res.2)   : ∀ (n : Nat) (a0 : Nat) (i1 : Int32) (i2 : Int32) (i4 : Int32) (M : mM), m_X11_answerRequests_L42 N  n a0 i1 i2 i4 M = some res → EV X 5 42 [(0, .ref a0), (1, .int i1), (2, .int i2), (4, .int i4)] [] 0 0 M := by
  intro n
  induction n with
  | zero => intro a0 i1 i2 i4 M hf; cases (show (none : Option (Int32 × mM)) = some res from hf)
  | succ n ih =>
    intro a0 i1 i2 i4 M hf
    rw [m_X11_answerRequests_L42] at hf
    refine ev_iload C dX11_answerRequests_42 (q := 3) rfl ?_
    refine ev_aload_n C dX11_answerRequests_44 rfl (q := 0) rfl ?_
    obtain ⟨x1, e2, hf⟩ := obnd hf
    refine ev_get (k := 6) C ok_11 dX11_answerRequests_45 (by decide) kw_398 (fR_V e2) ?_
    obtain ⟨x3, e4, hf⟩ := obnd hf
    refine ev_get (k := 1) C ok_7 dX11_answerRequests_48 (by decide) kw_266 (fI_V e4) ?_
    refine ev_icmp_ge (tgt := 89) C dX11_answerRequests_51 (by decide) (fun hc => ?_) (fun hc => ?_)
    · have hf := oit hf hc
      refine ev_aload_n C dX11_answerRequests_89 rfl (q := 0) rfl ?_
      obtain ⟨x5, e6, hf⟩ := obnd hf
      refine ev_get (k := 6) C ok_11 dX11_answerRequests_90 (by decide) kw_398 (fR_V e6) ?_
      obtain ⟨_, e7, hf⟩ := obnd hf
      obtain ⟨fs8, e7⟩ := oO_eq e7
      obtain ⟨x9, e10, hf⟩ := obnd hf
      refine ev_callV0 (As := []) (st := []) C rfl e7 (t_X7_wipe e10) rfl hd_X7_wipe rfl kw_687 kw_688 kw_79 kw_689 kw_690 (mRoom.of E (Nat.le_of_ble_eq_true rfl) (Nat.le_of_ble_eq_true rfl) (Nat.le_refl 0) (Nat.le_refl 0)) (Nat.le_of_ble_eq_true rfl) dX11_answerRequests_93 ?_
      refine ev_iload_n C dX11_answerRequests_96 rfl (q := 1) rfl ?_
      by_cases h0 : i1 = 0
      · have hf := oit hf h0
        refine ev_tableIn (off := 31) (tgt := 128) C dX11_answerRequests_97 (by rw [h0]; decide) (by rw [h0]; decide) (by rw [h0]; rfl) (by decide) ?_
        refine ev_aload_n C dX11_answerRequests_128 rfl (q := 0) rfl ?_
        obtain ⟨x29, e30, hf⟩ := obnd hf
        refine ev_get (k := 7) C ok_11 dX11_answerRequests_129 (by decide) kw_399 (fR_V e30) ?_
        obtain ⟨x31, e32, hf⟩ := obnd hf
        refine ev_get (k := 7) C ok_2 dX11_answerRequests_132 (by decide) kw_312 (fI_V e32) ?_
        obtain rfl := Option.some.inj hf
        exact ev_iret C E (Nat.le_refl 0) (Nat.le_refl 0) dX11_answerRequests_135
      · have hf := oie hf h0
        by_cases h1 : i1 = 1
        · have hf := oit hf h1
          refine ev_tableIn (off := 39) (tgt := 136) C dX11_answerRequests_97 (by rw [h1]; decide) (by rw [h1]; decide) (by rw [h1]; rfl) (by decide) ?_
          refine ev_aload_n C dX11_answerRequests_136 rfl (q := 0) rfl ?_
          obtain ⟨x25, e26, hf⟩ := obnd hf
          refine ev_get (k := 7) C ok_11 dX11_answerRequests_137 (by decide) kw_399 (fR_V e26) ?_
          obtain ⟨x27, e28, hf⟩ := obnd hf
          refine ev_get (k := 6) C ok_2 dX11_answerRequests_140 (by decide) kw_310 (fI_V e28) ?_
          obtain rfl := Option.some.inj hf
          exact ev_iret C E (Nat.le_refl 0) (Nat.le_refl 0) dX11_answerRequests_143
        · have hf := oie hf h1
          by_cases h2 : i1 = 2
          · have hf := oit hf h2
            refine ev_tableIn (off := 47) (tgt := 144) C dX11_answerRequests_97 (by rw [h2]; decide) (by rw [h2]; decide) (by rw [h2]; rfl) (by decide) ?_
            refine ev_aload_n C dX11_answerRequests_144 rfl (q := 0) rfl ?_
            obtain ⟨x21, e22, hf⟩ := obnd hf
            refine ev_get (k := 7) C ok_11 dX11_answerRequests_145 (by decide) kw_399 (fR_V e22) ?_
            obtain ⟨x23, e24, hf⟩ := obnd hf
            refine ev_get (k := 4) C ok_2 dX11_answerRequests_148 (by decide) kw_306 (fI_V e24) ?_
            obtain rfl := Option.some.inj hf
            exact ev_iret C E (Nat.le_refl 0) (Nat.le_refl 0) dX11_answerRequests_151
          · have hf := oie hf h2
            by_cases h3 : i1 = 3
            · have hf := oit hf h3
              refine ev_tableIn (off := 55) (tgt := 152) C dX11_answerRequests_97 (by rw [h3]; decide) (by rw [h3]; decide) (by rw [h3]; rfl) (by decide) ?_
              refine ev_aload_n C dX11_answerRequests_152 rfl (q := 0) rfl ?_
              obtain ⟨x17, e18, hf⟩ := obnd hf
              refine ev_get (k := 7) C ok_11 dX11_answerRequests_153 (by decide) kw_399 (fR_V e18) ?_
              obtain ⟨x19, e20, hf⟩ := obnd hf
              refine ev_get (k := 8) C ok_2 dX11_answerRequests_156 (by decide) kw_314 (fI_V e20) ?_
              obtain rfl := Option.some.inj hf
              exact ev_iret C E (Nat.le_refl 0) (Nat.le_refl 0) dX11_answerRequests_159
            · have hf := oie hf h3
              refine ev_tableOut (tgt := 160) C dX11_answerRequests_97 (tab_out (lo := 0) (n := 4) (lt_s (lt_s (lt_s (lt_s lt_0 h0) h1) h2) h3) (by decide) (by decide)) (by decide) ?_
              refine ev_aload_n C dX11_answerRequests_160 rfl (q := 0) rfl ?_
              obtain ⟨x11, e12, hf⟩ := obnd hf
              refine ev_get (k := 7) C ok_11 dX11_answerRequests_161 (by decide) kw_399 (fR_V e12) ?_
              obtain ⟨_, e13, hf⟩ := obnd hf
              obtain ⟨fs14, e13⟩ := oO_eq e13
              obtain ⟨x15, e16, hf⟩ := obnd hf
              refine ev_callV0 (As := []) (st := []) C rfl e13 (t_X1_pricesBehind e16) rfl hd_X1_pricesBehind rfl kw_1041 kw_1042 kw_80 kw_1043 kw_1044 (mRoom.of E (Nat.le_of_ble_eq_true rfl) (Nat.le_of_ble_eq_true rfl) (Nat.le_refl 0) (Nat.le_refl 0)) (Nat.le_of_ble_eq_true rfl) dX11_answerRequests_164 ?_
              obtain rfl := Option.some.inj hf
              exact ev_iret C E (Nat.le_refl 0) (Nat.le_refl 0) dX11_answerRequests_167
    · have hf := oie hf hc
      refine ev_aload_n C dX11_answerRequests_54 rfl (q := 0) rfl ?_
      obtain ⟨x33, e34, hf⟩ := obnd hf
      refine ev_get (k := 7) C ok_11 dX11_answerRequests_55 (by decide) kw_399 (fR_V e34) ?_
      refine ev_aload_n C dX11_answerRequests_58 rfl (q := 0) rfl ?_
      obtain ⟨x35, e36, hf⟩ := obnd hf
      refine ev_get (k := 6) C ok_11 dX11_answerRequests_59 (by decide) kw_398 (fR_V e36) ?_
      refine ev_iload C dX11_answerRequests_62 (q := 3) rfl ?_
      obtain ⟨_, e37, hf⟩ := obnd hf
      obtain ⟨fs38, e37⟩ := oO_eq e37
      obtain ⟨x39, e40, hf⟩ := obnd hf
      refine ev_callV0 (As := [.int i4]) (st := [.ref x33]) C rfl e37 (t_X7_fareAsked e40) rfl hd_X7_fareAsked rfl kw_1030 kw_1022 kw_79 kw_1023 kw_1024 (mRoom.of E (Nat.le_of_ble_eq_true rfl) (Nat.le_of_ble_eq_true rfl) (Nat.le_refl 0) (Nat.le_refl 0)) (Nat.le_of_ble_eq_true rfl) dX11_answerRequests_64 ?_
      refine ev_aload_n C dX11_answerRequests_67 rfl (q := 0) rfl ?_
      obtain ⟨x41, e42, hf⟩ := obnd hf
      refine ev_get (k := 6) C ok_11 dX11_answerRequests_68 (by decide) kw_398 (fR_V e42) ?_
      obtain ⟨x43, e44, hf⟩ := obnd hf
      refine ev_get (k := 1) C ok_7 dX11_answerRequests_71 (by decide) kw_266 (fI_V e44) ?_
      refine ev_iload C dX11_answerRequests_74 (q := 3) rfl ?_
      refine ev_isub C dX11_answerRequests_76 ?_
      refine ev_iload C dX11_answerRequests_77 (q := 3) rfl ?_
      refine ev_iload_n C dX11_answerRequests_79 rfl (q := 2) rfl ?_
      obtain ⟨_, e45, hf⟩ := obnd hf
      obtain ⟨fs46, e45⟩ := oO_eq e45
      obtain ⟨x47, e48, hf⟩ := obnd hf
      refine ev_callV0 (As := [.int x39, .int (x43 - i4), .int i4, .int i2]) (st := []) C rfl e45 (t_X1_ask e48) rfl hd_X1_ask rfl kw_1031 kw_1032 kw_80 kw_1033 kw_1034 (mRoom.of E (Nat.le_of_ble_eq_true rfl) (Nat.le_of_ble_eq_true rfl) (Nat.le_refl 0) (Nat.le_refl 0)) (Nat.le_of_ble_eq_true rfl) dX11_answerRequests_80 ?_
      refine ev_iinc (v := i4 + 1) (l' := [(4, .int (i4 + 1)), (0, .ref a0), (1, .int i1), (2, .int i2)]) C dX11_answerRequests_83 (q := 3) rfl rfl (by decide) rfl ?_
      refine ev_goto (tgt := 42) C dX11_answerRequests_86 (by decide) ?_
      refine ev_sub [1, 2, 3, 0] rfl ?_
      exact ih a0 i1 i2 (i4 + 1) x47 hf
def m_X11_answerRequests (N : Nat) (a0 : Nat) (i1 : Int32) (i2 : Int32) (M : mM) : Option (Int32 × mM) :=
  (fR M a0 11 6).bind fun x1 =>
  (fR M a0 11 0).bind fun x3 =>
  (fI M x3 5 1).bind fun x5 =>
  (oO M x1 7).bind fun _ =>
  (m_X7_faultAsRequests N x1 x5 M).bind fun x9 =>
  if x9 = (-1) then (
    (fR M a0 11 7).bind fun x11 =>
    (oO M x11 2).bind fun _ =>
    (m_X1_begin x11 M).bind fun x15 =>
    m_X11_answerRequests_L42 N  N a0 i1 i2 0 x15) else (
    (fR M a0 11 6).bind fun x17 =>
    (oO M x17 7).bind fun _ =>
    (m_X7_wipe x17 M).bind fun x21 =>
    some ((-100) - x9, x21))
set_option maxHeartbeats 4000000 in
set_option maxRecDepth 100000 in
theorem t_X11_answerRequests {L0 : Launch} {M : mM} {N : Nat} {a0 : Nat} {i1 : Int32} {i2 : Int32} {res : Int32 × mM} (hf : m_X11_answerRequests N a0 i1 i2 M = some res) : CT L0 yX11_answerRequests prog_1_method_36_code 5 (some .int) 5 127 0 0 [.ref a0, .int i1, .int i2] M (some (.int res.1)) res.2 := by
  refine CT.of (by decide +kernel) (Nat.le_of_ble_eq_true rfl) fun X C E => ?_
  have C : CX X RX11 "answerRequests" prog_1_method_36_code 5 (some .int) := C
  show EV X 5 0 [(0, .ref a0), (1, .int i1), (2, .int i2)] [] 0 0 M
  unfold m_X11_answerRequests at hf
  refine ev_aload_n C dX11_answerRequests_0 rfl (q := 0) rfl ?_
  obtain ⟨x1, e2, hf⟩ := obnd hf
  refine ev_get (k := 6) C ok_11 dX11_answerRequests_1 (by decide) kw_398 (fR_V e2) ?_
  refine ev_aload_n C dX11_answerRequests_4 rfl (q := 0) rfl ?_
  obtain ⟨x3, e4, hf⟩ := obnd hf
  refine ev_get (k := 0) C ok_11 dX11_answerRequests_5 (by decide) kw_392 (fR_V e4) ?_
  obtain ⟨x5, e6, hf⟩ := obnd hf
  refine ev_get (k := 1) C ok_5 dX11_answerRequests_8 (by decide) kw_183 (fI_V e6) ?_
  obtain ⟨_, e7, hf⟩ := obnd hf
  obtain ⟨fs8, e7⟩ := oO_eq e7
  obtain ⟨x9, e10, hf⟩ := obnd hf
  refine ev_callV0 (As := [.int x5]) (st := []) C rfl e7 (t_X7_faultAsRequests e10) rfl hd_X7_faultAsRequests rfl kw_1017 kw_1018 kw_79 kw_1019 kw_1020 (mRoom.of E (Nat.le_of_ble_eq_true rfl) (Nat.le_of_ble_eq_true rfl) (Nat.le_refl 0) (Nat.le_refl 0)) (Nat.le_of_ble_eq_true rfl) dX11_answerRequests_11 ?_
  refine ev_istore_n (l' := [(3, .int x9), (0, .ref a0), (1, .int i1), (2, .int i2)]) C dX11_answerRequests_14 rfl (by decide) rfl ?_
  refine ev_iload_n C dX11_answerRequests_15 rfl (q := 0) rfl ?_
  refine ev_iconst (v := (-1)) C dX11_answerRequests_16 (by decide) ?_
  refine ev_icmp_eq (tgt := 32) C dX11_answerRequests_17 (by decide) (fun hc => ?_) (fun hc => ?_)
  · have hf := oit hf hc
    refine ev_aload_n C dX11_answerRequests_32 rfl (q := 1) rfl ?_
    obtain ⟨x11, e12, hf⟩ := obnd hf
    refine ev_get (k := 7) C ok_11 dX11_answerRequests_33 (by decide) kw_399 (fR_V e12) ?_
    obtain ⟨_, e13, hf⟩ := obnd hf
    obtain ⟨fs14, e13⟩ := oO_eq e13
    obtain ⟨x15, e16, hf⟩ := obnd hf
    refine ev_callV0 (As := []) (st := []) C rfl e13 (t_X1_begin e16) rfl hd_X1_begin rfl kw_1026 kw_1027 kw_80 kw_1028 kw_1029 (mRoom.of E (Nat.le_of_ble_eq_true rfl) (Nat.le_of_ble_eq_true rfl) (Nat.le_refl 0) (Nat.le_refl 0)) (Nat.le_of_ble_eq_true rfl) dX11_answerRequests_36 ?_
    refine ev_iconst (v := 0) C dX11_answerRequests_39 (by decide) ?_
    refine ev_istore (l' := [(4, .int 0), (3, .int x9), (0, .ref a0), (1, .int i1), (2, .int i2)]) C dX11_answerRequests_40 (by decide) rfl ?_
    refine ev_sub [2, 3, 4, 0] rfl ?_
    exact t_X11_answerRequests_L42 C E   N a0 i1 i2 0 x15 hf
  · have hf := oie hf hc
    refine ev_aload_n C dX11_answerRequests_20 rfl (q := 1) rfl ?_
    obtain ⟨x17, e18, hf⟩ := obnd hf
    refine ev_get (k := 6) C ok_11 dX11_answerRequests_21 (by decide) kw_398 (fR_V e18) ?_
    obtain ⟨_, e19, hf⟩ := obnd hf
    obtain ⟨fs20, e19⟩ := oO_eq e19
    obtain ⟨x21, e22, hf⟩ := obnd hf
    refine ev_callV0 (As := []) (st := []) C rfl e19 (t_X7_wipe e22) rfl hd_X7_wipe rfl kw_687 kw_688 kw_79 kw_689 kw_690 (mRoom.of E (Nat.le_of_ble_eq_true rfl) (Nat.le_of_ble_eq_true rfl) (Nat.le_refl 0) (Nat.le_refl 0)) (Nat.le_of_ble_eq_true rfl) dX11_answerRequests_24 ?_
    refine ev_bipush (v := (-100)) C dX11_answerRequests_27 (by decide) ?_
    refine ev_iload_n C dX11_answerRequests_29 rfl (q := 0) rfl ?_
    refine ev_isub C dX11_answerRequests_30 ?_
    obtain rfl := Option.some.inj hf
    exact ev_iret C E (Nat.le_refl 0) (Nat.le_refl 0) dX11_answerRequests_31
/-! FareLimits replay(I)I -/
theorem dX11_replay_0 : decode prog_1_method_34_code 0 = .ok (.iload_n 1, 1) := by decide +kernel
theorem dX11_replay_1 : decode prog_1_method_34_code 1 = .ok (.iconst 4, 1) := by decide +kernel
theorem dX11_replay_2 : decode prog_1_method_34_code 2 = .ok (.invokestatic 91, 3) := by decide +kernel
theorem dX11_replay_5 : decode prog_1_method_34_code 5 = .ok (.ifCond .eq 12, 3) := by decide +kernel
theorem dX11_replay_8 : decode prog_1_method_34_code 8 = .ok (.aload_n 0, 1) := by decide +kernel
theorem dX11_replay_9 : decode prog_1_method_34_code 9 = .ok (.iload_n 1, 1) := by decide +kernel
theorem dX11_replay_10 : decode prog_1_method_34_code 10 = .ok (.iconst 0, 1) := by decide +kernel
theorem dX11_replay_11 : decode prog_1_method_34_code 11 = .ok (.invokevirtual 293, 3) := by decide +kernel
theorem dX11_replay_14 : decode prog_1_method_34_code 14 = .ok (.goto 4, 3) := by decide +kernel
theorem dX11_replay_17 : decode prog_1_method_34_code 17 = .ok (.iconst (-1), 1) := by decide +kernel
theorem dX11_replay_18 : decode prog_1_method_34_code 18 = .ok (.ireturn, 1) := by decide +kernel
def m_X11_replay (N : Nat) (a0 : Nat) (i1 : Int32) (M : mM) : Option (Int32 × mM) :=
  (m_X11_within i1 4).bind fun x1 =>
  if x1 = 0 then (
    some ((-1), M)) else (
    (oO M a0 11).bind fun _ =>
    (m_X11_answerRequests N a0 i1 0 M).bind fun x5 =>
    some (x5.1, x5.2))
set_option maxHeartbeats 4000000 in
set_option maxRecDepth 100000 in
theorem t_X11_replay {L0 : Launch} {M : mM} {N : Nat} {a0 : Nat} {i1 : Int32} {res : Int32 × mM} (hf : m_X11_replay N a0 i1 M = some res) : CT L0 yX11_replay prog_1_method_34_code 2 (some .int) 6 151 0 0 [.ref a0, .int i1] M (some (.int res.1)) res.2 := by
  refine CT.of (by decide +kernel) (Nat.le_of_ble_eq_true rfl) fun X C E => ?_
  have C : CX X RX11 "replay" prog_1_method_34_code 2 (some .int) := C
  show EV X 2 0 [(0, .ref a0), (1, .int i1)] [] 0 0 M
  unfold m_X11_replay at hf
  refine ev_iload_n C dX11_replay_0 rfl (q := 1) rfl ?_
  refine ev_iconst (v := 4) C dX11_replay_1 (by decide) ?_
  obtain ⟨x1, e2, hf⟩ := obnd hf
  refine ev_callS0 (As := [.int i1, .int 4]) (st := []) C (t_X11_within e2) hd_X11_within rfl kw_435 kw_436 kw_70 kw_437 (mRoom.of E (Nat.le_of_ble_eq_true rfl) (Nat.le_of_ble_eq_true rfl) (Nat.le_refl 0) (Nat.le_refl 0)) (Nat.le_of_ble_eq_true rfl) dX11_replay_2 ?_
  refine ev_if_eq (tgt := 17) C dX11_replay_5 (by decide) (fun hc => ?_) (fun hc => ?_)
  · have hf := oit hf hc
    refine ev_iconst (v := (-1)) C dX11_replay_17 (by decide) ?_
    obtain rfl := Option.some.inj hf
    exact ev_iret C E (Nat.le_refl 0) (Nat.le_refl 0) dX11_replay_18
  · have hf := oie hf hc
    refine ev_aload_n C dX11_replay_8 rfl (q := 0) rfl ?_
    refine ev_iload_n C dX11_replay_9 rfl (q := 1) rfl ?_
    refine ev_iconst (v := 0) C dX11_replay_10 (by decide) ?_
    obtain ⟨_, e3, hf⟩ := obnd hf
    obtain ⟨fs4, e3⟩ := oO_eq e3
    obtain ⟨x5, e6, hf⟩ := obnd hf
    refine ev_callV0 (As := [.int i1, .int 0]) (st := []) C rfl e3 (t_X11_answerRequests e6) rfl hd_X11_answerRequests rfl kw_1013 kw_1015 kw_70 kw_17 kw_1016 (mRoom.of E (Nat.le_of_ble_eq_true rfl) (Nat.le_of_ble_eq_true rfl) (Nat.le_refl 0) (Nat.le_refl 0)) (Nat.le_of_ble_eq_true rfl) dX11_replay_11 ?_
    refine ev_goto (tgt := 18) C dX11_replay_14 (by decide) ?_
    obtain rfl := Option.some.inj hf
    exact ev_iret C E (Nat.le_refl 0) (Nat.le_refl 0) dX11_replay_18
/-! FareLimits byHand(I)I -/
theorem dX11_byHand_0 : decode prog_1_method_35_code 0 = .ok (.iload_n 1, 1) := by decide +kernel
theorem dX11_byHand_1 : decode prog_1_method_35_code 1 = .ok (.iconst 3, 1) := by decide +kernel
theorem dX11_byHand_2 : decode prog_1_method_35_code 2 = .ok (.invokestatic 91, 3) := by decide +kernel
theorem dX11_byHand_5 : decode prog_1_method_35_code 5 = .ok (.ifCond .eq 12, 3) := by decide +kernel
theorem dX11_byHand_8 : decode prog_1_method_35_code 8 = .ok (.aload_n 0, 1) := by decide +kernel
theorem dX11_byHand_9 : decode prog_1_method_35_code 9 = .ok (.iload_n 1, 1) := by decide +kernel
theorem dX11_byHand_10 : decode prog_1_method_35_code 10 = .ok (.iconst 1, 1) := by decide +kernel
theorem dX11_byHand_11 : decode prog_1_method_35_code 11 = .ok (.invokevirtual 293, 3) := by decide +kernel
theorem dX11_byHand_14 : decode prog_1_method_35_code 14 = .ok (.goto 4, 3) := by decide +kernel
theorem dX11_byHand_17 : decode prog_1_method_35_code 17 = .ok (.iconst (-1), 1) := by decide +kernel
theorem dX11_byHand_18 : decode prog_1_method_35_code 18 = .ok (.ireturn, 1) := by decide +kernel
def m_X11_byHand (N : Nat) (a0 : Nat) (i1 : Int32) (M : mM) : Option (Int32 × mM) :=
  (m_X11_within i1 3).bind fun x1 =>
  if x1 = 0 then (
    some ((-1), M)) else (
    (oO M a0 11).bind fun _ =>
    (m_X11_answerRequests N a0 i1 1 M).bind fun x5 =>
    some (x5.1, x5.2))
set_option maxHeartbeats 4000000 in
set_option maxRecDepth 100000 in
theorem t_X11_byHand {L0 : Launch} {M : mM} {N : Nat} {a0 : Nat} {i1 : Int32} {res : Int32 × mM} (hf : m_X11_byHand N a0 i1 M = some res) : CT L0 yX11_byHand prog_1_method_35_code 2 (some .int) 6 151 0 0 [.ref a0, .int i1] M (some (.int res.1)) res.2 := by
  refine CT.of (by decide +kernel) (Nat.le_of_ble_eq_true rfl) fun X C E => ?_
  have C : CX X RX11 "byHand" prog_1_method_35_code 2 (some .int) := C
  show EV X 2 0 [(0, .ref a0), (1, .int i1)] [] 0 0 M
  unfold m_X11_byHand at hf
  refine ev_iload_n C dX11_byHand_0 rfl (q := 1) rfl ?_
  refine ev_iconst (v := 3) C dX11_byHand_1 (by decide) ?_
  obtain ⟨x1, e2, hf⟩ := obnd hf
  refine ev_callS0 (As := [.int i1, .int 3]) (st := []) C (t_X11_within e2) hd_X11_within rfl kw_435 kw_436 kw_70 kw_437 (mRoom.of E (Nat.le_of_ble_eq_true rfl) (Nat.le_of_ble_eq_true rfl) (Nat.le_refl 0) (Nat.le_refl 0)) (Nat.le_of_ble_eq_true rfl) dX11_byHand_2 ?_
  refine ev_if_eq (tgt := 17) C dX11_byHand_5 (by decide) (fun hc => ?_) (fun hc => ?_)
  · have hf := oit hf hc
    refine ev_iconst (v := (-1)) C dX11_byHand_17 (by decide) ?_
    obtain rfl := Option.some.inj hf
    exact ev_iret C E (Nat.le_refl 0) (Nat.le_refl 0) dX11_byHand_18
  · have hf := oie hf hc
    refine ev_aload_n C dX11_byHand_8 rfl (q := 0) rfl ?_
    refine ev_iload_n C dX11_byHand_9 rfl (q := 1) rfl ?_
    refine ev_iconst (v := 1) C dX11_byHand_10 (by decide) ?_
    obtain ⟨_, e3, hf⟩ := obnd hf
    obtain ⟨fs4, e3⟩ := oO_eq e3
    obtain ⟨x5, e6, hf⟩ := obnd hf
    refine ev_callV0 (As := [.int i1, .int 1]) (st := []) C rfl e3 (t_X11_answerRequests e6) rfl hd_X11_answerRequests rfl kw_1013 kw_1015 kw_70 kw_17 kw_1016 (mRoom.of E (Nat.le_of_ble_eq_true rfl) (Nat.le_of_ble_eq_true rfl) (Nat.le_refl 0) (Nat.le_refl 0)) (Nat.le_of_ble_eq_true rfl) dX11_byHand_11 ?_
    refine ev_goto (tgt := 18) C dX11_byHand_14 (by decide) ?_
    obtain rfl := Option.some.inj hf
    exact ev_iret C E (Nat.le_refl 0) (Nat.le_refl 0) dX11_byHand_18
/-! FareLimits$Day fareDrawn(II)I -/
theorem dX1_fareDrawn_0 : decode prog_3_method_6_code 0 = .ok (.iconst 0, 1) := by decide +kernel
theorem dX1_fareDrawn_1 : decode prog_3_method_6_code 1 = .ok (.istore_n 3, 1) := by decide +kernel
theorem dX1_fareDrawn_2 : decode prog_3_method_6_code 2 = .ok (.iconst 0, 1) := by decide +kernel
theorem dX1_fareDrawn_3 : decode prog_3_method_6_code 3 = .ok (.istore 4, 2) := by decide +kernel
theorem dX1_fareDrawn_5 : decode prog_3_method_6_code 5 = .ok (.iload 4, 2) := by decide +kernel
theorem dX1_fareDrawn_7 : decode prog_3_method_6_code 7 = .ok (.aload_n 0, 1) := by decide +kernel
theorem dX1_fareDrawn_8 : decode prog_3_method_6_code 8 = .ok (.getfield 18, 3) := by decide +kernel
theorem dX1_fareDrawn_11 : decode prog_3_method_6_code 11 = .ok (.getfield 91, 3) := by decide +kernel
theorem dX1_fareDrawn_14 : decode prog_3_method_6_code 14 = .ok (.if_icmp .ge 35, 3) := by decide +kernel
theorem dX1_fareDrawn_17 : decode prog_3_method_6_code 17 = .ok (.iload_n 3, 1) := by decide +kernel
theorem dX1_fareDrawn_18 : decode prog_3_method_6_code 18 = .ok (.aload_n 0, 1) := by decide +kernel
theorem dX1_fareDrawn_19 : decode prog_3_method_6_code 19 = .ok (.getfield 18, 3) := by decide +kernel
theorem dX1_fareDrawn_22 : decode prog_3_method_6_code 22 = .ok (.getfield 51, 3) := by decide +kernel
theorem dX1_fareDrawn_25 : decode prog_3_method_6_code 25 = .ok (.iload 4, 2) := by decide +kernel
theorem dX1_fareDrawn_27 : decode prog_3_method_6_code 27 = .ok (.aaload, 1) := by decide +kernel
theorem dX1_fareDrawn_28 : decode prog_3_method_6_code 28 = .ok (.getfield 94, 3) := by decide +kernel
theorem dX1_fareDrawn_31 : decode prog_3_method_6_code 31 = .ok (.iload_n 2, 1) := by decide +kernel
theorem dX1_fareDrawn_32 : decode prog_3_method_6_code 32 = .ok (.iaload, 1) := by decide +kernel
theorem dX1_fareDrawn_33 : decode prog_3_method_6_code 33 = .ok (.iadd, 1) := by decide +kernel
theorem dX1_fareDrawn_34 : decode prog_3_method_6_code 34 = .ok (.istore_n 3, 1) := by decide +kernel
theorem dX1_fareDrawn_35 : decode prog_3_method_6_code 35 = .ok (.iload_n 3, 1) := by decide +kernel
theorem dX1_fareDrawn_36 : decode prog_3_method_6_code 36 = .ok (.iload_n 1, 1) := by decide +kernel
theorem dX1_fareDrawn_37 : decode prog_3_method_6_code 37 = .ok (.if_icmp .le 6, 3) := by decide +kernel
theorem dX1_fareDrawn_40 : decode prog_3_method_6_code 40 = .ok (.iload 4, 2) := by decide +kernel
theorem dX1_fareDrawn_42 : decode prog_3_method_6_code 42 = .ok (.ireturn, 1) := by decide +kernel
theorem dX1_fareDrawn_43 : decode prog_3_method_6_code 43 = .ok (.iinc 4 1, 3) := by decide +kernel
theorem dX1_fareDrawn_46 : decode prog_3_method_6_code 46 = .ok (.goto (-41), 3) := by decide +kernel
theorem dX1_fareDrawn_49 : decode prog_3_method_6_code 49 = .ok (.iconst (-1), 1) := by decide +kernel
theorem dX1_fareDrawn_50 : decode prog_3_method_6_code 50 = .ok (.ireturn, 1) := by decide +kernel
def m_X1_fareDrawn_L5 (N : Nat) (M : mM)  : Nat → Nat → Int32 → Int32 → Int32 → Int32 → Option (Int32)
  | 0, _, _, _, _, _ => none
  | n + 1, a0, i1, i2, i3, i4 =>
    (fR M a0 2 0).bind fun x1 =>
    (fI M x1 5 1).bind fun x3 =>
    if x3 ≤ i4 then (
      some (-1)) else (
      (fR M a0 2 0).bind fun x5 =>
      (fR M x5 5 0).bind fun x7 =>
      (aR 5 M x7 i4).bind fun x9 =>
      (fR M x9 3 3).bind fun x11 =>
      (aI 0 M x11 i2).bind fun x13 =>
      if (i3 + x13) ≤ i1 then (
        (m_X1_fareDrawn_L5 N M  n) a0 i1 i2 (i3 + x13) (i4 + 1)) else (
        some i4))
set_option maxHeartbeats 4000000 in
set_option maxRecDepth 100000 in
theorem t_X1_fareDrawn_L5 {X : mX} {M : mM} {L0 : Launch} {res : Int32} {N : Nat} (C : CX X RX1 "fareDrawn" prog_3_method_6_code 5 (some .int)) (E : EX X L0 0 0 0 0 (some (.int res)) M)   : ∀ (n : Nat) (a0 : Nat) (i1 : Int32) (i2 : Int32) (i3 : Int32) (i4 : Int32), m_X1_fareDrawn_L5 N M  n a0 i1 i2 i3 i4 = some res → EV X 5 5 [(0, .ref a0), (1, .int i1), (2, .int i2), (3, .int i3), (4, .int i4)] [] 0 0 M := by
  intro n
  induction n with
  | zero => intro a0 i1 i2 i3 i4 hf; cases (show (none : Option (Int32)) = some res from hf)
  | succ n ih =>
    intro a0 i1 i2 i3 i4 hf
    rw [m_X1_fareDrawn_L5] at hf
    refine ev_iload C dX1_fareDrawn_5 (q := 4) rfl ?_
    refine ev_aload_n C dX1_fareDrawn_7 rfl (q := 0) rfl ?_
    obtain ⟨x1, e2, hf⟩ := obnd hf
    refine ev_get (k := 0) C ok_2 dX1_fareDrawn_8 (by decide) kw_301 (fR_V e2) ?_
    obtain ⟨x3, e4, hf⟩ := obnd hf
    refine ev_get (k := 1) C ok_5 dX1_fareDrawn_11 (by decide) kw_185 (fI_V e4) ?_
    refine ev_icmp_ge (tgt := 49) C dX1_fareDrawn_14 (by decide) (fun hc => ?_) (fun hc => ?_)
    · have hf := oit hf hc
      refine ev_iconst (v := (-1)) C dX1_fareDrawn_49 (by decide) ?_
      obtain rfl := Option.some.inj hf
      exact ev_iret C E (Nat.le_refl 0) (Nat.le_refl 0) dX1_fareDrawn_50
    · have hf := oie hf hc
      refine ev_iload_n C dX1_fareDrawn_17 rfl (q := 3) rfl ?_
      refine ev_aload_n C dX1_fareDrawn_18 rfl (q := 0) rfl ?_
      obtain ⟨x5, e6, hf⟩ := obnd hf
      refine ev_get (k := 0) C ok_2 dX1_fareDrawn_19 (by decide) kw_301 (fR_V e6) ?_
      obtain ⟨x7, e8, hf⟩ := obnd hf
      refine ev_get (k := 0) C ok_5 dX1_fareDrawn_22 (by decide) kw_179 (fR_V e8) ?_
      refine ev_iload C dX1_fareDrawn_25 (q := 4) rfl ?_
      obtain ⟨x9, e10, hf⟩ := obnd hf
      refine ev_aldr C (t := 5) rfl rfl dX1_fareDrawn_27 e10 ?_
      obtain ⟨x11, e12, hf⟩ := obnd hf
      refine ev_get (k := 3) C ok_3 dX1_fareDrawn_28 (by decide) kw_165 (fR_V e12) ?_
      refine ev_iload_n C dX1_fareDrawn_31 rfl (q := 2) rfl ?_
      obtain ⟨x13, e14, hf⟩ := obnd hf
      refine ev_iald C dX1_fareDrawn_32 e14 ?_
      refine ev_iadd C dX1_fareDrawn_33 ?_
      refine ev_istore_n (l' := [(3, .int (i3 + x13)), (0, .ref a0), (1, .int i1), (2, .int i2), (4, .int i4)]) C dX1_fareDrawn_34 rfl (by decide) rfl ?_
      refine ev_iload_n C dX1_fareDrawn_35 rfl (q := 0) rfl ?_
      refine ev_iload_n C dX1_fareDrawn_36 rfl (q := 2) rfl ?_
      refine ev_icmp_le (tgt := 43) C dX1_fareDrawn_37 (by decide) (fun hc => ?_) (fun hc => ?_)
      · have hf := oit hf hc
        refine ev_iinc (v := i4 + 1) (l' := [(4, .int (i4 + 1)), (3, .int (i3 + x13)), (0, .ref a0), (1, .int i1), (2, .int i2)]) C dX1_fareDrawn_43 (q := 4) rfl rfl (by decide) rfl ?_
        refine ev_goto (tgt := 5) C dX1_fareDrawn_46 (by decide) ?_
        refine ev_sub [2, 3, 4, 1, 0] rfl ?_
        exact ih a0 i1 i2 (i3 + x13) (i4 + 1) hf
      · have hf := oie hf hc
        refine ev_iload C dX1_fareDrawn_40 (q := 4) rfl ?_
        obtain rfl := Option.some.inj hf
        exact ev_iret C E (Nat.le_refl 0) (Nat.le_refl 0) dX1_fareDrawn_42
def m_X1_fareDrawn (N : Nat) (a0 : Nat) (i1 : Int32) (i2 : Int32) (M : mM) : Option (Int32) :=
  m_X1_fareDrawn_L5 N M  N a0 i1 i2 0 0
set_option maxHeartbeats 4000000 in
set_option maxRecDepth 100000 in
theorem t_X1_fareDrawn {L0 : Launch} {M : mM} {N : Nat} {a0 : Nat} {i1 : Int32} {i2 : Int32} {res : Int32} (hf : m_X1_fareDrawn N a0 i1 i2 M = some res) : CT L0 yX1_fareDrawn prog_3_method_6_code 5 (some .int) 0 0 0 0 [.ref a0, .int i1, .int i2] M (some (.int res)) M := by
  refine CT.of (by decide +kernel) (Nat.le_of_ble_eq_true rfl) fun X C E => ?_
  have C : CX X RX1 "fareDrawn" prog_3_method_6_code 5 (some .int) := C
  show EV X 5 0 [(0, .ref a0), (1, .int i1), (2, .int i2)] [] 0 0 M
  unfold m_X1_fareDrawn at hf
  refine ev_iconst (v := 0) C dX1_fareDrawn_0 (by decide) ?_
  refine ev_istore_n (l' := [(3, .int 0), (0, .ref a0), (1, .int i1), (2, .int i2)]) C dX1_fareDrawn_1 rfl (by decide) rfl ?_
  refine ev_iconst (v := 0) C dX1_fareDrawn_2 (by decide) ?_
  refine ev_istore (l' := [(4, .int 0), (3, .int 0), (0, .ref a0), (1, .int i1), (2, .int i2)]) C dX1_fareDrawn_3 (by decide) rfl ?_
  refine ev_sub [2, 3, 4, 1, 0] rfl ?_
  exact t_X1_fareDrawn_L5 C E   N a0 i1 i2 0 0 hf
/-! FareLimits$Day draw(II)V -/
theorem dX1_draw_0 : decode prog_3_method_5_code 0 = .ok (.aload_n 0, 1) := by decide +kernel
theorem dX1_draw_1 : decode prog_3_method_5_code 1 = .ok (.invokevirtual 72, 3) := by decide +kernel
theorem dX1_draw_4 : decode prog_3_method_5_code 4 = .ok (.iload_n 1, 1) := by decide +kernel
theorem dX1_draw_5 : decode prog_3_method_5_code 5 = .ok (.istore_n 3, 1) := by decide +kernel
theorem dX1_draw_6 : decode prog_3_method_5_code 6 = .ok (.iload_n 3, 1) := by decide +kernel
theorem dX1_draw_7 : decode prog_3_method_5_code 7 = .ok (.ifCond .le 60, 3) := by decide +kernel
theorem dX1_draw_10 : decode prog_3_method_5_code 10 = .ok (.aload_n 0, 1) := by decide +kernel
theorem dX1_draw_11 : decode prog_3_method_5_code 11 = .ok (.getfield 18, 3) := by decide +kernel
theorem dX1_draw_14 : decode prog_3_method_5_code 14 = .ok (.aload_n 0, 1) := by decide +kernel
theorem dX1_draw_15 : decode prog_3_method_5_code 15 = .ok (.getfield 18, 3) := by decide +kernel
theorem dX1_draw_18 : decode prog_3_method_5_code 18 = .ok (.getfield 75, 3) := by decide +kernel
theorem dX1_draw_21 : decode prog_3_method_5_code 21 = .ok (.ldc 78, 2) := by decide +kernel
theorem dX1_draw_23 : decode prog_3_method_5_code 23 = .ok (.imul, 1) := by decide +kernel
theorem dX1_draw_24 : decode prog_3_method_5_code 24 = .ok (.sipush 12345, 3) := by decide +kernel
theorem dX1_draw_27 : decode prog_3_method_5_code 27 = .ok (.iadd, 1) := by decide +kernel
theorem dX1_draw_28 : decode prog_3_method_5_code 28 = .ok (.putfield 75, 3) := by decide +kernel
theorem dX1_draw_31 : decode prog_3_method_5_code 31 = .ok (.aload_n 0, 1) := by decide +kernel
theorem dX1_draw_32 : decode prog_3_method_5_code 32 = .ok (.aload_n 0, 1) := by decide +kernel
theorem dX1_draw_33 : decode prog_3_method_5_code 33 = .ok (.aload_n 0, 1) := by decide +kernel
theorem dX1_draw_34 : decode prog_3_method_5_code 34 = .ok (.getfield 18, 3) := by decide +kernel
theorem dX1_draw_37 : decode prog_3_method_5_code 37 = .ok (.getfield 75, 3) := by decide +kernel
theorem dX1_draw_40 : decode prog_3_method_5_code 40 = .ok (.bipush 16, 2) := by decide +kernel
theorem dX1_draw_42 : decode prog_3_method_5_code 42 = .ok (.iushr, 1) := by decide +kernel
theorem dX1_draw_43 : decode prog_3_method_5_code 43 = .ok (.bipush 100, 2) := by decide +kernel
theorem dX1_draw_45 : decode prog_3_method_5_code 45 = .ok (.irem, 1) := by decide +kernel
theorem dX1_draw_46 : decode prog_3_method_5_code 46 = .ok (.iload_n 3, 1) := by decide +kernel
theorem dX1_draw_47 : decode prog_3_method_5_code 47 = .ok (.invokestatic 79, 3) := by decide +kernel
theorem dX1_draw_50 : decode prog_3_method_5_code 50 = .ok (.invokevirtual 83, 3) := by decide +kernel
theorem dX1_draw_53 : decode prog_3_method_5_code 53 = .ok (.iload_n 3, 1) := by decide +kernel
theorem dX1_draw_54 : decode prog_3_method_5_code 54 = .ok (.iload_n 1, 1) := by decide +kernel
theorem dX1_draw_55 : decode prog_3_method_5_code 55 = .ok (.iload_n 3, 1) := by decide +kernel
theorem dX1_draw_56 : decode prog_3_method_5_code 56 = .ok (.isub, 1) := by decide +kernel
theorem dX1_draw_57 : decode prog_3_method_5_code 57 = .ok (.iload_n 2, 1) := by decide +kernel
theorem dX1_draw_58 : decode prog_3_method_5_code 58 = .ok (.invokevirtual 87, 3) := by decide +kernel
theorem dX1_draw_61 : decode prog_3_method_5_code 61 = .ok (.iinc 3 (-1), 3) := by decide +kernel
theorem dX1_draw_64 : decode prog_3_method_5_code 64 = .ok (.goto (-58), 3) := by decide +kernel
theorem dX1_draw_67 : decode prog_3_method_5_code 67 = .ok (.return_, 1) := by decide +kernel
def m_X1_draw_L6 (N : Nat)  : Nat → Nat → Int32 → Int32 → Int32 → mM → Option (mM)
  | 0, _, _, _, _, _ => none
  | n + 1, a0, i1, i2, i3, M =>
    if i3 ≤ 0 then (
      some M) else (
      (fR M a0 2 0).bind fun x1 =>
      (fR M a0 2 0).bind fun x3 =>
      (fI M x3 5 4).bind fun x5 =>
      (sV M x1 5 4 (.int ((x5 * 1103515245) + 12345))).bind fun M7 =>
      (fR M7 a0 2 0).bind fun x9 =>
      (fI M7 x9 5 4).bind fun x11 =>
      (m_X11_phaseOf i3).bind fun x13 =>
      (oO M7 a0 2).bind fun _ =>
      (m_X1_fareDrawn N a0 (((x11.toUInt32 >>> ((16 : Int32).toUInt32 &&& Int32.toUInt32 31)).toInt32) - ((x11.toUInt32 >>> ((16 : Int32).toUInt32 &&& Int32.toUInt32 31)).toInt32) / 100 * 100) x13 M7).bind fun x17 =>
      (oO M7 a0 2).bind fun _ =>
      (m_X1_ask N a0 x17 i3 (i1 - i3) i2 M7).bind fun x21 =>
      (m_X1_draw_L6 N  n) a0 i1 i2 (i3 + (-1)) x21)
set_option maxHeartbeats 4000000 in
set_option maxRecDepth 100000 in
theorem t_X1_draw_L6 {X : mX} {L0 : Launch} {res : mM} {N : Nat} (C : CX X RX1 "draw" prog_3_method_5_code 4 none) (E : EX X L0 5 127 0 0 none res)   : ∀ (n : Nat) (a0 : Nat) (i1 : Int32) (i2 : Int32) (i3 : Int32) (M : mM), m_X1_draw_L6 N  n a0 i1 i2 i3 M = some res → EV X 4 6 [(0, .ref a0), (1, .int i1), (2, .int i2), (3, .int i3)] [] 0 0 M := by
  intro n
  induction n with
  | zero => intro a0 i1 i2 i3 M hf; cases (show (none : Option (mM)) = some res from hf)
  | succ n ih =>
    intro a0 i1 i2 i3 M hf
    rw [m_X1_draw_L6] at hf
    refine ev_iload_n C dX1_draw_6 rfl (q := 3) rfl ?_
    refine ev_if_le (tgt := 67) C dX1_draw_7 (by decide) (fun hc => ?_) (fun hc => ?_)
    · have hf := oit hf hc
      obtain rfl := Option.some.inj hf
      exact ev_vret C E (Nat.le_refl 0) (Nat.le_refl 0) dX1_draw_67
    · have hf := oie hf hc
      refine ev_aload_n C dX1_draw_10 rfl (q := 0) rfl ?_
      obtain ⟨x1, e2, hf⟩ := obnd hf
      refine ev_get (k := 0) C ok_2 dX1_draw_11 (by decide) kw_301 (fR_V e2) ?_
      refine ev_aload_n C dX1_draw_14 rfl (q := 0) rfl ?_
      obtain ⟨x3, e4, hf⟩ := obnd hf
      refine ev_get (k := 0) C ok_2 dX1_draw_15 (by decide) kw_301 (fR_V e4) ?_
      obtain ⟨x5, e6, hf⟩ := obnd hf
      refine ev_get (k := 4) C ok_5 dX1_draw_18 (by decide) kw_195 (fI_V e6) ?_
      refine ev_ldc (v := 1103515245) C dX1_draw_21 kw_1058 ?_
      refine ev_imul C dX1_draw_23 ?_
      refine ev_sipush (v := 12345) C dX1_draw_24 (by decide) ?_
      refine ev_iadd C dX1_draw_27 ?_
      obtain ⟨M7, e8, hf⟩ := obnd hf
      refine ev_put (k := 4) C ok_5 dX1_draw_28 (by decide) kw_195 rfl ⟨rfl, rfl⟩ e8 ?_
      refine ev_aload_n C dX1_draw_31 rfl (q := 0) rfl ?_
      refine ev_aload_n C dX1_draw_32 rfl (q := 0) rfl ?_
      refine ev_aload_n C dX1_draw_33 rfl (q := 0) rfl ?_
      obtain ⟨x9, e10, hf⟩ := obnd hf
      refine ev_get (k := 0) C ok_2 dX1_draw_34 (by decide) kw_301 (fR_V e10) ?_
      obtain ⟨x11, e12, hf⟩ := obnd hf
      refine ev_get (k := 4) C ok_5 dX1_draw_37 (by decide) kw_195 (fI_V e12) ?_
      refine ev_bipush (v := 16) C dX1_draw_40 (by decide) ?_
      refine ev_iushr C dX1_draw_42 ?_
      refine ev_bipush (v := 100) C dX1_draw_43 (by decide) ?_
      refine ev_irem C dX1_draw_45 (by decide) ?_
      refine ev_iload_n C dX1_draw_46 rfl (q := 3) rfl ?_
      obtain ⟨x13, e14, hf⟩ := obnd hf
      refine ev_callSN0 (As := [.int i3]) (st := [.int (((x11.toUInt32 >>> ((16 : Int32).toUInt32 &&& Int32.toUInt32 31)).toInt32) - ((x11.toUInt32 >>> ((16 : Int32).toUInt32 &&& Int32.toUInt32 31)).toInt32) / 100 * 100), .ref a0, .ref a0]) C (t_X11_phaseOf e14) hd_X11_phaseOf rfl C.K.2.2.1.2.2.2.2.2.2.2.2.1 kw_522 kw_70 kw_523 (mRoom.of E (Nat.le_of_ble_eq_true rfl) (Nat.le_of_ble_eq_true rfl) (Nat.le_refl 0) (Nat.le_refl 0)) (Nat.le_of_ble_eq_true rfl) dX1_draw_47 ?_
      obtain ⟨_, e15, hf⟩ := obnd hf
      obtain ⟨fs16, e15⟩ := oO_eq e15
      obtain ⟨x17, e18, hf⟩ := obnd hf
      refine ev_callV0 (As := [.int (((x11.toUInt32 >>> ((16 : Int32).toUInt32 &&& Int32.toUInt32 31)).toInt32) - ((x11.toUInt32 >>> ((16 : Int32).toUInt32 &&& Int32.toUInt32 31)).toInt32) / 100 * 100), .int x13]) (st := [.ref a0]) C rfl e15 (t_X1_fareDrawn e18) rfl hd_X1_fareDrawn rfl kw_1060 kw_1062 kw_80 kw_19 kw_1063 (mRoom.of E (Nat.le_of_ble_eq_true rfl) (Nat.le_of_ble_eq_true rfl) (Nat.le_refl 0) (Nat.le_refl 0)) (Nat.le_of_ble_eq_true rfl) dX1_draw_50 ?_
      refine ev_iload_n C dX1_draw_53 rfl (q := 3) rfl ?_
      refine ev_iload_n C dX1_draw_54 rfl (q := 1) rfl ?_
      refine ev_iload_n C dX1_draw_55 rfl (q := 3) rfl ?_
      refine ev_isub C dX1_draw_56 ?_
      refine ev_iload_n C dX1_draw_57 rfl (q := 2) rfl ?_
      obtain ⟨_, e19, hf⟩ := obnd hf
      obtain ⟨fs20, e19⟩ := oO_eq e19
      obtain ⟨x21, e22, hf⟩ := obnd hf
      refine ev_callV0 (As := [.int x17, .int i3, .int (i1 - i3), .int i2]) (st := []) C rfl e19 (t_X1_ask e22) rfl hd_X1_ask rfl kw_1064 kw_1032 kw_80 kw_1033 kw_1034 (mRoom.of E (Nat.le_of_ble_eq_true rfl) (Nat.le_of_ble_eq_true rfl) (Nat.le_refl 0) (Nat.le_refl 0)) (Nat.le_of_ble_eq_true rfl) dX1_draw_58 ?_
      refine ev_iinc (v := i3 + (-1)) (l' := [(3, .int (i3 + (-1))), (0, .ref a0), (1, .int i1), (2, .int i2)]) C dX1_draw_61 (q := 3) rfl rfl (by decide) rfl ?_
      refine ev_goto (tgt := 6) C dX1_draw_64 (by decide) ?_
      refine ev_sub [1, 2, 3, 0] rfl ?_
      exact ih a0 i1 i2 (i3 + (-1)) x21 hf
def m_X1_draw (N : Nat) (a0 : Nat) (i1 : Int32) (i2 : Int32) (M : mM) : Option (mM) :=
  (oO M a0 2).bind fun _ =>
  (m_X1_begin a0 M).bind fun x3 =>
  m_X1_draw_L6 N  N a0 i1 i2 i1 x3
set_option maxHeartbeats 4000000 in
set_option maxRecDepth 100000 in
theorem t_X1_draw {L0 : Launch} {M : mM} {N : Nat} {a0 : Nat} {i1 : Int32} {i2 : Int32} {res : mM} (hf : m_X1_draw N a0 i1 i2 M = some res) : CT L0 yX1_draw prog_3_method_5_code 4 none 5 127 0 0 [.ref a0, .int i1, .int i2] M none res := by
  refine CT.of (by decide +kernel) (Nat.le_of_ble_eq_true rfl) fun X C E => ?_
  have C : CX X RX1 "draw" prog_3_method_5_code 4 none := C
  show EV X 4 0 [(0, .ref a0), (1, .int i1), (2, .int i2)] [] 0 0 M
  unfold m_X1_draw at hf
  refine ev_aload_n C dX1_draw_0 rfl (q := 0) rfl ?_
  obtain ⟨_, e1, hf⟩ := obnd hf
  obtain ⟨fs2, e1⟩ := oO_eq e1
  obtain ⟨x3, e4, hf⟩ := obnd hf
  refine ev_callV0 (As := []) (st := []) C rfl e1 (t_X1_begin e4) rfl hd_X1_begin rfl kw_1057 kw_1027 kw_80 kw_1028 kw_1029 (mRoom.of E (Nat.le_of_ble_eq_true rfl) (Nat.le_of_ble_eq_true rfl) (Nat.le_refl 0) (Nat.le_refl 0)) (Nat.le_of_ble_eq_true rfl) dX1_draw_1 ?_
  refine ev_iload_n C dX1_draw_4 rfl (q := 1) rfl ?_
  refine ev_istore_n (l' := [(3, .int i1), (0, .ref a0), (1, .int i1), (2, .int i2)]) C dX1_draw_5 rfl (by decide) rfl ?_
  refine ev_sub [1, 2, 3, 0] rfl ?_
  exact t_X1_draw_L6 C E   N a0 i1 i2 i1 x3 hf
/-! FareLimits drawn(IIII)I -/
theorem dX11_drawn_0 : decode prog_1_method_37_code 0 = .ok (.iload_n 3, 1) := by decide +kernel
theorem dX11_drawn_1 : decode prog_1_method_37_code 1 = .ok (.iconst 1, 1) := by decide +kernel
theorem dX11_drawn_2 : decode prog_1_method_37_code 2 = .ok (.invokestatic 91, 3) := by decide +kernel
theorem dX11_drawn_5 : decode prog_1_method_37_code 5 = .ok (.ifCond .eq 12, 3) := by decide +kernel
theorem dX11_drawn_8 : decode prog_1_method_37_code 8 = .ok (.iload 4, 2) := by decide +kernel
theorem dX11_drawn_10 : decode prog_1_method_37_code 10 = .ok (.iconst 3, 1) := by decide +kernel
theorem dX11_drawn_11 : decode prog_1_method_37_code 11 = .ok (.invokestatic 91, 3) := by decide +kernel
theorem dX11_drawn_14 : decode prog_1_method_37_code 14 = .ok (.ifCond .ne 5, 3) := by decide +kernel
theorem dX11_drawn_17 : decode prog_1_method_37_code 17 = .ok (.iconst (-1), 1) := by decide +kernel
theorem dX11_drawn_18 : decode prog_1_method_37_code 18 = .ok (.ireturn, 1) := by decide +kernel
theorem dX11_drawn_19 : decode prog_1_method_37_code 19 = .ok (.iload_n 1, 1) := by decide +kernel
theorem dX11_drawn_20 : decode prog_1_method_37_code 20 = .ok (.iconst 1, 1) := by decide +kernel
theorem dX11_drawn_21 : decode prog_1_method_37_code 21 = .ok (.if_icmp .lt 16, 3) := by decide +kernel
theorem dX11_drawn_24 : decode prog_1_method_37_code 24 = .ok (.iload_n 1, 1) := by decide +kernel
theorem dX11_drawn_25 : decode prog_1_method_37_code 25 = .ok (.bipush 20, 2) := by decide +kernel
theorem dX11_drawn_27 : decode prog_1_method_37_code 27 = .ok (.if_icmp .gt 10, 3) := by decide +kernel
theorem dX11_drawn_30 : decode prog_1_method_37_code 30 = .ok (.iload_n 2, 1) := by decide +kernel
theorem dX11_drawn_31 : decode prog_1_method_37_code 31 = .ok (.invokestatic 170, 3) := by decide +kernel
theorem dX11_drawn_34 : decode prog_1_method_37_code 34 = .ok (.ifCond .ne 6, 3) := by decide +kernel
theorem dX11_drawn_37 : decode prog_1_method_37_code 37 = .ok (.bipush (-2), 2) := by decide +kernel
theorem dX11_drawn_39 : decode prog_1_method_37_code 39 = .ok (.ireturn, 1) := by decide +kernel
theorem dX11_drawn_40 : decode prog_1_method_37_code 40 = .ok (.iconst 0, 1) := by decide +kernel
theorem dX11_drawn_41 : decode prog_1_method_37_code 41 = .ok (.istore 5, 2) := by decide +kernel
theorem dX11_drawn_43 : decode prog_1_method_37_code 43 = .ok (.iconst 0, 1) := by decide +kernel
theorem dX11_drawn_44 : decode prog_1_method_37_code 44 = .ok (.istore 6, 2) := by decide +kernel
theorem dX11_drawn_46 : decode prog_1_method_37_code 46 = .ok (.iconst 0, 1) := by decide +kernel
theorem dX11_drawn_47 : decode prog_1_method_37_code 47 = .ok (.istore 7, 2) := by decide +kernel
theorem dX11_drawn_49 : decode prog_1_method_37_code 49 = .ok (.iconst 0, 1) := by decide +kernel
theorem dX11_drawn_50 : decode prog_1_method_37_code 50 = .ok (.istore 8, 2) := by decide +kernel
theorem dX11_drawn_52 : decode prog_1_method_37_code 52 = .ok (.iconst 0, 1) := by decide +kernel
theorem dX11_drawn_53 : decode prog_1_method_37_code 53 = .ok (.istore 9, 2) := by decide +kernel
theorem dX11_drawn_55 : decode prog_1_method_37_code 55 = .ok (.iload 9, 2) := by decide +kernel
theorem dX11_drawn_57 : decode prog_1_method_37_code 57 = .ok (.iload_n 1, 1) := by decide +kernel
theorem dX11_drawn_58 : decode prog_1_method_37_code 58 = .ok (.if_icmp .ge 74, 3) := by decide +kernel
theorem dX11_drawn_61 : decode prog_1_method_37_code 61 = .ok (.aload_n 0, 1) := by decide +kernel
theorem dX11_drawn_62 : decode prog_1_method_37_code 62 = .ok (.getfield 54, 3) := by decide +kernel
theorem dX11_drawn_65 : decode prog_1_method_37_code 65 = .ok (.iload_n 2, 1) := by decide +kernel
theorem dX11_drawn_66 : decode prog_1_method_37_code 66 = .ok (.iload_n 3, 1) := by decide +kernel
theorem dX11_drawn_67 : decode prog_1_method_37_code 67 = .ok (.invokevirtual 321, 3) := by decide +kernel
theorem dX11_drawn_70 : decode prog_1_method_37_code 70 = .ok (.iload 5, 2) := by decide +kernel
theorem dX11_drawn_72 : decode prog_1_method_37_code 72 = .ok (.aload_n 0, 1) := by decide +kernel
theorem dX11_drawn_73 : decode prog_1_method_37_code 73 = .ok (.getfield 54, 3) := by decide +kernel
theorem dX11_drawn_76 : decode prog_1_method_37_code 76 = .ok (.getfield 308, 3) := by decide +kernel
theorem dX11_drawn_79 : decode prog_1_method_37_code 79 = .ok (.iadd, 1) := by decide +kernel
theorem dX11_drawn_80 : decode prog_1_method_37_code 80 = .ok (.istore 5, 2) := by decide +kernel
theorem dX11_drawn_82 : decode prog_1_method_37_code 82 = .ok (.iload 6, 2) := by decide +kernel
theorem dX11_drawn_84 : decode prog_1_method_37_code 84 = .ok (.aload_n 0, 1) := by decide +kernel
theorem dX11_drawn_85 : decode prog_1_method_37_code 85 = .ok (.getfield 54, 3) := by decide +kernel
theorem dX11_drawn_88 : decode prog_1_method_37_code 88 = .ok (.getfield 325, 3) := by decide +kernel
theorem dX11_drawn_91 : decode prog_1_method_37_code 91 = .ok (.iadd, 1) := by decide +kernel
theorem dX11_drawn_92 : decode prog_1_method_37_code 92 = .ok (.istore 6, 2) := by decide +kernel
theorem dX11_drawn_94 : decode prog_1_method_37_code 94 = .ok (.iload 7, 2) := by decide +kernel
theorem dX11_drawn_96 : decode prog_1_method_37_code 96 = .ok (.aload_n 0, 1) := by decide +kernel
theorem dX11_drawn_97 : decode prog_1_method_37_code 97 = .ok (.getfield 54, 3) := by decide +kernel
theorem dX11_drawn_100 : decode prog_1_method_37_code 100 = .ok (.getfield 311, 3) := by decide +kernel
theorem dX11_drawn_103 : decode prog_1_method_37_code 103 = .ok (.iadd, 1) := by decide +kernel
theorem dX11_drawn_104 : decode prog_1_method_37_code 104 = .ok (.istore 7, 2) := by decide +kernel
theorem dX11_drawn_106 : decode prog_1_method_37_code 106 = .ok (.iload 8, 2) := by decide +kernel
theorem dX11_drawn_108 : decode prog_1_method_37_code 108 = .ok (.aload_n 0, 1) := by decide +kernel
theorem dX11_drawn_109 : decode prog_1_method_37_code 109 = .ok (.getfield 54, 3) := by decide +kernel
theorem dX11_drawn_112 : decode prog_1_method_37_code 112 = .ok (.getfield 312, 3) := by decide +kernel
theorem dX11_drawn_115 : decode prog_1_method_37_code 115 = .ok (.ifCond .ne 7, 3) := by decide +kernel
theorem dX11_drawn_118 : decode prog_1_method_37_code 118 = .ok (.iconst 1, 1) := by decide +kernel
theorem dX11_drawn_119 : decode prog_1_method_37_code 119 = .ok (.goto 4, 3) := by decide +kernel
theorem dX11_drawn_122 : decode prog_1_method_37_code 122 = .ok (.iconst 0, 1) := by decide +kernel
theorem dX11_drawn_123 : decode prog_1_method_37_code 123 = .ok (.iadd, 1) := by decide +kernel
theorem dX11_drawn_124 : decode prog_1_method_37_code 124 = .ok (.istore 8, 2) := by decide +kernel
theorem dX11_drawn_126 : decode prog_1_method_37_code 126 = .ok (.iinc 9 1, 3) := by decide +kernel
theorem dX11_drawn_129 : decode prog_1_method_37_code 129 = .ok (.goto (-74), 3) := by decide +kernel
theorem dX11_drawn_132 : decode prog_1_method_37_code 132 = .ok (.iload 4, 2) := by decide +kernel
theorem dX11_drawn_134 : decode prog_1_method_37_code 134 = .ok (.tableswitch 35 0 2 #[26, 29, 32], 26) := by decide +kernel
theorem dX11_drawn_160 : decode prog_1_method_37_code 160 = .ok (.iload 5, 2) := by decide +kernel
theorem dX11_drawn_162 : decode prog_1_method_37_code 162 = .ok (.ireturn, 1) := by decide +kernel
theorem dX11_drawn_163 : decode prog_1_method_37_code 163 = .ok (.iload 6, 2) := by decide +kernel
theorem dX11_drawn_165 : decode prog_1_method_37_code 165 = .ok (.ireturn, 1) := by decide +kernel
theorem dX11_drawn_166 : decode prog_1_method_37_code 166 = .ok (.iload 7, 2) := by decide +kernel
theorem dX11_drawn_168 : decode prog_1_method_37_code 168 = .ok (.ireturn, 1) := by decide +kernel
theorem dX11_drawn_169 : decode prog_1_method_37_code 169 = .ok (.iload 8, 2) := by decide +kernel
theorem dX11_drawn_171 : decode prog_1_method_37_code 171 = .ok (.ireturn, 1) := by decide +kernel
def m_X11_drawn_J123 (N : Nat) (k55 : Nat → Int32 → Int32 → Int32 → Int32 → Int32 → Int32 → Int32 → Int32 → Int32 → mM → Option (Int32 × mM)) (a0 : Nat) (i1 : Int32) (i2 : Int32) (i3 : Int32) (i4 : Int32) (i5 : Int32) (i6 : Int32) (i7 : Int32) (i9 : Int32) (si0 : Int32) (si1 : Int32) (M : mM) : Option (Int32 × mM) :=
  k55 a0 i1 i2 i3 i4 i5 i6 i7 (si0 + si1) (i9 + 1) M
set_option maxHeartbeats 4000000 in
set_option maxRecDepth 100000 in
theorem t_X11_drawn_J123 {X : mX} {L0 : Launch} {res : Int32 × mM} {N : Nat} (C : CX X RX11 "drawn" prog_1_method_37_code 10 (some .int)) (E : EX X L0 6 150 0 0 (some (.int res.1)) res.2) (k55 : Nat → Int32 → Int32 → Int32 → Int32 → Int32 → Int32 → Int32 → Int32 → Int32 → mM → Option (Int32 × mM)) (Hk55 : ∀ (a0 : Nat) (i1 : Int32) (i2 : Int32) (i3 : Int32) (i4 : Int32) (i5 : Int32) (i6 : Int32) (i7 : Int32) (i8 : Int32) (i9 : Int32) (M : mM), k55 a0 i1 i2 i3 i4 i5 i6 i7 i8 i9 M = some res → EV X 10 55 [(0, .ref a0), (1, .int i1), (2, .int i2), (3, .int i3), (4, .int i4), (5, .int i5), (6, .int i6), (7, .int i7), (8, .int i8), (9, .int i9)] [] 0 0 M) (a0 : Nat) (i1 : Int32) (i2 : Int32) (i3 : Int32) (i4 : Int32) (i5 : Int32) (i6 : Int32) (i7 : Int32) (i9 : Int32) (si0 : Int32) (si1 : Int32) (M : mM) (hf : m_X11_drawn_J123 N k55 a0 i1 i2 i3 i4 i5 i6 i7 i9 si0 si1 M = some res) : EV X 10 123 [(0, .ref a0), (1, .int i1), (2, .int i2), (3, .int i3), (4, .int i4), (5, .int i5), (6, .int i6), (7, .int i7), (9, .int i9)] [.int si1, .int si0] 0 0 M := by
  unfold m_X11_drawn_J123 at hf
  refine ev_iadd C dX11_drawn_123 ?_
  refine ev_istore (l' := [(8, .int (si0 + si1)), (0, .ref a0), (1, .int i1), (2, .int i2), (3, .int i3), (4, .int i4), (5, .int i5), (6, .int i6), (7, .int i7), (9, .int i9)]) C dX11_drawn_124 (by decide) rfl ?_
  refine ev_iinc (v := i9 + 1) (l' := [(9, .int (i9 + 1)), (8, .int (si0 + si1)), (0, .ref a0), (1, .int i1), (2, .int i2), (3, .int i3), (4, .int i4), (5, .int i5), (6, .int i6), (7, .int i7)]) C dX11_drawn_126 (q := 9) rfl rfl (by decide) rfl ?_
  refine ev_goto (tgt := 55) C dX11_drawn_129 (by decide) ?_
  refine ev_sub [2, 3, 4, 5, 6, 7, 8, 9, 1, 0] rfl ?_
  exact Hk55 a0 i1 i2 i3 i4 i5 i6 i7 (si0 + si1) (i9 + 1) M hf
def m_X11_drawn_L55 (N : Nat)  : Nat → Nat → Int32 → Int32 → Int32 → Int32 → Int32 → Int32 → Int32 → Int32 → Int32 → mM → Option (Int32 × mM)
  | 0, _, _, _, _, _, _, _, _, _, _, _ => none
  | n + 1, a0, i1, i2, i3, i4, i5, i6, i7, i8, i9, M =>
    if i1 ≤ i9 then (
      if i4 = 0 then (
        some (i5, M)) else (
        if i4 = 1 then (
          some (i6, M)) else (
          if i4 = 2 then (
            some (i7, M)) else (
            some (i8, M))))) else (
      (fR M a0 11 7).bind fun x1 =>
      (oO M x1 2).bind fun _ =>
      (m_X1_draw N x1 i2 i3 M).bind fun x5 =>
      (fR x5 a0 11 7).bind fun x7 =>
      (fI x5 x7 2 7).bind fun x9 =>
      (fR x5 a0 11 7).bind fun x11 =>
      (fI x5 x11 2 5).bind fun x13 =>
      (fR x5 a0 11 7).bind fun x15 =>
      (fI x5 x15 2 6).bind fun x17 =>
      (fR x5 a0 11 7).bind fun x19 =>
      (fI x5 x19 2 4).bind fun x21 =>
      if x21 = 0 then (
        m_X11_drawn_J123 N (m_X11_drawn_L55 N  n) a0 i1 i2 i3 i4 (i5 + x9) (i6 + x13) (i7 + x17) i9 i8 1 x5) else (
        m_X11_drawn_J123 N (m_X11_drawn_L55 N  n) a0 i1 i2 i3 i4 (i5 + x9) (i6 + x13) (i7 + x17) i9 i8 0 x5))
set_option maxHeartbeats 4000000 in
set_option maxRecDepth 100000 in
theorem t_X11_drawn_L55 {X : mX} {L0 : Launch} {res : Int32 × mM} {N : Nat} (C : CX X RX11 "drawn" prog_1_method_37_code 10 (some .int)) (E : EX X L0 6 150 0 0 (some (.int res.1)) res.2)   : ∀ (n : Nat) (a0 : Nat) (i1 : Int32) (i2 : Int32) (i3 : Int32) (i4 : Int32) (i5 : Int32) (i6 : Int32) (i7 : Int32) (i8 : Int32) (i9 : Int32) (M : mM), m_X11_drawn_L55 N  n a0 i1 i2 i3 i4 i5 i6 i7 i8 i9 M = some res → EV X 10 55 [(0, .ref a0), (1, .int i1), (2, .int i2), (3, .int i3), (4, .int i4), (5, .int i5), (6, .int i6), (7, .int i7), (8, .int i8), (9, .int i9)] [] 0 0 M := by
  intro n
  induction n with
  | zero => intro a0 i1 i2 i3 i4 i5 i6 i7 i8 i9 M hf; cases (show (none : Option (Int32 × mM)) = some res from hf)
  | succ n ih =>
    intro a0 i1 i2 i3 i4 i5 i6 i7 i8 i9 M hf
    rw [m_X11_drawn_L55] at hf
    refine ev_iload C dX11_drawn_55 (q := 9) rfl ?_
    refine ev_iload_n C dX11_drawn_57 rfl (q := 1) rfl ?_
    refine ev_icmp_ge (tgt := 132) C dX11_drawn_58 (by decide) (fun hc => ?_) (fun hc => ?_)
    · have hf := oit hf hc
      refine ev_iload C dX11_drawn_132 (q := 4) rfl ?_
      by_cases h0 : i4 = 0
      · have hf := oit hf h0
        refine ev_tableIn (off := 26) (tgt := 160) C dX11_drawn_134 (by rw [h0]; decide) (by rw [h0]; decide) (by rw [h0]; rfl) (by decide) ?_
        refine ev_iload C dX11_drawn_160 (q := 5) rfl ?_
        obtain rfl := Option.some.inj hf
        exact ev_iret C E (Nat.le_refl 0) (Nat.le_refl 0) dX11_drawn_162
      · have hf := oie hf h0
        by_cases h1 : i4 = 1
        · have hf := oit hf h1
          refine ev_tableIn (off := 29) (tgt := 163) C dX11_drawn_134 (by rw [h1]; decide) (by rw [h1]; decide) (by rw [h1]; rfl) (by decide) ?_
          refine ev_iload C dX11_drawn_163 (q := 6) rfl ?_
          obtain rfl := Option.some.inj hf
          exact ev_iret C E (Nat.le_refl 0) (Nat.le_refl 0) dX11_drawn_165
        · have hf := oie hf h1
          by_cases h2 : i4 = 2
          · have hf := oit hf h2
            refine ev_tableIn (off := 32) (tgt := 166) C dX11_drawn_134 (by rw [h2]; decide) (by rw [h2]; decide) (by rw [h2]; rfl) (by decide) ?_
            refine ev_iload C dX11_drawn_166 (q := 7) rfl ?_
            obtain rfl := Option.some.inj hf
            exact ev_iret C E (Nat.le_refl 0) (Nat.le_refl 0) dX11_drawn_168
          · have hf := oie hf h2
            refine ev_tableOut (tgt := 169) C dX11_drawn_134 (tab_out (lo := 0) (n := 3) (lt_s (lt_s (lt_s lt_0 h0) h1) h2) (by decide) (by decide)) (by decide) ?_
            refine ev_iload C dX11_drawn_169 (q := 8) rfl ?_
            obtain rfl := Option.some.inj hf
            exact ev_iret C E (Nat.le_refl 0) (Nat.le_refl 0) dX11_drawn_171
    · have hf := oie hf hc
      refine ev_aload_n C dX11_drawn_61 rfl (q := 0) rfl ?_
      obtain ⟨x1, e2, hf⟩ := obnd hf
      refine ev_get (k := 7) C ok_11 dX11_drawn_62 (by decide) kw_399 (fR_V e2) ?_
      refine ev_iload_n C dX11_drawn_65 rfl (q := 2) rfl ?_
      refine ev_iload_n C dX11_drawn_66 rfl (q := 3) rfl ?_
      obtain ⟨_, e3, hf⟩ := obnd hf
      obtain ⟨fs4, e3⟩ := oO_eq e3
      obtain ⟨x5, e6, hf⟩ := obnd hf
      refine ev_callV0 (As := [.int i2, .int i3]) (st := []) C rfl e3 (t_X1_draw e6) rfl hd_X1_draw rfl kw_1053 kw_1054 kw_80 kw_1055 kw_1056 (mRoom.of E (Nat.le_of_ble_eq_true rfl) (Nat.le_of_ble_eq_true rfl) (Nat.le_refl 0) (Nat.le_refl 0)) (Nat.le_of_ble_eq_true rfl) dX11_drawn_67 ?_
      refine ev_iload C dX11_drawn_70 (q := 5) rfl ?_
      refine ev_aload_n C dX11_drawn_72 rfl (q := 0) rfl ?_
      obtain ⟨x7, e8, hf⟩ := obnd hf
      refine ev_get (k := 7) C ok_11 dX11_drawn_73 (by decide) kw_399 (fR_V e8) ?_
      obtain ⟨x9, e10, hf⟩ := obnd hf
      refine ev_get (k := 7) C ok_2 dX11_drawn_76 (by decide) kw_312 (fI_V e10) ?_
      refine ev_iadd C dX11_drawn_79 ?_
      refine ev_istore (l' := [(5, .int (i5 + x9)), (0, .ref a0), (1, .int i1), (2, .int i2), (3, .int i3), (4, .int i4), (6, .int i6), (7, .int i7), (8, .int i8), (9, .int i9)]) C dX11_drawn_80 (by decide) rfl ?_
      refine ev_iload C dX11_drawn_82 (q := 6) rfl ?_
      refine ev_aload_n C dX11_drawn_84 rfl (q := 1) rfl ?_
      obtain ⟨x11, e12, hf⟩ := obnd hf
      refine ev_get (k := 7) C ok_11 dX11_drawn_85 (by decide) kw_399 (fR_V e12) ?_
      obtain ⟨x13, e14, hf⟩ := obnd hf
      refine ev_get (k := 5) C ok_2 dX11_drawn_88 (by decide) kw_308 (fI_V e14) ?_
      refine ev_iadd C dX11_drawn_91 ?_
      refine ev_istore (l' := [(6, .int (i6 + x13)), (5, .int (i5 + x9)), (0, .ref a0), (1, .int i1), (2, .int i2), (3, .int i3), (4, .int i4), (7, .int i7), (8, .int i8), (9, .int i9)]) C dX11_drawn_92 (by decide) rfl ?_
      refine ev_iload C dX11_drawn_94 (q := 7) rfl ?_
      refine ev_aload_n C dX11_drawn_96 rfl (q := 2) rfl ?_
      obtain ⟨x15, e16, hf⟩ := obnd hf
      refine ev_get (k := 7) C ok_11 dX11_drawn_97 (by decide) kw_399 (fR_V e16) ?_
      obtain ⟨x17, e18, hf⟩ := obnd hf
      refine ev_get (k := 6) C ok_2 dX11_drawn_100 (by decide) kw_310 (fI_V e18) ?_
      refine ev_iadd C dX11_drawn_103 ?_
      refine ev_istore (l' := [(7, .int (i7 + x17)), (6, .int (i6 + x13)), (5, .int (i5 + x9)), (0, .ref a0), (1, .int i1), (2, .int i2), (3, .int i3), (4, .int i4), (8, .int i8), (9, .int i9)]) C dX11_drawn_104 (by decide) rfl ?_
      refine ev_iload C dX11_drawn_106 (q := 8) rfl ?_
      refine ev_aload_n C dX11_drawn_108 rfl (q := 3) rfl ?_
      obtain ⟨x19, e20, hf⟩ := obnd hf
      refine ev_get (k := 7) C ok_11 dX11_drawn_109 (by decide) kw_399 (fR_V e20) ?_
      obtain ⟨x21, e22, hf⟩ := obnd hf
      refine ev_get (k := 4) C ok_2 dX11_drawn_112 (by decide) kw_306 (fI_V e22) ?_
      refine ev_if_ne (tgt := 122) C dX11_drawn_115 (by decide) (fun hc => ?_) (fun hc => ?_)
      · have hf := oie hf hc
        refine ev_iconst (v := 0) C dX11_drawn_122 (by decide) ?_
        refine ev_sub [3, 4, 5, 6, 7, 2, 1, 0, 9] rfl ?_
        exact t_X11_drawn_J123 C E (m_X11_drawn_L55 N  n) ih a0 i1 i2 i3 i4 (i5 + x9) (i6 + x13) (i7 + x17) i9 i8 0 x5 hf
      · have hf := oit hf hc
        refine ev_iconst (v := 1) C dX11_drawn_118 (by decide) ?_
        refine ev_goto (tgt := 123) C dX11_drawn_119 (by decide) ?_
        refine ev_sub [3, 4, 5, 6, 7, 2, 1, 0, 9] rfl ?_
        exact t_X11_drawn_J123 C E (m_X11_drawn_L55 N  n) ih a0 i1 i2 i3 i4 (i5 + x9) (i6 + x13) (i7 + x17) i9 i8 1 x5 hf
def m_X11_drawn (N : Nat) (a0 : Nat) (i1 : Int32) (i2 : Int32) (i3 : Int32) (i4 : Int32) (M : mM) : Option (Int32 × mM) :=
  (m_X11_within i3 1).bind fun x1 =>
  if x1 = 0 then (
    some ((-1), M)) else (
    (m_X11_within i4 3).bind fun x3 =>
    if x3 = 0 then (
      some ((-1), M)) else (
      if i1 < 1 then (
        some ((-2), M)) else (
        if 20 < i1 then (
          some ((-2), M)) else (
          (m_X11_isStage i2).bind fun x5 =>
          if x5 = 0 then (
            some ((-2), M)) else (
            m_X11_drawn_L55 N  N a0 i1 i2 i3 i4 0 0 0 0 0 M)))))
set_option maxHeartbeats 4000000 in
set_option maxRecDepth 100000 in
theorem t_X11_drawn {L0 : Launch} {M : mM} {N : Nat} {a0 : Nat} {i1 : Int32} {i2 : Int32} {i3 : Int32} {i4 : Int32} {res : Int32 × mM} (hf : m_X11_drawn N a0 i1 i2 i3 i4 M = some res) : CT L0 yX11_drawn prog_1_method_37_code 10 (some .int) 6 150 0 0 [.ref a0, .int i1, .int i2, .int i3, .int i4] M (some (.int res.1)) res.2 := by
  refine CT.of (by decide +kernel) (Nat.le_of_ble_eq_true rfl) fun X C E => ?_
  have C : CX X RX11 "drawn" prog_1_method_37_code 10 (some .int) := C
  show EV X 10 0 [(0, .ref a0), (1, .int i1), (2, .int i2), (3, .int i3), (4, .int i4)] [] 0 0 M
  unfold m_X11_drawn at hf
  refine ev_iload_n C dX11_drawn_0 rfl (q := 3) rfl ?_
  refine ev_iconst (v := 1) C dX11_drawn_1 (by decide) ?_
  obtain ⟨x1, e2, hf⟩ := obnd hf
  refine ev_callS0 (As := [.int i3, .int 1]) (st := []) C (t_X11_within e2) hd_X11_within rfl kw_435 kw_436 kw_70 kw_437 (mRoom.of E (Nat.le_of_ble_eq_true rfl) (Nat.le_of_ble_eq_true rfl) (Nat.le_refl 0) (Nat.le_refl 0)) (Nat.le_of_ble_eq_true rfl) dX11_drawn_2 ?_
  refine ev_if_eq (tgt := 17) C dX11_drawn_5 (by decide) (fun hc => ?_) (fun hc => ?_)
  · have hf := oit hf hc
    refine ev_iconst (v := (-1)) C dX11_drawn_17 (by decide) ?_
    obtain rfl := Option.some.inj hf
    exact ev_iret C E (Nat.le_refl 0) (Nat.le_refl 0) dX11_drawn_18
  · have hf := oie hf hc
    refine ev_iload C dX11_drawn_8 (q := 4) rfl ?_
    refine ev_iconst (v := 3) C dX11_drawn_10 (by decide) ?_
    obtain ⟨x3, e4, hf⟩ := obnd hf
    refine ev_callS0 (As := [.int i4, .int 3]) (st := []) C (t_X11_within e4) hd_X11_within rfl kw_435 kw_436 kw_70 kw_437 (mRoom.of E (Nat.le_of_ble_eq_true rfl) (Nat.le_of_ble_eq_true rfl) (Nat.le_refl 0) (Nat.le_refl 0)) (Nat.le_of_ble_eq_true rfl) dX11_drawn_11 ?_
    refine ev_if_ne (tgt := 19) C dX11_drawn_14 (by decide) (fun hc => ?_) (fun hc => ?_)
    · have hf := oie hf hc
      refine ev_iload_n C dX11_drawn_19 rfl (q := 1) rfl ?_
      refine ev_iconst (v := 1) C dX11_drawn_20 (by decide) ?_
      refine ev_icmp_lt (tgt := 37) C dX11_drawn_21 (by decide) (fun hc => ?_) (fun hc => ?_)
      · have hf := oit hf hc
        refine ev_bipush (v := (-2)) C dX11_drawn_37 (by decide) ?_
        obtain rfl := Option.some.inj hf
        exact ev_iret C E (Nat.le_refl 0) (Nat.le_refl 0) dX11_drawn_39
      · have hf := oie hf hc
        refine ev_iload_n C dX11_drawn_24 rfl (q := 1) rfl ?_
        refine ev_bipush (v := 20) C dX11_drawn_25 (by decide) ?_
        refine ev_icmp_gt (tgt := 37) C dX11_drawn_27 (by decide) (fun hc => ?_) (fun hc => ?_)
        · have hf := oit hf hc
          refine ev_bipush (v := (-2)) C dX11_drawn_37 (by decide) ?_
          obtain rfl := Option.some.inj hf
          exact ev_iret C E (Nat.le_refl 0) (Nat.le_refl 0) dX11_drawn_39
        · have hf := oie hf hc
          refine ev_iload_n C dX11_drawn_30 rfl (q := 2) rfl ?_
          obtain ⟨x5, e6, hf⟩ := obnd hf
          refine ev_callS0 (As := [.int i2]) (st := []) C (t_X11_isStage e6) hd_X11_isStage rfl kw_572 kw_573 kw_70 kw_574 (mRoom.of E (Nat.le_of_ble_eq_true rfl) (Nat.le_of_ble_eq_true rfl) (Nat.le_refl 0) (Nat.le_refl 0)) (Nat.le_of_ble_eq_true rfl) dX11_drawn_31 ?_
          refine ev_if_ne (tgt := 40) C dX11_drawn_34 (by decide) (fun hc => ?_) (fun hc => ?_)
          · have hf := oie hf hc
            refine ev_iconst (v := 0) C dX11_drawn_40 (by decide) ?_
            refine ev_istore (l' := [(5, .int 0), (0, .ref a0), (1, .int i1), (2, .int i2), (3, .int i3), (4, .int i4)]) C dX11_drawn_41 (by decide) rfl ?_
            refine ev_iconst (v := 0) C dX11_drawn_43 (by decide) ?_
            refine ev_istore (l' := [(6, .int 0), (5, .int 0), (0, .ref a0), (1, .int i1), (2, .int i2), (3, .int i3), (4, .int i4)]) C dX11_drawn_44 (by decide) rfl ?_
            refine ev_iconst (v := 0) C dX11_drawn_46 (by decide) ?_
            refine ev_istore (l' := [(7, .int 0), (6, .int 0), (5, .int 0), (0, .ref a0), (1, .int i1), (2, .int i2), (3, .int i3), (4, .int i4)]) C dX11_drawn_47 (by decide) rfl ?_
            refine ev_iconst (v := 0) C dX11_drawn_49 (by decide) ?_
            refine ev_istore (l' := [(8, .int 0), (7, .int 0), (6, .int 0), (5, .int 0), (0, .ref a0), (1, .int i1), (2, .int i2), (3, .int i3), (4, .int i4)]) C dX11_drawn_50 (by decide) rfl ?_
            refine ev_iconst (v := 0) C dX11_drawn_52 (by decide) ?_
            refine ev_istore (l' := [(9, .int 0), (8, .int 0), (7, .int 0), (6, .int 0), (5, .int 0), (0, .ref a0), (1, .int i1), (2, .int i2), (3, .int i3), (4, .int i4)]) C dX11_drawn_53 (by decide) rfl ?_
            refine ev_sub [5, 6, 7, 8, 9, 4, 3, 2, 1, 0] rfl ?_
            exact t_X11_drawn_L55 C E   N a0 i1 i2 i3 i4 0 0 0 0 0 M hf
          · have hf := oit hf hc
            refine ev_bipush (v := (-2)) C dX11_drawn_37 (by decide) ?_
            obtain rfl := Option.some.inj hf
            exact ev_iret C E (Nat.le_refl 0) (Nat.le_refl 0) dX11_drawn_39
    · have hf := oit hf hc
      refine ev_iconst (v := (-1)) C dX11_drawn_17 (by decide) ?_
      obtain rfl := Option.some.inj hf
      exact ev_iret C E (Nat.le_refl 0) (Nat.le_refl 0) dX11_drawn_18
/-! FareLimits seed(I)I -/
theorem dX11_seed_0 : decode prog_1_method_38_code 0 = .ok (.aload_n 0, 1) := by decide +kernel
theorem dX11_seed_1 : decode prog_1_method_38_code 1 = .ok (.getfield 12, 3) := by decide +kernel
theorem dX11_seed_4 : decode prog_1_method_38_code 4 = .ok (.getfield 328, 3) := by decide +kernel
theorem dX11_seed_7 : decode prog_1_method_38_code 7 = .ok (.istore_n 2, 1) := by decide +kernel
theorem dX11_seed_8 : decode prog_1_method_38_code 8 = .ok (.aload_n 0, 1) := by decide +kernel
theorem dX11_seed_9 : decode prog_1_method_38_code 9 = .ok (.getfield 12, 3) := by decide +kernel
theorem dX11_seed_12 : decode prog_1_method_38_code 12 = .ok (.iload_n 1, 1) := by decide +kernel
theorem dX11_seed_13 : decode prog_1_method_38_code 13 = .ok (.putfield 328, 3) := by decide +kernel
theorem dX11_seed_16 : decode prog_1_method_38_code 16 = .ok (.iload_n 2, 1) := by decide +kernel
theorem dX11_seed_17 : decode prog_1_method_38_code 17 = .ok (.ireturn, 1) := by decide +kernel
def m_X11_seed (a0 : Nat) (i1 : Int32) (M : mM) : Option (Int32 × mM) :=
  (fR M a0 11 0).bind fun x1 =>
  (fI M x1 5 4).bind fun x3 =>
  (fR M a0 11 0).bind fun x5 =>
  (sV M x5 5 4 (.int i1)).bind fun M7 =>
  some (x3, M7)
set_option maxHeartbeats 4000000 in
set_option maxRecDepth 100000 in
theorem t_X11_seed {L0 : Launch} {M : mM} {a0 : Nat} {i1 : Int32} {res : Int32 × mM} (hf : m_X11_seed a0 i1 M = some res) : CT L0 yX11_seed prog_1_method_38_code 3 (some .int) 0 0 0 0 [.ref a0, .int i1] M (some (.int res.1)) res.2 := by
  refine CT.of (by decide +kernel) (Nat.le_of_ble_eq_true rfl) fun X C E => ?_
  have C : CX X RX11 "seed" prog_1_method_38_code 3 (some .int) := C
  show EV X 3 0 [(0, .ref a0), (1, .int i1)] [] 0 0 M
  unfold m_X11_seed at hf
  refine ev_aload_n C dX11_seed_0 rfl (q := 0) rfl ?_
  obtain ⟨x1, e2, hf⟩ := obnd hf
  refine ev_get (k := 0) C ok_11 dX11_seed_1 (by decide) kw_392 (fR_V e2) ?_
  obtain ⟨x3, e4, hf⟩ := obnd hf
  refine ev_get (k := 4) C ok_5 dX11_seed_4 (by decide) kw_196 (fI_V e4) ?_
  refine ev_istore_n (l' := [(2, .int x3), (0, .ref a0), (1, .int i1)]) C dX11_seed_7 rfl (by decide) rfl ?_
  refine ev_aload_n C dX11_seed_8 rfl (q := 1) rfl ?_
  obtain ⟨x5, e6, hf⟩ := obnd hf
  refine ev_get (k := 0) C ok_11 dX11_seed_9 (by decide) kw_392 (fR_V e6) ?_
  refine ev_iload_n C dX11_seed_12 rfl (q := 2) rfl ?_
  obtain ⟨M7, e8, hf⟩ := obnd hf
  refine ev_put (k := 4) C ok_5 dX11_seed_13 (by decide) kw_196 rfl ⟨rfl, rfl⟩ e8 ?_
  refine ev_iload_n C dX11_seed_16 rfl (q := 0) rfl ?_
  obtain rfl := Option.some.inj hf
  exact ev_iret C E (Nat.le_refl 0) (Nat.le_refl 0) dX11_seed_17
/-! FareLimits$Tray begin(LFareLimits$Kind;I)V -/
theorem dX8_begin_0 : decode prog_10_method_2_code 0 = .ok (.aload_n 0, 1) := by decide +kernel
theorem dX8_begin_1 : decode prog_10_method_2_code 1 = .ok (.aload_n 1, 1) := by decide +kernel
theorem dX8_begin_2 : decode prog_10_method_2_code 2 = .ok (.putfield 15, 3) := by decide +kernel
theorem dX8_begin_5 : decode prog_10_method_2_code 5 = .ok (.aload_n 0, 1) := by decide +kernel
theorem dX8_begin_6 : decode prog_10_method_2_code 6 = .ok (.iload_n 2, 1) := by decide +kernel
theorem dX8_begin_7 : decode prog_10_method_2_code 7 = .ok (.putfield 20, 3) := by decide +kernel
theorem dX8_begin_10 : decode prog_10_method_2_code 10 = .ok (.aload_n 0, 1) := by decide +kernel
theorem dX8_begin_11 : decode prog_10_method_2_code 11 = .ok (.getfield 24, 3) := by decide +kernel
theorem dX8_begin_14 : decode prog_10_method_2_code 14 = .ok (.bipush (-5), 2) := by decide +kernel
theorem dX8_begin_16 : decode prog_10_method_2_code 16 = .ok (.invokestatic 28, 3) := by decide +kernel
theorem dX8_begin_19 : decode prog_10_method_2_code 19 = .ok (.return_, 1) := by decide +kernel
def m_X8_begin (N : Nat) (a0 : Nat) (a1 : Nat) (i2 : Int32) (M : mM) : Option (mM) :=
  (sV M a0 8 0 (.ref a1)).bind fun M1 =>
  (sV M1 a0 8 1 (.int i2)).bind fun M3 =>
  (fR M3 a0 8 2).bind fun x5 =>
  (m_J7_fill_53178 N x5 (-5) M3).bind fun x7 =>
  some x7
set_option maxHeartbeats 4000000 in
set_option maxRecDepth 100000 in
theorem t_X8_begin {L0 : Launch} {M : mM} {N : Nat} {a0 : Nat} {a1 : Nat} {i2 : Int32} {res : mM} (hf : m_X8_begin N a0 a1 i2 M = some res) : CT L0 yX8_begin prog_10_method_2_code 3 none 1 23 0 0 [.ref a0, .ref a1, .int i2] M none res := by
  refine CT.of (by decide +kernel) (Nat.le_of_ble_eq_true rfl) fun X C E => ?_
  have C : CX X RX8 "begin" prog_10_method_2_code 3 none := C
  show EV X 3 0 [(0, .ref a0), (1, .ref a1), (2, .int i2)] [] 0 0 M
  unfold m_X8_begin at hf
  refine ev_aload_n C dX8_begin_0 rfl (q := 0) rfl ?_
  refine ev_aload_n C dX8_begin_1 rfl (q := 1) rfl ?_
  obtain ⟨M1, e2, hf⟩ := obnd hf
  refine ev_put (k := 0) C ok_8 dX8_begin_2 (by decide) kw_374 rfl ⟨rfl, rfl⟩ e2 ?_
  refine ev_aload_n C dX8_begin_5 rfl (q := 0) rfl ?_
  refine ev_iload_n C dX8_begin_6 rfl (q := 2) rfl ?_
  obtain ⟨M3, e4, hf⟩ := obnd hf
  refine ev_put (k := 1) C ok_8 dX8_begin_7 (by decide) kw_376 rfl ⟨rfl, rfl⟩ e4 ?_
  refine ev_aload_n C dX8_begin_10 rfl (q := 0) rfl ?_
  obtain ⟨x5, e6, hf⟩ := obnd hf
  refine ev_get (k := 2) C ok_8 dX8_begin_11 (by decide) kw_378 (fR_V e6) ?_
  refine ev_bipush (v := (-5)) C dX8_begin_14 (by decide) ?_
  obtain ⟨x7, e8, hf⟩ := obnd hf
  refine ev_callS0 (As := [.ref x5, .int (-5)]) (st := []) C (t_J7_fill_53178 e8) hd_J7_fill_53178 rfl kw_1077 kw_390 kw_86 kw_391 (mRoom.of E (Nat.le_of_ble_eq_true rfl) (Nat.le_of_ble_eq_true rfl) (Nat.le_refl 0) (Nat.le_refl 0)) (Nat.le_of_ble_eq_true rfl) dX8_begin_16 ?_
  obtain rfl := Option.some.inj hf
  exact ev_vret C E (Nat.le_refl 0) (Nat.le_refl 0) dX8_begin_19
/-! FareLimits tray(III)I -/
theorem dX11_tray_0 : decode prog_1_method_39_code 0 = .ok (.iload_n 1, 1) := by decide +kernel
theorem dX11_tray_1 : decode prog_1_method_39_code 1 = .ok (.iconst 3, 1) := by decide +kernel
theorem dX11_tray_2 : decode prog_1_method_39_code 2 = .ok (.invokestatic 91, 3) := by decide +kernel
theorem dX11_tray_5 : decode prog_1_method_39_code 5 = .ok (.ifCond .eq 16, 3) := by decide +kernel
theorem dX11_tray_8 : decode prog_1_method_39_code 8 = .ok (.iload_n 2, 1) := by decide +kernel
theorem dX11_tray_9 : decode prog_1_method_39_code 9 = .ok (.getstatic 87, 3) := by decide +kernel
theorem dX11_tray_12 : decode prog_1_method_39_code 12 = .ok (.arraylength, 1) := by decide +kernel
theorem dX11_tray_13 : decode prog_1_method_39_code 13 = .ok (.iconst 1, 1) := by decide +kernel
theorem dX11_tray_14 : decode prog_1_method_39_code 14 = .ok (.isub, 1) := by decide +kernel
theorem dX11_tray_15 : decode prog_1_method_39_code 15 = .ok (.invokestatic 91, 3) := by decide +kernel
theorem dX11_tray_18 : decode prog_1_method_39_code 18 = .ok (.ifCond .ne 5, 3) := by decide +kernel
theorem dX11_tray_21 : decode prog_1_method_39_code 21 = .ok (.iconst (-1), 1) := by decide +kernel
theorem dX11_tray_22 : decode prog_1_method_39_code 22 = .ok (.ireturn, 1) := by decide +kernel
theorem dX11_tray_23 : decode prog_1_method_39_code 23 = .ok (.iload_n 3, 1) := by decide +kernel
theorem dX11_tray_24 : decode prog_1_method_39_code 24 = .ok (.bipush 20, 2) := by decide +kernel
theorem dX11_tray_26 : decode prog_1_method_39_code 26 = .ok (.if_icmp .le 6, 3) := by decide +kernel
theorem dX11_tray_29 : decode prog_1_method_39_code 29 = .ok (.bipush (-2), 2) := by decide +kernel
theorem dX11_tray_31 : decode prog_1_method_39_code 31 = .ok (.ireturn, 1) := by decide +kernel
theorem dX11_tray_32 : decode prog_1_method_39_code 32 = .ok (.iload_n 3, 1) := by decide +kernel
theorem dX11_tray_33 : decode prog_1_method_39_code 33 = .ok (.ifCond .ge 6, 3) := by decide +kernel
theorem dX11_tray_36 : decode prog_1_method_39_code 36 = .ok (.bipush (-14), 2) := by decide +kernel
theorem dX11_tray_38 : decode prog_1_method_39_code 38 = .ok (.ireturn, 1) := by decide +kernel
theorem dX11_tray_39 : decode prog_1_method_39_code 39 = .ok (.aload_n 0, 1) := by decide +kernel
theorem dX11_tray_40 : decode prog_1_method_39_code 40 = .ok (.getfield 67, 3) := by decide +kernel
theorem dX11_tray_43 : decode prog_1_method_39_code 43 = .ok (.iload_n 1, 1) := by decide +kernel
theorem dX11_tray_44 : decode prog_1_method_39_code 44 = .ok (.aaload, 1) := by decide +kernel
theorem dX11_tray_45 : decode prog_1_method_39_code 45 = .ok (.getstatic 87, 3) := by decide +kernel
theorem dX11_tray_48 : decode prog_1_method_39_code 48 = .ok (.iload_n 2, 1) := by decide +kernel
theorem dX11_tray_49 : decode prog_1_method_39_code 49 = .ok (.aaload, 1) := by decide +kernel
theorem dX11_tray_50 : decode prog_1_method_39_code 50 = .ok (.iload_n 3, 1) := by decide +kernel
theorem dX11_tray_51 : decode prog_1_method_39_code 51 = .ok (.invokevirtual 331, 3) := by decide +kernel
theorem dX11_tray_54 : decode prog_1_method_39_code 54 = .ok (.iconst 1, 1) := by decide +kernel
theorem dX11_tray_55 : decode prog_1_method_39_code 55 = .ok (.ireturn, 1) := by decide +kernel
def m_X11_tray (N : Nat) (a0 : Nat) (i1 : Int32) (i2 : Int32) (i3 : Int32) (M : mM) : Option (Int32 × mM) :=
  (m_X11_within i1 3).bind fun x1 =>
  if x1 = 0 then (
    some ((-1), M)) else (
    (m_X11_within i2 (4 - 1)).bind fun x3 =>
    if x3 = 0 then (
      some ((-1), M)) else (
      if i3 ≤ 20 then (
        if 0 ≤ i3 then (
          (fR M a0 11 9).bind fun x5 =>
          (aR 7 M x5 i1).bind fun x7 =>
          (zKinds i2).bind fun x9 =>
          (oO M x7 8).bind fun _ =>
          (m_X8_begin N x7 x9 i3 M).bind fun x13 =>
          some (1, x13)) else (
          some ((-14), M))) else (
        some ((-2), M))))
set_option maxHeartbeats 4000000 in
set_option maxRecDepth 100000 in
theorem t_X11_tray {L0 : Launch} {M : mM} {N : Nat} {a0 : Nat} {i1 : Int32} {i2 : Int32} {i3 : Int32} {res : Int32 × mM} (hf : m_X11_tray N a0 i1 i2 i3 M = some res) : CT L0 yX11_tray prog_1_method_39_code 4 (some .int) 2 45 0 0 [.ref a0, .int i1, .int i2, .int i3] M (some (.int res.1)) res.2 := by
  refine CT.of (by decide +kernel) (Nat.le_of_ble_eq_true rfl) fun X C E => ?_
  have C : CX X RX11 "tray" prog_1_method_39_code 4 (some .int) := C
  show EV X 4 0 [(0, .ref a0), (1, .int i1), (2, .int i2), (3, .int i3)] [] 0 0 M
  unfold m_X11_tray at hf
  refine ev_iload_n C dX11_tray_0 rfl (q := 1) rfl ?_
  refine ev_iconst (v := 3) C dX11_tray_1 (by decide) ?_
  obtain ⟨x1, e2, hf⟩ := obnd hf
  refine ev_callS0 (As := [.int i1, .int 3]) (st := []) C (t_X11_within e2) hd_X11_within rfl kw_435 kw_436 kw_70 kw_437 (mRoom.of E (Nat.le_of_ble_eq_true rfl) (Nat.le_of_ble_eq_true rfl) (Nat.le_refl 0) (Nat.le_refl 0)) (Nat.le_of_ble_eq_true rfl) dX11_tray_2 ?_
  refine ev_if_eq (tgt := 21) C dX11_tray_5 (by decide) (fun hc => ?_) (fun hc => ?_)
  · have hf := oit hf hc
    refine ev_iconst (v := (-1)) C dX11_tray_21 (by decide) ?_
    obtain rfl := Option.some.inj hf
    exact ev_iret C E (Nat.le_refl 0) (Nat.le_refl 0) dX11_tray_22
  · have hf := oie hf hc
    refine ev_iload_n C dX11_tray_8 rfl (q := 2) rfl ?_
    refine ev_sKinds C kw_433 dX11_tray_9 ?_
    refine ev_zlenK C dX11_tray_12 ?_
    refine ev_iconst (v := 1) C dX11_tray_13 (by decide) ?_
    refine ev_isub C dX11_tray_14 ?_
    obtain ⟨x3, e4, hf⟩ := obnd hf
    refine ev_callS0 (As := [.int i2, .int (4 - 1)]) (st := []) C (t_X11_within e4) hd_X11_within rfl kw_435 kw_436 kw_70 kw_437 (mRoom.of E (Nat.le_of_ble_eq_true rfl) (Nat.le_of_ble_eq_true rfl) (Nat.le_refl 0) (Nat.le_refl 0)) (Nat.le_of_ble_eq_true rfl) dX11_tray_15 ?_
    refine ev_if_ne (tgt := 23) C dX11_tray_18 (by decide) (fun hc => ?_) (fun hc => ?_)
    · have hf := oie hf hc
      refine ev_iload_n C dX11_tray_23 rfl (q := 3) rfl ?_
      refine ev_bipush (v := 20) C dX11_tray_24 (by decide) ?_
      refine ev_icmp_le (tgt := 32) C dX11_tray_26 (by decide) (fun hc => ?_) (fun hc => ?_)
      · have hf := oit hf hc
        refine ev_iload_n C dX11_tray_32 rfl (q := 3) rfl ?_
        refine ev_if_ge (tgt := 39) C dX11_tray_33 (by decide) (fun hc => ?_) (fun hc => ?_)
        · have hf := oit hf hc
          refine ev_aload_n C dX11_tray_39 rfl (q := 0) rfl ?_
          obtain ⟨x5, e6, hf⟩ := obnd hf
          refine ev_get (k := 9) C ok_11 dX11_tray_40 (by decide) kw_401 (fR_V e6) ?_
          refine ev_iload_n C dX11_tray_43 rfl (q := 1) rfl ?_
          obtain ⟨x7, e8, hf⟩ := obnd hf
          refine ev_aldr C (t := 7) rfl rfl dX11_tray_44 e8 ?_
          refine ev_sKinds C kw_433 dX11_tray_45 ?_
          refine ev_iload_n C dX11_tray_48 rfl (q := 2) rfl ?_
          obtain ⟨x9, e10, hf⟩ := obnd hf
          refine ev_zKinds C dX11_tray_49 e10 ?_
          refine ev_iload_n C dX11_tray_50 rfl (q := 3) rfl ?_
          obtain ⟨_, e11, hf⟩ := obnd hf
          obtain ⟨fs12, e11⟩ := oO_eq e11
          obtain ⟨x13, e14, hf⟩ := obnd hf
          refine ev_callV0 (As := [.ref x9, .int i3]) (st := []) C rfl e11 (t_X8_begin e14) rfl hd_X8_begin rfl kw_1073 kw_1074 kw_85 kw_1075 kw_1076 (mRoom.of E (Nat.le_of_ble_eq_true rfl) (Nat.le_of_ble_eq_true rfl) (Nat.le_refl 0) (Nat.le_refl 0)) (Nat.le_of_ble_eq_true rfl) dX11_tray_51 ?_
          refine ev_iconst (v := 1) C dX11_tray_54 (by decide) ?_
          obtain rfl := Option.some.inj hf
          exact ev_iret C E (Nat.le_refl 0) (Nat.le_refl 0) dX11_tray_55
        · have hf := oie hf hc
          refine ev_bipush (v := (-14)) C dX11_tray_36 (by decide) ?_
          obtain rfl := Option.some.inj hf
          exact ev_iret C E (Nat.le_refl 0) (Nat.le_refl 0) dX11_tray_38
      · have hf := oie hf hc
        refine ev_bipush (v := (-2)) C dX11_tray_29 (by decide) ?_
        obtain rfl := Option.some.inj hf
        exact ev_iret C E (Nat.le_refl 0) (Nat.le_refl 0) dX11_tray_31
    · have hf := oit hf hc
      refine ev_iconst (v := (-1)) C dX11_tray_21 (by decide) ?_
      obtain rfl := Option.some.inj hf
      exact ev_iret C E (Nat.le_refl 0) (Nat.le_refl 0) dX11_tray_22
/-! FareLimits$Kind isOf(LFareLimits$Kind;)Z -/
theorem dX3_isOf_0 : decode prog_5_method_4_code 0 = .ok (.aload_n 0, 1) := by decide +kernel
theorem dX3_isOf_1 : decode prog_5_method_4_code 1 = .ok (.getfield 37, 3) := by decide +kernel
theorem dX3_isOf_4 : decode prog_5_method_4_code 4 = .ok (.istore_n 2, 1) := by decide +kernel
theorem dX3_isOf_5 : decode prog_5_method_4_code 5 = .ok (.iconst 0, 1) := by decide +kernel
theorem dX3_isOf_6 : decode prog_5_method_4_code 6 = .ok (.istore_n 3, 1) := by decide +kernel
theorem dX3_isOf_7 : decode prog_5_method_4_code 7 = .ok (.iload_n 3, 1) := by decide +kernel
theorem dX3_isOf_8 : decode prog_5_method_4_code 8 = .ok (.getstatic 47, 3) := by decide +kernel
theorem dX3_isOf_11 : decode prog_5_method_4_code 11 = .ok (.arraylength, 1) := by decide +kernel
theorem dX3_isOf_12 : decode prog_5_method_4_code 12 = .ok (.if_icmp .ge 31, 3) := by decide +kernel
theorem dX3_isOf_15 : decode prog_5_method_4_code 15 = .ok (.iload_n 2, 1) := by decide +kernel
theorem dX3_isOf_16 : decode prog_5_method_4_code 16 = .ok (.iconst (-1), 1) := by decide +kernel
theorem dX3_isOf_17 : decode prog_5_method_4_code 17 = .ok (.if_icmp .eq 26, 3) := by decide +kernel
theorem dX3_isOf_20 : decode prog_5_method_4_code 20 = .ok (.iload_n 2, 1) := by decide +kernel
theorem dX3_isOf_21 : decode prog_5_method_4_code 21 = .ok (.aload_n 1, 1) := by decide +kernel
theorem dX3_isOf_22 : decode prog_5_method_4_code 22 = .ok (.getfield 37, 3) := by decide +kernel
theorem dX3_isOf_25 : decode prog_5_method_4_code 25 = .ok (.if_icmp .eq 18, 3) := by decide +kernel
theorem dX3_isOf_28 : decode prog_5_method_4_code 28 = .ok (.getstatic 47, 3) := by decide +kernel
theorem dX3_isOf_31 : decode prog_5_method_4_code 31 = .ok (.iload_n 2, 1) := by decide +kernel
theorem dX3_isOf_32 : decode prog_5_method_4_code 32 = .ok (.aaload, 1) := by decide +kernel
theorem dX3_isOf_33 : decode prog_5_method_4_code 33 = .ok (.getfield 41, 3) := by decide +kernel
theorem dX3_isOf_36 : decode prog_5_method_4_code 36 = .ok (.istore_n 2, 1) := by decide +kernel
theorem dX3_isOf_37 : decode prog_5_method_4_code 37 = .ok (.iinc 3 1, 3) := by decide +kernel
theorem dX3_isOf_40 : decode prog_5_method_4_code 40 = .ok (.goto (-33), 3) := by decide +kernel
theorem dX3_isOf_43 : decode prog_5_method_4_code 43 = .ok (.iload_n 2, 1) := by decide +kernel
theorem dX3_isOf_44 : decode prog_5_method_4_code 44 = .ok (.aload_n 1, 1) := by decide +kernel
theorem dX3_isOf_45 : decode prog_5_method_4_code 45 = .ok (.getfield 37, 3) := by decide +kernel
theorem dX3_isOf_48 : decode prog_5_method_4_code 48 = .ok (.if_icmp .ne 7, 3) := by decide +kernel
theorem dX3_isOf_51 : decode prog_5_method_4_code 51 = .ok (.iconst 1, 1) := by decide +kernel
theorem dX3_isOf_52 : decode prog_5_method_4_code 52 = .ok (.goto 4, 3) := by decide +kernel
theorem dX3_isOf_55 : decode prog_5_method_4_code 55 = .ok (.iconst 0, 1) := by decide +kernel
theorem dX3_isOf_56 : decode prog_5_method_4_code 56 = .ok (.ireturn, 1) := by decide +kernel
def m_X3_isOf_J43 (N : Nat) (M : mM)  (a1 : Nat) (i2 : Int32) : Option (Int32) :=
  (zK0 a1).bind fun x1 =>
  if i2 = x1 then (
    some 1) else (
    some 0)
set_option maxHeartbeats 4000000 in
set_option maxRecDepth 100000 in
theorem t_X3_isOf_J43 {X : mX} {M : mM} {L0 : Launch} {res : Int32} {N : Nat} (C : CX X RX3 "isOf" prog_5_method_4_code 4 (some .boolean)) (E : EX X L0 0 0 0 0 (some (.int res)) M)   (a1 : Nat) (i2 : Int32) (hf : m_X3_isOf_J43 N M  a1 i2 = some res) : EV X 4 43 [(1, .ref a1), (2, .int i2)] [] 0 0 M := by
  unfold m_X3_isOf_J43 at hf
  refine ev_iload_n C dX3_isOf_43 rfl (q := 1) rfl ?_
  refine ev_aload_n C dX3_isOf_44 rfl (q := 0) rfl ?_
  obtain ⟨x1, e2, hf⟩ := obnd hf
  refine ev_zK0 C kw_1713 dX3_isOf_45 e2 ?_
  refine ev_icmp_ne (tgt := 55) C dX3_isOf_48 (by decide) (fun hc => ?_) (fun hc => ?_)
  · have hf := oie hf hc
    refine ev_iconst (v := 0) C dX3_isOf_55 (by decide) ?_
    obtain rfl := Option.some.inj hf
    exact ev_zret C (by decide) E (Nat.le_refl 0) (Nat.le_refl 0) dX3_isOf_56
  · have hf := oit hf hc
    refine ev_iconst (v := 1) C dX3_isOf_51 (by decide) ?_
    refine ev_goto (tgt := 56) C dX3_isOf_52 (by decide) ?_
    obtain rfl := Option.some.inj hf
    exact ev_zret C (by decide) E (Nat.le_refl 0) (Nat.le_refl 0) dX3_isOf_56
def m_X3_isOf_L7 (N : Nat) (M : mM)  : Nat → Nat → Int32 → Int32 → Option (Int32)
  | 0, _, _, _ => none
  | n + 1, a1, i2, i3 =>
    if 4 ≤ i3 then (
      m_X3_isOf_J43 N M  a1 i2) else (
      if i2 = (-1) then (
        m_X3_isOf_J43 N M  a1 i2) else (
        (zK0 a1).bind fun x1 =>
        if i2 = x1 then (
          m_X3_isOf_J43 N M  a1 i2) else (
          (zKinds i2).bind fun x3 =>
          (zK1 x3).bind fun x5 =>
          (m_X3_isOf_L7 N M  n) a1 x5 (i3 + 1))))
set_option maxHeartbeats 4000000 in
set_option maxRecDepth 100000 in
theorem t_X3_isOf_L7 {X : mX} {M : mM} {L0 : Launch} {res : Int32} {N : Nat} (C : CX X RX3 "isOf" prog_5_method_4_code 4 (some .boolean)) (E : EX X L0 0 0 0 0 (some (.int res)) M)   : ∀ (n : Nat) (a1 : Nat) (i2 : Int32) (i3 : Int32), m_X3_isOf_L7 N M  n a1 i2 i3 = some res → EV X 4 7 [(1, .ref a1), (2, .int i2), (3, .int i3)] [] 0 0 M := by
  intro n
  induction n with
  | zero => intro a1 i2 i3 hf; cases (show (none : Option (Int32)) = some res from hf)
  | succ n ih =>
    intro a1 i2 i3 hf
    rw [m_X3_isOf_L7] at hf
    refine ev_iload_n C dX3_isOf_7 rfl (q := 2) rfl ?_
    refine ev_sKindsN C dX3_isOf_8 ?_
    refine ev_zlenK C dX3_isOf_11 ?_
    refine ev_icmp_ge (tgt := 43) C dX3_isOf_12 (by decide) (fun hc => ?_) (fun hc => ?_)
    · have hf := oit hf hc
      refine ev_sub [0, 1] rfl ?_
      exact t_X3_isOf_J43 C E   a1 i2 hf
    · have hf := oie hf hc
      refine ev_iload_n C dX3_isOf_15 rfl (q := 1) rfl ?_
      refine ev_iconst (v := (-1)) C dX3_isOf_16 (by decide) ?_
      refine ev_icmp_eq (tgt := 43) C dX3_isOf_17 (by decide) (fun hc => ?_) (fun hc => ?_)
      · have hf := oit hf hc
        refine ev_sub [0, 1] rfl ?_
        exact t_X3_isOf_J43 C E   a1 i2 hf
      · have hf := oie hf hc
        refine ev_iload_n C dX3_isOf_20 rfl (q := 1) rfl ?_
        refine ev_aload_n C dX3_isOf_21 rfl (q := 0) rfl ?_
        obtain ⟨x1, e2, hf⟩ := obnd hf
        refine ev_zK0 C kw_1713 dX3_isOf_22 e2 ?_
        refine ev_icmp_eq (tgt := 43) C dX3_isOf_25 (by decide) (fun hc => ?_) (fun hc => ?_)
        · have hf := oit hf hc
          refine ev_sub [0, 1] rfl ?_
          exact t_X3_isOf_J43 C E   a1 i2 hf
        · have hf := oie hf hc
          refine ev_sKindsN C dX3_isOf_28 ?_
          refine ev_iload_n C dX3_isOf_31 rfl (q := 1) rfl ?_
          obtain ⟨x3, e4, hf⟩ := obnd hf
          refine ev_zKinds C dX3_isOf_32 e4 ?_
          obtain ⟨x5, e6, hf⟩ := obnd hf
          refine ev_zK1 C kw_1714 dX3_isOf_33 e6 ?_
          refine ev_istore_n (l' := [(2, .int x5), (1, .ref a1), (3, .int i3)]) C dX3_isOf_36 rfl (by decide) rfl ?_
          refine ev_iinc (v := i3 + 1) (l' := [(3, .int (i3 + 1)), (2, .int x5), (1, .ref a1)]) C dX3_isOf_37 (q := 2) rfl rfl (by decide) rfl ?_
          refine ev_goto (tgt := 7) C dX3_isOf_40 (by decide) ?_
          refine ev_sub [2, 1, 0] rfl ?_
          exact ih a1 x5 (i3 + 1) hf
def m_X3_isOf (N : Nat) (a0 : Nat) (a1 : Nat) (M : mM) : Option (Int32) :=
  (zK0 a0).bind fun x1 =>
  m_X3_isOf_L7 N M  N a1 x1 0
set_option maxHeartbeats 4000000 in
set_option maxRecDepth 100000 in
theorem t_X3_isOf {L0 : Launch} {M : mM} {N : Nat} {a0 : Nat} {a1 : Nat} {res : Int32} (hf : m_X3_isOf N a0 a1 M = some res) : CT L0 yX3_isOf prog_5_method_4_code 4 (some .boolean) 0 0 0 0 [.ref a0, .ref a1] M (some (.int res)) M := by
  refine CT.of (by decide +kernel) (Nat.le_of_ble_eq_true rfl) fun X C E => ?_
  have C : CX X RX3 "isOf" prog_5_method_4_code 4 (some .boolean) := C
  show EV X 4 0 [(0, .ref a0), (1, .ref a1)] [] 0 0 M
  unfold m_X3_isOf at hf
  refine ev_aload_n C dX3_isOf_0 rfl (q := 0) rfl ?_
  obtain ⟨x1, e2, hf⟩ := obnd hf
  refine ev_zK0 C kw_1713 dX3_isOf_1 e2 ?_
  refine ev_istore_n (l' := [(2, .int x1), (0, .ref a0), (1, .ref a1)]) C dX3_isOf_4 rfl (by decide) rfl ?_
  refine ev_iconst (v := 0) C dX3_isOf_5 (by decide) ?_
  refine ev_istore_n (l' := [(3, .int 0), (2, .int x1), (0, .ref a0), (1, .ref a1)]) C dX3_isOf_6 rfl (by decide) rfl ?_
  refine ev_sub [3, 1, 0] rfl ?_
  exact t_X3_isOf_L7 C E   N a1 x1 0 hf
