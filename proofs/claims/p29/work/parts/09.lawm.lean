section
def F_L_low (a0 : Int32) (a1 : Int32) : mv_M Int32 :=
  mv_bd (mv_rm (a0 &&& (2147483647 : Int32)) a1) fun v1 =>
  mv_pu v1

set_option maxHeartbeats 4000000 in
set_option maxRecDepth 100000 in
theorem c_L_low (l : Launch) (N0 : Nat) (D : va_G) (dA : Nat → ClassId) (a0 : Int32) (a1 : Int32) : mv_SimM l N0 D dA yL_low cL_low 2 (some .int) 0 0 mv_rI [.int a0, .int a1] (F_L_low a0 a1) := by
  refine mv_SimM_oL (L0 := [(0, .int a0), (1, .int a1)]) false (by decide +kernel) (Nat.le_of_ble_eq_true rfl) rfl (rfl) (fun z => by cases z) ?_
  unfold F_L_low
  show mv_Sim l N0 D dA RL cL_low 2 0 0 (some .int) false mv_rI 0 _ _ _
  refine mv_iload_n 0 dL_low_0 rfl rfl rfl ?_
  refine mv_ldc (v := (2147483647 : Int32)) dL_low_1 (mv_wA_of (mv_t2 (List.mem_of_getElem? (i := 88) rfl)) rfl) rfl ?_
  refine mv_iand dL_low_3 rfl ?_
  refine mv_iload_n 1 dL_low_4 rfl rfl rfl ?_
  refine mv_irem dL_low_5 rfl (fun v1 => ?_)
  exact mv_iret dL_low_6

def Lp_L_look_76 (k33 : Int64 → Int32 → mv_M Int64) (a0 : Nat) (x3 : Int32) : Nat → Int64 → Int32 → mv_M Int64
  | 0, _, _ => mv_fl
  | n + 1, x1, x4 =>
    if (7 : Int32) ≤ x4 then
      k33 x1 (x3 + (1 : Int32))
    else
      mv_bd (mv_rc 6 7 (some a0)) fun i2 => mv_bd (F_X6_count i2 (0 : Int32)) fun v1 =>
      mv_bd (mv_rc 6 7 (some a0)) fun i4 => mv_bd (F_X6_where i4 x3 (v1 + x4)) fun v3 =>
      mv_bd (mv_pu (((31 : Int64) * x1) + (Int32.toInt64 v3))) fun v5 =>
      Lp_L_look_76 k33 a0 x3 n v5 (x4 + (1 : Int32))

set_option maxHeartbeats 4000000 in
set_option maxRecDepth 100000 in
theorem sLp_L_look_76 (l : Launch) (N0 : Nat) (D : va_G) (dA : Nat → ClassId) (a0 : Nat) (x3 : Int32) (k33 : Int64 → Int32 → mv_M Int64) (hk33 : ∀ (y1 : Int64) (y3 : Int32), mv_Sim l N0 D dA RL cL_look 5 7 167 (some .long) false mv_rJ 33 [(0, mv_vr N0 (some a0)), (1, .long y1), (3, .int y3)] [] (k33 y1 y3)) : ∀ (n : Nat) (x1 : Int64) (x4 : Int32), mv_Sim l N0 D dA RL cL_look 5 7 167 (some .long) false mv_rJ 76 [(0, mv_vr N0 (some a0)), (1, .long x1), (3, .int x3), (4, .int x4)] [] (Lp_L_look_76 k33 a0 x3 n x1 x4) := by
  intro n
  induction n with
  | zero => intro x1 x4; rw [Lp_L_look_76]; exact mv_fl_sim
  | succ n ih =>
    intro x1 x4
    rw [Lp_L_look_76]
    refine mv_iload 3 dL_look_76 rfl rfl ?_
    refine mv_bipush (v := (7 : Int32)) dL_look_78 (by decide) rfl ?_
    refine mv_icmp_ge (tgt := 110) dL_look_80 rfl rfl ?_ ?_
    · refine mw_iinc (y := (x3 + (1 : Int32))) 2 rfl dL_look_110 rfl rfl (by decide) rfl rfl ?_
      refine mv_goto (q := 33) dL_look_113 rfl ?_
      refine mv_sub [1, 2, 0] rfl ?_
      exact hk33 x1 (x3 + (1 : Int32))
    · refine mv_ldc2 (v := (31 : Int64)) dL_look_83 (mv_wA_of (mv_t2 (List.mem_of_getElem? (i := 93) rfl)) rfl) rfl ?_
      refine mv_lload_n 1 dL_look_86 rfl rfl rfl ?_
      refine mv_lmul dL_look_87 rfl ?_
      refine mv_aload_n 0 dL_look_88 rfl rfl rfl ?_
      refine mv_iload_n 2 dL_look_89 rfl rfl rfl ?_
      refine mv_aload_n 0 dL_look_90 rfl rfl rfl ?_
      refine mv_iconst (v := (0 : Int32)) dL_look_91 (by decide) rfl ?_
      refine mv_callVi (st := [.int x3, mv_vr N0 (some a0), .long ((31 : Int64) * x1)]) [.int (0 : Int32)] (fun i2 => c_X6_count l N0 D dA i2 (0 : Int32)) (T := TX6) rfl (by decide) wc_L_13 ⟨by decide, by decide⟩ rfl (Nat.le_of_ble_eq_true rfl) dL_look_92 rfl (fun v1 => ?_)
      refine mv_iload 3 dL_look_95 rfl rfl ?_
      refine mv_iadd dL_look_97 rfl ?_
      refine mv_callVi (st := [.long ((31 : Int64) * x1)]) [.int x3, .int (v1 + x4)] (fun i4 => c_X6_where l N0 D dA i4 x3 (v1 + x4)) (T := TX6) rfl (by decide) wc_L_23 ⟨by decide, by decide⟩ rfl (Nat.le_of_ble_eq_true rfl) dL_look_98 rfl (fun v3 => ?_)
      refine mv_i2l dL_look_101 rfl ?_
      refine mv_ladd dL_look_102 rfl ?_
      refine mv_letJ (fun v5 => ?_)
      refine mw_lstore_n rfl dL_look_103 rfl (by decide) rfl rfl ?_
      refine mw_iinc (y := (x4 + (1 : Int32))) 3 rfl dL_look_104 rfl rfl (by decide) rfl rfl ?_
      refine mv_goto (q := 76) dL_look_107 rfl ?_
      refine mv_sub [2, 1, 3, 0] rfl ?_
      exact ih v5 (x4 + (1 : Int32))

def Lp_L_look_45 (k33 : Int64 → Int32 → mv_M Int64) (a0 : Nat) (x3 : Int32) : Nat → Int64 → Int32 → mv_M Int64
  | 0, _, _ => mv_fl
  | n + 1, x1, x4 =>
    if (7 : Int32) ≤ x4 then
      Lp_L_look_76 k33 a0 x3 mv_FU x1 (0 : Int32)
    else
      mv_bd (mv_rc 6 7 (some a0)) fun i7 => mv_bd (F_X6_carrier i7 x3 x4) fun v6 =>
      mv_bd (mv_pu (((31 : Int64) * x1) + (Int32.toInt64 v6))) fun v8 =>
      Lp_L_look_45 k33 a0 x3 n v8 (x4 + (1 : Int32))

set_option maxHeartbeats 4000000 in
set_option maxRecDepth 100000 in
theorem sLp_L_look_45 (l : Launch) (N0 : Nat) (D : va_G) (dA : Nat → ClassId) (a0 : Nat) (x3 : Int32) (k33 : Int64 → Int32 → mv_M Int64) (hk33 : ∀ (y1 : Int64) (y3 : Int32), mv_Sim l N0 D dA RL cL_look 5 7 167 (some .long) false mv_rJ 33 [(0, mv_vr N0 (some a0)), (1, .long y1), (3, .int y3)] [] (k33 y1 y3)) : ∀ (n : Nat) (x1 : Int64) (x4 : Int32), mv_Sim l N0 D dA RL cL_look 5 7 167 (some .long) false mv_rJ 45 [(0, mv_vr N0 (some a0)), (1, .long x1), (3, .int x3), (4, .int x4)] [] (Lp_L_look_45 k33 a0 x3 n x1 x4) := by
  intro n
  induction n with
  | zero => intro x1 x4; rw [Lp_L_look_45]; exact mv_fl_sim
  | succ n ih =>
    intro x1 x4
    rw [Lp_L_look_45]
    refine mv_iload 3 dL_look_45 rfl rfl ?_
    refine mv_bipush (v := (7 : Int32)) dL_look_47 (by decide) rfl ?_
    refine mv_icmp_ge (tgt := 73) dL_look_49 rfl rfl ?_ ?_
    · refine mv_iconst (v := (0 : Int32)) dL_look_73 (by decide) rfl ?_
      refine mw_istore rfl dL_look_74 (by decide) rfl rfl ?_
      refine mv_sub [1, 2, 3, 0] rfl ?_
      exact sLp_L_look_76 l N0 D dA a0 x3 _ hk33 mv_FU x1 (0 : Int32)
    · refine mv_ldc2 (v := (31 : Int64)) dL_look_52 (mv_wA_of (mv_t2 (List.mem_of_getElem? (i := 93) rfl)) rfl) rfl ?_
      refine mv_lload_n 1 dL_look_55 rfl rfl rfl ?_
      refine mv_lmul dL_look_56 rfl ?_
      refine mv_aload_n 0 dL_look_57 rfl rfl rfl ?_
      refine mv_iload_n 2 dL_look_58 rfl rfl rfl ?_
      refine mv_iload 3 dL_look_59 rfl rfl ?_
      refine mv_callVi (st := [.long ((31 : Int64) * x1)]) [.int x3, .int x4] (fun i7 => c_X6_carrier l N0 D dA i7 x3 x4) (T := TX6) rfl (by decide) wc_L_19 ⟨by decide, by decide⟩ rfl (Nat.le_of_ble_eq_true rfl) dL_look_61 rfl (fun v6 => ?_)
      refine mv_i2l dL_look_64 rfl ?_
      refine mv_ladd dL_look_65 rfl ?_
      refine mv_letJ (fun v8 => ?_)
      refine mw_lstore_n rfl dL_look_66 rfl (by decide) rfl rfl ?_
      refine mw_iinc (y := (x4 + (1 : Int32))) 3 rfl dL_look_67 rfl rfl (by decide) rfl rfl ?_
      refine mv_goto (q := 45) dL_look_70 rfl ?_
      refine mv_sub [2, 1, 3, 0] rfl ?_
      exact ih v8 (x4 + (1 : Int32))

def Lp_L_look_130 (k118 : Int64 → Int32 → mv_M Int64) (a0 : Nat) (x3 : Int32) : Nat → Int64 → Int32 → mv_M Int64
  | 0, _, _ => mv_fl
  | n + 1, x1, x4 =>
    if (9 : Int32) ≤ x4 then
      k118 x1 (x3 + (1 : Int32))
    else
      mv_bd (mv_rc 6 7 (some a0)) fun i10 => mv_bd (F_X6_bundle i10 x3 x4) fun v9 =>
      mv_bd (mv_pu (((31 : Int64) * x1) + (Int32.toInt64 v9))) fun v11 =>
      Lp_L_look_130 k118 a0 x3 n v11 (x4 + (1 : Int32))

set_option maxHeartbeats 4000000 in
set_option maxRecDepth 100000 in
theorem sLp_L_look_130 (l : Launch) (N0 : Nat) (D : va_G) (dA : Nat → ClassId) (a0 : Nat) (x3 : Int32) (k118 : Int64 → Int32 → mv_M Int64) (hk118 : ∀ (y1 : Int64) (y3 : Int32), mv_Sim l N0 D dA RL cL_look 5 7 167 (some .long) false mv_rJ 118 [(0, mv_vr N0 (some a0)), (1, .long y1), (3, .int y3)] [] (k118 y1 y3)) : ∀ (n : Nat) (x1 : Int64) (x4 : Int32), mv_Sim l N0 D dA RL cL_look 5 7 167 (some .long) false mv_rJ 130 [(0, mv_vr N0 (some a0)), (1, .long x1), (3, .int x3), (4, .int x4)] [] (Lp_L_look_130 k118 a0 x3 n x1 x4) := by
  intro n
  induction n with
  | zero => intro x1 x4; rw [Lp_L_look_130]; exact mv_fl_sim
  | succ n ih =>
    intro x1 x4
    rw [Lp_L_look_130]
    refine mv_iload 3 dL_look_130 rfl rfl ?_
    refine mv_bipush (v := (9 : Int32)) dL_look_132 (by decide) rfl ?_
    refine mv_icmp_ge (tgt := 158) dL_look_134 rfl rfl ?_ ?_
    · refine mw_iinc (y := (x3 + (1 : Int32))) 2 rfl dL_look_158 rfl rfl (by decide) rfl rfl ?_
      refine mv_goto (q := 118) dL_look_161 rfl ?_
      refine mv_sub [1, 2, 0] rfl ?_
      exact hk118 x1 (x3 + (1 : Int32))
    · refine mv_ldc2 (v := (31 : Int64)) dL_look_137 (mv_wA_of (mv_t2 (List.mem_of_getElem? (i := 93) rfl)) rfl) rfl ?_
      refine mv_lload_n 1 dL_look_140 rfl rfl rfl ?_
      refine mv_lmul dL_look_141 rfl ?_
      refine mv_aload_n 0 dL_look_142 rfl rfl rfl ?_
      refine mv_iload_n 2 dL_look_143 rfl rfl rfl ?_
      refine mv_iload 3 dL_look_144 rfl rfl ?_
      refine mv_callVi (st := [.long ((31 : Int64) * x1)]) [.int x3, .int x4] (fun i10 => c_X6_bundle l N0 D dA i10 x3 x4) (T := TX6) rfl (by decide) wc_L_26 ⟨by decide, by decide⟩ rfl (Nat.le_of_ble_eq_true rfl) dL_look_146 rfl (fun v9 => ?_)
      refine mv_i2l dL_look_149 rfl ?_
      refine mv_ladd dL_look_150 rfl ?_
      refine mv_letJ (fun v11 => ?_)
      refine mw_lstore_n rfl dL_look_151 rfl (by decide) rfl rfl ?_
      refine mw_iinc (y := (x4 + (1 : Int32))) 3 rfl dL_look_152 rfl rfl (by decide) rfl rfl ?_
      refine mv_goto (q := 130) dL_look_155 rfl ?_
      refine mv_sub [2, 1, 3, 0] rfl ?_
      exact ih v11 (x4 + (1 : Int32))

def Lp_L_look_118 (a0 : Nat) : Nat → Int64 → Int32 → mv_M Int64
  | 0, _, _ => mv_fl
  | n + 1, x1, x3 =>
    mv_bd (mv_rc 6 7 (some a0)) fun i13 => mv_bd (F_X6_count i13 (4 : Int32)) fun v12 =>
    if v12 ≤ x3 then
      mv_pu x1
    else
      Lp_L_look_130 (Lp_L_look_118 a0 n) a0 x3 mv_FU x1 (0 : Int32)

set_option maxHeartbeats 4000000 in
set_option maxRecDepth 100000 in
theorem sLp_L_look_118 (l : Launch) (N0 : Nat) (D : va_G) (dA : Nat → ClassId) (a0 : Nat) : ∀ (n : Nat) (x1 : Int64) (x3 : Int32), mv_Sim l N0 D dA RL cL_look 5 7 167 (some .long) false mv_rJ 118 [(0, mv_vr N0 (some a0)), (1, .long x1), (3, .int x3)] [] (Lp_L_look_118 a0 n x1 x3) := by
  intro n
  induction n with
  | zero => intro x1 x3; rw [Lp_L_look_118]; exact mv_fl_sim
  | succ n ih =>
    intro x1 x3
    rw [Lp_L_look_118]
    refine mv_iload_n 2 dL_look_118 rfl rfl rfl ?_
    refine mv_aload_n 0 dL_look_119 rfl rfl rfl ?_
    refine mv_iconst (v := (4 : Int32)) dL_look_120 (by decide) rfl ?_
    refine mv_callVi (st := [.int x3]) [.int (4 : Int32)] (fun i13 => c_X6_count l N0 D dA i13 (4 : Int32)) (T := TX6) rfl (by decide) wc_L_13 ⟨by decide, by decide⟩ rfl (Nat.le_of_ble_eq_true rfl) dL_look_121 rfl (fun v12 => ?_)
    refine mv_icmp_ge (tgt := 164) dL_look_124 rfl rfl ?_ ?_
    · refine mv_lload_n 1 dL_look_164 rfl rfl rfl ?_
      exact mv_lret dL_look_165
    · refine mv_iconst (v := (0 : Int32)) dL_look_127 (by decide) rfl ?_
      refine mw_istore rfl dL_look_128 (by decide) rfl rfl ?_
      refine mv_sub [1, 2, 3, 0] rfl ?_
      exact sLp_L_look_130 l N0 D dA a0 x3 _ ih mv_FU x1 (0 : Int32)

def Lp_L_look_33 (a0 : Nat) : Nat → Int64 → Int32 → mv_M Int64
  | 0, _, _ => mv_fl
  | n + 1, x1, x3 =>
    mv_bd (mv_rc 6 7 (some a0)) fun i15 => mv_bd (F_X6_count i15 (2 : Int32)) fun v14 =>
    if v14 ≤ x3 then
      Lp_L_look_118 a0 mv_FU x1 (0 : Int32)
    else
      Lp_L_look_45 (Lp_L_look_33 a0 n) a0 x3 mv_FU x1 (0 : Int32)

set_option maxHeartbeats 4000000 in
set_option maxRecDepth 100000 in
theorem sLp_L_look_33 (l : Launch) (N0 : Nat) (D : va_G) (dA : Nat → ClassId) (a0 : Nat) : ∀ (n : Nat) (x1 : Int64) (x3 : Int32), mv_Sim l N0 D dA RL cL_look 5 7 167 (some .long) false mv_rJ 33 [(0, mv_vr N0 (some a0)), (1, .long x1), (3, .int x3)] [] (Lp_L_look_33 a0 n x1 x3) := by
  intro n
  induction n with
  | zero => intro x1 x3; rw [Lp_L_look_33]; exact mv_fl_sim
  | succ n ih =>
    intro x1 x3
    rw [Lp_L_look_33]
    refine mv_iload_n 2 dL_look_33 rfl rfl rfl ?_
    refine mv_aload_n 0 dL_look_34 rfl rfl rfl ?_
    refine mv_iconst (v := (2 : Int32)) dL_look_35 (by decide) rfl ?_
    refine mv_callVi (st := [.int x3]) [.int (2 : Int32)] (fun i15 => c_X6_count l N0 D dA i15 (2 : Int32)) (T := TX6) rfl (by decide) wc_L_13 ⟨by decide, by decide⟩ rfl (Nat.le_of_ble_eq_true rfl) dL_look_36 rfl (fun v14 => ?_)
    refine mv_icmp_ge (tgt := 116) dL_look_39 rfl rfl ?_ ?_
    · refine mv_iconst (v := (0 : Int32)) dL_look_116 (by decide) rfl ?_
      refine mw_istore_n rfl dL_look_117 rfl (by decide) rfl rfl ?_
      refine mv_sub [1, 2, 0] rfl ?_
      exact sLp_L_look_118 l N0 D dA a0 mv_FU x1 (0 : Int32)
    · refine mv_iconst (v := (0 : Int32)) dL_look_42 (by decide) rfl ?_
      refine mw_istore rfl dL_look_43 (by decide) rfl rfl ?_
      refine mv_sub [1, 2, 3, 0] rfl ?_
      exact sLp_L_look_45 l N0 D dA a0 x3 _ ih mv_FU x1 (0 : Int32)

def Lp_L_look_6 (a0 : Nat) : Nat → Int64 → Int32 → mv_M Int64
  | 0, _, _ => mv_fl
  | n + 1, x1, x3 =>
    if (15 : Int32) ≤ x3 then
      Lp_L_look_33 a0 mv_FU x1 (0 : Int32)
    else
      mv_bd (mv_rc 6 7 (some a0)) fun i17 => mv_bd (F_X6_count i17 x3) fun v16 =>
      mv_bd (mv_pu (((31 : Int64) * x1) + (Int32.toInt64 v16))) fun v18 =>
      Lp_L_look_6 a0 n v18 (x3 + (1 : Int32))

set_option maxHeartbeats 4000000 in
set_option maxRecDepth 100000 in
theorem sLp_L_look_6 (l : Launch) (N0 : Nat) (D : va_G) (dA : Nat → ClassId) (a0 : Nat) : ∀ (n : Nat) (x1 : Int64) (x3 : Int32), mv_Sim l N0 D dA RL cL_look 5 7 167 (some .long) false mv_rJ 6 [(0, mv_vr N0 (some a0)), (1, .long x1), (3, .int x3)] [] (Lp_L_look_6 a0 n x1 x3) := by
  intro n
  induction n with
  | zero => intro x1 x3; rw [Lp_L_look_6]; exact mv_fl_sim
  | succ n ih =>
    intro x1 x3
    rw [Lp_L_look_6]
    refine mv_iload_n 2 dL_look_6 rfl rfl rfl ?_
    refine mv_bipush (v := (15 : Int32)) dL_look_7 (by decide) rfl ?_
    refine mv_icmp_ge (tgt := 31) dL_look_9 rfl rfl ?_ ?_
    · refine mv_iconst (v := (0 : Int32)) dL_look_31 (by decide) rfl ?_
      refine mw_istore_n rfl dL_look_32 rfl (by decide) rfl rfl ?_
      refine mv_sub [1, 2, 0] rfl ?_
      exact sLp_L_look_33 l N0 D dA a0 mv_FU x1 (0 : Int32)
    · refine mv_ldc2 (v := (31 : Int64)) dL_look_12 (mv_wA_of (mv_t2 (List.mem_of_getElem? (i := 93) rfl)) rfl) rfl ?_
      refine mv_lload_n 1 dL_look_15 rfl rfl rfl ?_
      refine mv_lmul dL_look_16 rfl ?_
      refine mv_aload_n 0 dL_look_17 rfl rfl rfl ?_
      refine mv_iload_n 2 dL_look_18 rfl rfl rfl ?_
      refine mv_callVi (st := [.long ((31 : Int64) * x1)]) [.int x3] (fun i17 => c_X6_count l N0 D dA i17 x3) (T := TX6) rfl (by decide) wc_L_13 ⟨by decide, by decide⟩ rfl (Nat.le_of_ble_eq_true rfl) dL_look_19 rfl (fun v16 => ?_)
      refine mv_i2l dL_look_22 rfl ?_
      refine mv_ladd dL_look_23 rfl ?_
      refine mv_letJ (fun v18 => ?_)
      refine mw_lstore_n rfl dL_look_24 rfl (by decide) rfl rfl ?_
      refine mw_iinc (y := (x3 + (1 : Int32))) 2 rfl dL_look_25 rfl rfl (by decide) rfl rfl ?_
      refine mv_goto (q := 6) dL_look_28 rfl ?_
      refine mv_sub [2, 1, 0] rfl ?_
      exact ih v18 (x3 + (1 : Int32))

def F_L_look (a0 : Nat) : mv_M Int64 :=
  Lp_L_look_6 a0 mv_FU (433 : Int64) (0 : Int32)

set_option maxHeartbeats 4000000 in
set_option maxRecDepth 100000 in
theorem c_L_look (l : Launch) (N0 : Nat) (D : va_G) (dA : Nat → ClassId) (a0 : Nat) : mv_SimM l N0 D dA yL_look cL_look 5 (some .long) 7 167 mv_rJ [.ref (N0 + a0)] (F_L_look a0) := by
  refine mv_SimM_oL (L0 := [(0, mv_vr N0 (some a0))]) false (by decide +kernel) (Nat.le_of_ble_eq_true rfl) rfl (rfl) (fun z => by cases z) ?_
  unfold F_L_look
  show mv_Sim l N0 D dA RL cL_look 5 7 167 (some .long) false mv_rJ 0 _ _ _
  refine mv_ldc2 (v := (433 : Int64)) dL_look_0 (mv_wA_of (mv_t2 (List.mem_of_getElem? (i := 92) rfl)) rfl) rfl ?_
  refine mw_lstore_n rfl dL_look_3 rfl (by decide) rfl rfl ?_
  refine mv_iconst (v := (0 : Int32)) dL_look_4 (by decide) rfl ?_
  refine mw_istore_n rfl dL_look_5 rfl (by decide) rfl rfl ?_
  refine mv_sub [2, 1, 0] rfl ?_
  exact sLp_L_look_6 l N0 D dA a0 mv_FU (433 : Int64) (0 : Int32)

def J_L_types_193 (k132 : Int32 → Int32 → mv_M Int32) (a0 : Nat) (x1 : Int32) (x2 : Int32) (x3 : Int32) (x5 : Int32) (x6 : Int32) (x9 : Int32) (s0 : Int32) : mv_M Int32 :=
  k132 s0 (x9 + (1 : Int32))

set_option maxHeartbeats 4000000 in
set_option maxRecDepth 100000 in
theorem sJ_L_types_193 (l : Launch) (N0 : Nat) (D : va_G) (dA : Nat → ClassId) (a0 : Nat) (x1 : Int32) (x2 : Int32) (x3 : Int32) (x5 : Int32) (x6 : Int32) (x9 : Int32) (s0 : Int32) (k132 : Int32 → Int32 → mv_M Int32) (hk132 : ∀ (y4 : Int32) (y9 : Int32), mv_Sim l N0 D dA RL cL_types 10 2 42 (some .boolean) false mv_rI 132 [(0, mv_vr N0 (some a0)), (1, .int x1), (2, .int x2), (3, .int x3), (4, .int y4), (5, .int x5), (6, .int x6), (9, .int y9)] [] (k132 y4 y9)) : mv_Sim l N0 D dA RL cL_types 10 2 42 (some .boolean) false mv_rI 193 [(0, mv_vr N0 (some a0)), (1, .int x1), (2, .int x2), (3, .int x3), (5, .int x5), (6, .int x6), (9, .int x9)] [.int s0] (J_L_types_193 k132 a0 x1 x2 x3 x5 x6 x9 s0) := by
  unfold J_L_types_193
  refine mw_istore rfl dL_types_193 (by decide) rfl rfl ?_
  refine mw_iinc (y := (x9 + (1 : Int32))) 7 rfl dL_types_195 rfl rfl (by decide) rfl rfl ?_
  refine mv_goto (q := 132) dL_types_198 rfl ?_
  refine mv_sub [2, 3, 4, 5, 1, 6, 7, 0] rfl ?_
  exact hk132 s0 (x9 + (1 : Int32))

def J_L_types_192 (k132 : Int32 → Int32 → mv_M Int32) (a0 : Nat) (x1 : Int32) (x2 : Int32) (x3 : Int32) (x5 : Int32) (x6 : Int32) (x9 : Int32) : mv_M Int32 :=
  J_L_types_193 k132 a0 x1 x2 x3 x5 x6 x9 (0 : Int32)

set_option maxHeartbeats 4000000 in
set_option maxRecDepth 100000 in
theorem sJ_L_types_192 (l : Launch) (N0 : Nat) (D : va_G) (dA : Nat → ClassId) (a0 : Nat) (x1 : Int32) (x2 : Int32) (x3 : Int32) (x5 : Int32) (x6 : Int32) (x9 : Int32) (k132 : Int32 → Int32 → mv_M Int32) (hk132 : ∀ (y4 : Int32) (y9 : Int32), mv_Sim l N0 D dA RL cL_types 10 2 42 (some .boolean) false mv_rI 132 [(0, mv_vr N0 (some a0)), (1, .int x1), (2, .int x2), (3, .int x3), (4, .int y4), (5, .int x5), (6, .int x6), (9, .int y9)] [] (k132 y4 y9)) : mv_Sim l N0 D dA RL cL_types 10 2 42 (some .boolean) false mv_rI 192 [(0, mv_vr N0 (some a0)), (1, .int x1), (2, .int x2), (3, .int x3), (5, .int x5), (6, .int x6), (9, .int x9)] [] (J_L_types_192 k132 a0 x1 x2 x3 x5 x6 x9) := by
  unfold J_L_types_192
  refine mv_iconst (v := (0 : Int32)) dL_types_192 (by decide) rfl ?_
  refine mv_sub [0, 1, 2, 3, 4, 5, 6] rfl ?_
  exact sJ_L_types_193 l N0 D dA a0 x1 x2 x3 x5 x6 x9 (0 : Int32) _ hk132

def J_L_types_343 (k32 : Int32 → Int32 → mv_M Int32) (a0 : Nat) (x1 : Int32) (x2 : Int32) (x3 : Int32) (x4 : Int32) (x5 : Int32) : mv_M Int32 :=
  k32 x4 (x5 + (1 : Int32))

set_option maxHeartbeats 4000000 in
set_option maxRecDepth 100000 in
theorem sJ_L_types_343 (l : Launch) (N0 : Nat) (D : va_G) (dA : Nat → ClassId) (a0 : Nat) (x1 : Int32) (x2 : Int32) (x3 : Int32) (x4 : Int32) (x5 : Int32) (k32 : Int32 → Int32 → mv_M Int32) (hk32 : ∀ (y4 : Int32) (y5 : Int32), mv_Sim l N0 D dA RL cL_types 10 2 42 (some .boolean) false mv_rI 32 [(0, mv_vr N0 (some a0)), (1, .int x1), (2, .int x2), (3, .int x3), (4, .int y4), (5, .int y5)] [] (k32 y4 y5)) : mv_Sim l N0 D dA RL cL_types 10 2 42 (some .boolean) false mv_rI 343 [(0, mv_vr N0 (some a0)), (1, .int x1), (2, .int x2), (3, .int x3), (4, .int x4), (5, .int x5)] [] (J_L_types_343 k32 a0 x1 x2 x3 x4 x5) := by
  unfold J_L_types_343
  refine mw_iinc (y := (x5 + (1 : Int32))) 5 rfl dL_types_343 rfl rfl (by decide) rfl rfl ?_
  refine mv_goto (q := 32) dL_types_346 rfl ?_
  refine mv_sub [1, 2, 3, 4, 5, 0] rfl ?_
  exact hk32 x4 (x5 + (1 : Int32))

def J_L_types_267 (k32 : Int32 → Int32 → mv_M Int32) (a0 : Nat) (x1 : Int32) (x2 : Int32) (x3 : Int32) (x5 : Int32) (s0 : Int32) : mv_M Int32 :=
  J_L_types_343 k32 a0 x1 x2 x3 s0 x5

set_option maxHeartbeats 4000000 in
set_option maxRecDepth 100000 in
theorem sJ_L_types_267 (l : Launch) (N0 : Nat) (D : va_G) (dA : Nat → ClassId) (a0 : Nat) (x1 : Int32) (x2 : Int32) (x3 : Int32) (x5 : Int32) (s0 : Int32) (k32 : Int32 → Int32 → mv_M Int32) (hk32 : ∀ (y4 : Int32) (y5 : Int32), mv_Sim l N0 D dA RL cL_types 10 2 42 (some .boolean) false mv_rI 32 [(0, mv_vr N0 (some a0)), (1, .int x1), (2, .int x2), (3, .int x3), (4, .int y4), (5, .int y5)] [] (k32 y4 y5)) : mv_Sim l N0 D dA RL cL_types 10 2 42 (some .boolean) false mv_rI 267 [(0, mv_vr N0 (some a0)), (1, .int x1), (2, .int x2), (3, .int x3), (5, .int x5)] [.int s0] (J_L_types_267 k32 a0 x1 x2 x3 x5 s0) := by
  unfold J_L_types_267
  refine mw_istore rfl dL_types_267 (by decide) rfl rfl ?_
  refine mv_goto (q := 343) dL_types_269 rfl ?_
  refine mv_sub [1, 2, 3, 4, 0, 5] rfl ?_
  exact sJ_L_types_343 l N0 D dA a0 x1 x2 x3 s0 x5 _ hk32

def J_L_types_262 (k32 : Int32 → Int32 → mv_M Int32) (a0 : Nat) (x1 : Int32) (x2 : Int32) (x3 : Int32) (x5 : Int32) : mv_M Int32 :=
  J_L_types_267 k32 a0 x1 x2 x3 x5 (1 : Int32)

set_option maxHeartbeats 4000000 in
set_option maxRecDepth 100000 in
theorem sJ_L_types_262 (l : Launch) (N0 : Nat) (D : va_G) (dA : Nat → ClassId) (a0 : Nat) (x1 : Int32) (x2 : Int32) (x3 : Int32) (x5 : Int32) (k32 : Int32 → Int32 → mv_M Int32) (hk32 : ∀ (y4 : Int32) (y5 : Int32), mv_Sim l N0 D dA RL cL_types 10 2 42 (some .boolean) false mv_rI 32 [(0, mv_vr N0 (some a0)), (1, .int x1), (2, .int x2), (3, .int x3), (4, .int y4), (5, .int y5)] [] (k32 y4 y5)) : mv_Sim l N0 D dA RL cL_types 10 2 42 (some .boolean) false mv_rI 262 [(0, mv_vr N0 (some a0)), (1, .int x1), (2, .int x2), (3, .int x3), (5, .int x5)] [] (J_L_types_262 k32 a0 x1 x2 x3 x5) := by
  unfold J_L_types_262
  refine mv_iconst (v := (1 : Int32)) dL_types_262 (by decide) rfl ?_
  refine mv_goto (q := 267) dL_types_263 rfl ?_
  refine mv_sub [0, 1, 2, 3, 4] rfl ?_
  exact sJ_L_types_267 l N0 D dA a0 x1 x2 x3 x5 (1 : Int32) _ hk32

def J_L_types_266 (k32 : Int32 → Int32 → mv_M Int32) (a0 : Nat) (x1 : Int32) (x2 : Int32) (x3 : Int32) (x5 : Int32) : mv_M Int32 :=
  J_L_types_267 k32 a0 x1 x2 x3 x5 (0 : Int32)

set_option maxHeartbeats 4000000 in
set_option maxRecDepth 100000 in
theorem sJ_L_types_266 (l : Launch) (N0 : Nat) (D : va_G) (dA : Nat → ClassId) (a0 : Nat) (x1 : Int32) (x2 : Int32) (x3 : Int32) (x5 : Int32) (k32 : Int32 → Int32 → mv_M Int32) (hk32 : ∀ (y4 : Int32) (y5 : Int32), mv_Sim l N0 D dA RL cL_types 10 2 42 (some .boolean) false mv_rI 32 [(0, mv_vr N0 (some a0)), (1, .int x1), (2, .int x2), (3, .int x3), (4, .int y4), (5, .int y5)] [] (k32 y4 y5)) : mv_Sim l N0 D dA RL cL_types 10 2 42 (some .boolean) false mv_rI 266 [(0, mv_vr N0 (some a0)), (1, .int x1), (2, .int x2), (3, .int x3), (5, .int x5)] [] (J_L_types_266 k32 a0 x1 x2 x3 x5) := by
  unfold J_L_types_266
  refine mv_iconst (v := (0 : Int32)) dL_types_266 (by decide) rfl ?_
  refine mv_sub [0, 1, 2, 3, 4] rfl ?_
  exact sJ_L_types_267 l N0 D dA a0 x1 x2 x3 x5 (0 : Int32) _ hk32

def J_L_types_252 (k32 : Int32 → Int32 → mv_M Int32) (a0 : Nat) (x1 : Int32) (x2 : Int32) (x3 : Int32) (x5 : Int32) (s1 : Int32) (s2 : Int32) (s3 : Int32) : mv_M Int32 :=
  mv_bd (F_L_low s2 s3) fun v1 =>
  mv_bd (mv_rc 6 7 (some a0)) fun i3 => mv_bd (F_X6_append i3 (s1 + v1)) fun v2 =>
  if v2 ≤ 0 then
    J_L_types_266 k32 a0 x1 x2 x3 x5
  else
    J_L_types_262 k32 a0 x1 x2 x3 x5

set_option maxHeartbeats 4000000 in
set_option maxRecDepth 100000 in
theorem sJ_L_types_252 (l : Launch) (N0 : Nat) (D : va_G) (dA : Nat → ClassId) (a0 : Nat) (x1 : Int32) (x2 : Int32) (x3 : Int32) (x5 : Int32) (s1 : Int32) (s2 : Int32) (s3 : Int32) (k32 : Int32 → Int32 → mv_M Int32) (hk32 : ∀ (y4 : Int32) (y5 : Int32), mv_Sim l N0 D dA RL cL_types 10 2 42 (some .boolean) false mv_rI 32 [(0, mv_vr N0 (some a0)), (1, .int x1), (2, .int x2), (3, .int x3), (4, .int y4), (5, .int y5)] [] (k32 y4 y5)) : mv_Sim l N0 D dA RL cL_types 10 2 42 (some .boolean) false mv_rI 252 [(0, mv_vr N0 (some a0)), (1, .int x1), (2, .int x2), (3, .int x3), (5, .int x5)] [.int s3, .int s2, .int s1, mv_vr N0 (some a0)] (J_L_types_252 k32 a0 x1 x2 x3 x5 s1 s2 s3) := by
  unfold J_L_types_252
  refine mv_callSi (st := [.int s1, mv_vr N0 (some a0)]) [.int s2, .int s3] (c_L_low l N0 D dA s2 s3) wc_L_38 ⟨by decide, by decide⟩ rfl (Nat.le_of_ble_eq_true rfl) dL_types_252 rfl (fun v1 => ?_)
  refine mv_iadd dL_types_255 rfl ?_
  refine mv_callVi (st := []) [.int (s1 + v1)] (fun i3 => c_X6_append l N0 D dA i3 (s1 + v1)) (T := TX6) rfl (by decide) wc_L_62 ⟨by decide, by decide⟩ rfl (Nat.le_of_ble_eq_true rfl) dL_types_256 rfl (fun v2 => ?_)
  refine mv_if_le (tgt := 266) dL_types_259 rfl rfl ?_ ?_
  · refine mv_sub [0, 1, 2, 3, 4] rfl ?_
    exact sJ_L_types_266 l N0 D dA a0 x1 x2 x3 x5 _ hk32
  · refine mv_sub [0, 1, 2, 3, 4] rfl ?_
    exact sJ_L_types_262 l N0 D dA a0 x1 x2 x3 x5 _ hk32

def J_L_types_157 (k32 : Int32 → Int32 → mv_M Int32) (k132 : Int32 → Int32 → mv_M Int32) (a0 : Nat) (x1 : Int32) (x2 : Int32) (x3 : Int32) (x4 : Int32) (x5 : Int32) (x6 : Int32) (x9 : Int32) (s0 : Int32) (s1 : Int32) (s2 : Int32) : mv_M Int32 :=
  mv_bd (F_L_low s1 s2) fun v4 =>
  if v4 ≤ s0 then
    if x4 = 0 then
      J_L_types_266 k32 a0 x1 x2 x3 x5
    else
      mv_bd (F_L_low (x6 >>> ((4 : Int32) &&& 31)) (2 : Int32)) fun v5 =>
      if v5 = 0 then
        J_L_types_262 k32 a0 x1 x2 x3 x5
      else
        mv_bd (mv_rc 6 7 (some a0)) fun i7 => mv_bd (F_X6_append i7 (42 : Int32)) fun v6 =>
        if v6 ≤ 0 then
          J_L_types_266 k32 a0 x1 x2 x3 x5
        else
          mv_bd (F_L_low (x2 >>> ((24 : Int32) &&& 31)) (9 : Int32)) fun v8 =>
          if v8 = 0 then
            J_L_types_252 k32 a0 x1 x2 x3 x5 (48 : Int32) (x6 >>> ((5 : Int32) &&& 31)) (11 : Int32)
          else
            J_L_types_252 k32 a0 x1 x2 x3 x5 (48 : Int32) (x6 >>> ((5 : Int32) &&& 31)) (10 : Int32)
  else
    if x4 = 0 then
      J_L_types_192 k132 a0 x1 x2 x3 x5 x6 x9
    else
      mv_bd (F_L_low (x6 >>> (x9 &&& 31)) (6 : Int32)) fun v9 =>
      mv_bd (mv_rc 6 7 (some a0)) fun i11 => mv_bd (F_X6_append i11 ((48 : Int32) + v9)) fun v10 =>
      if v10 ≤ 0 then
        J_L_types_192 k132 a0 x1 x2 x3 x5 x6 x9
      else
        J_L_types_193 k132 a0 x1 x2 x3 x5 x6 x9 (1 : Int32)

set_option maxHeartbeats 4000000 in
set_option maxRecDepth 100000 in
theorem sJ_L_types_157 (l : Launch) (N0 : Nat) (D : va_G) (dA : Nat → ClassId) (a0 : Nat) (x1 : Int32) (x2 : Int32) (x3 : Int32) (x4 : Int32) (x5 : Int32) (x6 : Int32) (x9 : Int32) (s0 : Int32) (s1 : Int32) (s2 : Int32) (k32 : Int32 → Int32 → mv_M Int32) (k132 : Int32 → Int32 → mv_M Int32) (hk32 : ∀ (y4 : Int32) (y5 : Int32), mv_Sim l N0 D dA RL cL_types 10 2 42 (some .boolean) false mv_rI 32 [(0, mv_vr N0 (some a0)), (1, .int x1), (2, .int x2), (3, .int x3), (4, .int y4), (5, .int y5)] [] (k32 y4 y5)) (hk132 : ∀ (y4 : Int32) (y9 : Int32), mv_Sim l N0 D dA RL cL_types 10 2 42 (some .boolean) false mv_rI 132 [(0, mv_vr N0 (some a0)), (1, .int x1), (2, .int x2), (3, .int x3), (4, .int y4), (5, .int x5), (6, .int x6), (9, .int y9)] [] (k132 y4 y9)) : mv_Sim l N0 D dA RL cL_types 10 2 42 (some .boolean) false mv_rI 157 [(0, mv_vr N0 (some a0)), (1, .int x1), (2, .int x2), (3, .int x3), (4, .int x4), (5, .int x5), (6, .int x6), (9, .int x9)] [.int s2, .int s1, .int s0] (J_L_types_157 k32 k132 a0 x1 x2 x3 x4 x5 x6 x9 s0 s1 s2) := by
  unfold J_L_types_157
  refine mv_callSi (st := [.int s0]) [.int s1, .int s2] (c_L_low l N0 D dA s1 s2) wc_L_38 ⟨by decide, by decide⟩ rfl (Nat.le_of_ble_eq_true rfl) dL_types_157 rfl (fun v4 => ?_)
  refine mv_icmp_ge (tgt := 201) dL_types_160 rfl rfl ?_ ?_
  · refine mv_iload 4 dL_types_201 rfl rfl ?_
    refine mv_if_eq (tgt := 266) dL_types_203 rfl rfl ?_ ?_
    · refine mv_sub [0, 1, 2, 3, 5] rfl ?_
      exact sJ_L_types_266 l N0 D dA a0 x1 x2 x3 x5 _ hk32
    · refine mv_iload 6 dL_types_206 rfl rfl ?_
      refine mv_iconst (v := (4 : Int32)) dL_types_208 (by decide) rfl ?_
      refine mv_ishr dL_types_209 rfl ?_
      refine mv_iconst (v := (2 : Int32)) dL_types_210 (by decide) rfl ?_
      refine mv_callSi (st := []) [.int (x6 >>> ((4 : Int32) &&& 31)), .int (2 : Int32)] (c_L_low l N0 D dA (x6 >>> ((4 : Int32) &&& 31)) (2 : Int32)) wc_L_38 ⟨by decide, by decide⟩ rfl (Nat.le_of_ble_eq_true rfl) dL_types_211 rfl (fun v5 => ?_)
      refine mv_if_eq (tgt := 262) dL_types_214 rfl rfl ?_ ?_
      · refine mv_sub [0, 1, 2, 3, 5] rfl ?_
        exact sJ_L_types_262 l N0 D dA a0 x1 x2 x3 x5 _ hk32
      · refine mv_aload_n 0 dL_types_217 rfl rfl rfl ?_
        refine mv_bipush (v := (42 : Int32)) dL_types_218 (by decide) rfl ?_
        refine mv_callVi (st := []) [.int (42 : Int32)] (fun i7 => c_X6_append l N0 D dA i7 (42 : Int32)) (T := TX6) rfl (by decide) wc_L_62 ⟨by decide, by decide⟩ rfl (Nat.le_of_ble_eq_true rfl) dL_types_220 rfl (fun v6 => ?_)
        refine mv_if_le (tgt := 266) dL_types_223 rfl rfl ?_ ?_
        · refine mv_sub [0, 1, 2, 3, 5] rfl ?_
          exact sJ_L_types_266 l N0 D dA a0 x1 x2 x3 x5 _ hk32
        · refine mv_aload_n 0 dL_types_226 rfl rfl rfl ?_
          refine mv_bipush (v := (48 : Int32)) dL_types_227 (by decide) rfl ?_
          refine mv_iload 6 dL_types_229 rfl rfl ?_
          refine mv_iconst (v := (5 : Int32)) dL_types_231 (by decide) rfl ?_
          refine mv_ishr dL_types_232 rfl ?_
          refine mv_iload_n 2 dL_types_233 rfl rfl rfl ?_
          refine mv_bipush (v := (24 : Int32)) dL_types_234 (by decide) rfl ?_
          refine mv_ishr dL_types_236 rfl ?_
          refine mv_bipush (v := (9 : Int32)) dL_types_237 (by decide) rfl ?_
          refine mv_callSi (st := [.int (x6 >>> ((5 : Int32) &&& 31)), .int (48 : Int32), mv_vr N0 (some a0)]) [.int (x2 >>> ((24 : Int32) &&& 31)), .int (9 : Int32)] (c_L_low l N0 D dA (x2 >>> ((24 : Int32) &&& 31)) (9 : Int32)) wc_L_38 ⟨by decide, by decide⟩ rfl (Nat.le_of_ble_eq_true rfl) dL_types_239 rfl (fun v8 => ?_)
          refine mv_if_ne (tgt := 250) dL_types_242 rfl rfl ?_ ?_
          · refine mv_bipush (v := (10 : Int32)) dL_types_250 (by decide) rfl ?_
            refine mv_sub [0, 1, 2, 3, 5] rfl ?_
            exact sJ_L_types_252 l N0 D dA a0 x1 x2 x3 x5 (48 : Int32) (x6 >>> ((5 : Int32) &&& 31)) (10 : Int32) _ hk32
          · refine mv_bipush (v := (11 : Int32)) dL_types_245 (by decide) rfl ?_
            refine mv_goto (q := 252) dL_types_247 rfl ?_
            refine mv_sub [0, 1, 2, 3, 5] rfl ?_
            exact sJ_L_types_252 l N0 D dA a0 x1 x2 x3 x5 (48 : Int32) (x6 >>> ((5 : Int32) &&& 31)) (11 : Int32) _ hk32
  · refine mv_iload 4 dL_types_163 rfl rfl ?_
    refine mv_if_eq (tgt := 192) dL_types_165 rfl rfl ?_ ?_
    · refine mv_sub [0, 1, 2, 3, 5, 6, 7] rfl ?_
      exact sJ_L_types_192 l N0 D dA a0 x1 x2 x3 x5 x6 x9 _ hk132
    · refine mv_aload_n 0 dL_types_168 rfl rfl rfl ?_
      refine mv_bipush (v := (48 : Int32)) dL_types_169 (by decide) rfl ?_
      refine mv_iload 6 dL_types_171 rfl rfl ?_
      refine mv_iload 7 dL_types_173 rfl rfl ?_
      refine mv_ishr dL_types_175 rfl ?_
      refine mv_bipush (v := (6 : Int32)) dL_types_176 (by decide) rfl ?_
      refine mv_callSi (st := [.int (48 : Int32), mv_vr N0 (some a0)]) [.int (x6 >>> (x9 &&& 31)), .int (6 : Int32)] (c_L_low l N0 D dA (x6 >>> (x9 &&& 31)) (6 : Int32)) wc_L_38 ⟨by decide, by decide⟩ rfl (Nat.le_of_ble_eq_true rfl) dL_types_178 rfl (fun v9 => ?_)
      refine mv_iadd dL_types_181 rfl ?_
      refine mv_callVi (st := []) [.int ((48 : Int32) + v9)] (fun i11 => c_X6_append l N0 D dA i11 ((48 : Int32) + v9)) (T := TX6) rfl (by decide) wc_L_62 ⟨by decide, by decide⟩ rfl (Nat.le_of_ble_eq_true rfl) dL_types_182 rfl (fun v10 => ?_)
      refine mv_if_le (tgt := 192) dL_types_185 rfl rfl ?_ ?_
      · refine mv_sub [0, 1, 2, 3, 5, 6, 7] rfl ?_
        exact sJ_L_types_192 l N0 D dA a0 x1 x2 x3 x5 x6 x9 _ hk132
      · refine mv_iconst (v := (1 : Int32)) dL_types_188 (by decide) rfl ?_
        refine mv_goto (q := 193) dL_types_189 rfl ?_
        refine mv_sub [0, 1, 2, 3, 5, 6, 7] rfl ?_
        exact sJ_L_types_193 l N0 D dA a0 x1 x2 x3 x5 x6 x9 (1 : Int32) _ hk132

def Lp_L_types_132 (k32 : Int32 → Int32 → mv_M Int32) (a0 : Nat) (x1 : Int32) (x2 : Int32) (x3 : Int32) (x5 : Int32) (x6 : Int32) : Nat → Int32 → Int32 → mv_M Int32
  | 0, _, _ => mv_fl
  | n + 1, x4, x9 =>
    mv_bd (F_L_low (x2 >>> ((23 : Int32) &&& 31)) (9 : Int32)) fun v12 =>
    if v12 = 0 then
      J_L_types_157 k32 (Lp_L_types_132 k32 a0 x1 x2 x3 x5 x6 n) a0 x1 x2 x3 x4 x5 x6 x9 x9 (x6 >>> ((2 : Int32) &&& 31)) (8 : Int32)
    else
      J_L_types_157 k32 (Lp_L_types_132 k32 a0 x1 x2 x3 x5 x6 n) a0 x1 x2 x3 x4 x5 x6 x9 x9 (x6 >>> ((2 : Int32) &&& 31)) (6 : Int32)

set_option maxHeartbeats 4000000 in
set_option maxRecDepth 100000 in
theorem sLp_L_types_132 (l : Launch) (N0 : Nat) (D : va_G) (dA : Nat → ClassId) (a0 : Nat) (x1 : Int32) (x2 : Int32) (x3 : Int32) (x5 : Int32) (x6 : Int32) (k32 : Int32 → Int32 → mv_M Int32) (hk32 : ∀ (y4 : Int32) (y5 : Int32), mv_Sim l N0 D dA RL cL_types 10 2 42 (some .boolean) false mv_rI 32 [(0, mv_vr N0 (some a0)), (1, .int x1), (2, .int x2), (3, .int x3), (4, .int y4), (5, .int y5)] [] (k32 y4 y5)) : ∀ (n : Nat) (x4 : Int32) (x9 : Int32), mv_Sim l N0 D dA RL cL_types 10 2 42 (some .boolean) false mv_rI 132 [(0, mv_vr N0 (some a0)), (1, .int x1), (2, .int x2), (3, .int x3), (4, .int x4), (5, .int x5), (6, .int x6), (9, .int x9)] [] (Lp_L_types_132 k32 a0 x1 x2 x3 x5 x6 n x4 x9) := by
  intro n
  induction n with
  | zero => intro x4 x9; rw [Lp_L_types_132]; exact mv_fl_sim
  | succ n ih =>
    intro x4 x9
    rw [Lp_L_types_132]
    refine mv_iload 7 dL_types_132 rfl rfl ?_
    refine mv_iload 6 dL_types_134 rfl rfl ?_
    refine mv_iconst (v := (2 : Int32)) dL_types_136 (by decide) rfl ?_
    refine mv_ishr dL_types_137 rfl ?_
    refine mv_iload_n 2 dL_types_138 rfl rfl rfl ?_
    refine mv_bipush (v := (23 : Int32)) dL_types_139 (by decide) rfl ?_
    refine mv_ishr dL_types_141 rfl ?_
    refine mv_bipush (v := (9 : Int32)) dL_types_142 (by decide) rfl ?_
    refine mv_callSi (st := [.int (x6 >>> ((2 : Int32) &&& 31)), .int x9]) [.int (x2 >>> ((23 : Int32) &&& 31)), .int (9 : Int32)] (c_L_low l N0 D dA (x2 >>> ((23 : Int32) &&& 31)) (9 : Int32)) wc_L_38 ⟨by decide, by decide⟩ rfl (Nat.le_of_ble_eq_true rfl) dL_types_144 rfl (fun v12 => ?_)
    refine mv_if_ne (tgt := 155) dL_types_147 rfl rfl ?_ ?_
    · refine mv_bipush (v := (6 : Int32)) dL_types_155 (by decide) rfl ?_
      refine mv_sub [0, 1, 2, 3, 4, 5, 6, 7] rfl ?_
      exact sJ_L_types_157 l N0 D dA a0 x1 x2 x3 x4 x5 x6 x9 x9 (x6 >>> ((2 : Int32) &&& 31)) (6 : Int32) _ _ hk32 ih
    · refine mv_bipush (v := (8 : Int32)) dL_types_150 (by decide) rfl ?_
      refine mv_goto (q := 157) dL_types_152 rfl ?_
      refine mv_sub [0, 1, 2, 3, 4, 5, 6, 7] rfl ?_
      exact sJ_L_types_157 l N0 D dA a0 x1 x2 x3 x4 x5 x6 x9 x9 (x6 >>> ((2 : Int32) &&& 31)) (8 : Int32) _ _ hk32 ih

def J_L_types_341 (k32 : Int32 → Int32 → mv_M Int32) (a0 : Nat) (x1 : Int32) (x2 : Int32) (x3 : Int32) (x5 : Int32) (s0 : Int32) : mv_M Int32 :=
  J_L_types_343 k32 a0 x1 x2 x3 s0 x5

set_option maxHeartbeats 4000000 in
set_option maxRecDepth 100000 in
theorem sJ_L_types_341 (l : Launch) (N0 : Nat) (D : va_G) (dA : Nat → ClassId) (a0 : Nat) (x1 : Int32) (x2 : Int32) (x3 : Int32) (x5 : Int32) (s0 : Int32) (k32 : Int32 → Int32 → mv_M Int32) (hk32 : ∀ (y4 : Int32) (y5 : Int32), mv_Sim l N0 D dA RL cL_types 10 2 42 (some .boolean) false mv_rI 32 [(0, mv_vr N0 (some a0)), (1, .int x1), (2, .int x2), (3, .int x3), (4, .int y4), (5, .int y5)] [] (k32 y4 y5)) : mv_Sim l N0 D dA RL cL_types 10 2 42 (some .boolean) false mv_rI 341 [(0, mv_vr N0 (some a0)), (1, .int x1), (2, .int x2), (3, .int x3), (5, .int x5)] [.int s0] (J_L_types_341 k32 a0 x1 x2 x3 x5 s0) := by
  unfold J_L_types_341
  refine mw_istore rfl dL_types_341 (by decide) rfl rfl ?_
  refine mv_sub [1, 2, 3, 4, 0, 5] rfl ?_
  exact sJ_L_types_343 l N0 D dA a0 x1 x2 x3 s0 x5 _ hk32

def J_L_types_340 (k32 : Int32 → Int32 → mv_M Int32) (a0 : Nat) (x1 : Int32) (x2 : Int32) (x3 : Int32) (x5 : Int32) : mv_M Int32 :=
  J_L_types_341 k32 a0 x1 x2 x3 x5 (0 : Int32)

set_option maxHeartbeats 4000000 in
set_option maxRecDepth 100000 in
theorem sJ_L_types_340 (l : Launch) (N0 : Nat) (D : va_G) (dA : Nat → ClassId) (a0 : Nat) (x1 : Int32) (x2 : Int32) (x3 : Int32) (x5 : Int32) (k32 : Int32 → Int32 → mv_M Int32) (hk32 : ∀ (y4 : Int32) (y5 : Int32), mv_Sim l N0 D dA RL cL_types 10 2 42 (some .boolean) false mv_rI 32 [(0, mv_vr N0 (some a0)), (1, .int x1), (2, .int x2), (3, .int x3), (4, .int y4), (5, .int y5)] [] (k32 y4 y5)) : mv_Sim l N0 D dA RL cL_types 10 2 42 (some .boolean) false mv_rI 340 [(0, mv_vr N0 (some a0)), (1, .int x1), (2, .int x2), (3, .int x3), (5, .int x5)] [] (J_L_types_340 k32 a0 x1 x2 x3 x5) := by
  unfold J_L_types_340
  refine mv_iconst (v := (0 : Int32)) dL_types_340 (by decide) rfl ?_
  refine mv_sub [0, 1, 2, 3, 4] rfl ?_
  exact sJ_L_types_341 l N0 D dA a0 x1 x2 x3 x5 (0 : Int32) _ hk32

def J_L_types_329 (k32 : Int32 → Int32 → mv_M Int32) (a0 : Nat) (x1 : Int32) (x2 : Int32) (x3 : Int32) (x5 : Int32) (s1 : Int32) (s2 : Int32) : mv_M Int32 :=
  mv_bd (mv_rc 6 7 (some a0)) fun i14 => mv_bd (F_X6_append i14 (s1 + s2)) fun v13 =>
  if v13 ≤ 0 then
    J_L_types_340 k32 a0 x1 x2 x3 x5
  else
    J_L_types_341 k32 a0 x1 x2 x3 x5 (1 : Int32)

set_option maxHeartbeats 4000000 in
set_option maxRecDepth 100000 in
theorem sJ_L_types_329 (l : Launch) (N0 : Nat) (D : va_G) (dA : Nat → ClassId) (a0 : Nat) (x1 : Int32) (x2 : Int32) (x3 : Int32) (x5 : Int32) (s1 : Int32) (s2 : Int32) (k32 : Int32 → Int32 → mv_M Int32) (hk32 : ∀ (y4 : Int32) (y5 : Int32), mv_Sim l N0 D dA RL cL_types 10 2 42 (some .boolean) false mv_rI 32 [(0, mv_vr N0 (some a0)), (1, .int x1), (2, .int x2), (3, .int x3), (4, .int y4), (5, .int y5)] [] (k32 y4 y5)) : mv_Sim l N0 D dA RL cL_types 10 2 42 (some .boolean) false mv_rI 329 [(0, mv_vr N0 (some a0)), (1, .int x1), (2, .int x2), (3, .int x3), (5, .int x5)] [.int s2, .int s1, mv_vr N0 (some a0)] (J_L_types_329 k32 a0 x1 x2 x3 x5 s1 s2) := by
  unfold J_L_types_329
  refine mv_iadd dL_types_329 rfl ?_
  refine mv_callVi (st := []) [.int (s1 + s2)] (fun i14 => c_X6_append l N0 D dA i14 (s1 + s2)) (T := TX6) rfl (by decide) wc_L_62 ⟨by decide, by decide⟩ rfl (Nat.le_of_ble_eq_true rfl) dL_types_330 rfl (fun v13 => ?_)
  refine mv_if_le (tgt := 340) dL_types_333 rfl rfl ?_ ?_
  · refine mv_sub [0, 1, 2, 3, 4] rfl ?_
    exact sJ_L_types_340 l N0 D dA a0 x1 x2 x3 x5 _ hk32
  · refine mv_iconst (v := (1 : Int32)) dL_types_336 (by decide) rfl ?_
    refine mv_goto (q := 341) dL_types_337 rfl ?_
    refine mv_sub [0, 1, 2, 3, 4] rfl ?_
    exact sJ_L_types_341 l N0 D dA a0 x1 x2 x3 x5 (1 : Int32) _ hk32

def J_L_types_123 (k32 : Int32 → Int32 → mv_M Int32) (a0 : Nat) (x1 : Int32) (x2 : Int32) (x3 : Int32) (x5 : Int32) (x6 : Int32) (x8 : Int32) (s0 : Int32) : mv_M Int32 :=
  if x1 = 0 then
    if s0 = 0 then
      J_L_types_340 k32 a0 x1 x2 x3 x5
    else
      mv_bd (mv_rc 6 7 (some a0)) fun i16 => mv_bd (F_X6_append i16 (62 : Int32)) fun v15 =>
      if v15 ≤ 0 then
        J_L_types_340 k32 a0 x1 x2 x3 x5
      else
        mv_bd (F_L_low (x2 >>> ((24 : Int32) &&& 31)) (9 : Int32)) fun v17 =>
        if v17 = 0 then
          mv_bd (F_L_low (x6 >>> ((3 : Int32) &&& 31)) (6 : Int32)) fun v20 =>
          J_L_types_329 k32 a0 x1 x2 x3 x5 (48 : Int32) v20
        else
          mv_bd (F_L_low (x6 >>> ((3 : Int32) &&& 31)) (5 : Int32)) fun v18 =>
          mv_bd (mv_rm ((x8 + (1 : Int32)) + v18) (6 : Int32)) fun v19 =>
          J_L_types_329 k32 a0 x1 x2 x3 x5 (48 : Int32) v19
  else
    Lp_L_types_132 k32 a0 x1 x2 x3 x5 x6 mv_FU s0 (0 : Int32)

set_option maxHeartbeats 4000000 in
set_option maxRecDepth 100000 in
theorem sJ_L_types_123 (l : Launch) (N0 : Nat) (D : va_G) (dA : Nat → ClassId) (a0 : Nat) (x1 : Int32) (x2 : Int32) (x3 : Int32) (x5 : Int32) (x6 : Int32) (x8 : Int32) (s0 : Int32) (k32 : Int32 → Int32 → mv_M Int32) (hk32 : ∀ (y4 : Int32) (y5 : Int32), mv_Sim l N0 D dA RL cL_types 10 2 42 (some .boolean) false mv_rI 32 [(0, mv_vr N0 (some a0)), (1, .int x1), (2, .int x2), (3, .int x3), (4, .int y4), (5, .int y5)] [] (k32 y4 y5)) : mv_Sim l N0 D dA RL cL_types 10 2 42 (some .boolean) false mv_rI 123 [(0, mv_vr N0 (some a0)), (1, .int x1), (2, .int x2), (3, .int x3), (5, .int x5), (6, .int x6), (8, .int x8)] [.int s0] (J_L_types_123 k32 a0 x1 x2 x3 x5 x6 x8 s0) := by
  unfold J_L_types_123
  refine mw_istore rfl dL_types_123 (by decide) rfl rfl ?_
  refine mv_iload_n 2 dL_types_125 rfl rfl rfl ?_
  refine mv_if_eq (tgt := 272) dL_types_126 rfl rfl ?_ ?_
  · refine mv_iload 0 dL_types_272 rfl rfl ?_
    refine mv_if_eq (tgt := 340) dL_types_274 rfl rfl ?_ ?_
    · refine mv_sub [1, 2, 3, 4, 5] rfl ?_
      exact sJ_L_types_340 l N0 D dA a0 x1 x2 x3 x5 _ hk32
    · refine mv_aload_n 1 dL_types_277 rfl rfl rfl ?_
      refine mv_bipush (v := (62 : Int32)) dL_types_278 (by decide) rfl ?_
      refine mv_callVi (st := []) [.int (62 : Int32)] (fun i16 => c_X6_append l N0 D dA i16 (62 : Int32)) (T := TX6) rfl (by decide) wc_L_62 ⟨by decide, by decide⟩ rfl (Nat.le_of_ble_eq_true rfl) dL_types_280 rfl (fun v15 => ?_)
      refine mv_if_le (tgt := 340) dL_types_283 rfl rfl ?_ ?_
      · refine mv_sub [1, 2, 3, 4, 5] rfl ?_
        exact sJ_L_types_340 l N0 D dA a0 x1 x2 x3 x5 _ hk32
      · refine mv_aload_n 1 dL_types_286 rfl rfl rfl ?_
        refine mv_bipush (v := (48 : Int32)) dL_types_287 (by decide) rfl ?_
        refine mv_iload_n 3 dL_types_289 rfl rfl rfl ?_
        refine mv_bipush (v := (24 : Int32)) dL_types_290 (by decide) rfl ?_
        refine mv_ishr dL_types_292 rfl ?_
        refine mv_bipush (v := (9 : Int32)) dL_types_293 (by decide) rfl ?_
        refine mv_callSi (st := [.int (48 : Int32), mv_vr N0 (some a0)]) [.int (x2 >>> ((24 : Int32) &&& 31)), .int (9 : Int32)] (c_L_low l N0 D dA (x2 >>> ((24 : Int32) &&& 31)) (9 : Int32)) wc_L_38 ⟨by decide, by decide⟩ rfl (Nat.le_of_ble_eq_true rfl) dL_types_295 rfl (fun v17 => ?_)
        refine mv_if_ne (tgt := 313) dL_types_298 rfl rfl ?_ ?_
        · refine mv_iload 7 dL_types_313 rfl rfl ?_
          refine mv_iconst (v := (1 : Int32)) dL_types_315 (by decide) rfl ?_
          refine mv_iadd dL_types_316 rfl ?_
          refine mv_iload 6 dL_types_317 rfl rfl ?_
          refine mv_iconst (v := (3 : Int32)) dL_types_319 (by decide) rfl ?_
          refine mv_ishr dL_types_320 rfl ?_
          refine mv_iconst (v := (5 : Int32)) dL_types_321 (by decide) rfl ?_
          refine mv_callSi (st := [.int (x8 + (1 : Int32)), .int (48 : Int32), mv_vr N0 (some a0)]) [.int (x6 >>> ((3 : Int32) &&& 31)), .int (5 : Int32)] (c_L_low l N0 D dA (x6 >>> ((3 : Int32) &&& 31)) (5 : Int32)) wc_L_38 ⟨by decide, by decide⟩ rfl (Nat.le_of_ble_eq_true rfl) dL_types_322 rfl (fun v18 => ?_)
          refine mv_iadd dL_types_325 rfl ?_
          refine mv_bipush (v := (6 : Int32)) dL_types_326 (by decide) rfl ?_
          refine mv_irem dL_types_328 rfl (fun v19 => ?_)
          refine mv_sub [1, 2, 3, 4, 5] rfl ?_
          exact sJ_L_types_329 l N0 D dA a0 x1 x2 x3 x5 (48 : Int32) v19 _ hk32
        · refine mv_iload 6 dL_types_301 rfl rfl ?_
          refine mv_iconst (v := (3 : Int32)) dL_types_303 (by decide) rfl ?_
          refine mv_ishr dL_types_304 rfl ?_
          refine mv_bipush (v := (6 : Int32)) dL_types_305 (by decide) rfl ?_
          refine mv_callSi (st := [.int (48 : Int32), mv_vr N0 (some a0)]) [.int (x6 >>> ((3 : Int32) &&& 31)), .int (6 : Int32)] (c_L_low l N0 D dA (x6 >>> ((3 : Int32) &&& 31)) (6 : Int32)) wc_L_38 ⟨by decide, by decide⟩ rfl (Nat.le_of_ble_eq_true rfl) dL_types_307 rfl (fun v20 => ?_)
          refine mv_goto (q := 329) dL_types_310 rfl ?_
          refine mv_sub [1, 2, 3, 4, 5] rfl ?_
          exact sJ_L_types_329 l N0 D dA a0 x1 x2 x3 x5 (48 : Int32) v20 _ hk32
  · refine mv_iconst (v := (0 : Int32)) dL_types_129 (by decide) rfl ?_
    refine mw_istore rfl dL_types_130 (by decide) rfl rfl ?_
    refine mv_sub [2, 3, 4, 5, 1, 6, 7, 0] rfl ?_
    exact sLp_L_types_132 l N0 D dA a0 x1 x2 x3 x5 x6 _ hk32 mv_FU s0 (0 : Int32)

def J_L_types_122 (k32 : Int32 → Int32 → mv_M Int32) (a0 : Nat) (x1 : Int32) (x2 : Int32) (x3 : Int32) (x5 : Int32) (x6 : Int32) (x8 : Int32) : mv_M Int32 :=
  J_L_types_123 k32 a0 x1 x2 x3 x5 x6 x8 (0 : Int32)

set_option maxHeartbeats 4000000 in
set_option maxRecDepth 100000 in
theorem sJ_L_types_122 (l : Launch) (N0 : Nat) (D : va_G) (dA : Nat → ClassId) (a0 : Nat) (x1 : Int32) (x2 : Int32) (x3 : Int32) (x5 : Int32) (x6 : Int32) (x8 : Int32) (k32 : Int32 → Int32 → mv_M Int32) (hk32 : ∀ (y4 : Int32) (y5 : Int32), mv_Sim l N0 D dA RL cL_types 10 2 42 (some .boolean) false mv_rI 32 [(0, mv_vr N0 (some a0)), (1, .int x1), (2, .int x2), (3, .int x3), (4, .int y4), (5, .int y5)] [] (k32 y4 y5)) : mv_Sim l N0 D dA RL cL_types 10 2 42 (some .boolean) false mv_rI 122 [(0, mv_vr N0 (some a0)), (1, .int x1), (2, .int x2), (3, .int x3), (5, .int x5), (6, .int x6), (8, .int x8)] [] (J_L_types_122 k32 a0 x1 x2 x3 x5 x6 x8) := by
  unfold J_L_types_122
  refine mv_iconst (v := (0 : Int32)) dL_types_122 (by decide) rfl ?_
  refine mv_sub [0, 1, 2, 3, 4, 5, 6] rfl ?_
  exact sJ_L_types_123 l N0 D dA a0 x1 x2 x3 x5 x6 x8 (0 : Int32) _ hk32

def J_L_types_106 (k32 : Int32 → Int32 → mv_M Int32) (a0 : Nat) (x1 : Int32) (x2 : Int32) (x3 : Int32) (x5 : Int32) (x6 : Int32) (x8 : Int32) : mv_M Int32 :=
  mv_bd (mv_rc 6 7 (some a0)) fun i22 => mv_bd (F_X6_append i22 ((48 : Int32) + x8)) fun v21 =>
  if v21 ≤ 0 then
    J_L_types_122 k32 a0 x1 x2 x3 x5 x6 x8
  else
    J_L_types_123 k32 a0 x1 x2 x3 x5 x6 x8 (1 : Int32)

set_option maxHeartbeats 4000000 in
set_option maxRecDepth 100000 in
theorem sJ_L_types_106 (l : Launch) (N0 : Nat) (D : va_G) (dA : Nat → ClassId) (a0 : Nat) (x1 : Int32) (x2 : Int32) (x3 : Int32) (x5 : Int32) (x6 : Int32) (x8 : Int32) (k32 : Int32 → Int32 → mv_M Int32) (hk32 : ∀ (y4 : Int32) (y5 : Int32), mv_Sim l N0 D dA RL cL_types 10 2 42 (some .boolean) false mv_rI 32 [(0, mv_vr N0 (some a0)), (1, .int x1), (2, .int x2), (3, .int x3), (4, .int y4), (5, .int y5)] [] (k32 y4 y5)) : mv_Sim l N0 D dA RL cL_types 10 2 42 (some .boolean) false mv_rI 106 [(0, mv_vr N0 (some a0)), (1, .int x1), (2, .int x2), (3, .int x3), (5, .int x5), (6, .int x6), (8, .int x8)] [] (J_L_types_106 k32 a0 x1 x2 x3 x5 x6 x8) := by
  unfold J_L_types_106
  refine mv_aload_n 0 dL_types_106 rfl rfl rfl ?_
  refine mv_bipush (v := (48 : Int32)) dL_types_107 (by decide) rfl ?_
  refine mv_iload 6 dL_types_109 rfl rfl ?_
  refine mv_iadd dL_types_111 rfl ?_
  refine mv_callVi (st := []) [.int ((48 : Int32) + x8)] (fun i22 => c_X6_append l N0 D dA i22 ((48 : Int32) + x8)) (T := TX6) rfl (by decide) wc_L_62 ⟨by decide, by decide⟩ rfl (Nat.le_of_ble_eq_true rfl) dL_types_112 rfl (fun v21 => ?_)
  refine mv_if_le (tgt := 122) dL_types_115 rfl rfl ?_ ?_
  · refine mv_sub [0, 1, 2, 3, 4, 5, 6] rfl ?_
    exact sJ_L_types_122 l N0 D dA a0 x1 x2 x3 x5 x6 x8 _ hk32
  · refine mv_iconst (v := (1 : Int32)) dL_types_118 (by decide) rfl ?_
    refine mv_goto (q := 123) dL_types_119 rfl ?_
    refine mv_sub [0, 1, 2, 3, 4, 5, 6] rfl ?_
    exact sJ_L_types_123 l N0 D dA a0 x1 x2 x3 x5 x6 x8 (1 : Int32) _ hk32

def J_L_types_100 (k32 : Int32 → Int32 → mv_M Int32) (a0 : Nat) (x1 : Int32) (x2 : Int32) (x3 : Int32) (x5 : Int32) (x6 : Int32) (x8 : Int32) (s1 : Int32) : mv_M Int32 :=
  mv_bd (mv_rc 6 7 (some a0)) fun i24 => mv_bd (F_X6_append i24 s1) fun v23 =>
  if v23 ≤ 0 then
    J_L_types_122 k32 a0 x1 x2 x3 x5 x6 x8
  else
    J_L_types_106 k32 a0 x1 x2 x3 x5 x6 x8

set_option maxHeartbeats 4000000 in
set_option maxRecDepth 100000 in
theorem sJ_L_types_100 (l : Launch) (N0 : Nat) (D : va_G) (dA : Nat → ClassId) (a0 : Nat) (x1 : Int32) (x2 : Int32) (x3 : Int32) (x5 : Int32) (x6 : Int32) (x8 : Int32) (s1 : Int32) (k32 : Int32 → Int32 → mv_M Int32) (hk32 : ∀ (y4 : Int32) (y5 : Int32), mv_Sim l N0 D dA RL cL_types 10 2 42 (some .boolean) false mv_rI 32 [(0, mv_vr N0 (some a0)), (1, .int x1), (2, .int x2), (3, .int x3), (4, .int y4), (5, .int y5)] [] (k32 y4 y5)) : mv_Sim l N0 D dA RL cL_types 10 2 42 (some .boolean) false mv_rI 100 [(0, mv_vr N0 (some a0)), (1, .int x1), (2, .int x2), (3, .int x3), (5, .int x5), (6, .int x6), (8, .int x8)] [.int s1, mv_vr N0 (some a0)] (J_L_types_100 k32 a0 x1 x2 x3 x5 x6 x8 s1) := by
  unfold J_L_types_100
  refine mv_callVi (st := []) [.int s1] (fun i24 => c_X6_append l N0 D dA i24 s1) (T := TX6) rfl (by decide) wc_L_62 ⟨by decide, by decide⟩ rfl (Nat.le_of_ble_eq_true rfl) dL_types_100 rfl (fun v23 => ?_)
  refine mv_if_le (tgt := 122) dL_types_103 rfl rfl ?_ ?_
  · refine mv_sub [0, 1, 2, 3, 4, 5, 6] rfl ?_
    exact sJ_L_types_122 l N0 D dA a0 x1 x2 x3 x5 x6 x8 _ hk32
  · refine mv_sub [0, 1, 2, 3, 4, 5, 6] rfl ?_
    exact sJ_L_types_106 l N0 D dA a0 x1 x2 x3 x5 x6 x8 _ hk32

def J_L_types_67 (k32 : Int32 → Int32 → mv_M Int32) (a0 : Nat) (x1 : Int32) (x2 : Int32) (x3 : Int32) (x4 : Int32) (x5 : Int32) (x6 : Int32) (s0 : Int32) : mv_M Int32 :=
  mv_bd (F_L_low x6 s0) fun v25 =>
  if x4 = 0 then
    J_L_types_122 k32 a0 x1 x2 x3 x5 x6 v25
  else
    if x5 = 0 then
      J_L_types_106 k32 a0 x1 x2 x3 x5 x6 v25
    else
      if x1 = 0 then
        J_L_types_100 k32 a0 x1 x2 x3 x5 x6 v25 (44 : Int32)
      else
        J_L_types_100 k32 a0 x1 x2 x3 x5 x6 v25 (59 : Int32)

set_option maxHeartbeats 4000000 in
set_option maxRecDepth 100000 in
theorem sJ_L_types_67 (l : Launch) (N0 : Nat) (D : va_G) (dA : Nat → ClassId) (a0 : Nat) (x1 : Int32) (x2 : Int32) (x3 : Int32) (x4 : Int32) (x5 : Int32) (x6 : Int32) (s0 : Int32) (k32 : Int32 → Int32 → mv_M Int32) (hk32 : ∀ (y4 : Int32) (y5 : Int32), mv_Sim l N0 D dA RL cL_types 10 2 42 (some .boolean) false mv_rI 32 [(0, mv_vr N0 (some a0)), (1, .int x1), (2, .int x2), (3, .int x3), (4, .int y4), (5, .int y5)] [] (k32 y4 y5)) : mv_Sim l N0 D dA RL cL_types 10 2 42 (some .boolean) false mv_rI 67 [(0, mv_vr N0 (some a0)), (1, .int x1), (2, .int x2), (3, .int x3), (4, .int x4), (5, .int x5), (6, .int x6)] [.int s0] (J_L_types_67 k32 a0 x1 x2 x3 x4 x5 x6 s0) := by
  unfold J_L_types_67
  refine mw_istore rfl dL_types_67 (by decide) rfl rfl ?_
  refine mv_iload 7 dL_types_69 rfl rfl ?_
  refine mv_iload 0 dL_types_71 rfl rfl ?_
  refine mv_callSi (st := []) [.int x6, .int s0] (c_L_low l N0 D dA x6 s0) wc_L_38 ⟨by decide, by decide⟩ rfl (Nat.le_of_ble_eq_true rfl) dL_types_73 rfl (fun v25 => ?_)
  refine mw_istore rfl dL_types_76 (by decide) rfl rfl ?_
  refine mv_iload 6 dL_types_78 rfl rfl ?_
  refine mv_if_eq (tgt := 122) dL_types_80 rfl rfl ?_ ?_
  · refine mv_sub [2, 3, 4, 5, 7, 8, 0] rfl ?_
    exact sJ_L_types_122 l N0 D dA a0 x1 x2 x3 x5 x6 v25 _ hk32
  · refine mv_iload 7 dL_types_83 rfl rfl ?_
    refine mv_if_eq (tgt := 106) dL_types_85 rfl rfl ?_ ?_
    · refine mv_sub [2, 3, 4, 5, 7, 8, 0] rfl ?_
      exact sJ_L_types_106 l N0 D dA a0 x1 x2 x3 x5 x6 v25 _ hk32
    · refine mv_aload_n 2 dL_types_88 rfl rfl rfl ?_
      refine mv_iload_n 3 dL_types_89 rfl rfl rfl ?_
      refine mv_if_eq (tgt := 98) dL_types_90 rfl rfl ?_ ?_
      · refine mv_bipush (v := (44 : Int32)) dL_types_98 (by decide) rfl ?_
        refine mv_sub [2, 3, 4, 5, 7, 8, 0] rfl ?_
        exact sJ_L_types_100 l N0 D dA a0 x1 x2 x3 x5 x6 v25 (44 : Int32) _ hk32
      · refine mv_bipush (v := (59 : Int32)) dL_types_93 (by decide) rfl ?_
        refine mv_goto (q := 100) dL_types_95 rfl ?_
        refine mv_sub [2, 3, 4, 5, 7, 8, 0] rfl ?_
        exact sJ_L_types_100 l N0 D dA a0 x1 x2 x3 x5 x6 v25 (59 : Int32) _ hk32

def J_L_types_389 (a0 : Nat) (s0 : Int32) : mv_M Int32 :=
  mv_rz s0

set_option maxHeartbeats 4000000 in
set_option maxRecDepth 100000 in
theorem sJ_L_types_389 (l : Launch) (N0 : Nat) (D : va_G) (dA : Nat → ClassId) (a0 : Nat) (s0 : Int32) : mv_Sim l N0 D dA RL cL_types 10 2 42 (some .boolean) false mv_rI 389 [(0, mv_vr N0 (some a0))] [.int s0] (J_L_types_389 a0 s0) := by
  unfold J_L_types_389
  exact mv_zret dL_types_389

def J_L_types_384 (a0 : Nat) : mv_M Int32 :=
  J_L_types_389 a0 (1 : Int32)

set_option maxHeartbeats 4000000 in
set_option maxRecDepth 100000 in
theorem sJ_L_types_384 (l : Launch) (N0 : Nat) (D : va_G) (dA : Nat → ClassId) (a0 : Nat) : mv_Sim l N0 D dA RL cL_types 10 2 42 (some .boolean) false mv_rI 384 [(0, mv_vr N0 (some a0))] [] (J_L_types_384 a0) := by
  unfold J_L_types_384
  refine mv_iconst (v := (1 : Int32)) dL_types_384 (by decide) rfl ?_
  refine mv_goto (q := 389) dL_types_385 rfl ?_
  refine mv_sub [0] rfl ?_
  exact sJ_L_types_389 l N0 D dA a0 (1 : Int32)

def J_L_types_388 (a0 : Nat) : mv_M Int32 :=
  J_L_types_389 a0 (0 : Int32)

set_option maxHeartbeats 4000000 in
set_option maxRecDepth 100000 in
theorem sJ_L_types_388 (l : Launch) (N0 : Nat) (D : va_G) (dA : Nat → ClassId) (a0 : Nat) : mv_Sim l N0 D dA RL cL_types 10 2 42 (some .boolean) false mv_rI 388 [(0, mv_vr N0 (some a0))] [] (J_L_types_388 a0) := by
  unfold J_L_types_388
  refine mv_iconst (v := (0 : Int32)) dL_types_388 (by decide) rfl ?_
  refine mv_sub [0] rfl ?_
  exact sJ_L_types_389 l N0 D dA a0 (0 : Int32)

def J_L_types_378 (a0 : Nat) (s1 : Int32) : mv_M Int32 :=
  mv_bd (mv_rc 6 7 (some a0)) fun i27 => mv_bd (F_X6_append i27 s1) fun v26 =>
  if v26 ≤ 0 then
    J_L_types_388 a0
  else
    J_L_types_384 a0

set_option maxHeartbeats 4000000 in
set_option maxRecDepth 100000 in
theorem sJ_L_types_378 (l : Launch) (N0 : Nat) (D : va_G) (dA : Nat → ClassId) (a0 : Nat) (s1 : Int32) : mv_Sim l N0 D dA RL cL_types 10 2 42 (some .boolean) false mv_rI 378 [(0, mv_vr N0 (some a0))] [.int s1, mv_vr N0 (some a0)] (J_L_types_378 a0 s1) := by
  unfold J_L_types_378
  refine mv_callVi (st := []) [.int s1] (fun i27 => c_X6_append l N0 D dA i27 s1) (T := TX6) rfl (by decide) wc_L_62 ⟨by decide, by decide⟩ rfl (Nat.le_of_ble_eq_true rfl) dL_types_378 rfl (fun v26 => ?_)
  refine mv_if_le (tgt := 388) dL_types_381 rfl rfl ?_ ?_
  · refine mv_sub [0] rfl ?_
    exact sJ_L_types_388 l N0 D dA a0
  · refine mv_sub [0] rfl ?_
    exact sJ_L_types_384 l N0 D dA a0

def Lp_L_types_32 (a0 : Nat) (x1 : Int32) (x2 : Int32) (x3 : Int32) : Nat → Int32 → Int32 → mv_M Int32
  | 0, _, _ => mv_fl
  | n + 1, x4, x5 =>
    if x3 ≤ x5 then
      if x4 = 0 then
        J_L_types_388 a0
      else
        mv_bd (F_L_low (x2 >>> ((26 : Int32) &&& 31)) (6 : Int32)) fun v28 =>
        if 0 < v28 then
          J_L_types_384 a0
        else
          if x1 = 0 then
            J_L_types_378 a0 (44 : Int32)
          else
            J_L_types_378 a0 (59 : Int32)
    else
      mv_bd (mv_pu (x2 >>> (((2 : Int32) + ((3 : Int32) * x5)) &&& 31))) fun v29 =>
      mv_bd (F_L_low (x2 >>> ((22 : Int32) &&& 31)) (9 : Int32)) fun v30 =>
      if v30 = 0 then
        J_L_types_67 (Lp_L_types_32 a0 x1 x2 x3 n) a0 x1 x2 x3 x4 x5 v29 (7 : Int32)
      else
        J_L_types_67 (Lp_L_types_32 a0 x1 x2 x3 n) a0 x1 x2 x3 x4 x5 v29 (6 : Int32)

set_option maxHeartbeats 4000000 in
set_option maxRecDepth 100000 in
theorem sLp_L_types_32 (l : Launch) (N0 : Nat) (D : va_G) (dA : Nat → ClassId) (a0 : Nat) (x1 : Int32) (x2 : Int32) (x3 : Int32) : ∀ (n : Nat) (x4 : Int32) (x5 : Int32), mv_Sim l N0 D dA RL cL_types 10 2 42 (some .boolean) false mv_rI 32 [(0, mv_vr N0 (some a0)), (1, .int x1), (2, .int x2), (3, .int x3), (4, .int x4), (5, .int x5)] [] (Lp_L_types_32 a0 x1 x2 x3 n x4 x5) := by
  intro n
  induction n with
  | zero => intro x4 x5; rw [Lp_L_types_32]; exact mv_fl_sim
  | succ n ih =>
    intro x4 x5
    rw [Lp_L_types_32]
    refine mv_iload 5 dL_types_32 rfl rfl ?_
    refine mv_iload_n 3 dL_types_34 rfl rfl rfl ?_
    refine mv_icmp_ge (tgt := 349) dL_types_35 rfl rfl ?_ ?_
    · refine mv_iload 4 dL_types_349 rfl rfl ?_
      refine mv_if_eq (tgt := 388) dL_types_351 rfl rfl ?_ ?_
      · refine mv_sub [0] rfl ?_
        exact sJ_L_types_388 l N0 D dA a0
      · refine mv_iload_n 2 dL_types_354 rfl rfl rfl ?_
        refine mv_bipush (v := (26 : Int32)) dL_types_355 (by decide) rfl ?_
        refine mv_ishr dL_types_357 rfl ?_
        refine mv_bipush (v := (6 : Int32)) dL_types_358 (by decide) rfl ?_
        refine mv_callSi (st := []) [.int (x2 >>> ((26 : Int32) &&& 31)), .int (6 : Int32)] (c_L_low l N0 D dA (x2 >>> ((26 : Int32) &&& 31)) (6 : Int32)) wc_L_38 ⟨by decide, by decide⟩ rfl (Nat.le_of_ble_eq_true rfl) dL_types_360 rfl (fun v28 => ?_)
        refine mv_if_gt (tgt := 384) dL_types_363 rfl rfl ?_ ?_
        · refine mv_sub [0] rfl ?_
          exact sJ_L_types_384 l N0 D dA a0
        · refine mv_aload_n 0 dL_types_366 rfl rfl rfl ?_
          refine mv_iload_n 1 dL_types_367 rfl rfl rfl ?_
          refine mv_if_eq (tgt := 376) dL_types_368 rfl rfl ?_ ?_
          · refine mv_bipush (v := (44 : Int32)) dL_types_376 (by decide) rfl ?_
            refine mv_sub [0] rfl ?_
            exact sJ_L_types_378 l N0 D dA a0 (44 : Int32)
          · refine mv_bipush (v := (59 : Int32)) dL_types_371 (by decide) rfl ?_
            refine mv_goto (q := 378) dL_types_373 rfl ?_
            refine mv_sub [0] rfl ?_
            exact sJ_L_types_378 l N0 D dA a0 (59 : Int32)
    · refine mv_iload_n 2 dL_types_38 rfl rfl rfl ?_
      refine mv_iconst (v := (2 : Int32)) dL_types_39 (by decide) rfl ?_
      refine mv_iconst (v := (3 : Int32)) dL_types_40 (by decide) rfl ?_
      refine mv_iload 5 dL_types_41 rfl rfl ?_
      refine mv_imul dL_types_43 rfl ?_
      refine mv_iadd dL_types_44 rfl ?_
      refine mv_ishr dL_types_45 rfl ?_
      refine mv_let (fun v29 => ?_)
      refine mw_istore rfl dL_types_46 (by decide) rfl rfl ?_
      refine mv_iload_n 3 dL_types_48 rfl rfl rfl ?_
      refine mv_bipush (v := (22 : Int32)) dL_types_49 (by decide) rfl ?_
      refine mv_ishr dL_types_51 rfl ?_
      refine mv_bipush (v := (9 : Int32)) dL_types_52 (by decide) rfl ?_
      refine mv_callSi (st := []) [.int (x2 >>> ((22 : Int32) &&& 31)), .int (9 : Int32)] (c_L_low l N0 D dA (x2 >>> ((22 : Int32) &&& 31)) (9 : Int32)) wc_L_38 ⟨by decide, by decide⟩ rfl (Nat.le_of_ble_eq_true rfl) dL_types_54 rfl (fun v30 => ?_)
      refine mv_if_ne (tgt := 65) dL_types_57 rfl rfl ?_ ?_
      · refine mv_bipush (v := (6 : Int32)) dL_types_65 (by decide) rfl ?_
        refine mv_sub [1, 2, 3, 4, 5, 6, 0] rfl ?_
        exact sJ_L_types_67 l N0 D dA a0 x1 x2 x3 x4 x5 v29 (6 : Int32) _ ih
      · refine mv_bipush (v := (7 : Int32)) dL_types_60 (by decide) rfl ?_
        refine mv_goto (q := 67) dL_types_62 rfl ?_
        refine mv_sub [1, 2, 3, 4, 5, 6, 0] rfl ?_
        exact sJ_L_types_67 l N0 D dA a0 x1 x2 x3 x4 x5 v29 (7 : Int32) _ ih

def J_L_types_27 (a0 : Nat) (x1 : Int32) (x2 : Int32) (x3 : Int32) (s0 : Int32) : mv_M Int32 :=
  Lp_L_types_32 a0 x1 x2 x3 mv_FU s0 (0 : Int32)

set_option maxHeartbeats 4000000 in
set_option maxRecDepth 100000 in
theorem sJ_L_types_27 (l : Launch) (N0 : Nat) (D : va_G) (dA : Nat → ClassId) (a0 : Nat) (x1 : Int32) (x2 : Int32) (x3 : Int32) (s0 : Int32) : mv_Sim l N0 D dA RL cL_types 10 2 42 (some .boolean) false mv_rI 27 [(0, mv_vr N0 (some a0)), (1, .int x1), (2, .int x2), (3, .int x3)] [.int s0] (J_L_types_27 a0 x1 x2 x3 s0) := by
  unfold J_L_types_27
  refine mw_istore rfl dL_types_27 (by decide) rfl rfl ?_
  refine mv_iconst (v := (0 : Int32)) dL_types_29 (by decide) rfl ?_
  refine mw_istore rfl dL_types_30 (by decide) rfl rfl ?_
  refine mv_sub [2, 3, 4, 5, 1, 0] rfl ?_
  exact sLp_L_types_32 l N0 D dA a0 x1 x2 x3 mv_FU s0 (0 : Int32)

def J_L_types_11 (a0 : Nat) (x1 : Int32) (x2 : Int32) (s0 : Int32) (s1 : Int32) : mv_M Int32 :=
  mv_bd (F_L_low s0 s1) fun v31 =>
  mv_bd (mv_rc 6 7 (some a0)) fun i33 => mv_bd (F_X6_clear i33 ) fun v32 =>
  if v32 < 0 then
    J_L_types_27 a0 x1 x2 v31 (0 : Int32)
  else
    J_L_types_27 a0 x1 x2 v31 (1 : Int32)

set_option maxHeartbeats 4000000 in
set_option maxRecDepth 100000 in
theorem sJ_L_types_11 (l : Launch) (N0 : Nat) (D : va_G) (dA : Nat → ClassId) (a0 : Nat) (x1 : Int32) (x2 : Int32) (s0 : Int32) (s1 : Int32) : mv_Sim l N0 D dA RL cL_types 10 2 42 (some .boolean) false mv_rI 11 [(0, mv_vr N0 (some a0)), (1, .int x1), (2, .int x2)] [.int s1, .int s0] (J_L_types_11 a0 x1 x2 s0 s1) := by
  unfold J_L_types_11
  refine mv_callSi (st := []) [.int s0, .int s1] (c_L_low l N0 D dA s0 s1) wc_L_38 ⟨by decide, by decide⟩ rfl (Nat.le_of_ble_eq_true rfl) dL_types_11 rfl (fun v31 => ?_)
  refine mw_istore_n rfl dL_types_14 rfl (by decide) rfl rfl ?_
  refine mv_aload_n 1 dL_types_15 rfl rfl rfl ?_
  refine mv_callVi (st := []) [] (fun i33 => c_X6_clear l N0 D dA i33 ) (T := TX6) rfl (by decide) wc_L_58 ⟨by decide, by decide⟩ rfl (Nat.le_of_ble_eq_true rfl) dL_types_16 rfl (fun v32 => ?_)
  refine mv_if_lt (tgt := 26) dL_types_19 rfl rfl ?_ ?_
  · refine mv_iconst (v := (0 : Int32)) dL_types_26 (by decide) rfl ?_
    refine mv_sub [1, 2, 3, 0] rfl ?_
    exact sJ_L_types_27 l N0 D dA a0 x1 x2 v31 (0 : Int32)
  · refine mv_iconst (v := (1 : Int32)) dL_types_22 (by decide) rfl ?_
    refine mv_goto (q := 27) dL_types_23 rfl ?_
    refine mv_sub [1, 2, 3, 0] rfl ?_
    exact sJ_L_types_27 l N0 D dA a0 x1 x2 v31 (1 : Int32)

def F_L_types (a0 : Nat) (a1 : Int32) (a2 : Int32) : mv_M Int32 :=
  if a1 = 0 then
    J_L_types_11 a0 a1 a2 a2 (7 : Int32)
  else
    J_L_types_11 a0 a1 a2 a2 (4 : Int32)

set_option maxHeartbeats 4000000 in
set_option maxRecDepth 100000 in
theorem c_L_types (l : Launch) (N0 : Nat) (D : va_G) (dA : Nat → ClassId) (a0 : Nat) (a1 : Int32) (a2 : Int32) : mv_SimM l N0 D dA yL_types cL_types 10 (some .boolean) 2 42 mv_rI [.ref (N0 + a0), .int a1, .int a2] (F_L_types a0 a1 a2) := by
  refine mv_SimM_oL (L0 := [(0, mv_vr N0 (some a0)), (1, .int a1), (2, .int a2)]) false (by decide +kernel) (Nat.le_of_ble_eq_true rfl) rfl (rfl) (fun z => by cases z) ?_
  unfold F_L_types
  show mv_Sim l N0 D dA RL cL_types 10 2 42 (some .boolean) false mv_rI 0 _ _ _
  refine mv_iload_n 2 dL_types_0 rfl rfl rfl ?_
  refine mv_iload_n 1 dL_types_1 rfl rfl rfl ?_
  refine mv_if_eq (tgt := 9) dL_types_2 rfl rfl ?_ ?_
  · refine mv_bipush (v := (7 : Int32)) dL_types_9 (by decide) rfl ?_
    refine mv_sub [0, 1, 2] rfl ?_
    exact sJ_L_types_11 l N0 D dA a0 a1 a2 a2 (7 : Int32)
  · refine mv_iconst (v := (4 : Int32)) dL_types_5 (by decide) rfl ?_
    refine mv_goto (q := 11) dL_types_6 rfl ?_
    refine mv_sub [0, 1, 2] rfl ?_
    exact sJ_L_types_11 l N0 D dA a0 a1 a2 a2 (4 : Int32)

def J_L_reads_238 (a0 : Nat) (s0 : Int32) : mv_M Int32 :=
  mv_rz s0

set_option maxHeartbeats 4000000 in
set_option maxRecDepth 100000 in
theorem sJ_L_reads_238 (l : Launch) (N0 : Nat) (D : va_G) (dA : Nat → ClassId) (a0 : Nat) (s0 : Int32) : mv_Sim l N0 D dA RL cL_reads 14 8 191 (some .boolean) false mv_rI 238 [(0, mv_vr N0 (some a0))] [.int s0] (J_L_reads_238 a0 s0) := by
  unfold J_L_reads_238
  exact mv_zret dL_reads_238

def J_L_reads_237 (a0 : Nat) : mv_M Int32 :=
  J_L_reads_238 a0 (0 : Int32)

set_option maxHeartbeats 4000000 in
set_option maxRecDepth 100000 in
theorem sJ_L_reads_237 (l : Launch) (N0 : Nat) (D : va_G) (dA : Nat → ClassId) (a0 : Nat) : mv_Sim l N0 D dA RL cL_reads 14 8 191 (some .boolean) false mv_rI 237 [(0, mv_vr N0 (some a0))] [] (J_L_reads_237 a0) := by
  unfold J_L_reads_237
  refine mv_iconst (v := (0 : Int32)) dL_reads_237 (by decide) rfl ?_
  refine mv_sub [0] rfl ?_
  exact sJ_L_reads_238 l N0 D dA a0 (0 : Int32)

def J_L_reads_205 (a0 : Nat) (x5 : Int64) (x7 : Int32) (x9 : Int32) (x12 : Int32) : mv_M Int32 :=
  if x12 = x9 then
    mv_bd (F_L_look a0) fun v1 =>
    if (lg_cmp v1 x5) = 0 then
      mv_bd (mv_rc 6 7 (some a0)) fun i3 => mv_bd (F_X6_count i3 (16 : Int32)) fun v2 =>
      if v2 = x7 then
        J_L_reads_238 a0 (1 : Int32)
      else
        J_L_reads_237 a0
    else
      J_L_reads_237 a0
  else
    J_L_reads_237 a0

set_option maxHeartbeats 4000000 in
set_option maxRecDepth 100000 in
theorem sJ_L_reads_205 (l : Launch) (N0 : Nat) (D : va_G) (dA : Nat → ClassId) (a0 : Nat) (x5 : Int64) (x7 : Int32) (x9 : Int32) (x12 : Int32) : mv_Sim l N0 D dA RL cL_reads 14 8 191 (some .boolean) false mv_rI 205 [(0, mv_vr N0 (some a0)), (5, .long x5), (7, .int x7), (9, .int x9), (12, .int x12)] [] (J_L_reads_205 a0 x5 x7 x9 x12) := by
  unfold J_L_reads_205
  refine mv_iload 4 dL_reads_205 rfl rfl ?_
  refine mv_iload 3 dL_reads_207 rfl rfl ?_
  refine mv_icmp_ne (tgt := 237) dL_reads_209 rfl rfl ?_ ?_
  · refine mv_sub [0] rfl ?_
    exact sJ_L_reads_237 l N0 D dA a0
  · refine mv_aload_n 0 dL_reads_212 rfl rfl rfl ?_
    refine mv_callSj (st := []) [.ref (N0 + a0)] (c_L_look l N0 D dA a0) wc_L_69 ⟨by decide, by decide⟩ rfl (Nat.le_of_ble_eq_true rfl) dL_reads_213 rfl (fun v1 => ?_)
    refine mv_lload 1 dL_reads_216 rfl rfl ?_
    refine mv_lcmp dL_reads_218 rfl ?_
    refine mv_if_ne (tgt := 237) dL_reads_219 rfl rfl ?_ ?_
    · refine mv_sub [0] rfl ?_
      exact sJ_L_reads_237 l N0 D dA a0
    · refine mv_aload_n 0 dL_reads_222 rfl rfl rfl ?_
      refine mv_bipush (v := (16 : Int32)) dL_reads_223 (by decide) rfl ?_
      refine mv_callVi (st := []) [.int (16 : Int32)] (fun i3 => c_X6_count l N0 D dA i3 (16 : Int32)) (T := TX6) rfl (by decide) wc_L_13 ⟨by decide, by decide⟩ rfl (Nat.le_of_ble_eq_true rfl) dL_reads_225 rfl (fun v2 => ?_)
      refine mv_iload 2 dL_reads_228 rfl rfl ?_
      refine mv_icmp_ne (tgt := 237) dL_reads_230 rfl rfl ?_ ?_
      · refine mv_sub [0] rfl ?_
        exact sJ_L_reads_237 l N0 D dA a0
      · refine mv_iconst (v := (1 : Int32)) dL_reads_233 (by decide) rfl ?_
        refine mv_goto (q := 238) dL_reads_234 rfl ?_
        refine mv_sub [0] rfl ?_
        exact sJ_L_reads_238 l N0 D dA a0 (1 : Int32)

def J_L_reads_202 (a0 : Nat) (x5 : Int64) (x7 : Int32) (x9 : Int32) (x12 : Int32) (s0 : Int32) (s1 : Int32) : mv_M Int32 :=
  if s0 ≤ s1 then
    J_L_reads_237 a0
  else
    J_L_reads_205 a0 x5 x7 x9 x12

set_option maxHeartbeats 4000000 in
set_option maxRecDepth 100000 in
theorem sJ_L_reads_202 (l : Launch) (N0 : Nat) (D : va_G) (dA : Nat → ClassId) (a0 : Nat) (x5 : Int64) (x7 : Int32) (x9 : Int32) (x12 : Int32) (s0 : Int32) (s1 : Int32) : mv_Sim l N0 D dA RL cL_reads 14 8 191 (some .boolean) false mv_rI 202 [(0, mv_vr N0 (some a0)), (5, .long x5), (7, .int x7), (9, .int x9), (12, .int x12)] [.int s1, .int s0] (J_L_reads_202 a0 x5 x7 x9 x12 s0 s1) := by
  unfold J_L_reads_202
  refine mv_icmp_le (tgt := 237) dL_reads_202 rfl rfl ?_ ?_
  · refine mv_sub [0] rfl ?_
    exact sJ_L_reads_237 l N0 D dA a0
  · refine mv_sub [0, 1, 2, 3, 4] rfl ?_
    exact sJ_L_reads_205 l N0 D dA a0 x5 x7 x9 x12

def J_L_reads_315 (a0 : Nat) (s0 : Int32) : mv_M Int32 :=
  mv_rz s0

set_option maxHeartbeats 4000000 in
set_option maxRecDepth 100000 in
theorem sJ_L_reads_315 (l : Launch) (N0 : Nat) (D : va_G) (dA : Nat → ClassId) (a0 : Nat) (s0 : Int32) : mv_Sim l N0 D dA RL cL_reads 14 8 191 (some .boolean) false mv_rI 315 [(0, mv_vr N0 (some a0))] [.int s0] (J_L_reads_315 a0 s0) := by
  unfold J_L_reads_315
  exact mv_zret dL_reads_315

def J_L_reads_314 (a0 : Nat) : mv_M Int32 :=
  J_L_reads_315 a0 (0 : Int32)

set_option maxHeartbeats 4000000 in
set_option maxRecDepth 100000 in
theorem sJ_L_reads_314 (l : Launch) (N0 : Nat) (D : va_G) (dA : Nat → ClassId) (a0 : Nat) : mv_Sim l N0 D dA RL cL_reads 14 8 191 (some .boolean) false mv_rI 314 [(0, mv_vr N0 (some a0))] [] (J_L_reads_314 a0) := by
  unfold J_L_reads_314
  refine mv_iconst (v := (0 : Int32)) dL_reads_314 (by decide) rfl ?_
  refine mv_sub [0] rfl ?_
  exact sJ_L_reads_315 l N0 D dA a0 (0 : Int32)

def J_L_reads_305 (a0 : Nat) (x11 : Int32) (s0 : Int32) : mv_M Int32 :=
  if s0 = x11 then
    J_L_reads_315 a0 (1 : Int32)
  else
    J_L_reads_314 a0

set_option maxHeartbeats 4000000 in
set_option maxRecDepth 100000 in
theorem sJ_L_reads_305 (l : Launch) (N0 : Nat) (D : va_G) (dA : Nat → ClassId) (a0 : Nat) (x11 : Int32) (s0 : Int32) : mv_Sim l N0 D dA RL cL_reads 14 8 191 (some .boolean) false mv_rI 305 [(0, mv_vr N0 (some a0)), (11, .int x11)] [.int s0] (J_L_reads_305 a0 x11 s0) := by
  unfold J_L_reads_305
  refine mv_iload 1 dL_reads_305 rfl rfl ?_
  refine mv_icmp_ne (tgt := 314) dL_reads_307 rfl rfl ?_ ?_
  · refine mv_sub [0] rfl ?_
    exact sJ_L_reads_314 l N0 D dA a0
  · refine mv_iconst (v := (1 : Int32)) dL_reads_310 (by decide) rfl ?_
    refine mv_goto (q := 315) dL_reads_311 rfl ?_
    refine mv_sub [0] rfl ?_
    exact sJ_L_reads_315 l N0 D dA a0 (1 : Int32)

def J_L_reads_285 (a0 : Nat) (x2 : Int32) (x11 : Int32) (s0 : Int32) (s1 : Int32) : mv_M Int32 :=
  if s0 = s1 then
    if x2 = 0 then
      mv_bd (mv_rc 6 7 (some a0)) fun i5 => mv_bd (F_X6_count i5 (4 : Int32)) fun v4 =>
      J_L_reads_305 a0 x11 v4
    else
      mv_bd (mv_rc 6 7 (some a0)) fun i7 => mv_bd (F_X6_count i7 (2 : Int32)) fun v6 =>
      J_L_reads_305 a0 x11 v6
  else
    J_L_reads_314 a0

set_option maxHeartbeats 4000000 in
set_option maxRecDepth 100000 in
theorem sJ_L_reads_285 (l : Launch) (N0 : Nat) (D : va_G) (dA : Nat → ClassId) (a0 : Nat) (x2 : Int32) (x11 : Int32) (s0 : Int32) (s1 : Int32) : mv_Sim l N0 D dA RL cL_reads 14 8 191 (some .boolean) false mv_rI 285 [(0, mv_vr N0 (some a0)), (2, .int x2), (11, .int x11)] [.int s1, .int s0] (J_L_reads_285 a0 x2 x11 s0 s1) := by
  unfold J_L_reads_285
  refine mv_icmp_ne (tgt := 314) dL_reads_285 rfl rfl ?_ ?_
  · refine mv_sub [0] rfl ?_
    exact sJ_L_reads_314 l N0 D dA a0
  · refine mv_iload_n 1 dL_reads_288 rfl rfl rfl ?_
    refine mv_if_eq (tgt := 300) dL_reads_289 rfl rfl ?_ ?_
    · refine mv_aload_n 0 dL_reads_300 rfl rfl rfl ?_
      refine mv_iconst (v := (4 : Int32)) dL_reads_301 (by decide) rfl ?_
      refine mv_callVi (st := []) [.int (4 : Int32)] (fun i5 => c_X6_count l N0 D dA i5 (4 : Int32)) (T := TX6) rfl (by decide) wc_L_13 ⟨by decide, by decide⟩ rfl (Nat.le_of_ble_eq_true rfl) dL_reads_302 rfl (fun v4 => ?_)
      refine mv_sub [0, 2] rfl ?_
      exact sJ_L_reads_305 l N0 D dA a0 x11 v4
    · refine mv_aload_n 0 dL_reads_292 rfl rfl rfl ?_
      refine mv_iconst (v := (2 : Int32)) dL_reads_293 (by decide) rfl ?_
      refine mv_callVi (st := []) [.int (2 : Int32)] (fun i7 => c_X6_count l N0 D dA i7 (2 : Int32)) (T := TX6) rfl (by decide) wc_L_13 ⟨by decide, by decide⟩ rfl (Nat.le_of_ble_eq_true rfl) dL_reads_294 rfl (fun v6 => ?_)
      refine mv_goto (q := 305) dL_reads_297 rfl ?_
      refine mv_sub [0, 2] rfl ?_
      exact sJ_L_reads_305 l N0 D dA a0 x11 v6

def J_L_reads_162 (a0 : Nat) (x2 : Int32) (x3 : Int32) (x5 : Int64) (x7 : Int32) (x8 : Int32) (x9 : Int32) (x10 : Int32) (x11 : Int32) (x12 : Int32) (s0 : Int32) : mv_M Int32 :=
  if 0 ≤ x11 then
    if s0 = 0 then
      J_L_reads_314 a0
    else
      if x10 = ((-4) : Int32) then
        if x11 = (x8 + x3) then
          if x12 = 0 then
            mv_bd (mv_rc 6 7 (some a0)) fun i9 => mv_bd (F_X6_count i9 (16 : Int32)) fun v8 =>
            if (4 : Int32) ≤ x7 then
              J_L_reads_285 a0 x2 x11 v8 (4 : Int32)
            else
              J_L_reads_285 a0 x2 x11 v8 (x7 + (1 : Int32))
          else
            J_L_reads_314 a0
        else
          J_L_reads_314 a0
      else
        J_L_reads_314 a0
  else
    if s0 = 0 then
      J_L_reads_237 a0
    else
      if x10 = ((-4) : Int32) then
        if x11 = ((-3) : Int32) then
          if x2 = 0 then
            J_L_reads_202 a0 x5 x7 x9 x12 (x8 + x3) (8 : Int32)
          else
            J_L_reads_202 a0 x5 x7 x9 x12 (x8 + x3) (4 : Int32)
        else
          J_L_reads_237 a0
      else
        J_L_reads_205 a0 x5 x7 x9 x12

set_option maxHeartbeats 4000000 in
set_option maxRecDepth 100000 in
theorem sJ_L_reads_162 (l : Launch) (N0 : Nat) (D : va_G) (dA : Nat → ClassId) (a0 : Nat) (x2 : Int32) (x3 : Int32) (x5 : Int64) (x7 : Int32) (x8 : Int32) (x9 : Int32) (x10 : Int32) (x11 : Int32) (x12 : Int32) (s0 : Int32) : mv_Sim l N0 D dA RL cL_reads 14 8 191 (some .boolean) false mv_rI 162 [(0, mv_vr N0 (some a0)), (2, .int x2), (3, .int x3), (5, .long x5), (7, .int x7), (8, .int x8), (9, .int x9), (10, .int x10), (11, .int x11), (12, .int x12)] [.int s0] (J_L_reads_162 a0 x2 x3 x5 x7 x8 x9 x10 x11 x12 s0) := by
  unfold J_L_reads_162
  refine mw_istore rfl dL_reads_162 (by decide) rfl rfl ?_
  refine mv_iload 9 dL_reads_164 rfl rfl ?_
  refine mv_if_ge (tgt := 239) dL_reads_166 rfl rfl ?_ ?_
  · refine mv_iload 0 dL_reads_239 rfl rfl ?_
    refine mv_if_eq (tgt := 314) dL_reads_241 rfl rfl ?_ ?_
    · refine mv_sub [1] rfl ?_
      exact sJ_L_reads_314 l N0 D dA a0
    · refine mv_iload 8 dL_reads_244 rfl rfl ?_
      refine mv_bipush (v := ((-4) : Int32)) dL_reads_246 (by decide) rfl ?_
      refine mv_icmp_ne (tgt := 314) dL_reads_248 rfl rfl ?_ ?_
      · refine mv_sub [1] rfl ?_
        exact sJ_L_reads_314 l N0 D dA a0
      · refine mv_iload 9 dL_reads_251 rfl rfl ?_
        refine mv_iload 6 dL_reads_253 rfl rfl ?_
        refine mv_iload_n 3 dL_reads_255 rfl rfl rfl ?_
        refine mv_iadd dL_reads_256 rfl ?_
        refine mv_icmp_ne (tgt := 314) dL_reads_257 rfl rfl ?_ ?_
        · refine mv_sub [1] rfl ?_
          exact sJ_L_reads_314 l N0 D dA a0
        · refine mv_iload 10 dL_reads_260 rfl rfl ?_
          refine mv_if_ne (tgt := 314) dL_reads_262 rfl rfl ?_ ?_
          · refine mv_sub [1] rfl ?_
            exact sJ_L_reads_314 l N0 D dA a0
          · refine mv_aload_n 1 dL_reads_265 rfl rfl rfl ?_
            refine mv_bipush (v := (16 : Int32)) dL_reads_266 (by decide) rfl ?_
            refine mv_callVi (st := []) [.int (16 : Int32)] (fun i9 => c_X6_count l N0 D dA i9 (16 : Int32)) (T := TX6) rfl (by decide) wc_L_13 ⟨by decide, by decide⟩ rfl (Nat.le_of_ble_eq_true rfl) dL_reads_268 rfl (fun v8 => ?_)
            refine mv_iload 5 dL_reads_271 rfl rfl ?_
            refine mv_iconst (v := (4 : Int32)) dL_reads_273 (by decide) rfl ?_
            refine mv_icmp_ge (tgt := 284) dL_reads_274 rfl rfl ?_ ?_
            · refine mv_iconst (v := (4 : Int32)) dL_reads_284 (by decide) rfl ?_
              refine mv_sub [1, 2, 9] rfl ?_
              exact sJ_L_reads_285 l N0 D dA a0 x2 x11 v8 (4 : Int32)
            · refine mv_iload 5 dL_reads_277 rfl rfl ?_
              refine mv_iconst (v := (1 : Int32)) dL_reads_279 (by decide) rfl ?_
              refine mv_iadd dL_reads_280 rfl ?_
              refine mv_goto (q := 285) dL_reads_281 rfl ?_
              refine mv_sub [1, 2, 9] rfl ?_
              exact sJ_L_reads_285 l N0 D dA a0 x2 x11 v8 (x7 + (1 : Int32))
  · refine mv_iload 0 dL_reads_169 rfl rfl ?_
    refine mv_if_eq (tgt := 237) dL_reads_171 rfl rfl ?_ ?_
    · refine mv_sub [1] rfl ?_
      exact sJ_L_reads_237 l N0 D dA a0
    · refine mv_iload 8 dL_reads_174 rfl rfl ?_
      refine mv_bipush (v := ((-4) : Int32)) dL_reads_176 (by decide) rfl ?_
      refine mv_icmp_ne (tgt := 205) dL_reads_178 rfl rfl ?_ ?_
      · refine mv_sub [1, 4, 5, 7, 10] rfl ?_
        exact sJ_L_reads_205 l N0 D dA a0 x5 x7 x9 x12
      · refine mv_iload 9 dL_reads_181 rfl rfl ?_
        refine mv_bipush (v := ((-3) : Int32)) dL_reads_183 (by decide) rfl ?_
        refine mv_icmp_ne (tgt := 237) dL_reads_185 rfl rfl ?_ ?_
        · refine mv_sub [1] rfl ?_
          exact sJ_L_reads_237 l N0 D dA a0
        · refine mv_iload 6 dL_reads_188 rfl rfl ?_
          refine mv_iload_n 3 dL_reads_190 rfl rfl rfl ?_
          refine mv_iadd dL_reads_191 rfl ?_
          refine mv_iload_n 2 dL_reads_192 rfl rfl rfl ?_
          refine mv_if_eq (tgt := 200) dL_reads_193 rfl rfl ?_ ?_
          · refine mv_bipush (v := (8 : Int32)) dL_reads_200 (by decide) rfl ?_
            refine mv_sub [1, 4, 5, 7, 10] rfl ?_
            exact sJ_L_reads_202 l N0 D dA a0 x5 x7 x9 x12 (x8 + x3) (8 : Int32)
          · refine mv_iconst (v := (4 : Int32)) dL_reads_196 (by decide) rfl ?_
            refine mv_goto (q := 202) dL_reads_197 rfl ?_
            refine mv_sub [1, 4, 5, 7, 10] rfl ?_
            exact sJ_L_reads_202 l N0 D dA a0 x5 x7 x9 x12 (x8 + x3) (4 : Int32)

def J_L_reads_157 (a0 : Nat) (x2 : Int32) (x3 : Int32) (x5 : Int64) (x7 : Int32) (x8 : Int32) (x9 : Int32) (x10 : Int32) (x11 : Int32) (x12 : Int32) : mv_M Int32 :=
  J_L_reads_162 a0 x2 x3 x5 x7 x8 x9 x10 x11 x12 (1 : Int32)

set_option maxHeartbeats 4000000 in
set_option maxRecDepth 100000 in
theorem sJ_L_reads_157 (l : Launch) (N0 : Nat) (D : va_G) (dA : Nat → ClassId) (a0 : Nat) (x2 : Int32) (x3 : Int32) (x5 : Int64) (x7 : Int32) (x8 : Int32) (x9 : Int32) (x10 : Int32) (x11 : Int32) (x12 : Int32) : mv_Sim l N0 D dA RL cL_reads 14 8 191 (some .boolean) false mv_rI 157 [(0, mv_vr N0 (some a0)), (2, .int x2), (3, .int x3), (5, .long x5), (7, .int x7), (8, .int x8), (9, .int x9), (10, .int x10), (11, .int x11), (12, .int x12)] [] (J_L_reads_157 a0 x2 x3 x5 x7 x8 x9 x10 x11 x12) := by
  unfold J_L_reads_157
  refine mv_iconst (v := (1 : Int32)) dL_reads_157 (by decide) rfl ?_
  refine mv_goto (q := 162) dL_reads_158 rfl ?_
  refine mv_sub [0, 1, 2, 3, 4, 5, 6, 7, 8, 9] rfl ?_
  exact sJ_L_reads_162 l N0 D dA a0 x2 x3 x5 x7 x8 x9 x10 x11 x12 (1 : Int32)

def J_L_reads_161 (a0 : Nat) (x2 : Int32) (x3 : Int32) (x5 : Int64) (x7 : Int32) (x8 : Int32) (x9 : Int32) (x10 : Int32) (x11 : Int32) (x12 : Int32) : mv_M Int32 :=
  J_L_reads_162 a0 x2 x3 x5 x7 x8 x9 x10 x11 x12 (0 : Int32)

set_option maxHeartbeats 4000000 in
set_option maxRecDepth 100000 in
theorem sJ_L_reads_161 (l : Launch) (N0 : Nat) (D : va_G) (dA : Nat → ClassId) (a0 : Nat) (x2 : Int32) (x3 : Int32) (x5 : Int64) (x7 : Int32) (x8 : Int32) (x9 : Int32) (x10 : Int32) (x11 : Int32) (x12 : Int32) : mv_Sim l N0 D dA RL cL_reads 14 8 191 (some .boolean) false mv_rI 161 [(0, mv_vr N0 (some a0)), (2, .int x2), (3, .int x3), (5, .long x5), (7, .int x7), (8, .int x8), (9, .int x9), (10, .int x10), (11, .int x11), (12, .int x12)] [] (J_L_reads_161 a0 x2 x3 x5 x7 x8 x9 x10 x11 x12) := by
  unfold J_L_reads_161
  refine mv_iconst (v := (0 : Int32)) dL_reads_161 (by decide) rfl ?_
  refine mv_sub [0, 1, 2, 3, 4, 5, 6, 7, 8, 9] rfl ?_
  exact sJ_L_reads_162 l N0 D dA a0 x2 x3 x5 x7 x8 x9 x10 x11 x12 (0 : Int32)

def J_L_reads_138 (a0 : Nat) (x2 : Int32) (x3 : Int32) (x5 : Int64) (x7 : Int32) (x8 : Int32) (x9 : Int32) (x10 : Int32) (x11 : Int32) (x12 : Int32) : mv_M Int32 :=
  if x10 = ((-4) : Int32) then
    J_L_reads_157 a0 x2 x3 x5 x7 x8 x9 x10 x11 x12
  else
    if x10 < 0 then
      J_L_reads_161 a0 x2 x3 x5 x7 x8 x9 x10 x11 x12
    else
      if x9 < x10 then
        J_L_reads_161 a0 x2 x3 x5 x7 x8 x9 x10 x11 x12
      else
        J_L_reads_157 a0 x2 x3 x5 x7 x8 x9 x10 x11 x12

set_option maxHeartbeats 4000000 in
set_option maxRecDepth 100000 in
theorem sJ_L_reads_138 (l : Launch) (N0 : Nat) (D : va_G) (dA : Nat → ClassId) (a0 : Nat) (x2 : Int32) (x3 : Int32) (x5 : Int64) (x7 : Int32) (x8 : Int32) (x9 : Int32) (x10 : Int32) (x11 : Int32) (x12 : Int32) : mv_Sim l N0 D dA RL cL_reads 14 8 191 (some .boolean) false mv_rI 138 [(0, mv_vr N0 (some a0)), (2, .int x2), (3, .int x3), (5, .long x5), (7, .int x7), (8, .int x8), (9, .int x9), (10, .int x10), (11, .int x11), (12, .int x12)] [] (J_L_reads_138 a0 x2 x3 x5 x7 x8 x9 x10 x11 x12) := by
  unfold J_L_reads_138
  refine mv_iload 7 dL_reads_138 rfl rfl ?_
  refine mv_bipush (v := ((-4) : Int32)) dL_reads_140 (by decide) rfl ?_
  refine mv_icmp_eq (tgt := 157) dL_reads_142 rfl rfl ?_ ?_
  · refine mv_sub [0, 1, 2, 3, 4, 5, 6, 7, 8, 9] rfl ?_
    exact sJ_L_reads_157 l N0 D dA a0 x2 x3 x5 x7 x8 x9 x10 x11 x12
  · refine mv_iload 7 dL_reads_145 rfl rfl ?_
    refine mv_if_lt (tgt := 161) dL_reads_147 rfl rfl ?_ ?_
    · refine mv_sub [0, 1, 2, 3, 4, 5, 6, 7, 8, 9] rfl ?_
      exact sJ_L_reads_161 l N0 D dA a0 x2 x3 x5 x7 x8 x9 x10 x11 x12
    · refine mv_iload 7 dL_reads_150 rfl rfl ?_
      refine mv_iload 6 dL_reads_152 rfl rfl ?_
      refine mv_icmp_gt (tgt := 161) dL_reads_154 rfl rfl ?_ ?_
      · refine mv_sub [0, 1, 2, 3, 4, 5, 6, 7, 8, 9] rfl ?_
        exact sJ_L_reads_161 l N0 D dA a0 x2 x3 x5 x7 x8 x9 x10 x11 x12
      · refine mv_sub [0, 1, 2, 3, 4, 5, 6, 7, 8, 9] rfl ?_
        exact sJ_L_reads_157 l N0 D dA a0 x2 x3 x5 x7 x8 x9 x10 x11 x12

def J_L_reads_111 (a0 : Nat) (x2 : Int32) (x3 : Int32) (x4 : Int32) (x5 : Int64) (x7 : Int32) (x8 : Int32) (x9 : Int32) (x10 : Int32) (s0 : Int32) : mv_M Int32 :=
  mv_bd (mv_rc 6 7 (some a0)) fun i11 => mv_bd (F_X6_clear i11 ) fun v10 =>
  if x4 = 0 then
    J_L_reads_161 a0 x2 x3 x5 x7 x8 x9 x10 s0 v10
  else
    if x10 = ((-4) : Int32) then
      J_L_reads_138 a0 x2 x3 x5 x7 x8 x9 x10 s0 v10
    else
      if s0 = ((-2) : Int32) then
        J_L_reads_138 a0 x2 x3 x5 x7 x8 x9 x10 s0 v10
      else
        J_L_reads_161 a0 x2 x3 x5 x7 x8 x9 x10 s0 v10

set_option maxHeartbeats 4000000 in
set_option maxRecDepth 100000 in
theorem sJ_L_reads_111 (l : Launch) (N0 : Nat) (D : va_G) (dA : Nat → ClassId) (a0 : Nat) (x2 : Int32) (x3 : Int32) (x4 : Int32) (x5 : Int64) (x7 : Int32) (x8 : Int32) (x9 : Int32) (x10 : Int32) (s0 : Int32) : mv_Sim l N0 D dA RL cL_reads 14 8 191 (some .boolean) false mv_rI 111 [(0, mv_vr N0 (some a0)), (2, .int x2), (3, .int x3), (4, .int x4), (5, .long x5), (7, .int x7), (8, .int x8), (9, .int x9), (10, .int x10)] [.int s0] (J_L_reads_111 a0 x2 x3 x4 x5 x7 x8 x9 x10 s0) := by
  unfold J_L_reads_111
  refine mw_istore rfl dL_reads_111 (by decide) rfl rfl ?_
  refine mv_aload_n 1 dL_reads_113 rfl rfl rfl ?_
  refine mv_callVi (st := []) [] (fun i11 => c_X6_clear l N0 D dA i11 ) (T := TX6) rfl (by decide) wc_L_58 ⟨by decide, by decide⟩ rfl (Nat.le_of_ble_eq_true rfl) dL_reads_114 rfl (fun v10 => ?_)
  refine mw_istore rfl dL_reads_117 (by decide) rfl rfl ?_
  refine mv_iload 5 dL_reads_119 rfl rfl ?_
  refine mv_if_eq (tgt := 161) dL_reads_121 rfl rfl ?_ ?_
  · refine mv_sub [2, 3, 4, 6, 7, 8, 9, 10, 1, 0] rfl ?_
    exact sJ_L_reads_161 l N0 D dA a0 x2 x3 x5 x7 x8 x9 x10 s0 v10
  · refine mv_iload 10 dL_reads_124 rfl rfl ?_
    refine mv_bipush (v := ((-4) : Int32)) dL_reads_126 (by decide) rfl ?_
    refine mv_icmp_eq (tgt := 138) dL_reads_128 rfl rfl ?_ ?_
    · refine mv_sub [2, 3, 4, 6, 7, 8, 9, 10, 1, 0] rfl ?_
      exact sJ_L_reads_138 l N0 D dA a0 x2 x3 x5 x7 x8 x9 x10 s0 v10
    · refine mv_iload 1 dL_reads_131 rfl rfl ?_
      refine mv_bipush (v := ((-2) : Int32)) dL_reads_133 (by decide) rfl ?_
      refine mv_icmp_ne (tgt := 161) dL_reads_135 rfl rfl ?_ ?_
      · refine mv_sub [2, 3, 4, 6, 7, 8, 9, 10, 1, 0] rfl ?_
        exact sJ_L_reads_161 l N0 D dA a0 x2 x3 x5 x7 x8 x9 x10 s0 v10
      · refine mv_sub [2, 3, 4, 6, 7, 8, 9, 10, 1, 0] rfl ?_
        exact sJ_L_reads_138 l N0 D dA a0 x2 x3 x5 x7 x8 x9 x10 s0 v10

def J_L_reads_91 (a0 : Nat) (x2 : Int32) (x3 : Int32) (x4 : Int32) (x5 : Int64) (x7 : Int32) (x8 : Int32) (x9 : Int32) (s1 : Int32) : mv_M Int32 :=
  mv_bd (mv_rc 6 7 (some a0)) fun i13 => mv_bd (F_X6_fault i13 s1) fun v12 =>
  if x2 = 0 then
    mv_bd (mv_rc 6 7 (some a0)) fun i15 => mv_bd (F_X6_letters i15 ) fun v14 =>
    J_L_reads_111 a0 x2 x3 x4 x5 x7 x8 x9 v12 v14
  else
    mv_bd (mv_rc 6 7 (some a0)) fun i17 => mv_bd (F_X6_tours i17 ) fun v16 =>
    J_L_reads_111 a0 x2 x3 x4 x5 x7 x8 x9 v12 v16

set_option maxHeartbeats 4000000 in
set_option maxRecDepth 100000 in
theorem sJ_L_reads_91 (l : Launch) (N0 : Nat) (D : va_G) (dA : Nat → ClassId) (a0 : Nat) (x2 : Int32) (x3 : Int32) (x4 : Int32) (x5 : Int64) (x7 : Int32) (x8 : Int32) (x9 : Int32) (s1 : Int32) : mv_Sim l N0 D dA RL cL_reads 14 8 191 (some .boolean) false mv_rI 91 [(0, mv_vr N0 (some a0)), (2, .int x2), (3, .int x3), (4, .int x4), (5, .long x5), (7, .int x7), (8, .int x8), (9, .int x9)] [.int s1, mv_vr N0 (some a0)] (J_L_reads_91 a0 x2 x3 x4 x5 x7 x8 x9 s1) := by
  unfold J_L_reads_91
  refine mv_callVi (st := []) [.int s1] (fun i13 => c_X6_fault l N0 D dA i13 s1) (T := TX6) rfl (by decide) wc_L_73 ⟨by decide, by decide⟩ rfl (Nat.le_of_ble_eq_true rfl) dL_reads_91 rfl (fun v12 => ?_)
  refine mw_istore rfl dL_reads_94 (by decide) rfl rfl ?_
  refine mv_iload_n 2 dL_reads_96 rfl rfl rfl ?_
  refine mv_if_eq (tgt := 107) dL_reads_97 rfl rfl ?_ ?_
  · refine mv_aload_n 1 dL_reads_107 rfl rfl rfl ?_
    refine mv_callVi (st := []) [] (fun i15 => c_X6_letters l N0 D dA i15 ) (T := TX6) rfl (by decide) wc_L_79 ⟨by decide, by decide⟩ rfl (Nat.le_of_ble_eq_true rfl) dL_reads_108 rfl (fun v14 => ?_)
    refine mv_sub [1, 2, 3, 4, 5, 6, 7, 8, 0] rfl ?_
    exact sJ_L_reads_111 l N0 D dA a0 x2 x3 x4 x5 x7 x8 x9 v12 v14
  · refine mv_aload_n 1 dL_reads_100 rfl rfl rfl ?_
    refine mv_callVi (st := []) [] (fun i17 => c_X6_tours l N0 D dA i17 ) (T := TX6) rfl (by decide) wc_L_76 ⟨by decide, by decide⟩ rfl (Nat.le_of_ble_eq_true rfl) dL_reads_101 rfl (fun v16 => ?_)
    refine mv_goto (q := 111) dL_reads_104 rfl ?_
    refine mv_sub [1, 2, 3, 4, 5, 6, 7, 8, 0] rfl ?_
    exact sJ_L_reads_111 l N0 D dA a0 x2 x3 x4 x5 x7 x8 x9 v12 v16

def J_L_reads_71 (a0 : Nat) (x2 : Int32) (x3 : Int32) (x4 : Int32) (x5 : Int64) (x7 : Int32) (s0 : Int32) : mv_M Int32 :=
  mv_bd (mv_rc 6 7 (some a0)) fun i19 => mv_bd (F_X6_count i19 (15 : Int32)) fun v18 =>
  if x2 = 0 then
    J_L_reads_91 a0 x2 x3 x4 x5 x7 s0 v18 (1 : Int32)
  else
    J_L_reads_91 a0 x2 x3 x4 x5 x7 s0 v18 (0 : Int32)

set_option maxHeartbeats 4000000 in
set_option maxRecDepth 100000 in
theorem sJ_L_reads_71 (l : Launch) (N0 : Nat) (D : va_G) (dA : Nat → ClassId) (a0 : Nat) (x2 : Int32) (x3 : Int32) (x4 : Int32) (x5 : Int64) (x7 : Int32) (s0 : Int32) : mv_Sim l N0 D dA RL cL_reads 14 8 191 (some .boolean) false mv_rI 71 [(0, mv_vr N0 (some a0)), (2, .int x2), (3, .int x3), (4, .int x4), (5, .long x5), (7, .int x7)] [.int s0] (J_L_reads_71 a0 x2 x3 x4 x5 x7 s0) := by
  unfold J_L_reads_71
  refine mw_istore rfl dL_reads_71 (by decide) rfl rfl ?_
  refine mv_aload_n 1 dL_reads_73 rfl rfl rfl ?_
  refine mv_bipush (v := (15 : Int32)) dL_reads_74 (by decide) rfl ?_
  refine mv_callVi (st := []) [.int (15 : Int32)] (fun i19 => c_X6_count l N0 D dA i19 (15 : Int32)) (T := TX6) rfl (by decide) wc_L_13 ⟨by decide, by decide⟩ rfl (Nat.le_of_ble_eq_true rfl) dL_reads_76 rfl (fun v18 => ?_)
  refine mw_istore rfl dL_reads_79 (by decide) rfl rfl ?_
  refine mv_aload_n 2 dL_reads_81 rfl rfl rfl ?_
  refine mv_iload_n 3 dL_reads_82 rfl rfl rfl ?_
  refine mv_if_eq (tgt := 90) dL_reads_83 rfl rfl ?_ ?_
  · refine mv_iconst (v := (1 : Int32)) dL_reads_90 (by decide) rfl ?_
    refine mv_sub [2, 3, 4, 5, 6, 7, 1, 0] rfl ?_
    exact sJ_L_reads_91 l N0 D dA a0 x2 x3 x4 x5 x7 s0 v18 (1 : Int32)
  · refine mv_iconst (v := (0 : Int32)) dL_reads_86 (by decide) rfl ?_
    refine mv_goto (q := 91) dL_reads_87 rfl ?_
    refine mv_sub [2, 3, 4, 5, 6, 7, 1, 0] rfl ?_
    exact sJ_L_reads_91 l N0 D dA a0 x2 x3 x4 x5 x7 s0 v18 (0 : Int32)

def J_L_reads_28 (a0 : Nat) (x1 : Int32) (x2 : Int32) (s0 : Int32) (s1 : Int32) : mv_M Int32 :=
  mv_bd (F_L_low s0 s1) fun v20 =>
  mv_bd (F_L_types a0 x2 x1) fun v21 =>
  mv_bd (F_L_look a0) fun v22 =>
  mv_bd (mv_rc 6 7 (some a0)) fun i24 => mv_bd (F_X6_count i24 (16 : Int32)) fun v23 =>
  if x2 = 0 then
    mv_bd (mv_rc 6 7 (some a0)) fun i26 => mv_bd (F_X6_count i26 (4 : Int32)) fun v25 =>
    J_L_reads_71 a0 x2 v20 v21 v22 v23 v25
  else
    mv_bd (mv_rc 6 7 (some a0)) fun i28 => mv_bd (F_X6_count i28 (2 : Int32)) fun v27 =>
    J_L_reads_71 a0 x2 v20 v21 v22 v23 v27

set_option maxHeartbeats 4000000 in
set_option maxRecDepth 100000 in
theorem sJ_L_reads_28 (l : Launch) (N0 : Nat) (D : va_G) (dA : Nat → ClassId) (a0 : Nat) (x1 : Int32) (x2 : Int32) (s0 : Int32) (s1 : Int32) : mv_Sim l N0 D dA RL cL_reads 14 8 191 (some .boolean) false mv_rI 28 [(0, mv_vr N0 (some a0)), (1, .int x1), (2, .int x2)] [.int s1, .int s0] (J_L_reads_28 a0 x1 x2 s0 s1) := by
  unfold J_L_reads_28
  refine mv_callSi (st := []) [.int s0, .int s1] (c_L_low l N0 D dA s0 s1) wc_L_38 ⟨by decide, by decide⟩ rfl (Nat.le_of_ble_eq_true rfl) dL_reads_28 rfl (fun v20 => ?_)
  refine mw_istore_n rfl dL_reads_31 rfl (by decide) rfl rfl ?_
  refine mv_aload_n 1 dL_reads_32 rfl rfl rfl ?_
  refine mv_iload_n 3 dL_reads_33 rfl rfl rfl ?_
  refine mv_iload_n 2 dL_reads_34 rfl rfl rfl ?_
  refine mv_callSi (st := []) [.ref (N0 + a0), .int x2, .int x1] (c_L_types l N0 D dA a0 x2 x1) wc_L_65 ⟨by decide, by decide⟩ rfl (Nat.le_of_ble_eq_true rfl) dL_reads_35 rfl (fun v21 => ?_)
  refine mw_istore rfl dL_reads_38 (by decide) rfl rfl ?_
  refine mv_aload_n 2 dL_reads_40 rfl rfl rfl ?_
  refine mv_callSj (st := []) [.ref (N0 + a0)] (c_L_look l N0 D dA a0) wc_L_69 ⟨by decide, by decide⟩ rfl (Nat.le_of_ble_eq_true rfl) dL_reads_41 rfl (fun v22 => ?_)
  refine mw_lstore rfl dL_reads_44 (by decide) rfl rfl ?_
  refine mv_aload_n 3 dL_reads_46 rfl rfl rfl ?_
  refine mv_bipush (v := (16 : Int32)) dL_reads_47 (by decide) rfl ?_
  refine mv_callVi (st := []) [.int (16 : Int32)] (fun i24 => c_X6_count l N0 D dA i24 (16 : Int32)) (T := TX6) rfl (by decide) wc_L_13 ⟨by decide, by decide⟩ rfl (Nat.le_of_ble_eq_true rfl) dL_reads_49 rfl (fun v23 => ?_)
  refine mw_istore rfl dL_reads_52 (by decide) rfl rfl ?_
  refine mv_iload_n 6 dL_reads_54 rfl rfl rfl ?_
  refine mv_if_eq (tgt := 66) dL_reads_55 rfl rfl ?_ ?_
  · refine mv_aload_n 4 dL_reads_66 rfl rfl rfl ?_
    refine mv_iconst (v := (4 : Int32)) dL_reads_67 (by decide) rfl ?_
    refine mv_callVi (st := []) [.int (4 : Int32)] (fun i26 => c_X6_count l N0 D dA i26 (4 : Int32)) (T := TX6) rfl (by decide) wc_L_13 ⟨by decide, by decide⟩ rfl (Nat.le_of_ble_eq_true rfl) dL_reads_68 rfl (fun v25 => ?_)
    refine mv_sub [4, 6, 3, 2, 1, 0] rfl ?_
    exact sJ_L_reads_71 l N0 D dA a0 x2 v20 v21 v22 v23 v25
  · refine mv_aload_n 4 dL_reads_58 rfl rfl rfl ?_
    refine mv_iconst (v := (2 : Int32)) dL_reads_59 (by decide) rfl ?_
    refine mv_callVi (st := []) [.int (2 : Int32)] (fun i28 => c_X6_count l N0 D dA i28 (2 : Int32)) (T := TX6) rfl (by decide) wc_L_13 ⟨by decide, by decide⟩ rfl (Nat.le_of_ble_eq_true rfl) dL_reads_60 rfl (fun v27 => ?_)
    refine mv_goto (q := 71) dL_reads_63 rfl ?_
    refine mv_sub [4, 6, 3, 2, 1, 0] rfl ?_
    exact sJ_L_reads_71 l N0 D dA a0 x2 v20 v21 v22 v23 v27

def J_L_reads_16 (a0 : Nat) (x1 : Int32) (s0 : Int32) : mv_M Int32 :=
  if s0 = 0 then
    J_L_reads_28 a0 x1 s0 x1 (7 : Int32)
  else
    J_L_reads_28 a0 x1 s0 x1 (4 : Int32)

set_option maxHeartbeats 4000000 in
set_option maxRecDepth 100000 in
theorem sJ_L_reads_16 (l : Launch) (N0 : Nat) (D : va_G) (dA : Nat → ClassId) (a0 : Nat) (x1 : Int32) (s0 : Int32) : mv_Sim l N0 D dA RL cL_reads 14 8 191 (some .boolean) false mv_rI 16 [(0, mv_vr N0 (some a0)), (1, .int x1)] [.int s0] (J_L_reads_16 a0 x1 s0) := by
  unfold J_L_reads_16
  refine mw_istore_n rfl dL_reads_16 rfl (by decide) rfl rfl ?_
  refine mv_iload_n 2 dL_reads_17 rfl rfl rfl ?_
  refine mv_iload_n 0 dL_reads_18 rfl rfl rfl ?_
  refine mv_if_eq (tgt := 26) dL_reads_19 rfl rfl ?_ ?_
  · refine mv_bipush (v := (7 : Int32)) dL_reads_26 (by decide) rfl ?_
    refine mv_sub [1, 2, 0] rfl ?_
    exact sJ_L_reads_28 l N0 D dA a0 x1 s0 x1 (7 : Int32)
  · refine mv_iconst (v := (4 : Int32)) dL_reads_22 (by decide) rfl ?_
    refine mv_goto (q := 28) dL_reads_23 rfl ?_
    refine mv_sub [1, 2, 0] rfl ?_
    exact sJ_L_reads_28 l N0 D dA a0 x1 s0 x1 (4 : Int32)

def F_L_reads (a0 : Nat) (a1 : Int32) : mv_M Int32 :=
  mv_bd (F_L_low (a1 >>> ((19 : Int32) &&& 31)) (2 : Int32)) fun v29 =>
  if v29 = 0 then
    J_L_reads_16 a0 a1 (1 : Int32)
  else
    J_L_reads_16 a0 a1 (0 : Int32)

set_option maxHeartbeats 4000000 in
set_option maxRecDepth 100000 in
theorem c_L_reads (l : Launch) (N0 : Nat) (D : va_G) (dA : Nat → ClassId) (a0 : Nat) (a1 : Int32) : mv_SimM l N0 D dA yL_reads cL_reads 14 (some .boolean) 8 191 mv_rI [.ref (N0 + a0), .int a1] (F_L_reads a0 a1) := by
  refine mv_SimM_oL (L0 := [(0, mv_vr N0 (some a0)), (1, .int a1)]) false (by decide +kernel) (Nat.le_of_ble_eq_true rfl) rfl (rfl) (fun z => by cases z) ?_
  unfold F_L_reads
  show mv_Sim l N0 D dA RL cL_reads 14 8 191 (some .boolean) false mv_rI 0 _ _ _
  refine mv_iload_n 1 dL_reads_0 rfl rfl rfl ?_
  refine mv_bipush (v := (19 : Int32)) dL_reads_1 (by decide) rfl ?_
  refine mv_ishr dL_reads_3 rfl ?_
  refine mv_iconst (v := (2 : Int32)) dL_reads_4 (by decide) rfl ?_
  refine mv_callSi (st := []) [.int (a1 >>> ((19 : Int32) &&& 31)), .int (2 : Int32)] (c_L_low l N0 D dA (a1 >>> ((19 : Int32) &&& 31)) (2 : Int32)) wc_L_38 ⟨by decide, by decide⟩ rfl (Nat.le_of_ble_eq_true rfl) dL_reads_5 rfl (fun v29 => ?_)
  refine mv_if_ne (tgt := 15) dL_reads_8 rfl rfl ?_ ?_
  · refine mv_iconst (v := (0 : Int32)) dL_reads_15 (by decide) rfl ?_
    refine mv_sub [0, 1] rfl ?_
    exact sJ_L_reads_16 l N0 D dA a0 a1 (0 : Int32)
  · refine mv_iconst (v := (1 : Int32)) dL_reads_11 (by decide) rfl ?_
    refine mv_goto (q := 16) dL_reads_12 rfl ?_
    refine mv_sub [0, 1] rfl ?_
    exact sJ_L_reads_16 l N0 D dA a0 a1 (1 : Int32)

def J_L_acts_150 (a0 : Nat) (s0 : Int32) : mv_M Int32 :=
  mv_rz s0

set_option maxHeartbeats 4000000 in
set_option maxRecDepth 100000 in
theorem sJ_L_acts_150 (l : Launch) (N0 : Nat) (D : va_G) (dA : Nat → ClassId) (a0 : Nat) (s0 : Int32) : mv_Sim l N0 D dA RL cL_acts 13 9 224 (some .boolean) false mv_rI 150 [(0, mv_vr N0 (some a0))] [.int s0] (J_L_acts_150 a0 s0) := by
  unfold J_L_acts_150
  exact mv_zret dL_acts_150

def J_L_acts_145 (a0 : Nat) : mv_M Int32 :=
  J_L_acts_150 a0 (1 : Int32)

set_option maxHeartbeats 4000000 in
set_option maxRecDepth 100000 in
theorem sJ_L_acts_145 (l : Launch) (N0 : Nat) (D : va_G) (dA : Nat → ClassId) (a0 : Nat) : mv_Sim l N0 D dA RL cL_acts 13 9 224 (some .boolean) false mv_rI 145 [(0, mv_vr N0 (some a0))] [] (J_L_acts_145 a0) := by
  unfold J_L_acts_145
  refine mv_iconst (v := (1 : Int32)) dL_acts_145 (by decide) rfl ?_
  refine mv_goto (q := 150) dL_acts_146 rfl ?_
  refine mv_sub [0] rfl ?_
  exact sJ_L_acts_150 l N0 D dA a0 (1 : Int32)

def J_L_acts_149 (a0 : Nat) : mv_M Int32 :=
  J_L_acts_150 a0 (0 : Int32)

set_option maxHeartbeats 4000000 in
set_option maxRecDepth 100000 in
theorem sJ_L_acts_149 (l : Launch) (N0 : Nat) (D : va_G) (dA : Nat → ClassId) (a0 : Nat) : mv_Sim l N0 D dA RL cL_acts 13 9 224 (some .boolean) false mv_rI 149 [(0, mv_vr N0 (some a0))] [] (J_L_acts_149 a0) := by
  unfold J_L_acts_149
  refine mv_iconst (v := (0 : Int32)) dL_acts_149 (by decide) rfl ?_
  refine mv_sub [0] rfl ?_
  exact sJ_L_acts_150 l N0 D dA a0 (0 : Int32)

def J_L_acts_142 (a0 : Nat) (s0 : Int32) (s1 : Int32) : mv_M Int32 :=
  if s0 = s1 then
    J_L_acts_145 a0
  else
    J_L_acts_149 a0

set_option maxHeartbeats 4000000 in
set_option maxRecDepth 100000 in
theorem sJ_L_acts_142 (l : Launch) (N0 : Nat) (D : va_G) (dA : Nat → ClassId) (a0 : Nat) (s0 : Int32) (s1 : Int32) : mv_Sim l N0 D dA RL cL_acts 13 9 224 (some .boolean) false mv_rI 142 [(0, mv_vr N0 (some a0))] [.int s1, .int s0] (J_L_acts_142 a0 s0 s1) := by
  unfold J_L_acts_142
  refine mv_icmp_ne (tgt := 149) dL_acts_142 rfl rfl ?_ ?_
  · refine mv_sub [0] rfl ?_
    exact sJ_L_acts_149 l N0 D dA a0
  · refine mv_sub [0] rfl ?_
    exact sJ_L_acts_145 l N0 D dA a0

def J_L_acts_108 (a0 : Nat) (x6 : Int32) (x7 : Int32) (x8 : Int32) (x9 : Int32) : mv_M Int32 :=
  if x9 = 0 then
    mv_bd (mv_rm x6 (7 : Int32)) fun v1 =>
    if x7 = v1 then
      mv_bd (mv_rc 6 7 (some a0)) fun i3 => mv_bd (F_X6_count i3 (1 : Int32)) fun v2 =>
      if x8 = (6 : Int32) then
        J_L_acts_142 a0 v2 ((-4) : Int32)
      else
        J_L_acts_142 a0 v2 x8
    else
      J_L_acts_145 a0
  else
    J_L_acts_145 a0

set_option maxHeartbeats 4000000 in
set_option maxRecDepth 100000 in
theorem sJ_L_acts_108 (l : Launch) (N0 : Nat) (D : va_G) (dA : Nat → ClassId) (a0 : Nat) (x6 : Int32) (x7 : Int32) (x8 : Int32) (x9 : Int32) : mv_Sim l N0 D dA RL cL_acts 13 9 224 (some .boolean) false mv_rI 108 [(0, mv_vr N0 (some a0)), (6, .int x6), (7, .int x7), (8, .int x8), (9, .int x9)] [] (J_L_acts_108 a0 x6 x7 x8 x9) := by
  unfold J_L_acts_108
  refine mv_iload 4 dL_acts_108 rfl rfl ?_
  refine mv_if_ne (tgt := 145) dL_acts_110 rfl rfl ?_ ?_
  · refine mv_sub [0] rfl ?_
    exact sJ_L_acts_145 l N0 D dA a0
  · refine mv_iload 2 dL_acts_113 rfl rfl ?_
    refine mv_iload 1 dL_acts_115 rfl rfl ?_
    refine mv_bipush (v := (7 : Int32)) dL_acts_117 (by decide) rfl ?_
    refine mv_irem dL_acts_119 rfl (fun v1 => ?_)
    refine mv_icmp_ne (tgt := 145) dL_acts_120 rfl rfl ?_ ?_
    · refine mv_sub [0] rfl ?_
      exact sJ_L_acts_145 l N0 D dA a0
    · refine mv_aload_n 0 dL_acts_123 rfl rfl rfl ?_
      refine mv_iconst (v := (1 : Int32)) dL_acts_124 (by decide) rfl ?_
      refine mv_callVi (st := []) [.int (1 : Int32)] (fun i3 => c_X6_count l N0 D dA i3 (1 : Int32)) (T := TX6) rfl (by decide) wc_L_13 ⟨by decide, by decide⟩ rfl (Nat.le_of_ble_eq_true rfl) dL_acts_125 rfl (fun v2 => ?_)
      refine mv_iload 3 dL_acts_128 rfl rfl ?_
      refine mv_bipush (v := (6 : Int32)) dL_acts_130 (by decide) rfl ?_
      refine mv_icmp_ne (tgt := 140) dL_acts_132 rfl rfl ?_ ?_
      · refine mv_iload 3 dL_acts_140 rfl rfl ?_
        refine mv_sub [0] rfl ?_
        exact sJ_L_acts_142 l N0 D dA a0 v2 x8
      · refine mv_bipush (v := ((-4) : Int32)) dL_acts_135 (by decide) rfl ?_
        refine mv_goto (q := 142) dL_acts_137 rfl ?_
        refine mv_sub [0] rfl ?_
        exact sJ_L_acts_142 l N0 D dA a0 v2 ((-4) : Int32)

def J_L_acts_70 (a0 : Nat) (x6 : Int32) (x7 : Int32) (x8 : Int32) (s0 : Int32) : mv_M Int32 :=
  mv_bd (mv_rc 6 7 (some a0)) fun i5 => mv_bd (F_X6_stall i5 x7 x8) fun v4 =>
  if s0 = 0 then
    if v4 < 0 then
      J_L_acts_149 a0
    else
      if (7 : Int32) ≤ v4 then
        J_L_acts_149 a0
      else
        J_L_acts_108 a0 x6 x7 x8 s0
  else
    if v4 = ((-1) : Int32) then
      J_L_acts_108 a0 x6 x7 x8 s0
    else
      J_L_acts_149 a0

set_option maxHeartbeats 4000000 in
set_option maxRecDepth 100000 in
theorem sJ_L_acts_70 (l : Launch) (N0 : Nat) (D : va_G) (dA : Nat → ClassId) (a0 : Nat) (x6 : Int32) (x7 : Int32) (x8 : Int32) (s0 : Int32) : mv_Sim l N0 D dA RL cL_acts 13 9 224 (some .boolean) false mv_rI 70 [(0, mv_vr N0 (some a0)), (6, .int x6), (7, .int x7), (8, .int x8)] [.int s0] (J_L_acts_70 a0 x6 x7 x8 s0) := by
  unfold J_L_acts_70
  refine mw_istore rfl dL_acts_70 (by decide) rfl rfl ?_
  refine mv_aload_n 1 dL_acts_72 rfl rfl rfl ?_
  refine mv_iload 3 dL_acts_73 rfl rfl ?_
  refine mv_iload 4 dL_acts_75 rfl rfl ?_
  refine mv_callVi (st := []) [.int x7, .int x8] (fun i5 => c_X6_stall l N0 D dA i5 x7 x8) (T := TX6) rfl (by decide) wc_L_82 ⟨by decide, by decide⟩ rfl (Nat.le_of_ble_eq_true rfl) dL_acts_77 rfl (fun v4 => ?_)
  refine mw_istore rfl dL_acts_80 (by decide) rfl rfl ?_
  refine mv_iload 1 dL_acts_82 rfl rfl ?_
  refine mv_if_eq (tgt := 96) dL_acts_84 rfl rfl ?_ ?_
  · refine mv_iload 0 dL_acts_96 rfl rfl ?_
    refine mv_if_lt (tgt := 149) dL_acts_98 rfl rfl ?_ ?_
    · refine mv_sub [2] rfl ?_
      exact sJ_L_acts_149 l N0 D dA a0
    · refine mv_iload 0 dL_acts_101 rfl rfl ?_
      refine mv_bipush (v := (7 : Int32)) dL_acts_103 (by decide) rfl ?_
      refine mv_icmp_ge (tgt := 149) dL_acts_105 rfl rfl ?_ ?_
      · refine mv_sub [2] rfl ?_
        exact sJ_L_acts_149 l N0 D dA a0
      · refine mv_sub [2, 3, 4, 5, 1] rfl ?_
        exact sJ_L_acts_108 l N0 D dA a0 x6 x7 x8 s0
  · refine mv_iload 0 dL_acts_87 rfl rfl ?_
    refine mv_iconst (v := ((-1) : Int32)) dL_acts_89 (by decide) rfl ?_
    refine mv_icmp_ne (tgt := 149) dL_acts_90 rfl rfl ?_ ?_
    · refine mv_sub [2] rfl ?_
      exact sJ_L_acts_149 l N0 D dA a0
    · refine mv_goto (q := 108) dL_acts_93 rfl ?_
      refine mv_sub [2, 3, 4, 5, 1] rfl ?_
      exact sJ_L_acts_108 l N0 D dA a0 x6 x7 x8 s0

def J_L_acts_65 (a0 : Nat) (x6 : Int32) (x7 : Int32) (x8 : Int32) : mv_M Int32 :=
  J_L_acts_70 a0 x6 x7 x8 (1 : Int32)

set_option maxHeartbeats 4000000 in
set_option maxRecDepth 100000 in
theorem sJ_L_acts_65 (l : Launch) (N0 : Nat) (D : va_G) (dA : Nat → ClassId) (a0 : Nat) (x6 : Int32) (x7 : Int32) (x8 : Int32) : mv_Sim l N0 D dA RL cL_acts 13 9 224 (some .boolean) false mv_rI 65 [(0, mv_vr N0 (some a0)), (6, .int x6), (7, .int x7), (8, .int x8)] [] (J_L_acts_65 a0 x6 x7 x8) := by
  unfold J_L_acts_65
  refine mv_iconst (v := (1 : Int32)) dL_acts_65 (by decide) rfl ?_
  refine mv_goto (q := 70) dL_acts_66 rfl ?_
  refine mv_sub [0, 1, 2, 3] rfl ?_
  exact sJ_L_acts_70 l N0 D dA a0 x6 x7 x8 (1 : Int32)

def J_L_acts_307 (a0 : Nat) (s0 : Int32) : mv_M Int32 :=
  mv_rz s0

set_option maxHeartbeats 4000000 in
set_option maxRecDepth 100000 in
theorem sJ_L_acts_307 (l : Launch) (N0 : Nat) (D : va_G) (dA : Nat → ClassId) (a0 : Nat) (s0 : Int32) : mv_Sim l N0 D dA RL cL_acts 13 9 224 (some .boolean) false mv_rI 307 [(0, mv_vr N0 (some a0))] [.int s0] (J_L_acts_307 a0 s0) := by
  unfold J_L_acts_307
  exact mv_zret dL_acts_307

def J_L_acts_302 (a0 : Nat) : mv_M Int32 :=
  J_L_acts_307 a0 (1 : Int32)

set_option maxHeartbeats 4000000 in
set_option maxRecDepth 100000 in
theorem sJ_L_acts_302 (l : Launch) (N0 : Nat) (D : va_G) (dA : Nat → ClassId) (a0 : Nat) : mv_Sim l N0 D dA RL cL_acts 13 9 224 (some .boolean) false mv_rI 302 [(0, mv_vr N0 (some a0))] [] (J_L_acts_302 a0) := by
  unfold J_L_acts_302
  refine mv_iconst (v := (1 : Int32)) dL_acts_302 (by decide) rfl ?_
  refine mv_goto (q := 307) dL_acts_303 rfl ?_
  refine mv_sub [0] rfl ?_
  exact sJ_L_acts_307 l N0 D dA a0 (1 : Int32)

def J_L_acts_306 (a0 : Nat) : mv_M Int32 :=
  J_L_acts_307 a0 (0 : Int32)

set_option maxHeartbeats 4000000 in
set_option maxRecDepth 100000 in
theorem sJ_L_acts_306 (l : Launch) (N0 : Nat) (D : va_G) (dA : Nat → ClassId) (a0 : Nat) : mv_Sim l N0 D dA RL cL_acts 13 9 224 (some .boolean) false mv_rI 306 [(0, mv_vr N0 (some a0))] [] (J_L_acts_306 a0) := by
  unfold J_L_acts_306
  refine mv_iconst (v := (0 : Int32)) dL_acts_306 (by decide) rfl ?_
  refine mv_sub [0] rfl ?_
  exact sJ_L_acts_307 l N0 D dA a0 (0 : Int32)

def J_L_acts_299 (a0 : Nat) (s0 : Int32) (s1 : Int32) : mv_M Int32 :=
  if s0 = s1 then
    J_L_acts_302 a0
  else
    J_L_acts_306 a0

set_option maxHeartbeats 4000000 in
set_option maxRecDepth 100000 in
theorem sJ_L_acts_299 (l : Launch) (N0 : Nat) (D : va_G) (dA : Nat → ClassId) (a0 : Nat) (s0 : Int32) (s1 : Int32) : mv_Sim l N0 D dA RL cL_acts 13 9 224 (some .boolean) false mv_rI 299 [(0, mv_vr N0 (some a0))] [.int s1, .int s0] (J_L_acts_299 a0 s0 s1) := by
  unfold J_L_acts_299
  refine mv_icmp_ne (tgt := 306) dL_acts_299 rfl rfl ?_ ?_
  · refine mv_sub [0] rfl ?_
    exact sJ_L_acts_306 l N0 D dA a0
  · refine mv_sub [0] rfl ?_
    exact sJ_L_acts_302 l N0 D dA a0

def J_L_acts_289 (a0 : Nat) (x8 : Int32) (s0 : Int32) : mv_M Int32 :=
  if x8 ≤ 0 then
    J_L_acts_299 a0 s0 (0 : Int32)
  else
    J_L_acts_299 a0 s0 (1 : Int32)

set_option maxHeartbeats 4000000 in
set_option maxRecDepth 100000 in
theorem sJ_L_acts_289 (l : Launch) (N0 : Nat) (D : va_G) (dA : Nat → ClassId) (a0 : Nat) (x8 : Int32) (s0 : Int32) : mv_Sim l N0 D dA RL cL_acts 13 9 224 (some .boolean) false mv_rI 289 [(0, mv_vr N0 (some a0)), (8, .int x8)] [.int s0] (J_L_acts_289 a0 x8 s0) := by
  unfold J_L_acts_289
  refine mv_iload 1 dL_acts_289 rfl rfl ?_
  refine mv_if_le (tgt := 298) dL_acts_291 rfl rfl ?_ ?_
  · refine mv_iconst (v := (0 : Int32)) dL_acts_298 (by decide) rfl ?_
    refine mv_sub [0] rfl ?_
    exact sJ_L_acts_299 l N0 D dA a0 s0 (0 : Int32)
  · refine mv_iconst (v := (1 : Int32)) dL_acts_294 (by decide) rfl ?_
    refine mv_goto (q := 299) dL_acts_295 rfl ?_
    refine mv_sub [0] rfl ?_
    exact sJ_L_acts_299 l N0 D dA a0 s0 (1 : Int32)

def J_L_acts_251 (a0 : Nat) (x6 : Int32) (x7 : Int32) (x8 : Int32) (x9 : Int32) (x10 : Int32) (s0 : Int32) (s1 : Int32) : mv_M Int32 :=
  if s0 = s1 then
    if x9 = 0 then
      mv_bd (mv_rc 6 7 (some a0)) fun i7 => mv_bd (F_X6_carrier i7 x7 (4 : Int32)) fun v6 =>
      if v6 = x10 then
        mv_bd (mv_rc 6 7 (some a0)) fun i9 => mv_bd (F_X6_where i9 x7 x6) fun v8 =>
        if v8 = ((-4) : Int32) then
          J_L_acts_289 a0 x8 (1 : Int32)
        else
          J_L_acts_289 a0 x8 (0 : Int32)
      else
        J_L_acts_306 a0
    else
      J_L_acts_302 a0
  else
    J_L_acts_306 a0

set_option maxHeartbeats 4000000 in
set_option maxRecDepth 100000 in
theorem sJ_L_acts_251 (l : Launch) (N0 : Nat) (D : va_G) (dA : Nat → ClassId) (a0 : Nat) (x6 : Int32) (x7 : Int32) (x8 : Int32) (x9 : Int32) (x10 : Int32) (s0 : Int32) (s1 : Int32) : mv_Sim l N0 D dA RL cL_acts 13 9 224 (some .boolean) false mv_rI 251 [(0, mv_vr N0 (some a0)), (6, .int x6), (7, .int x7), (8, .int x8), (9, .int x9), (10, .int x10)] [.int s1, .int s0] (J_L_acts_251 a0 x6 x7 x8 x9 x10 s0 s1) := by
  unfold J_L_acts_251
  refine mv_icmp_ne (tgt := 306) dL_acts_251 rfl rfl ?_ ?_
  · refine mv_sub [0] rfl ?_
    exact sJ_L_acts_306 l N0 D dA a0
  · refine mv_iload 4 dL_acts_254 rfl rfl ?_
    refine mv_if_ne (tgt := 302) dL_acts_256 rfl rfl ?_ ?_
    · refine mv_sub [0] rfl ?_
      exact sJ_L_acts_302 l N0 D dA a0
    · refine mv_aload_n 0 dL_acts_259 rfl rfl rfl ?_
      refine mv_iload 2 dL_acts_260 rfl rfl ?_
      refine mv_iconst (v := (4 : Int32)) dL_acts_262 (by decide) rfl ?_
      refine mv_callVi (st := []) [.int x7, .int (4 : Int32)] (fun i7 => c_X6_carrier l N0 D dA i7 x7 (4 : Int32)) (T := TX6) rfl (by decide) wc_L_19 ⟨by decide, by decide⟩ rfl (Nat.le_of_ble_eq_true rfl) dL_acts_263 rfl (fun v6 => ?_)
      refine mv_iload 5 dL_acts_266 rfl rfl ?_
      refine mv_icmp_ne (tgt := 306) dL_acts_268 rfl rfl ?_ ?_
      · refine mv_sub [0] rfl ?_
        exact sJ_L_acts_306 l N0 D dA a0
      · refine mv_aload_n 0 dL_acts_271 rfl rfl rfl ?_
        refine mv_iload 2 dL_acts_272 rfl rfl ?_
        refine mv_iload 1 dL_acts_274 rfl rfl ?_
        refine mv_callVi (st := []) [.int x7, .int x6] (fun i9 => c_X6_where l N0 D dA i9 x7 x6) (T := TX6) rfl (by decide) wc_L_23 ⟨by decide, by decide⟩ rfl (Nat.le_of_ble_eq_true rfl) dL_acts_276 rfl (fun v8 => ?_)
        refine mv_bipush (v := ((-4) : Int32)) dL_acts_279 (by decide) rfl ?_
        refine mv_icmp_ne (tgt := 288) dL_acts_281 rfl rfl ?_ ?_
        · refine mv_iconst (v := (0 : Int32)) dL_acts_288 (by decide) rfl ?_
          refine mv_sub [0, 3] rfl ?_
          exact sJ_L_acts_289 l N0 D dA a0 x8 (0 : Int32)
        · refine mv_iconst (v := (1 : Int32)) dL_acts_284 (by decide) rfl ?_
          refine mv_goto (q := 289) dL_acts_285 rfl ?_
          refine mv_sub [0, 3] rfl ?_
          exact sJ_L_acts_289 l N0 D dA a0 x8 (1 : Int32)

def J_L_acts_230 (a0 : Nat) (x6 : Int32) (x7 : Int32) (x8 : Int32) (x9 : Int32) (s0 : Int32) : mv_M Int32 :=
  mv_bd (mv_rc 6 7 (some a0)) fun i11 => mv_bd (F_X6_ill i11 x7 x8) fun v10 =>
  if x9 = 0 then
    J_L_acts_251 a0 x6 x7 x8 x9 s0 v10 s0
  else
    J_L_acts_251 a0 x6 x7 x8 x9 s0 v10 ((-1) : Int32)

set_option maxHeartbeats 4000000 in
set_option maxRecDepth 100000 in
theorem sJ_L_acts_230 (l : Launch) (N0 : Nat) (D : va_G) (dA : Nat → ClassId) (a0 : Nat) (x6 : Int32) (x7 : Int32) (x8 : Int32) (x9 : Int32) (s0 : Int32) : mv_Sim l N0 D dA RL cL_acts 13 9 224 (some .boolean) false mv_rI 230 [(0, mv_vr N0 (some a0)), (6, .int x6), (7, .int x7), (8, .int x8), (9, .int x9)] [.int s0] (J_L_acts_230 a0 x6 x7 x8 x9 s0) := by
  unfold J_L_acts_230
  refine mw_istore rfl dL_acts_230 (by decide) rfl rfl ?_
  refine mv_aload_n 1 dL_acts_232 rfl rfl rfl ?_
  refine mv_iload 3 dL_acts_233 rfl rfl ?_
  refine mv_iload 4 dL_acts_235 rfl rfl ?_
  refine mv_callVi (st := []) [.int x7, .int x8] (fun i11 => c_X6_ill l N0 D dA i11 x7 x8) (T := TX6) rfl (by decide) wc_L_85 ⟨by decide, by decide⟩ rfl (Nat.le_of_ble_eq_true rfl) dL_acts_237 rfl (fun v10 => ?_)
  refine mv_iload 5 dL_acts_240 rfl rfl ?_
  refine mv_if_eq (tgt := 249) dL_acts_242 rfl rfl ?_ ?_
  · refine mv_iload 0 dL_acts_249 rfl rfl ?_
    refine mv_sub [1, 2, 3, 4, 5, 0] rfl ?_
    exact sJ_L_acts_251 l N0 D dA a0 x6 x7 x8 x9 s0 v10 s0
  · refine mv_iconst (v := ((-1) : Int32)) dL_acts_245 (by decide) rfl ?_
    refine mv_goto (q := 251) dL_acts_246 rfl ?_
    refine mv_sub [1, 2, 3, 4, 5, 0] rfl ?_
    exact sJ_L_acts_251 l N0 D dA a0 x6 x7 x8 x9 s0 v10 ((-1) : Int32)

def J_L_acts_212 (a0 : Nat) (x6 : Int32) (x7 : Int32) (x8 : Int32) (s0 : Int32) : mv_M Int32 :=
  if x8 = 0 then
    J_L_acts_230 a0 x6 x7 x8 s0 (0 : Int32)
  else
    J_L_acts_230 a0 x6 x7 x8 s0 ((x6 + (1 : Int32)) + x8)

set_option maxHeartbeats 4000000 in
set_option maxRecDepth 100000 in
theorem sJ_L_acts_212 (l : Launch) (N0 : Nat) (D : va_G) (dA : Nat → ClassId) (a0 : Nat) (x6 : Int32) (x7 : Int32) (x8 : Int32) (s0 : Int32) : mv_Sim l N0 D dA RL cL_acts 13 9 224 (some .boolean) false mv_rI 212 [(0, mv_vr N0 (some a0)), (6, .int x6), (7, .int x7), (8, .int x8)] [.int s0] (J_L_acts_212 a0 x6 x7 x8 s0) := by
  unfold J_L_acts_212
  refine mw_istore rfl dL_acts_212 (by decide) rfl rfl ?_
  refine mv_iload 4 dL_acts_214 rfl rfl ?_
  refine mv_if_ne (tgt := 223) dL_acts_216 rfl rfl ?_ ?_
  · refine mv_iload 2 dL_acts_223 rfl rfl ?_
    refine mv_iconst (v := (1 : Int32)) dL_acts_225 (by decide) rfl ?_
    refine mv_iadd dL_acts_226 rfl ?_
    refine mv_iload 4 dL_acts_227 rfl rfl ?_
    refine mv_iadd dL_acts_229 rfl ?_
    refine mv_sub [1, 2, 3, 4, 0] rfl ?_
    exact sJ_L_acts_230 l N0 D dA a0 x6 x7 x8 s0 ((x6 + (1 : Int32)) + x8)
  · refine mv_iconst (v := (0 : Int32)) dL_acts_219 (by decide) rfl ?_
    refine mv_goto (q := 230) dL_acts_220 rfl ?_
    refine mv_sub [1, 2, 3, 4, 0] rfl ?_
    exact sJ_L_acts_230 l N0 D dA a0 x6 x7 x8 s0 (0 : Int32)

def J_L_acts_207 (a0 : Nat) (x6 : Int32) (x7 : Int32) (x8 : Int32) : mv_M Int32 :=
  J_L_acts_212 a0 x6 x7 x8 (1 : Int32)

set_option maxHeartbeats 4000000 in
set_option maxRecDepth 100000 in
theorem sJ_L_acts_207 (l : Launch) (N0 : Nat) (D : va_G) (dA : Nat → ClassId) (a0 : Nat) (x6 : Int32) (x7 : Int32) (x8 : Int32) : mv_Sim l N0 D dA RL cL_acts 13 9 224 (some .boolean) false mv_rI 207 [(0, mv_vr N0 (some a0)), (6, .int x6), (7, .int x7), (8, .int x8)] [] (J_L_acts_207 a0 x6 x7 x8) := by
  unfold J_L_acts_207
  refine mv_iconst (v := (1 : Int32)) dL_acts_207 (by decide) rfl ?_
  refine mv_goto (q := 212) dL_acts_208 rfl ?_
  refine mv_sub [0, 1, 2, 3] rfl ?_
  exact sJ_L_acts_212 l N0 D dA a0 x6 x7 x8 (1 : Int32)

def J_L_acts_188 (a0 : Nat) (x4 : Int32) (x6 : Int32) (x7 : Int32) (s0 : Int32) (s1 : Int32) : mv_M Int32 :=
  mv_bd (F_L_low s0 s1) fun v12 =>
  if x7 = x4 then
    J_L_acts_207 a0 x6 x7 v12
  else
    if v12 = (31 : Int32) then
      J_L_acts_207 a0 x6 x7 v12
    else
      J_L_acts_212 a0 x6 x7 v12 (0 : Int32)

set_option maxHeartbeats 4000000 in
set_option maxRecDepth 100000 in
theorem sJ_L_acts_188 (l : Launch) (N0 : Nat) (D : va_G) (dA : Nat → ClassId) (a0 : Nat) (x4 : Int32) (x6 : Int32) (x7 : Int32) (s0 : Int32) (s1 : Int32) : mv_Sim l N0 D dA RL cL_acts 13 9 224 (some .boolean) false mv_rI 188 [(0, mv_vr N0 (some a0)), (4, .int x4), (6, .int x6), (7, .int x7)] [.int s1, .int s0] (J_L_acts_188 a0 x4 x6 x7 s0 s1) := by
  unfold J_L_acts_188
  refine mv_callSi (st := []) [.int s0, .int s1] (c_L_low l N0 D dA s0 s1) wc_L_38 ⟨by decide, by decide⟩ rfl (Nat.le_of_ble_eq_true rfl) dL_acts_188 rfl (fun v12 => ?_)
  refine mw_istore rfl dL_acts_191 (by decide) rfl rfl ?_
  refine mv_iload 4 dL_acts_193 rfl rfl ?_
  refine mv_iload 2 dL_acts_195 rfl rfl ?_
  refine mv_icmp_eq (tgt := 207) dL_acts_197 rfl rfl ?_ ?_
  · refine mv_sub [1, 3, 4, 0] rfl ?_
    exact sJ_L_acts_207 l N0 D dA a0 x6 x7 v12
  · refine mv_iload 0 dL_acts_200 rfl rfl ?_
    refine mv_bipush (v := (31 : Int32)) dL_acts_202 (by decide) rfl ?_
    refine mv_icmp_ne (tgt := 211) dL_acts_204 rfl rfl ?_ ?_
    · refine mv_iconst (v := (0 : Int32)) dL_acts_211 (by decide) rfl ?_
      refine mv_sub [1, 3, 4, 0] rfl ?_
      exact sJ_L_acts_212 l N0 D dA a0 x6 x7 v12 (0 : Int32)
    · refine mv_sub [1, 3, 4, 0] rfl ?_
      exact sJ_L_acts_207 l N0 D dA a0 x6 x7 v12

def J_L_acts_431 (a0 : Nat) (s0 : Int32) : mv_M Int32 :=
  mv_rz s0

set_option maxHeartbeats 4000000 in
set_option maxRecDepth 100000 in
theorem sJ_L_acts_431 (l : Launch) (N0 : Nat) (D : va_G) (dA : Nat → ClassId) (a0 : Nat) (s0 : Int32) : mv_Sim l N0 D dA RL cL_acts 13 9 224 (some .boolean) false mv_rI 431 [(0, mv_vr N0 (some a0))] [.int s0] (J_L_acts_431 a0 s0) := by
  unfold J_L_acts_431
  exact mv_zret dL_acts_431

def J_L_acts_426 (a0 : Nat) : mv_M Int32 :=
  J_L_acts_431 a0 (1 : Int32)

set_option maxHeartbeats 4000000 in
set_option maxRecDepth 100000 in
theorem sJ_L_acts_426 (l : Launch) (N0 : Nat) (D : va_G) (dA : Nat → ClassId) (a0 : Nat) : mv_Sim l N0 D dA RL cL_acts 13 9 224 (some .boolean) false mv_rI 426 [(0, mv_vr N0 (some a0))] [] (J_L_acts_426 a0) := by
  unfold J_L_acts_426
  refine mv_iconst (v := (1 : Int32)) dL_acts_426 (by decide) rfl ?_
  refine mv_goto (q := 431) dL_acts_427 rfl ?_
  refine mv_sub [0] rfl ?_
  exact sJ_L_acts_431 l N0 D dA a0 (1 : Int32)

def J_L_acts_430 (a0 : Nat) : mv_M Int32 :=
  J_L_acts_431 a0 (0 : Int32)

set_option maxHeartbeats 4000000 in
set_option maxRecDepth 100000 in
theorem sJ_L_acts_430 (l : Launch) (N0 : Nat) (D : va_G) (dA : Nat → ClassId) (a0 : Nat) : mv_Sim l N0 D dA RL cL_acts 13 9 224 (some .boolean) false mv_rI 430 [(0, mv_vr N0 (some a0))] [] (J_L_acts_430 a0) := by
  unfold J_L_acts_430
  refine mv_iconst (v := (0 : Int32)) dL_acts_430 (by decide) rfl ?_
  refine mv_sub [0] rfl ?_
  exact sJ_L_acts_431 l N0 D dA a0 (0 : Int32)

def J_L_acts_423 (a0 : Nat) (s0 : Int32) (s1 : Int32) : mv_M Int32 :=
  if s0 = s1 then
    J_L_acts_426 a0
  else
    J_L_acts_430 a0

set_option maxHeartbeats 4000000 in
set_option maxRecDepth 100000 in
theorem sJ_L_acts_423 (l : Launch) (N0 : Nat) (D : va_G) (dA : Nat → ClassId) (a0 : Nat) (s0 : Int32) (s1 : Int32) : mv_Sim l N0 D dA RL cL_acts 13 9 224 (some .boolean) false mv_rI 423 [(0, mv_vr N0 (some a0))] [.int s1, .int s0] (J_L_acts_423 a0 s0 s1) := by
  unfold J_L_acts_423
  refine mv_icmp_ne (tgt := 430) dL_acts_423 rfl rfl ?_ ?_
  · refine mv_sub [0] rfl ?_
    exact sJ_L_acts_430 l N0 D dA a0
  · refine mv_sub [0] rfl ?_
    exact sJ_L_acts_426 l N0 D dA a0

def J_L_acts_394 (a0 : Nat) (x4 : Int32) (x7 : Int32) (x8 : Int32) (x9 : Int32) (x10 : Int32) (s0 : Int32) (s1 : Int32) : mv_M Int32 :=
  if s0 = s1 then
    if x7 = x4 then
      J_L_acts_426 a0
    else
      mv_bd (mv_rc 6 7 (some a0)) fun i14 => mv_bd (F_X6_carrier i14 x7 (1 : Int32)) fun v13 =>
      if x9 = 0 then
        J_L_acts_423 a0 v13 x8
      else
        J_L_acts_423 a0 v13 x10
  else
    J_L_acts_430 a0

set_option maxHeartbeats 4000000 in
set_option maxRecDepth 100000 in
theorem sJ_L_acts_394 (l : Launch) (N0 : Nat) (D : va_G) (dA : Nat → ClassId) (a0 : Nat) (x4 : Int32) (x7 : Int32) (x8 : Int32) (x9 : Int32) (x10 : Int32) (s0 : Int32) (s1 : Int32) : mv_Sim l N0 D dA RL cL_acts 13 9 224 (some .boolean) false mv_rI 394 [(0, mv_vr N0 (some a0)), (4, .int x4), (7, .int x7), (8, .int x8), (9, .int x9), (10, .int x10)] [.int s1, .int s0] (J_L_acts_394 a0 x4 x7 x8 x9 x10 s0 s1) := by
  unfold J_L_acts_394
  refine mv_icmp_ne (tgt := 430) dL_acts_394 rfl rfl ?_ ?_
  · refine mv_sub [0] rfl ?_
    exact sJ_L_acts_430 l N0 D dA a0
  · refine mv_iload 2 dL_acts_397 rfl rfl ?_
    refine mv_iload 1 dL_acts_399 rfl rfl ?_
    refine mv_icmp_eq (tgt := 426) dL_acts_401 rfl rfl ?_ ?_
    · refine mv_sub [0] rfl ?_
      exact sJ_L_acts_426 l N0 D dA a0
    · refine mv_aload_n 0 dL_acts_404 rfl rfl rfl ?_
      refine mv_iload 2 dL_acts_405 rfl rfl ?_
      refine mv_iconst (v := (1 : Int32)) dL_acts_407 (by decide) rfl ?_
      refine mv_callVi (st := []) [.int x7, .int (1 : Int32)] (fun i14 => c_X6_carrier l N0 D dA i14 x7 (1 : Int32)) (T := TX6) rfl (by decide) wc_L_19 ⟨by decide, by decide⟩ rfl (Nat.le_of_ble_eq_true rfl) dL_acts_408 rfl (fun v13 => ?_)
      refine mv_iload 4 dL_acts_411 rfl rfl ?_
      refine mv_if_eq (tgt := 421) dL_acts_413 rfl rfl ?_ ?_
      · refine mv_iload 3 dL_acts_421 rfl rfl ?_
        refine mv_sub [0] rfl ?_
        exact sJ_L_acts_423 l N0 D dA a0 v13 x8
      · refine mv_iload 5 dL_acts_416 rfl rfl ?_
        refine mv_goto (q := 423) dL_acts_418 rfl ?_
        refine mv_sub [0] rfl ?_
        exact sJ_L_acts_423 l N0 D dA a0 v13 x10

def J_L_acts_373 (a0 : Nat) (x4 : Int32) (x7 : Int32) (x8 : Int32) (x9 : Int32) (s0 : Int32) : mv_M Int32 :=
  mv_bd (mv_rc 6 7 (some a0)) fun i16 => mv_bd (F_X6_rough i16 x7 x8) fun v15 =>
  if x9 = 0 then
    J_L_acts_394 a0 x4 x7 x8 x9 s0 v15 s0
  else
    J_L_acts_394 a0 x4 x7 x8 x9 s0 v15 ((-1) : Int32)

set_option maxHeartbeats 4000000 in
set_option maxRecDepth 100000 in
theorem sJ_L_acts_373 (l : Launch) (N0 : Nat) (D : va_G) (dA : Nat → ClassId) (a0 : Nat) (x4 : Int32) (x7 : Int32) (x8 : Int32) (x9 : Int32) (s0 : Int32) : mv_Sim l N0 D dA RL cL_acts 13 9 224 (some .boolean) false mv_rI 373 [(0, mv_vr N0 (some a0)), (4, .int x4), (7, .int x7), (8, .int x8), (9, .int x9)] [.int s0] (J_L_acts_373 a0 x4 x7 x8 x9 s0) := by
  unfold J_L_acts_373
  refine mw_istore rfl dL_acts_373 (by decide) rfl rfl ?_
  refine mv_aload_n 1 dL_acts_375 rfl rfl rfl ?_
  refine mv_iload 3 dL_acts_376 rfl rfl ?_
  refine mv_iload 4 dL_acts_378 rfl rfl ?_
  refine mv_callVi (st := []) [.int x7, .int x8] (fun i16 => c_X6_rough l N0 D dA i16 x7 x8) (T := TX6) rfl (by decide) wc_L_88 ⟨by decide, by decide⟩ rfl (Nat.le_of_ble_eq_true rfl) dL_acts_380 rfl (fun v15 => ?_)
  refine mv_iload 5 dL_acts_383 rfl rfl ?_
  refine mv_if_eq (tgt := 392) dL_acts_385 rfl rfl ?_ ?_
  · refine mv_iload 0 dL_acts_392 rfl rfl ?_
    refine mv_sub [1, 2, 3, 4, 5, 0] rfl ?_
    exact sJ_L_acts_394 l N0 D dA a0 x4 x7 x8 x9 s0 v15 s0
  · refine mv_iconst (v := ((-1) : Int32)) dL_acts_388 (by decide) rfl ?_
    refine mv_goto (q := 394) dL_acts_389 rfl ?_
    refine mv_sub [1, 2, 3, 4, 5, 0] rfl ?_
    exact sJ_L_acts_394 l N0 D dA a0 x4 x7 x8 x9 s0 v15 ((-1) : Int32)

def J_L_acts_353 (a0 : Nat) (x4 : Int32) (x7 : Int32) (x8 : Int32) (s0 : Int32) : mv_M Int32 :=
  if x7 = x4 then
    J_L_acts_373 a0 x4 x7 x8 s0 (0 : Int32)
  else
    mv_bd (mv_rc 6 7 (some a0)) fun i18 => mv_bd (F_X6_carrier i18 x7 (1 : Int32)) fun v17 =>
    J_L_acts_373 a0 x4 x7 x8 s0 v17

set_option maxHeartbeats 4000000 in
set_option maxRecDepth 100000 in
theorem sJ_L_acts_353 (l : Launch) (N0 : Nat) (D : va_G) (dA : Nat → ClassId) (a0 : Nat) (x4 : Int32) (x7 : Int32) (x8 : Int32) (s0 : Int32) : mv_Sim l N0 D dA RL cL_acts 13 9 224 (some .boolean) false mv_rI 353 [(0, mv_vr N0 (some a0)), (4, .int x4), (7, .int x7), (8, .int x8)] [.int s0] (J_L_acts_353 a0 x4 x7 x8 s0) := by
  unfold J_L_acts_353
  refine mw_istore rfl dL_acts_353 (by decide) rfl rfl ?_
  refine mv_iload 3 dL_acts_355 rfl rfl ?_
  refine mv_iload 2 dL_acts_357 rfl rfl ?_
  refine mv_icmp_ne (tgt := 366) dL_acts_359 rfl rfl ?_ ?_
  · refine mv_aload_n 1 dL_acts_366 rfl rfl rfl ?_
    refine mv_iload 3 dL_acts_367 rfl rfl ?_
    refine mv_iconst (v := (1 : Int32)) dL_acts_369 (by decide) rfl ?_
    refine mv_callVi (st := []) [.int x7, .int (1 : Int32)] (fun i18 => c_X6_carrier l N0 D dA i18 x7 (1 : Int32)) (T := TX6) rfl (by decide) wc_L_19 ⟨by decide, by decide⟩ rfl (Nat.le_of_ble_eq_true rfl) dL_acts_370 rfl (fun v17 => ?_)
    refine mv_sub [1, 2, 3, 4, 0] rfl ?_
    exact sJ_L_acts_373 l N0 D dA a0 x4 x7 x8 s0 v17
  · refine mv_iconst (v := (0 : Int32)) dL_acts_362 (by decide) rfl ?_
    refine mv_goto (q := 373) dL_acts_363 rfl ?_
    refine mv_sub [1, 2, 3, 4, 0] rfl ?_
    exact sJ_L_acts_373 l N0 D dA a0 x4 x7 x8 s0 (0 : Int32)

def J_L_acts_348 (a0 : Nat) (x4 : Int32) (x7 : Int32) (x8 : Int32) : mv_M Int32 :=
  J_L_acts_353 a0 x4 x7 x8 (1 : Int32)

set_option maxHeartbeats 4000000 in
set_option maxRecDepth 100000 in
theorem sJ_L_acts_348 (l : Launch) (N0 : Nat) (D : va_G) (dA : Nat → ClassId) (a0 : Nat) (x4 : Int32) (x7 : Int32) (x8 : Int32) : mv_Sim l N0 D dA RL cL_acts 13 9 224 (some .boolean) false mv_rI 348 [(0, mv_vr N0 (some a0)), (4, .int x4), (7, .int x7), (8, .int x8)] [] (J_L_acts_348 a0 x4 x7 x8) := by
  unfold J_L_acts_348
  refine mv_iconst (v := (1 : Int32)) dL_acts_348 (by decide) rfl ?_
  refine mv_goto (q := 353) dL_acts_349 rfl ?_
  refine mv_sub [0, 1, 2, 3] rfl ?_
  exact sJ_L_acts_353 l N0 D dA a0 x4 x7 x8 (1 : Int32)

def J_L_acts_519 (a0 : Nat) (s0 : Int32) : mv_M Int32 :=
  mv_rz s0

set_option maxHeartbeats 4000000 in
set_option maxRecDepth 100000 in
theorem sJ_L_acts_519 (l : Launch) (N0 : Nat) (D : va_G) (dA : Nat → ClassId) (a0 : Nat) (s0 : Int32) : mv_Sim l N0 D dA RL cL_acts 13 9 224 (some .boolean) false mv_rI 519 [(0, mv_vr N0 (some a0))] [.int s0] (J_L_acts_519 a0 s0) := by
  unfold J_L_acts_519
  exact mv_zret dL_acts_519

def J_L_acts_518 (a0 : Nat) : mv_M Int32 :=
  J_L_acts_519 a0 (0 : Int32)

set_option maxHeartbeats 4000000 in
set_option maxRecDepth 100000 in
theorem sJ_L_acts_518 (l : Launch) (N0 : Nat) (D : va_G) (dA : Nat → ClassId) (a0 : Nat) : mv_Sim l N0 D dA RL cL_acts 13 9 224 (some .boolean) false mv_rI 518 [(0, mv_vr N0 (some a0))] [] (J_L_acts_518 a0) := by
  unfold J_L_acts_518
  refine mv_iconst (v := (0 : Int32)) dL_acts_518 (by decide) rfl ?_
  refine mv_sub [0] rfl ?_
  exact sJ_L_acts_519 l N0 D dA a0 (0 : Int32)

def J_L_acts_511 (a0 : Nat) (s0 : Int32) (s1 : Int32) : mv_M Int32 :=
  if s0 = s1 then
    J_L_acts_519 a0 (1 : Int32)
  else
    J_L_acts_518 a0

set_option maxHeartbeats 4000000 in
set_option maxRecDepth 100000 in
theorem sJ_L_acts_511 (l : Launch) (N0 : Nat) (D : va_G) (dA : Nat → ClassId) (a0 : Nat) (s0 : Int32) (s1 : Int32) : mv_Sim l N0 D dA RL cL_acts 13 9 224 (some .boolean) false mv_rI 511 [(0, mv_vr N0 (some a0))] [.int s1, .int s0] (J_L_acts_511 a0 s0 s1) := by
  unfold J_L_acts_511
  refine mv_icmp_ne (tgt := 518) dL_acts_511 rfl rfl ?_ ?_
  · refine mv_sub [0] rfl ?_
    exact sJ_L_acts_518 l N0 D dA a0
  · refine mv_iconst (v := (1 : Int32)) dL_acts_514 (by decide) rfl ?_
    refine mv_goto (q := 519) dL_acts_515 rfl ?_
    refine mv_sub [0] rfl ?_
    exact sJ_L_acts_519 l N0 D dA a0 (1 : Int32)

def J_L_acts_490 (a0 : Nat) (x7 : Int32) (x8 : Int32) (x9 : Int32) (s0 : Int32) (s1 : Int32) : mv_M Int32 :=
  if s0 = s1 then
    mv_bd (mv_rc 6 7 (some a0)) fun i20 => mv_bd (F_X6_count i20 (13 : Int32)) fun v19 =>
    if x8 = 0 then
      J_L_acts_511 a0 v19 x7
    else
      J_L_acts_511 a0 v19 x9
  else
    J_L_acts_518 a0

set_option maxHeartbeats 4000000 in
set_option maxRecDepth 100000 in
theorem sJ_L_acts_490 (l : Launch) (N0 : Nat) (D : va_G) (dA : Nat → ClassId) (a0 : Nat) (x7 : Int32) (x8 : Int32) (x9 : Int32) (s0 : Int32) (s1 : Int32) : mv_Sim l N0 D dA RL cL_acts 13 9 224 (some .boolean) false mv_rI 490 [(0, mv_vr N0 (some a0)), (7, .int x7), (8, .int x8), (9, .int x9)] [.int s1, .int s0] (J_L_acts_490 a0 x7 x8 x9 s0 s1) := by
  unfold J_L_acts_490
  refine mv_icmp_ne (tgt := 518) dL_acts_490 rfl rfl ?_ ?_
  · refine mv_sub [0] rfl ?_
    exact sJ_L_acts_518 l N0 D dA a0
  · refine mv_aload_n 0 dL_acts_493 rfl rfl rfl ?_
    refine mv_bipush (v := (13 : Int32)) dL_acts_494 (by decide) rfl ?_
    refine mv_callVi (st := []) [.int (13 : Int32)] (fun i20 => c_X6_count l N0 D dA i20 (13 : Int32)) (T := TX6) rfl (by decide) wc_L_13 ⟨by decide, by decide⟩ rfl (Nat.le_of_ble_eq_true rfl) dL_acts_496 rfl (fun v19 => ?_)
    refine mv_iload 2 dL_acts_499 rfl rfl ?_
    refine mv_if_eq (tgt := 509) dL_acts_501 rfl rfl ?_ ?_
    · refine mv_iload 1 dL_acts_509 rfl rfl ?_
      refine mv_sub [0] rfl ?_
      exact sJ_L_acts_511 l N0 D dA a0 v19 x7
    · refine mv_iload 3 dL_acts_504 rfl rfl ?_
      refine mv_goto (q := 511) dL_acts_506 rfl ?_
      refine mv_sub [0] rfl ?_
      exact sJ_L_acts_511 l N0 D dA a0 v19 x9

def J_L_acts_463 (a0 : Nat) (x7 : Int32) (s0 : Int32) : mv_M Int32 :=
  mv_bd (mv_rc 6 7 (some a0)) fun i22 => mv_bd (F_X6_count i22 (13 : Int32)) fun v21 =>
  mv_bd (mv_rc 6 7 (some a0)) fun i24 => mv_bd (F_X6_load i24 x7) fun v23 =>
  if s0 = 0 then
    J_L_acts_490 a0 x7 s0 v21 v23 v21
  else
    J_L_acts_490 a0 x7 s0 v21 v23 ((-1) : Int32)

set_option maxHeartbeats 4000000 in
set_option maxRecDepth 100000 in
theorem sJ_L_acts_463 (l : Launch) (N0 : Nat) (D : va_G) (dA : Nat → ClassId) (a0 : Nat) (x7 : Int32) (s0 : Int32) : mv_Sim l N0 D dA RL cL_acts 13 9 224 (some .boolean) false mv_rI 463 [(0, mv_vr N0 (some a0)), (7, .int x7)] [.int s0] (J_L_acts_463 a0 x7 s0) := by
  unfold J_L_acts_463
  refine mw_istore rfl dL_acts_463 (by decide) rfl rfl ?_
  refine mv_aload_n 1 dL_acts_465 rfl rfl rfl ?_
  refine mv_bipush (v := (13 : Int32)) dL_acts_466 (by decide) rfl ?_
  refine mv_callVi (st := []) [.int (13 : Int32)] (fun i22 => c_X6_count l N0 D dA i22 (13 : Int32)) (T := TX6) rfl (by decide) wc_L_13 ⟨by decide, by decide⟩ rfl (Nat.le_of_ble_eq_true rfl) dL_acts_468 rfl (fun v21 => ?_)
  refine mw_istore rfl dL_acts_471 (by decide) rfl rfl ?_
  refine mv_aload_n 2 dL_acts_473 rfl rfl rfl ?_
  refine mv_iload 3 dL_acts_474 rfl rfl ?_
  refine mv_callVi (st := []) [.int x7] (fun i24 => c_X6_load l N0 D dA i24 x7) (T := TX6) rfl (by decide) wc_L_91 ⟨by decide, by decide⟩ rfl (Nat.le_of_ble_eq_true rfl) dL_acts_476 rfl (fun v23 => ?_)
  refine mv_iload 1 dL_acts_479 rfl rfl ?_
  refine mv_if_eq (tgt := 488) dL_acts_481 rfl rfl ?_ ?_
  · refine mv_iload 0 dL_acts_488 rfl rfl ?_
    refine mv_sub [2, 3, 1, 0] rfl ?_
    exact sJ_L_acts_490 l N0 D dA a0 x7 s0 v21 v23 v21
  · refine mv_iconst (v := ((-1) : Int32)) dL_acts_484 (by decide) rfl ?_
    refine mv_goto (q := 490) dL_acts_485 rfl ?_
    refine mv_sub [2, 3, 1, 0] rfl ?_
    exact sJ_L_acts_490 l N0 D dA a0 x7 s0 v21 v23 ((-1) : Int32)

def J_L_acts_458 (a0 : Nat) (x7 : Int32) : mv_M Int32 :=
  J_L_acts_463 a0 x7 (1 : Int32)

set_option maxHeartbeats 4000000 in
set_option maxRecDepth 100000 in
theorem sJ_L_acts_458 (l : Launch) (N0 : Nat) (D : va_G) (dA : Nat → ClassId) (a0 : Nat) (x7 : Int32) : mv_Sim l N0 D dA RL cL_acts 13 9 224 (some .boolean) false mv_rI 458 [(0, mv_vr N0 (some a0)), (7, .int x7)] [] (J_L_acts_458 a0 x7) := by
  unfold J_L_acts_458
  refine mv_iconst (v := (1 : Int32)) dL_acts_458 (by decide) rfl ?_
  refine mv_goto (q := 463) dL_acts_459 rfl ?_
  refine mv_sub [0, 1] rfl ?_
  exact sJ_L_acts_463 l N0 D dA a0 x7 (1 : Int32)

def J_L_acts_778 (a0 : Nat) (s0 : Int32) : mv_M Int32 :=
  mv_rz s0

set_option maxHeartbeats 4000000 in
set_option maxRecDepth 100000 in
theorem sJ_L_acts_778 (l : Launch) (N0 : Nat) (D : va_G) (dA : Nat → ClassId) (a0 : Nat) (s0 : Int32) : mv_Sim l N0 D dA RL cL_acts 13 9 224 (some .boolean) false mv_rI 778 [(0, mv_vr N0 (some a0))] [.int s0] (J_L_acts_778 a0 s0) := by
  unfold J_L_acts_778
  exact mv_zret dL_acts_778

def J_L_acts_773 (a0 : Nat) : mv_M Int32 :=
  J_L_acts_778 a0 (1 : Int32)

set_option maxHeartbeats 4000000 in
set_option maxRecDepth 100000 in
theorem sJ_L_acts_773 (l : Launch) (N0 : Nat) (D : va_G) (dA : Nat → ClassId) (a0 : Nat) : mv_Sim l N0 D dA RL cL_acts 13 9 224 (some .boolean) false mv_rI 773 [(0, mv_vr N0 (some a0))] [] (J_L_acts_773 a0) := by
  unfold J_L_acts_773
  refine mv_iconst (v := (1 : Int32)) dL_acts_773 (by decide) rfl ?_
  refine mv_goto (q := 778) dL_acts_774 rfl ?_
  refine mv_sub [0] rfl ?_
  exact sJ_L_acts_778 l N0 D dA a0 (1 : Int32)

def J_L_acts_777 (a0 : Nat) : mv_M Int32 :=
  J_L_acts_778 a0 (0 : Int32)

set_option maxHeartbeats 4000000 in
set_option maxRecDepth 100000 in
theorem sJ_L_acts_777 (l : Launch) (N0 : Nat) (D : va_G) (dA : Nat → ClassId) (a0 : Nat) : mv_Sim l N0 D dA RL cL_acts 13 9 224 (some .boolean) false mv_rI 777 [(0, mv_vr N0 (some a0))] [] (J_L_acts_777 a0) := by
  unfold J_L_acts_777
  refine mv_iconst (v := (0 : Int32)) dL_acts_777 (by decide) rfl ?_
  refine mv_sub [0] rfl ?_
  exact sJ_L_acts_778 l N0 D dA a0 (0 : Int32)

def J_L_acts_688 (a0 : Nat) (x5 : Int32) (x6 : Int32) (x7 : Int32) (x8 : Int32) (x9 : Int32) (x10 : Int32) (s0 : Int32) (s1 : Int32) (s2 : Int32) : mv_M Int32 :=
  if s0 = (s1 + s2) then
    if x9 = 0 then
      if x5 = (8 : Int32) then
        J_L_acts_773 a0
      else
        mv_bd (mv_rc 6 7 (some a0)) fun i26 => mv_bd (F_X6_bundle i26 x5 (0 : Int32)) fun v25 =>
        if v25 = x8 then
          mv_bd (mv_rc 6 7 (some a0)) fun i28 => mv_bd (F_X6_bundle i28 x5 (1 : Int32)) fun v27 =>
          if v27 = x7 then
            mv_bd (mv_rc 6 7 (some a0)) fun i30 => mv_bd (F_X6_bundle i30 x5 (4 : Int32)) fun v29 =>
            if v29 = x10 then
              mv_bd (mv_rc 6 7 (some a0)) fun i32 => mv_bd (F_X6_bundle i32 x5 (8 : Int32)) fun v31 =>
              if v31 = x6 then
                mv_bd (mv_rc 6 7 (some a0)) fun i34 => mv_bd (F_X6_bundle i34 x5 (6 : Int32)) fun v33 =>
                mv_bd (mv_rc 6 7 (some a0)) fun i36 => mv_bd (F_X6_bundle i36 x5 (7 : Int32)) fun v35 =>
                if (v33 + v35) = 0 then
                  J_L_acts_773 a0
                else
                  J_L_acts_777 a0
              else
                J_L_acts_777 a0
            else
              J_L_acts_777 a0
          else
            J_L_acts_777 a0
        else
          J_L_acts_777 a0
    else
      J_L_acts_773 a0
  else
    J_L_acts_777 a0

set_option maxHeartbeats 4000000 in
set_option maxRecDepth 100000 in
theorem sJ_L_acts_688 (l : Launch) (N0 : Nat) (D : va_G) (dA : Nat → ClassId) (a0 : Nat) (x5 : Int32) (x6 : Int32) (x7 : Int32) (x8 : Int32) (x9 : Int32) (x10 : Int32) (s0 : Int32) (s1 : Int32) (s2 : Int32) : mv_Sim l N0 D dA RL cL_acts 13 9 224 (some .boolean) false mv_rI 688 [(0, mv_vr N0 (some a0)), (5, .int x5), (6, .int x6), (7, .int x7), (8, .int x8), (9, .int x9), (10, .int x10)] [.int s2, .int s1, .int s0] (J_L_acts_688 a0 x5 x6 x7 x8 x9 x10 s0 s1 s2) := by
  unfold J_L_acts_688
  refine mv_iadd dL_acts_688 rfl ?_
  refine mv_icmp_ne (tgt := 777) dL_acts_689 rfl rfl ?_ ?_
  · refine mv_sub [0] rfl ?_
    exact sJ_L_acts_777 l N0 D dA a0
  · refine mv_iload 5 dL_acts_692 rfl rfl ?_
    refine mv_if_ne (tgt := 773) dL_acts_694 rfl rfl ?_ ?_
    · refine mv_sub [0] rfl ?_
      exact sJ_L_acts_773 l N0 D dA a0
    · refine mv_iload 1 dL_acts_697 rfl rfl ?_
      refine mv_bipush (v := (8 : Int32)) dL_acts_699 (by decide) rfl ?_
      refine mv_icmp_eq (tgt := 773) dL_acts_701 rfl rfl ?_ ?_
      · refine mv_sub [0] rfl ?_
        exact sJ_L_acts_773 l N0 D dA a0
      · refine mv_aload_n 0 dL_acts_704 rfl rfl rfl ?_
        refine mv_iload 1 dL_acts_705 rfl rfl ?_
        refine mv_iconst (v := (0 : Int32)) dL_acts_707 (by decide) rfl ?_
        refine mv_callVi (st := []) [.int x5, .int (0 : Int32)] (fun i26 => c_X6_bundle l N0 D dA i26 x5 (0 : Int32)) (T := TX6) rfl (by decide) wc_L_26 ⟨by decide, by decide⟩ rfl (Nat.le_of_ble_eq_true rfl) dL_acts_708 rfl (fun v25 => ?_)
        refine mv_iload 4 dL_acts_711 rfl rfl ?_
        refine mv_icmp_ne (tgt := 777) dL_acts_713 rfl rfl ?_ ?_
        · refine mv_sub [0] rfl ?_
          exact sJ_L_acts_777 l N0 D dA a0
        · refine mv_aload_n 0 dL_acts_716 rfl rfl rfl ?_
          refine mv_iload 1 dL_acts_717 rfl rfl ?_
          refine mv_iconst (v := (1 : Int32)) dL_acts_719 (by decide) rfl ?_
          refine mv_callVi (st := []) [.int x5, .int (1 : Int32)] (fun i28 => c_X6_bundle l N0 D dA i28 x5 (1 : Int32)) (T := TX6) rfl (by decide) wc_L_26 ⟨by decide, by decide⟩ rfl (Nat.le_of_ble_eq_true rfl) dL_acts_720 rfl (fun v27 => ?_)
          refine mv_iload 3 dL_acts_723 rfl rfl ?_
          refine mv_icmp_ne (tgt := 777) dL_acts_725 rfl rfl ?_ ?_
          · refine mv_sub [0] rfl ?_
            exact sJ_L_acts_777 l N0 D dA a0
          · refine mv_aload_n 0 dL_acts_728 rfl rfl rfl ?_
            refine mv_iload 1 dL_acts_729 rfl rfl ?_
            refine mv_iconst (v := (4 : Int32)) dL_acts_731 (by decide) rfl ?_
            refine mv_callVi (st := []) [.int x5, .int (4 : Int32)] (fun i30 => c_X6_bundle l N0 D dA i30 x5 (4 : Int32)) (T := TX6) rfl (by decide) wc_L_26 ⟨by decide, by decide⟩ rfl (Nat.le_of_ble_eq_true rfl) dL_acts_732 rfl (fun v29 => ?_)
            refine mv_iload 6 dL_acts_735 rfl rfl ?_
            refine mv_icmp_ne (tgt := 777) dL_acts_737 rfl rfl ?_ ?_
            · refine mv_sub [0] rfl ?_
              exact sJ_L_acts_777 l N0 D dA a0
            · refine mv_aload_n 0 dL_acts_740 rfl rfl rfl ?_
              refine mv_iload 1 dL_acts_741 rfl rfl ?_
              refine mv_bipush (v := (8 : Int32)) dL_acts_743 (by decide) rfl ?_
              refine mv_callVi (st := []) [.int x5, .int (8 : Int32)] (fun i32 => c_X6_bundle l N0 D dA i32 x5 (8 : Int32)) (T := TX6) rfl (by decide) wc_L_26 ⟨by decide, by decide⟩ rfl (Nat.le_of_ble_eq_true rfl) dL_acts_745 rfl (fun v31 => ?_)
              refine mv_iload 2 dL_acts_748 rfl rfl ?_
              refine mv_icmp_ne (tgt := 777) dL_acts_750 rfl rfl ?_ ?_
              · refine mv_sub [0] rfl ?_
                exact sJ_L_acts_777 l N0 D dA a0
              · refine mv_aload_n 0 dL_acts_753 rfl rfl rfl ?_
                refine mv_iload 1 dL_acts_754 rfl rfl ?_
                refine mv_bipush (v := (6 : Int32)) dL_acts_756 (by decide) rfl ?_
                refine mv_callVi (st := []) [.int x5, .int (6 : Int32)] (fun i34 => c_X6_bundle l N0 D dA i34 x5 (6 : Int32)) (T := TX6) rfl (by decide) wc_L_26 ⟨by decide, by decide⟩ rfl (Nat.le_of_ble_eq_true rfl) dL_acts_758 rfl (fun v33 => ?_)
                refine mv_aload_n 0 dL_acts_761 rfl rfl rfl ?_
                refine mv_iload 1 dL_acts_762 rfl rfl ?_
                refine mv_bipush (v := (7 : Int32)) dL_acts_764 (by decide) rfl ?_
                refine mv_callVi (st := [.int v33]) [.int x5, .int (7 : Int32)] (fun i36 => c_X6_bundle l N0 D dA i36 x5 (7 : Int32)) (T := TX6) rfl (by decide) wc_L_26 ⟨by decide, by decide⟩ rfl (Nat.le_of_ble_eq_true rfl) dL_acts_766 rfl (fun v35 => ?_)
                refine mv_iadd dL_acts_769 rfl ?_
                refine mv_if_ne (tgt := 777) dL_acts_770 rfl rfl ?_ ?_
                · refine mv_sub [0] rfl ?_
                  exact sJ_L_acts_777 l N0 D dA a0
                · refine mv_sub [0] rfl ?_
                  exact sJ_L_acts_773 l N0 D dA a0

def J_L_acts_683 (a0 : Nat) (x5 : Int32) (x6 : Int32) (x7 : Int32) (x8 : Int32) (x9 : Int32) (x10 : Int32) (s0 : Int32) (s1 : Int32) : mv_M Int32 :=
  J_L_acts_688 a0 x5 x6 x7 x8 x9 x10 s0 s1 (0 : Int32)

set_option maxHeartbeats 4000000 in
set_option maxRecDepth 100000 in
theorem sJ_L_acts_683 (l : Launch) (N0 : Nat) (D : va_G) (dA : Nat → ClassId) (a0 : Nat) (x5 : Int32) (x6 : Int32) (x7 : Int32) (x8 : Int32) (x9 : Int32) (x10 : Int32) (s0 : Int32) (s1 : Int32) : mv_Sim l N0 D dA RL cL_acts 13 9 224 (some .boolean) false mv_rI 683 [(0, mv_vr N0 (some a0)), (5, .int x5), (6, .int x6), (7, .int x7), (8, .int x8), (9, .int x9), (10, .int x10)] [.int s1, .int s0] (J_L_acts_683 a0 x5 x6 x7 x8 x9 x10 s0 s1) := by
  unfold J_L_acts_683
  refine mv_iconst (v := (0 : Int32)) dL_acts_683 (by decide) rfl ?_
  refine mv_goto (q := 688) dL_acts_684 rfl ?_
  refine mv_sub [0, 1, 2, 3, 4, 5, 6] rfl ?_
  exact sJ_L_acts_688 l N0 D dA a0 x5 x6 x7 x8 x9 x10 s0 s1 (0 : Int32)

def J_L_acts_661 (a0 : Nat) (x5 : Int32) (x6 : Int32) (x7 : Int32) (x8 : Int32) (x9 : Int32) (x10 : Int32) (s0 : Int32) (s1 : Int32) : mv_M Int32 :=
  if s0 = s1 then
    mv_bd (mv_rc 6 7 (some a0)) fun i38 => mv_bd (F_X6_count i38 (4 : Int32)) fun v37 =>
    if x9 = 0 then
      if x5 = (8 : Int32) then
        J_L_acts_683 a0 x5 x6 x7 x8 x9 x10 v37 x5
      else
        J_L_acts_688 a0 x5 x6 x7 x8 x9 x10 v37 x5 (1 : Int32)
    else
      J_L_acts_683 a0 x5 x6 x7 x8 x9 x10 v37 x5
  else
    J_L_acts_777 a0

set_option maxHeartbeats 4000000 in
set_option maxRecDepth 100000 in
theorem sJ_L_acts_661 (l : Launch) (N0 : Nat) (D : va_G) (dA : Nat → ClassId) (a0 : Nat) (x5 : Int32) (x6 : Int32) (x7 : Int32) (x8 : Int32) (x9 : Int32) (x10 : Int32) (s0 : Int32) (s1 : Int32) : mv_Sim l N0 D dA RL cL_acts 13 9 224 (some .boolean) false mv_rI 661 [(0, mv_vr N0 (some a0)), (5, .int x5), (6, .int x6), (7, .int x7), (8, .int x8), (9, .int x9), (10, .int x10)] [.int s1, .int s0] (J_L_acts_661 a0 x5 x6 x7 x8 x9 x10 s0 s1) := by
  unfold J_L_acts_661
  refine mv_icmp_ne (tgt := 777) dL_acts_661 rfl rfl ?_ ?_
  · refine mv_sub [0] rfl ?_
    exact sJ_L_acts_777 l N0 D dA a0
  · refine mv_aload_n 0 dL_acts_664 rfl rfl rfl ?_
    refine mv_iconst (v := (4 : Int32)) dL_acts_665 (by decide) rfl ?_
    refine mv_callVi (st := []) [.int (4 : Int32)] (fun i38 => c_X6_count l N0 D dA i38 (4 : Int32)) (T := TX6) rfl (by decide) wc_L_13 ⟨by decide, by decide⟩ rfl (Nat.le_of_ble_eq_true rfl) dL_acts_666 rfl (fun v37 => ?_)
    refine mv_iload 1 dL_acts_669 rfl rfl ?_
    refine mv_iload 5 dL_acts_671 rfl rfl ?_
    refine mv_if_ne (tgt := 683) dL_acts_673 rfl rfl ?_ ?_
    · refine mv_sub [0, 1, 2, 3, 4, 5, 6] rfl ?_
      exact sJ_L_acts_683 l N0 D dA a0 x5 x6 x7 x8 x9 x10 v37 x5
    · refine mv_iload 1 dL_acts_676 rfl rfl ?_
      refine mv_bipush (v := (8 : Int32)) dL_acts_678 (by decide) rfl ?_
      refine mv_icmp_ne (tgt := 687) dL_acts_680 rfl rfl ?_ ?_
      · refine mv_iconst (v := (1 : Int32)) dL_acts_687 (by decide) rfl ?_
        refine mv_sub [0, 1, 2, 3, 4, 5, 6] rfl ?_
        exact sJ_L_acts_688 l N0 D dA a0 x5 x6 x7 x8 x9 x10 v37 x5 (1 : Int32)
      · refine mv_sub [0, 1, 2, 3, 4, 5, 6] rfl ?_
        exact sJ_L_acts_683 l N0 D dA a0 x5 x6 x7 x8 x9 x10 v37 x5

def J_L_acts_624 (a0 : Nat) (x5 : Int32) (x6 : Int32) (x7 : Int32) (x8 : Int32) (x9 : Int32) (s0 : Int32) : mv_M Int32 :=
  mv_bd (mv_rc 6 7 (some a0)) fun i40 => mv_bd (F_X6_post i40 x7 x8) fun v39 =>
  if x9 = 0 then
    if x5 = (8 : Int32) then
      J_L_acts_661 a0 x5 x6 x7 x8 x9 s0 v39 ((-3) : Int32)
    else
      J_L_acts_661 a0 x5 x6 x7 x8 x9 s0 v39 s0
  else
    J_L_acts_661 a0 x5 x6 x7 x8 x9 s0 v39 ((-1) : Int32)

set_option maxHeartbeats 4000000 in
set_option maxRecDepth 100000 in
theorem sJ_L_acts_624 (l : Launch) (N0 : Nat) (D : va_G) (dA : Nat → ClassId) (a0 : Nat) (x5 : Int32) (x6 : Int32) (x7 : Int32) (x8 : Int32) (x9 : Int32) (s0 : Int32) : mv_Sim l N0 D dA RL cL_acts 13 9 224 (some .boolean) false mv_rI 624 [(0, mv_vr N0 (some a0)), (5, .int x5), (6, .int x6), (7, .int x7), (8, .int x8), (9, .int x9)] [.int s0] (J_L_acts_624 a0 x5 x6 x7 x8 x9 s0) := by
  unfold J_L_acts_624
  refine mw_istore rfl dL_acts_624 (by decide) rfl rfl ?_
  refine mv_aload_n 1 dL_acts_626 rfl rfl rfl ?_
  refine mv_iload 4 dL_acts_627 rfl rfl ?_
  refine mv_iload 5 dL_acts_629 rfl rfl ?_
  refine mv_callVi (st := []) [.int x7, .int x8] (fun i40 => c_X6_post l N0 D dA i40 x7 x8) (T := TX6) rfl (by decide) wc_L_94 ⟨by decide, by decide⟩ rfl (Nat.le_of_ble_eq_true rfl) dL_acts_631 rfl (fun v39 => ?_)
  refine mw_istore rfl dL_acts_634 (by decide) rfl rfl ?_
  refine mv_iload 0 dL_acts_636 rfl rfl ?_
  refine mv_iload 7 dL_acts_638 rfl rfl ?_
  refine mv_if_eq (tgt := 647) dL_acts_640 rfl rfl ?_ ?_
  · refine mv_iload 3 dL_acts_647 rfl rfl ?_
    refine mv_bipush (v := (8 : Int32)) dL_acts_649 (by decide) rfl ?_
    refine mv_icmp_ne (tgt := 659) dL_acts_651 rfl rfl ?_ ?_
    · refine mv_iload 1 dL_acts_659 rfl rfl ?_
      refine mv_sub [2, 3, 4, 5, 6, 7, 1] rfl ?_
      exact sJ_L_acts_661 l N0 D dA a0 x5 x6 x7 x8 x9 s0 v39 s0
    · refine mv_bipush (v := ((-3) : Int32)) dL_acts_654 (by decide) rfl ?_
      refine mv_goto (q := 661) dL_acts_656 rfl ?_
      refine mv_sub [2, 3, 4, 5, 6, 7, 1] rfl ?_
      exact sJ_L_acts_661 l N0 D dA a0 x5 x6 x7 x8 x9 s0 v39 ((-3) : Int32)
  · refine mv_iconst (v := ((-1) : Int32)) dL_acts_643 (by decide) rfl ?_
    refine mv_goto (q := 661) dL_acts_644 rfl ?_
    refine mv_sub [2, 3, 4, 5, 6, 7, 1] rfl ?_
    exact sJ_L_acts_661 l N0 D dA a0 x5 x6 x7 x8 x9 s0 v39 ((-1) : Int32)

def J_L_acts_604 (a0 : Nat) (x5 : Int32) (x6 : Int32) (x7 : Int32) (x8 : Int32) (s0 : Int32) : mv_M Int32 :=
  if s0 = 0 then
    mv_bd (mv_rc 6 7 (some a0)) fun i42 => mv_bd (F_X6_ifPosted i42 x7 x8 (0 : Int32)) fun v41 =>
    J_L_acts_624 a0 x5 x6 x7 x8 s0 v41
  else
    J_L_acts_624 a0 x5 x6 x7 x8 s0 (0 : Int32)

set_option maxHeartbeats 4000000 in
set_option maxRecDepth 100000 in
theorem sJ_L_acts_604 (l : Launch) (N0 : Nat) (D : va_G) (dA : Nat → ClassId) (a0 : Nat) (x5 : Int32) (x6 : Int32) (x7 : Int32) (x8 : Int32) (s0 : Int32) : mv_Sim l N0 D dA RL cL_acts 13 9 224 (some .boolean) false mv_rI 604 [(0, mv_vr N0 (some a0)), (5, .int x5), (6, .int x6), (7, .int x7), (8, .int x8)] [.int s0] (J_L_acts_604 a0 x5 x6 x7 x8 s0) := by
  unfold J_L_acts_604
  refine mw_istore rfl dL_acts_604 (by decide) rfl rfl ?_
  refine mv_iload 0 dL_acts_606 rfl rfl ?_
  refine mv_if_eq (tgt := 615) dL_acts_608 rfl rfl ?_ ?_
  · refine mv_aload_n 1 dL_acts_615 rfl rfl rfl ?_
    refine mv_iload 4 dL_acts_616 rfl rfl ?_
    refine mv_iload 5 dL_acts_618 rfl rfl ?_
    refine mv_iconst (v := (0 : Int32)) dL_acts_620 (by decide) rfl ?_
    refine mv_callVi (st := []) [.int x7, .int x8, .int (0 : Int32)] (fun i42 => c_X6_ifPosted l N0 D dA i42 x7 x8 (0 : Int32)) (T := TX6) rfl (by decide) wc_L_41 ⟨by decide, by decide⟩ rfl (Nat.le_of_ble_eq_true rfl) dL_acts_621 rfl (fun v41 => ?_)
    refine mv_sub [1, 2, 3, 4, 5, 0] rfl ?_
    exact sJ_L_acts_624 l N0 D dA a0 x5 x6 x7 x8 s0 v41
  · refine mv_iconst (v := (0 : Int32)) dL_acts_611 (by decide) rfl ?_
    refine mv_goto (q := 624) dL_acts_612 rfl ?_
    refine mv_sub [1, 2, 3, 4, 5, 0] rfl ?_
    exact sJ_L_acts_624 l N0 D dA a0 x5 x6 x7 x8 s0 (0 : Int32)

def J_L_acts_599 (a0 : Nat) (x5 : Int32) (x6 : Int32) (x7 : Int32) (x8 : Int32) : mv_M Int32 :=
  J_L_acts_604 a0 x5 x6 x7 x8 (1 : Int32)

set_option maxHeartbeats 4000000 in
set_option maxRecDepth 100000 in
theorem sJ_L_acts_599 (l : Launch) (N0 : Nat) (D : va_G) (dA : Nat → ClassId) (a0 : Nat) (x5 : Int32) (x6 : Int32) (x7 : Int32) (x8 : Int32) : mv_Sim l N0 D dA RL cL_acts 13 9 224 (some .boolean) false mv_rI 599 [(0, mv_vr N0 (some a0)), (5, .int x5), (6, .int x6), (7, .int x7), (8, .int x8)] [] (J_L_acts_599 a0 x5 x6 x7 x8) := by
  unfold J_L_acts_599
  refine mv_iconst (v := (1 : Int32)) dL_acts_599 (by decide) rfl ?_
  refine mv_goto (q := 604) dL_acts_600 rfl ?_
  refine mv_sub [0, 1, 2, 3, 4] rfl ?_
  exact sJ_L_acts_604 l N0 D dA a0 x5 x6 x7 x8 (1 : Int32)

def J_L_acts_573 (a0 : Nat) (x5 : Int32) (x6 : Int32) (x7 : Int32) (s0 : Int32) (s1 : Int32) : mv_M Int32 :=
  mv_bd (F_L_low s0 s1) fun v43 =>
  if x7 = (6 : Int32) then
    J_L_acts_599 a0 x5 x6 x7 v43
  else
    if v43 = (6 : Int32) then
      J_L_acts_599 a0 x5 x6 x7 v43
    else
      if x7 = v43 then
        J_L_acts_599 a0 x5 x6 x7 v43
      else
        J_L_acts_604 a0 x5 x6 x7 v43 (0 : Int32)

set_option maxHeartbeats 4000000 in
set_option maxRecDepth 100000 in
theorem sJ_L_acts_573 (l : Launch) (N0 : Nat) (D : va_G) (dA : Nat → ClassId) (a0 : Nat) (x5 : Int32) (x6 : Int32) (x7 : Int32) (s0 : Int32) (s1 : Int32) : mv_Sim l N0 D dA RL cL_acts 13 9 224 (some .boolean) false mv_rI 573 [(0, mv_vr N0 (some a0)), (5, .int x5), (6, .int x6), (7, .int x7)] [.int s1, .int s0] (J_L_acts_573 a0 x5 x6 x7 s0 s1) := by
  unfold J_L_acts_573
  refine mv_callSi (st := []) [.int s0, .int s1] (c_L_low l N0 D dA s0 s1) wc_L_38 ⟨by decide, by decide⟩ rfl (Nat.le_of_ble_eq_true rfl) dL_acts_573 rfl (fun v43 => ?_)
  refine mw_istore rfl dL_acts_576 (by decide) rfl rfl ?_
  refine mv_iload 4 dL_acts_578 rfl rfl ?_
  refine mv_bipush (v := (6 : Int32)) dL_acts_580 (by decide) rfl ?_
  refine mv_icmp_eq (tgt := 599) dL_acts_582 rfl rfl ?_ ?_
  · refine mv_sub [1, 2, 3, 4, 0] rfl ?_
    exact sJ_L_acts_599 l N0 D dA a0 x5 x6 x7 v43
  · refine mv_iload 0 dL_acts_585 rfl rfl ?_
    refine mv_bipush (v := (6 : Int32)) dL_acts_587 (by decide) rfl ?_
    refine mv_icmp_eq (tgt := 599) dL_acts_589 rfl rfl ?_ ?_
    · refine mv_sub [1, 2, 3, 4, 0] rfl ?_
      exact sJ_L_acts_599 l N0 D dA a0 x5 x6 x7 v43
    · refine mv_iload 4 dL_acts_592 rfl rfl ?_
      refine mv_iload 0 dL_acts_594 rfl rfl ?_
      refine mv_icmp_ne (tgt := 603) dL_acts_596 rfl rfl ?_ ?_
      · refine mv_iconst (v := (0 : Int32)) dL_acts_603 (by decide) rfl ?_
        refine mv_sub [1, 2, 3, 4, 0] rfl ?_
        exact sJ_L_acts_604 l N0 D dA a0 x5 x6 x7 v43 (0 : Int32)
      · refine mv_sub [1, 2, 3, 4, 0] rfl ?_
        exact sJ_L_acts_599 l N0 D dA a0 x5 x6 x7 v43

def J_L_acts_546 (a0 : Nat) (x2 : Int32) (x5 : Int32) (x6 : Int32) (s0 : Int32) (s1 : Int32) : mv_M Int32 :=
  mv_bd (F_L_low s0 s1) fun v44 =>
  mv_bd (F_L_low (x2 >>> ((10 : Int32) &&& 31)) (6 : Int32)) fun v45 =>
  if v45 = 0 then
    J_L_acts_573 a0 x5 x6 v44 (x2 >>> ((3 : Int32) &&& 31)) (7 : Int32)
  else
    J_L_acts_573 a0 x5 x6 v44 (x2 >>> ((3 : Int32) &&& 31)) (6 : Int32)

set_option maxHeartbeats 4000000 in
set_option maxRecDepth 100000 in
theorem sJ_L_acts_546 (l : Launch) (N0 : Nat) (D : va_G) (dA : Nat → ClassId) (a0 : Nat) (x2 : Int32) (x5 : Int32) (x6 : Int32) (s0 : Int32) (s1 : Int32) : mv_Sim l N0 D dA RL cL_acts 13 9 224 (some .boolean) false mv_rI 546 [(0, mv_vr N0 (some a0)), (2, .int x2), (5, .int x5), (6, .int x6)] [.int s1, .int s0] (J_L_acts_546 a0 x2 x5 x6 s0 s1) := by
  unfold J_L_acts_546
  refine mv_callSi (st := []) [.int s0, .int s1] (c_L_low l N0 D dA s0 s1) wc_L_38 ⟨by decide, by decide⟩ rfl (Nat.le_of_ble_eq_true rfl) dL_acts_546 rfl (fun v44 => ?_)
  refine mw_istore rfl dL_acts_549 (by decide) rfl rfl ?_
  refine mv_iload_n 2 dL_acts_551 rfl rfl rfl ?_
  refine mv_iconst (v := (3 : Int32)) dL_acts_552 (by decide) rfl ?_
  refine mv_ishr dL_acts_553 rfl ?_
  refine mv_iload_n 2 dL_acts_554 rfl rfl rfl ?_
  refine mv_bipush (v := (10 : Int32)) dL_acts_555 (by decide) rfl ?_
  refine mv_ishr dL_acts_557 rfl ?_
  refine mv_bipush (v := (6 : Int32)) dL_acts_558 (by decide) rfl ?_
  refine mv_callSi (st := [.int (x2 >>> ((3 : Int32) &&& 31))]) [.int (x2 >>> ((10 : Int32) &&& 31)), .int (6 : Int32)] (c_L_low l N0 D dA (x2 >>> ((10 : Int32) &&& 31)) (6 : Int32)) wc_L_38 ⟨by decide, by decide⟩ rfl (Nat.le_of_ble_eq_true rfl) dL_acts_560 rfl (fun v45 => ?_)
  refine mv_if_ne (tgt := 571) dL_acts_563 rfl rfl ?_ ?_
  · refine mv_bipush (v := (6 : Int32)) dL_acts_571 (by decide) rfl ?_
    refine mv_sub [1, 3, 4, 0] rfl ?_
    exact sJ_L_acts_573 l N0 D dA a0 x5 x6 v44 (x2 >>> ((3 : Int32) &&& 31)) (6 : Int32)
  · refine mv_bipush (v := (7 : Int32)) dL_acts_566 (by decide) rfl ?_
    refine mv_goto (q := 573) dL_acts_568 rfl ?_
    refine mv_sub [1, 3, 4, 0] rfl ?_
    exact sJ_L_acts_573 l N0 D dA a0 x5 x6 v44 (x2 >>> ((3 : Int32) &&& 31)) (7 : Int32)

def J_L_acts_879 (a0 : Nat) (s0 : Int32) : mv_M Int32 :=
  mv_rz s0

set_option maxHeartbeats 4000000 in
set_option maxRecDepth 100000 in
theorem sJ_L_acts_879 (l : Launch) (N0 : Nat) (D : va_G) (dA : Nat → ClassId) (a0 : Nat) (s0 : Int32) : mv_Sim l N0 D dA RL cL_acts 13 9 224 (some .boolean) false mv_rI 879 [(0, mv_vr N0 (some a0))] [.int s0] (J_L_acts_879 a0 s0) := by
  unfold J_L_acts_879
  exact mv_zret dL_acts_879

def J_L_acts_878 (a0 : Nat) : mv_M Int32 :=
  J_L_acts_879 a0 (0 : Int32)

set_option maxHeartbeats 4000000 in
set_option maxRecDepth 100000 in
theorem sJ_L_acts_878 (l : Launch) (N0 : Nat) (D : va_G) (dA : Nat → ClassId) (a0 : Nat) : mv_Sim l N0 D dA RL cL_acts 13 9 224 (some .boolean) false mv_rI 878 [(0, mv_vr N0 (some a0))] [] (J_L_acts_878 a0) := by
  unfold J_L_acts_878
  refine mv_iconst (v := (0 : Int32)) dL_acts_878 (by decide) rfl ?_
  refine mv_sub [0] rfl ?_
  exact sJ_L_acts_879 l N0 D dA a0 (0 : Int32)

def J_L_acts_870 (a0 : Nat) (s0 : Int32) (s1 : Int32) (s2 : Int32) : mv_M Int32 :=
  if s0 = (s1 - s2) then
    J_L_acts_879 a0 (1 : Int32)
  else
    J_L_acts_878 a0

set_option maxHeartbeats 4000000 in
set_option maxRecDepth 100000 in
theorem sJ_L_acts_870 (l : Launch) (N0 : Nat) (D : va_G) (dA : Nat → ClassId) (a0 : Nat) (s0 : Int32) (s1 : Int32) (s2 : Int32) : mv_Sim l N0 D dA RL cL_acts 13 9 224 (some .boolean) false mv_rI 870 [(0, mv_vr N0 (some a0))] [.int s2, .int s1, .int s0] (J_L_acts_870 a0 s0 s1 s2) := by
  unfold J_L_acts_870
  refine mv_isub dL_acts_870 rfl ?_
  refine mv_icmp_ne (tgt := 878) dL_acts_871 rfl rfl ?_ ?_
  · refine mv_sub [0] rfl ?_
    exact sJ_L_acts_878 l N0 D dA a0
  · refine mv_iconst (v := (1 : Int32)) dL_acts_874 (by decide) rfl ?_
    refine mv_goto (q := 879) dL_acts_875 rfl ?_
    refine mv_sub [0] rfl ?_
    exact sJ_L_acts_879 l N0 D dA a0 (1 : Int32)

def J_L_acts_847 (a0 : Nat) (x5 : Int32) (x7 : Int32) (s0 : Int32) (s1 : Int32) (s2 : Int32) : mv_M Int32 :=
  if s0 = (s1 + s2) then
    mv_bd (mv_rc 6 7 (some a0)) fun i47 => mv_bd (F_X6_count i47 (4 : Int32)) fun v46 =>
    if x7 = x5 then
      J_L_acts_870 a0 v46 x5 (0 : Int32)
    else
      J_L_acts_870 a0 v46 x5 (1 : Int32)
  else
    J_L_acts_878 a0

set_option maxHeartbeats 4000000 in
set_option maxRecDepth 100000 in
theorem sJ_L_acts_847 (l : Launch) (N0 : Nat) (D : va_G) (dA : Nat → ClassId) (a0 : Nat) (x5 : Int32) (x7 : Int32) (s0 : Int32) (s1 : Int32) (s2 : Int32) : mv_Sim l N0 D dA RL cL_acts 13 9 224 (some .boolean) false mv_rI 847 [(0, mv_vr N0 (some a0)), (5, .int x5), (7, .int x7)] [.int s2, .int s1, .int s0] (J_L_acts_847 a0 x5 x7 s0 s1 s2) := by
  unfold J_L_acts_847
  refine mv_iadd dL_acts_847 rfl ?_
  refine mv_icmp_ne (tgt := 878) dL_acts_848 rfl rfl ?_ ?_
  · refine mv_sub [0] rfl ?_
    exact sJ_L_acts_878 l N0 D dA a0
  · refine mv_aload_n 0 dL_acts_851 rfl rfl rfl ?_
    refine mv_iconst (v := (4 : Int32)) dL_acts_852 (by decide) rfl ?_
    refine mv_callVi (st := []) [.int (4 : Int32)] (fun i47 => c_X6_count l N0 D dA i47 (4 : Int32)) (T := TX6) rfl (by decide) wc_L_13 ⟨by decide, by decide⟩ rfl (Nat.le_of_ble_eq_true rfl) dL_acts_853 rfl (fun v46 => ?_)
    refine mv_iload 1 dL_acts_856 rfl rfl ?_
    refine mv_iload 2 dL_acts_858 rfl rfl ?_
    refine mv_iload 1 dL_acts_860 rfl rfl ?_
    refine mv_icmp_ne (tgt := 869) dL_acts_862 rfl rfl ?_ ?_
    · refine mv_iconst (v := (1 : Int32)) dL_acts_869 (by decide) rfl ?_
      refine mv_sub [0] rfl ?_
      exact sJ_L_acts_870 l N0 D dA a0 v46 x5 (1 : Int32)
    · refine mv_iconst (v := (0 : Int32)) dL_acts_865 (by decide) rfl ?_
      refine mv_goto (q := 870) dL_acts_866 rfl ?_
      refine mv_sub [0] rfl ?_
      exact sJ_L_acts_870 l N0 D dA a0 v46 x5 (0 : Int32)

def J_L_acts_824 (a0 : Nat) (x5 : Int32) (x7 : Int32) (x8 : Int32) (s0 : Int32) (s1 : Int32) : mv_M Int32 :=
  if s0 = s1 then
    mv_bd (mv_rc 6 7 (some a0)) fun i49 => mv_bd (F_X6_count i49 (11 : Int32)) fun v48 =>
    if x7 = x5 then
      J_L_acts_847 a0 x5 x7 v48 x8 (0 : Int32)
    else
      J_L_acts_847 a0 x5 x7 v48 x8 (1 : Int32)
  else
    J_L_acts_878 a0

set_option maxHeartbeats 4000000 in
set_option maxRecDepth 100000 in
theorem sJ_L_acts_824 (l : Launch) (N0 : Nat) (D : va_G) (dA : Nat → ClassId) (a0 : Nat) (x5 : Int32) (x7 : Int32) (x8 : Int32) (s0 : Int32) (s1 : Int32) : mv_Sim l N0 D dA RL cL_acts 13 9 224 (some .boolean) false mv_rI 824 [(0, mv_vr N0 (some a0)), (5, .int x5), (7, .int x7), (8, .int x8)] [.int s1, .int s0] (J_L_acts_824 a0 x5 x7 x8 s0 s1) := by
  unfold J_L_acts_824
  refine mv_icmp_ne (tgt := 878) dL_acts_824 rfl rfl ?_ ?_
  · refine mv_sub [0] rfl ?_
    exact sJ_L_acts_878 l N0 D dA a0
  · refine mv_aload_n 0 dL_acts_827 rfl rfl rfl ?_
    refine mv_bipush (v := (11 : Int32)) dL_acts_828 (by decide) rfl ?_
    refine mv_callVi (st := []) [.int (11 : Int32)] (fun i49 => c_X6_count l N0 D dA i49 (11 : Int32)) (T := TX6) rfl (by decide) wc_L_13 ⟨by decide, by decide⟩ rfl (Nat.le_of_ble_eq_true rfl) dL_acts_830 rfl (fun v48 => ?_)
    refine mv_iload 3 dL_acts_833 rfl rfl ?_
    refine mv_iload 2 dL_acts_835 rfl rfl ?_
    refine mv_iload 1 dL_acts_837 rfl rfl ?_
    refine mv_icmp_ne (tgt := 846) dL_acts_839 rfl rfl ?_ ?_
    · refine mv_iconst (v := (1 : Int32)) dL_acts_846 (by decide) rfl ?_
      refine mv_sub [0, 1, 2] rfl ?_
      exact sJ_L_acts_847 l N0 D dA a0 x5 x7 v48 x8 (1 : Int32)
    · refine mv_iconst (v := (0 : Int32)) dL_acts_842 (by decide) rfl ?_
      refine mv_goto (q := 847) dL_acts_843 rfl ?_
      refine mv_sub [0, 1, 2] rfl ?_
      exact sJ_L_acts_847 l N0 D dA a0 x5 x7 v48 x8 (0 : Int32)

def J_L_acts_1055 (a0 : Nat) (s0 : Int32) : mv_M Int32 :=
  mv_rz s0

set_option maxHeartbeats 4000000 in
set_option maxRecDepth 100000 in
theorem sJ_L_acts_1055 (l : Launch) (N0 : Nat) (D : va_G) (dA : Nat → ClassId) (a0 : Nat) (s0 : Int32) : mv_Sim l N0 D dA RL cL_acts 13 9 224 (some .boolean) false mv_rI 1055 [(0, mv_vr N0 (some a0))] [.int s0] (J_L_acts_1055 a0 s0) := by
  unfold J_L_acts_1055
  exact mv_zret dL_acts_1055

def J_L_acts_1054 (a0 : Nat) : mv_M Int32 :=
  J_L_acts_1055 a0 (0 : Int32)

set_option maxHeartbeats 4000000 in
set_option maxRecDepth 100000 in
theorem sJ_L_acts_1054 (l : Launch) (N0 : Nat) (D : va_G) (dA : Nat → ClassId) (a0 : Nat) : mv_Sim l N0 D dA RL cL_acts 13 9 224 (some .boolean) false mv_rI 1054 [(0, mv_vr N0 (some a0))] [] (J_L_acts_1054 a0) := by
  unfold J_L_acts_1054
  refine mv_iconst (v := (0 : Int32)) dL_acts_1054 (by decide) rfl ?_
  refine mv_sub [0] rfl ?_
  exact sJ_L_acts_1055 l N0 D dA a0 (0 : Int32)

def J_L_acts_1021 (a0 : Nat) (x9 : Int32) (x10 : Int32) (x11 : Int32) (s0 : Int32) (s1 : Int32) (s2 : Int32) : mv_M Int32 :=
  if s0 = (s1 + s2) then
    mv_bd (mv_rc 6 7 (some a0)) fun i51 => mv_bd (F_X6_count i51 (12 : Int32)) fun v50 =>
    if v50 = x10 then
      mv_bd (mv_rc 6 7 (some a0)) fun i53 => mv_bd (F_X6_count i53 (7 : Int32)) fun v52 =>
      if v52 = (x11 + x9) then
        J_L_acts_1055 a0 (1 : Int32)
      else
        J_L_acts_1054 a0
    else
      J_L_acts_1054 a0
  else
    J_L_acts_1054 a0

set_option maxHeartbeats 4000000 in
set_option maxRecDepth 100000 in
theorem sJ_L_acts_1021 (l : Launch) (N0 : Nat) (D : va_G) (dA : Nat → ClassId) (a0 : Nat) (x9 : Int32) (x10 : Int32) (x11 : Int32) (s0 : Int32) (s1 : Int32) (s2 : Int32) : mv_Sim l N0 D dA RL cL_acts 13 9 224 (some .boolean) false mv_rI 1021 [(0, mv_vr N0 (some a0)), (9, .int x9), (10, .int x10), (11, .int x11)] [.int s2, .int s1, .int s0] (J_L_acts_1021 a0 x9 x10 x11 s0 s1 s2) := by
  unfold J_L_acts_1021
  refine mv_iadd dL_acts_1021 rfl ?_
  refine mv_icmp_ne (tgt := 1054) dL_acts_1022 rfl rfl ?_ ?_
  · refine mv_sub [0] rfl ?_
    exact sJ_L_acts_1054 l N0 D dA a0
  · refine mv_aload_n 0 dL_acts_1025 rfl rfl rfl ?_
    refine mv_bipush (v := (12 : Int32)) dL_acts_1026 (by decide) rfl ?_
    refine mv_callVi (st := []) [.int (12 : Int32)] (fun i51 => c_X6_count l N0 D dA i51 (12 : Int32)) (T := TX6) rfl (by decide) wc_L_13 ⟨by decide, by decide⟩ rfl (Nat.le_of_ble_eq_true rfl) dL_acts_1028 rfl (fun v50 => ?_)
    refine mv_iload 2 dL_acts_1031 rfl rfl ?_
    refine mv_icmp_ne (tgt := 1054) dL_acts_1033 rfl rfl ?_ ?_
    · refine mv_sub [0] rfl ?_
      exact sJ_L_acts_1054 l N0 D dA a0
    · refine mv_aload_n 0 dL_acts_1036 rfl rfl rfl ?_
      refine mv_bipush (v := (7 : Int32)) dL_acts_1037 (by decide) rfl ?_
      refine mv_callVi (st := []) [.int (7 : Int32)] (fun i53 => c_X6_count l N0 D dA i53 (7 : Int32)) (T := TX6) rfl (by decide) wc_L_13 ⟨by decide, by decide⟩ rfl (Nat.le_of_ble_eq_true rfl) dL_acts_1039 rfl (fun v52 => ?_)
      refine mv_iload 3 dL_acts_1042 rfl rfl ?_
      refine mv_iload 1 dL_acts_1044 rfl rfl ?_
      refine mv_iadd dL_acts_1046 rfl ?_
      refine mv_icmp_ne (tgt := 1054) dL_acts_1047 rfl rfl ?_ ?_
      · refine mv_sub [0] rfl ?_
        exact sJ_L_acts_1054 l N0 D dA a0
      · refine mv_iconst (v := (1 : Int32)) dL_acts_1050 (by decide) rfl ?_
        refine mv_goto (q := 1055) dL_acts_1051 rfl ?_
        refine mv_sub [0] rfl ?_
        exact sJ_L_acts_1055 l N0 D dA a0 (1 : Int32)

def J_L_acts_1000 (a0 : Nat) (x6 : Int32) (x7 : Int32) (x8 : Int32) (x9 : Int32) (x10 : Int32) (x11 : Int32) (s0 : Int32) (s1 : Int32) : mv_M Int32 :=
  if s0 = s1 then
    mv_bd (mv_rc 6 7 (some a0)) fun i55 => mv_bd (F_X6_count i55 (0 : Int32)) fun v54 =>
    if x8 = 0 then
      J_L_acts_1021 a0 x9 x10 x11 v54 x6 x7
    else
      J_L_acts_1021 a0 x9 x10 x11 v54 x6 (0 : Int32)
  else
    J_L_acts_1054 a0

set_option maxHeartbeats 4000000 in
set_option maxRecDepth 100000 in
theorem sJ_L_acts_1000 (l : Launch) (N0 : Nat) (D : va_G) (dA : Nat → ClassId) (a0 : Nat) (x6 : Int32) (x7 : Int32) (x8 : Int32) (x9 : Int32) (x10 : Int32) (x11 : Int32) (s0 : Int32) (s1 : Int32) : mv_Sim l N0 D dA RL cL_acts 13 9 224 (some .boolean) false mv_rI 1000 [(0, mv_vr N0 (some a0)), (6, .int x6), (7, .int x7), (8, .int x8), (9, .int x9), (10, .int x10), (11, .int x11)] [.int s1, .int s0] (J_L_acts_1000 a0 x6 x7 x8 x9 x10 x11 s0 s1) := by
  unfold J_L_acts_1000
  refine mv_icmp_ne (tgt := 1054) dL_acts_1000 rfl rfl ?_ ?_
  · refine mv_sub [0] rfl ?_
    exact sJ_L_acts_1054 l N0 D dA a0
  · refine mv_aload_n 0 dL_acts_1003 rfl rfl rfl ?_
    refine mv_iconst (v := (0 : Int32)) dL_acts_1004 (by decide) rfl ?_
    refine mv_callVi (st := []) [.int (0 : Int32)] (fun i55 => c_X6_count l N0 D dA i55 (0 : Int32)) (T := TX6) rfl (by decide) wc_L_13 ⟨by decide, by decide⟩ rfl (Nat.le_of_ble_eq_true rfl) dL_acts_1005 rfl (fun v54 => ?_)
    refine mv_iload 1 dL_acts_1008 rfl rfl ?_
    refine mv_iload 3 dL_acts_1010 rfl rfl ?_
    refine mv_if_eq (tgt := 1019) dL_acts_1012 rfl rfl ?_ ?_
    · refine mv_iload 2 dL_acts_1019 rfl rfl ?_
      refine mv_sub [0, 4, 5, 6] rfl ?_
      exact sJ_L_acts_1021 l N0 D dA a0 x9 x10 x11 v54 x6 x7
    · refine mv_iconst (v := (0 : Int32)) dL_acts_1015 (by decide) rfl ?_
      refine mv_goto (q := 1021) dL_acts_1016 rfl ?_
      refine mv_sub [0, 4, 5, 6] rfl ?_
      exact sJ_L_acts_1021 l N0 D dA a0 x9 x10 x11 v54 x6 (0 : Int32)

def J_L_acts_968 (a0 : Nat) (x6 : Int32) (x7 : Int32) (x8 : Int32) (x9 : Int32) (s0 : Int32) (s1 : Int32) : mv_M Int32 :=
  mv_bd (mv_pu (s0 + s1)) fun v56 =>
  mv_bd (mv_rc 6 7 (some a0)) fun i58 => mv_bd (F_X6_count i58 (7 : Int32)) fun v57 =>
  mv_bd (mv_rc 6 7 (some a0)) fun i60 => mv_bd (F_X6_pass i60 x7) fun v59 =>
  if x8 = 0 then
    J_L_acts_1000 a0 x6 x7 x8 x9 v56 v57 v59 x9
  else
    J_L_acts_1000 a0 x6 x7 x8 x9 v56 v57 v59 ((-1) : Int32)

set_option maxHeartbeats 4000000 in
set_option maxRecDepth 100000 in
theorem sJ_L_acts_968 (l : Launch) (N0 : Nat) (D : va_G) (dA : Nat → ClassId) (a0 : Nat) (x6 : Int32) (x7 : Int32) (x8 : Int32) (x9 : Int32) (s0 : Int32) (s1 : Int32) : mv_Sim l N0 D dA RL cL_acts 13 9 224 (some .boolean) false mv_rI 968 [(0, mv_vr N0 (some a0)), (6, .int x6), (7, .int x7), (8, .int x8), (9, .int x9)] [.int s1, .int s0] (J_L_acts_968 a0 x6 x7 x8 x9 s0 s1) := by
  unfold J_L_acts_968
  refine mv_iadd dL_acts_968 rfl ?_
  refine mv_let (fun v56 => ?_)
  refine mw_istore rfl dL_acts_969 (by decide) rfl rfl ?_
  refine mv_aload_n 1 dL_acts_971 rfl rfl rfl ?_
  refine mv_bipush (v := (7 : Int32)) dL_acts_972 (by decide) rfl ?_
  refine mv_callVi (st := []) [.int (7 : Int32)] (fun i58 => c_X6_count l N0 D dA i58 (7 : Int32)) (T := TX6) rfl (by decide) wc_L_13 ⟨by decide, by decide⟩ rfl (Nat.le_of_ble_eq_true rfl) dL_acts_974 rfl (fun v57 => ?_)
  refine mw_istore rfl dL_acts_977 (by decide) rfl rfl ?_
  refine mv_aload_n 2 dL_acts_979 rfl rfl rfl ?_
  refine mv_iload 4 dL_acts_980 rfl rfl ?_
  refine mv_callVi (st := []) [.int x7] (fun i60 => c_X6_pass l N0 D dA i60 x7) (T := TX6) rfl (by decide) wc_L_100 ⟨by decide, by decide⟩ rfl (Nat.le_of_ble_eq_true rfl) dL_acts_982 rfl (fun v59 => ?_)
  refine mw_istore rfl dL_acts_985 (by decide) rfl rfl ?_
  refine mv_iload 0 dL_acts_987 rfl rfl ?_
  refine mv_iload 6 dL_acts_989 rfl rfl ?_
  refine mv_if_eq (tgt := 998) dL_acts_991 rfl rfl ?_ ?_
  · refine mv_iload 7 dL_acts_998 rfl rfl ?_
    refine mv_sub [3, 4, 5, 6, 7, 2, 1] rfl ?_
    exact sJ_L_acts_1000 l N0 D dA a0 x6 x7 x8 x9 v56 v57 v59 x9
  · refine mv_iconst (v := ((-1) : Int32)) dL_acts_994 (by decide) rfl ?_
    refine mv_goto (q := 1000) dL_acts_995 rfl ?_
    refine mv_sub [3, 4, 5, 6, 7, 2, 1] rfl ?_
    exact sJ_L_acts_1000 l N0 D dA a0 x6 x7 x8 x9 v56 v57 v59 ((-1) : Int32)

def J_L_acts_944 (a0 : Nat) (x6 : Int32) (x7 : Int32) (x8 : Int32) (s0 : Int32) : mv_M Int32 :=
  mv_bd (mv_rc 6 7 (some a0)) fun i62 => mv_bd (F_X6_count i62 (12 : Int32)) fun v61 =>
  if x8 = 0 then
    mv_bd (mv_rc 6 7 (some a0)) fun i64 => mv_bd (F_X6_ifPassed i64 x7 (1 : Int32)) fun v63 =>
    J_L_acts_968 a0 x6 x7 x8 s0 v61 v63
  else
    J_L_acts_968 a0 x6 x7 x8 s0 v61 (0 : Int32)

set_option maxHeartbeats 4000000 in
set_option maxRecDepth 100000 in
theorem sJ_L_acts_944 (l : Launch) (N0 : Nat) (D : va_G) (dA : Nat → ClassId) (a0 : Nat) (x6 : Int32) (x7 : Int32) (x8 : Int32) (s0 : Int32) : mv_Sim l N0 D dA RL cL_acts 13 9 224 (some .boolean) false mv_rI 944 [(0, mv_vr N0 (some a0)), (6, .int x6), (7, .int x7), (8, .int x8)] [.int s0] (J_L_acts_944 a0 x6 x7 x8 s0) := by
  unfold J_L_acts_944
  refine mw_istore rfl dL_acts_944 (by decide) rfl rfl ?_
  refine mv_aload_n 1 dL_acts_946 rfl rfl rfl ?_
  refine mv_bipush (v := (12 : Int32)) dL_acts_947 (by decide) rfl ?_
  refine mv_callVi (st := []) [.int (12 : Int32)] (fun i62 => c_X6_count l N0 D dA i62 (12 : Int32)) (T := TX6) rfl (by decide) wc_L_13 ⟨by decide, by decide⟩ rfl (Nat.le_of_ble_eq_true rfl) dL_acts_949 rfl (fun v61 => ?_)
  refine mv_iload 4 dL_acts_952 rfl rfl ?_
  refine mv_if_eq (tgt := 961) dL_acts_954 rfl rfl ?_ ?_
  · refine mv_aload_n 1 dL_acts_961 rfl rfl rfl ?_
    refine mv_iload 3 dL_acts_962 rfl rfl ?_
    refine mv_iconst (v := (1 : Int32)) dL_acts_964 (by decide) rfl ?_
    refine mv_callVi (st := [.int v61]) [.int x7, .int (1 : Int32)] (fun i64 => c_X6_ifPassed l N0 D dA i64 x7 (1 : Int32)) (T := TX6) rfl (by decide) wc_L_51 ⟨by decide, by decide⟩ rfl (Nat.le_of_ble_eq_true rfl) dL_acts_965 rfl (fun v63 => ?_)
    refine mv_sub [1, 2, 3, 4, 0] rfl ?_
    exact sJ_L_acts_968 l N0 D dA a0 x6 x7 x8 s0 v61 v63
  · refine mv_iconst (v := (0 : Int32)) dL_acts_957 (by decide) rfl ?_
    refine mv_goto (q := 968) dL_acts_958 rfl ?_
    refine mv_sub [1, 2, 3, 4, 0] rfl ?_
    exact sJ_L_acts_968 l N0 D dA a0 x6 x7 x8 s0 v61 (0 : Int32)

def J_L_acts_926 (a0 : Nat) (x6 : Int32) (x7 : Int32) (s0 : Int32) : mv_M Int32 :=
  if s0 = 0 then
    mv_bd (mv_rc 6 7 (some a0)) fun i66 => mv_bd (F_X6_ifPassed i66 x7 (0 : Int32)) fun v65 =>
    J_L_acts_944 a0 x6 x7 s0 v65
  else
    J_L_acts_944 a0 x6 x7 s0 (0 : Int32)

set_option maxHeartbeats 4000000 in
set_option maxRecDepth 100000 in
theorem sJ_L_acts_926 (l : Launch) (N0 : Nat) (D : va_G) (dA : Nat → ClassId) (a0 : Nat) (x6 : Int32) (x7 : Int32) (s0 : Int32) : mv_Sim l N0 D dA RL cL_acts 13 9 224 (some .boolean) false mv_rI 926 [(0, mv_vr N0 (some a0)), (6, .int x6), (7, .int x7)] [.int s0] (J_L_acts_926 a0 x6 x7 s0) := by
  unfold J_L_acts_926
  refine mw_istore rfl dL_acts_926 (by decide) rfl rfl ?_
  refine mv_iload 0 dL_acts_928 rfl rfl ?_
  refine mv_if_eq (tgt := 937) dL_acts_930 rfl rfl ?_ ?_
  · refine mv_aload_n 1 dL_acts_937 rfl rfl rfl ?_
    refine mv_iload 3 dL_acts_938 rfl rfl ?_
    refine mv_iconst (v := (0 : Int32)) dL_acts_940 (by decide) rfl ?_
    refine mv_callVi (st := []) [.int x7, .int (0 : Int32)] (fun i66 => c_X6_ifPassed l N0 D dA i66 x7 (0 : Int32)) (T := TX6) rfl (by decide) wc_L_51 ⟨by decide, by decide⟩ rfl (Nat.le_of_ble_eq_true rfl) dL_acts_941 rfl (fun v65 => ?_)
    refine mv_sub [1, 2, 3, 0] rfl ?_
    exact sJ_L_acts_944 l N0 D dA a0 x6 x7 s0 v65
  · refine mv_iconst (v := (0 : Int32)) dL_acts_933 (by decide) rfl ?_
    refine mv_goto (q := 944) dL_acts_934 rfl ?_
    refine mv_sub [1, 2, 3, 0] rfl ?_
    exact sJ_L_acts_944 l N0 D dA a0 x6 x7 s0 (0 : Int32)

def J_L_acts_921 (a0 : Nat) (x6 : Int32) (x7 : Int32) : mv_M Int32 :=
  J_L_acts_926 a0 x6 x7 (1 : Int32)

set_option maxHeartbeats 4000000 in
set_option maxRecDepth 100000 in
theorem sJ_L_acts_921 (l : Launch) (N0 : Nat) (D : va_G) (dA : Nat → ClassId) (a0 : Nat) (x6 : Int32) (x7 : Int32) : mv_Sim l N0 D dA RL cL_acts 13 9 224 (some .boolean) false mv_rI 921 [(0, mv_vr N0 (some a0)), (6, .int x6), (7, .int x7)] [] (J_L_acts_921 a0 x6 x7) := by
  unfold J_L_acts_921
  refine mv_iconst (v := (1 : Int32)) dL_acts_921 (by decide) rfl ?_
  refine mv_goto (q := 926) dL_acts_922 rfl ?_
  refine mv_sub [0, 1, 2] rfl ?_
  exact sJ_L_acts_926 l N0 D dA a0 x6 x7 (1 : Int32)

def J_L_acts_904 (a0 : Nat) (x6 : Int32) (s0 : Int32) (s1 : Int32) : mv_M Int32 :=
  mv_bd (F_L_low s0 s1) fun v67 =>
  if v67 = 0 then
    J_L_acts_921 a0 x6 v67
  else
    if v67 = (31 : Int32) then
      J_L_acts_921 a0 x6 v67
    else
      J_L_acts_926 a0 x6 v67 (0 : Int32)

set_option maxHeartbeats 4000000 in
set_option maxRecDepth 100000 in
theorem sJ_L_acts_904 (l : Launch) (N0 : Nat) (D : va_G) (dA : Nat → ClassId) (a0 : Nat) (x6 : Int32) (s0 : Int32) (s1 : Int32) : mv_Sim l N0 D dA RL cL_acts 13 9 224 (some .boolean) false mv_rI 904 [(0, mv_vr N0 (some a0)), (6, .int x6)] [.int s1, .int s0] (J_L_acts_904 a0 x6 s0 s1) := by
  unfold J_L_acts_904
  refine mv_callSi (st := []) [.int s0, .int s1] (c_L_low l N0 D dA s0 s1) wc_L_38 ⟨by decide, by decide⟩ rfl (Nat.le_of_ble_eq_true rfl) dL_acts_904 rfl (fun v67 => ?_)
  refine mw_istore rfl dL_acts_907 (by decide) rfl rfl ?_
  refine mv_iload 0 dL_acts_909 rfl rfl ?_
  refine mv_if_eq (tgt := 921) dL_acts_911 rfl rfl ?_ ?_
  · refine mv_sub [1, 2, 0] rfl ?_
    exact sJ_L_acts_921 l N0 D dA a0 x6 v67
  · refine mv_iload 0 dL_acts_914 rfl rfl ?_
    refine mv_bipush (v := (31 : Int32)) dL_acts_916 (by decide) rfl ?_
    refine mv_icmp_ne (tgt := 925) dL_acts_918 rfl rfl ?_ ?_
    · refine mv_iconst (v := (0 : Int32)) dL_acts_925 (by decide) rfl ?_
      refine mv_sub [1, 2, 0] rfl ?_
      exact sJ_L_acts_926 l N0 D dA a0 x6 v67 (0 : Int32)
    · refine mv_sub [1, 2, 0] rfl ?_
      exact sJ_L_acts_921 l N0 D dA a0 x6 v67

def F_L_acts (a0 : Nat) (a1 : Int32) (a2 : Int32) : mv_M Int32 :=
  mv_bd (F_L_low a1 (30 : Int32)) fun v68 =>
  mv_bd (mv_rc 6 7 (some a0)) fun i70 => mv_bd (F_X6_count i70 (2 : Int32)) fun v69 =>
  mv_bd (mv_rc 6 7 (some a0)) fun i72 => mv_bd (F_X6_count i72 (4 : Int32)) fun v71 =>
  mv_bd (mv_rc 6 7 (some a0)) fun i74 => mv_bd (F_X6_count i74 (0 : Int32)) fun v73 =>
  if (5 : Int32) ≤ v68 then
    if (7 : Int32) ≤ v68 then
      if v68 = (7 : Int32) then
        mv_bd (F_L_low a2 (v69 + (1 : Int32))) fun v84 =>
        mv_bd (F_L_low (a2 >>> ((3 : Int32) &&& 31)) (11 : Int32)) fun v85 =>
        if v84 = v69 then
          J_L_acts_348 a0 v69 v84 v85
        else
          if v85 = (10 : Int32) then
            J_L_acts_348 a0 v69 v84 v85
          else
            J_L_acts_353 a0 v69 v84 v85 (0 : Int32)
      else
        if v68 = (8 : Int32) then
          mv_bd (F_L_low a2 (10 : Int32)) fun v83 =>
          if v83 = 0 then
            J_L_acts_458 a0 v83
          else
            if v83 = (9 : Int32) then
              J_L_acts_458 a0 v83
            else
              J_L_acts_463 a0 v83 (0 : Int32)
        else
          if (16 : Int32) ≤ v68 then
            if (18 : Int32) ≤ v68 then
              if (25 : Int32) ≤ v68 then
                mv_bd (F_L_reads a0 a2) fun v75 =>
                mv_rz v75
              else
                mv_bd (F_L_low (a2 >>> ((7 : Int32) &&& 31)) (5 : Int32)) fun v76 =>
                if v76 = 0 then
                  J_L_acts_904 a0 v73 a2 (32 : Int32)
                else
                  J_L_acts_904 a0 v73 a2 (5 : Int32)
            else
              mv_bd (F_L_low a2 (v71 + (1 : Int32))) fun v77 =>
              mv_bd (mv_rc 6 7 (some a0)) fun i79 => mv_bd (F_X6_count i79 (11 : Int32)) fun v78 =>
              mv_bd (mv_rc 6 7 (some a0)) fun i81 => mv_bd (F_X6_forget i81 v77) fun v80 =>
              if v77 = v71 then
                J_L_acts_824 a0 v71 v77 v78 v80 ((-1) : Int32)
              else
                J_L_acts_824 a0 v71 v77 v78 v80 (v71 - (1 : Int32))
          else
            mv_bd (F_L_low (a2 >>> ((9 : Int32) &&& 31)) (6 : Int32)) fun v82 =>
            if v82 = 0 then
              J_L_acts_546 a0 a2 v71 v73 a2 (7 : Int32)
            else
              J_L_acts_546 a0 a2 v71 v73 a2 (6 : Int32)
    else
      mv_bd (F_L_low a2 (v69 + (1 : Int32))) fun v86 =>
      mv_bd (F_L_low (a2 >>> ((11 : Int32) &&& 31)) (3 : Int32)) fun v87 =>
      if v87 = 0 then
        J_L_acts_188 a0 v69 v73 v86 (a2 >>> ((3 : Int32) &&& 31)) (32 : Int32)
      else
        J_L_acts_188 a0 v69 v73 v86 (a2 >>> ((3 : Int32) &&& 31)) (7 : Int32)
  else
    mv_bd (F_L_low a2 (8 : Int32)) fun v88 =>
    mv_bd (F_L_low (a2 >>> ((3 : Int32) &&& 31)) (8 : Int32)) fun v89 =>
    if v88 = (7 : Int32) then
      J_L_acts_65 a0 v73 v88 v89
    else
      if v89 = (7 : Int32) then
        J_L_acts_65 a0 v73 v88 v89
      else
        J_L_acts_70 a0 v73 v88 v89 (0 : Int32)

set_option maxHeartbeats 4000000 in
set_option maxRecDepth 100000 in
theorem c_L_acts (l : Launch) (N0 : Nat) (D : va_G) (dA : Nat → ClassId) (a0 : Nat) (a1 : Int32) (a2 : Int32) : mv_SimM l N0 D dA yL_acts cL_acts 13 (some .boolean) 9 224 mv_rI [.ref (N0 + a0), .int a1, .int a2] (F_L_acts a0 a1 a2) := by
  refine mv_SimM_oL (L0 := [(0, mv_vr N0 (some a0)), (1, .int a1), (2, .int a2)]) false (by decide +kernel) (Nat.le_of_ble_eq_true rfl) rfl (rfl) (fun z => by cases z) ?_
  unfold F_L_acts
  show mv_Sim l N0 D dA RL cL_acts 13 9 224 (some .boolean) false mv_rI 0 _ _ _
  refine mv_iload_n 1 dL_acts_0 rfl rfl rfl ?_
  refine mv_bipush (v := (30 : Int32)) dL_acts_1 (by decide) rfl ?_
  refine mv_callSi (st := []) [.int a1, .int (30 : Int32)] (c_L_low l N0 D dA a1 (30 : Int32)) wc_L_38 ⟨by decide, by decide⟩ rfl (Nat.le_of_ble_eq_true rfl) dL_acts_3 rfl (fun v68 => ?_)
  refine mw_istore_n rfl dL_acts_6 rfl (by decide) rfl rfl ?_
  refine mv_aload_n 1 dL_acts_7 rfl rfl rfl ?_
  refine mv_iconst (v := (2 : Int32)) dL_acts_8 (by decide) rfl ?_
  refine mv_callVi (st := []) [.int (2 : Int32)] (fun i70 => c_X6_count l N0 D dA i70 (2 : Int32)) (T := TX6) rfl (by decide) wc_L_13 ⟨by decide, by decide⟩ rfl (Nat.le_of_ble_eq_true rfl) dL_acts_9 rfl (fun v69 => ?_)
  refine mw_istore rfl dL_acts_12 (by decide) rfl rfl ?_
  refine mv_aload_n 2 dL_acts_14 rfl rfl rfl ?_
  refine mv_iconst (v := (4 : Int32)) dL_acts_15 (by decide) rfl ?_
  refine mv_callVi (st := []) [.int (4 : Int32)] (fun i72 => c_X6_count l N0 D dA i72 (4 : Int32)) (T := TX6) rfl (by decide) wc_L_13 ⟨by decide, by decide⟩ rfl (Nat.le_of_ble_eq_true rfl) dL_acts_16 rfl (fun v71 => ?_)
  refine mw_istore rfl dL_acts_19 (by decide) rfl rfl ?_
  refine mv_aload_n 3 dL_acts_21 rfl rfl rfl ?_
  refine mv_iconst (v := (0 : Int32)) dL_acts_22 (by decide) rfl ?_
  refine mv_callVi (st := []) [.int (0 : Int32)] (fun i74 => c_X6_count l N0 D dA i74 (0 : Int32)) (T := TX6) rfl (by decide) wc_L_13 ⟨by decide, by decide⟩ rfl (Nat.le_of_ble_eq_true rfl) dL_acts_23 rfl (fun v73 => ?_)
  refine mw_istore rfl dL_acts_26 (by decide) rfl rfl ?_
  refine mv_iload_n 3 dL_acts_28 rfl rfl rfl ?_
  refine mv_iconst (v := (5 : Int32)) dL_acts_29 (by decide) rfl ?_
  refine mv_icmp_ge (tgt := 151) dL_acts_30 rfl rfl ?_ ?_
  · refine mv_iload_n 3 dL_acts_151 rfl rfl rfl ?_
    refine mv_bipush (v := (7 : Int32)) dL_acts_152 (by decide) rfl ?_
    refine mv_icmp_ge (tgt := 308) dL_acts_154 rfl rfl ?_ ?_
    · refine mv_iload_n 3 dL_acts_308 rfl rfl rfl ?_
      refine mv_bipush (v := (7 : Int32)) dL_acts_309 (by decide) rfl ?_
      refine mv_icmp_ne (tgt := 432) dL_acts_311 rfl rfl ?_ ?_
      · refine mv_iload_n 3 dL_acts_432 rfl rfl rfl ?_
        refine mv_bipush (v := (8 : Int32)) dL_acts_433 (by decide) rfl ?_
        refine mv_icmp_ne (tgt := 520) dL_acts_435 rfl rfl ?_ ?_
        · refine mv_iload_n 3 dL_acts_520 rfl rfl rfl ?_
          refine mv_bipush (v := (16 : Int32)) dL_acts_521 (by decide) rfl ?_
          refine mv_icmp_ge (tgt := 779) dL_acts_523 rfl rfl ?_ ?_
          · refine mv_iload_n 3 dL_acts_779 rfl rfl rfl ?_
            refine mv_bipush (v := (18 : Int32)) dL_acts_780 (by decide) rfl ?_
            refine mv_icmp_ge (tgt := 880) dL_acts_782 rfl rfl ?_ ?_
            · refine mv_iload_n 3 dL_acts_880 rfl rfl rfl ?_
              refine mv_bipush (v := (25 : Int32)) dL_acts_881 (by decide) rfl ?_
              refine mv_icmp_ge (tgt := 1056) dL_acts_883 rfl rfl ?_ ?_
              · refine mv_aload_n 4 dL_acts_1056 rfl rfl rfl ?_
                refine mv_iload_n 6 dL_acts_1057 rfl rfl rfl ?_
                refine mv_callSi (st := []) [.ref (N0 + a0), .int a2] (c_L_reads l N0 D dA a0 a2) wc_L_103 ⟨by decide, by decide⟩ rfl (Nat.le_of_ble_eq_true rfl) dL_acts_1058 rfl (fun v75 => ?_)
                exact mv_zret dL_acts_1061
              · refine mv_iload_n 6 dL_acts_886 rfl rfl rfl ?_
                refine mv_iload_n 6 dL_acts_887 rfl rfl rfl ?_
                refine mv_bipush (v := (7 : Int32)) dL_acts_888 (by decide) rfl ?_
                refine mv_ishr dL_acts_890 rfl ?_
                refine mv_iconst (v := (5 : Int32)) dL_acts_891 (by decide) rfl ?_
                refine mv_callSi (st := [.int a2]) [.int (a2 >>> ((7 : Int32) &&& 31)), .int (5 : Int32)] (c_L_low l N0 D dA (a2 >>> ((7 : Int32) &&& 31)) (5 : Int32)) wc_L_38 ⟨by decide, by decide⟩ rfl (Nat.le_of_ble_eq_true rfl) dL_acts_892 rfl (fun v76 => ?_)
                refine mv_if_ne (tgt := 903) dL_acts_895 rfl rfl ?_ ?_
                · refine mv_iconst (v := (5 : Int32)) dL_acts_903 (by decide) rfl ?_
                  refine mv_sub [4, 0] rfl ?_
                  exact sJ_L_acts_904 l N0 D dA a0 v73 a2 (5 : Int32)
                · refine mv_bipush (v := (32 : Int32)) dL_acts_898 (by decide) rfl ?_
                  refine mv_goto (q := 904) dL_acts_900 rfl ?_
                  refine mv_sub [4, 0] rfl ?_
                  exact sJ_L_acts_904 l N0 D dA a0 v73 a2 (32 : Int32)
            · refine mv_iload_n 6 dL_acts_785 rfl rfl rfl ?_
              refine mv_iload 1 dL_acts_786 rfl rfl ?_
              refine mv_iconst (v := (1 : Int32)) dL_acts_788 (by decide) rfl ?_
              refine mv_iadd dL_acts_789 rfl ?_
              refine mv_callSi (st := []) [.int a2, .int (v71 + (1 : Int32))] (c_L_low l N0 D dA a2 (v71 + (1 : Int32))) wc_L_38 ⟨by decide, by decide⟩ rfl (Nat.le_of_ble_eq_true rfl) dL_acts_790 rfl (fun v77 => ?_)
              refine mw_istore rfl dL_acts_793 (by decide) rfl rfl ?_
              refine mv_aload_n 5 dL_acts_795 rfl rfl rfl ?_
              refine mv_bipush (v := (11 : Int32)) dL_acts_796 (by decide) rfl ?_
              refine mv_callVi (st := []) [.int (11 : Int32)] (fun i79 => c_X6_count l N0 D dA i79 (11 : Int32)) (T := TX6) rfl (by decide) wc_L_13 ⟨by decide, by decide⟩ rfl (Nat.le_of_ble_eq_true rfl) dL_acts_798 rfl (fun v78 => ?_)
              refine mw_istore rfl dL_acts_801 (by decide) rfl rfl ?_
              refine mv_aload_n 6 dL_acts_803 rfl rfl rfl ?_
              refine mv_iload 1 dL_acts_804 rfl rfl ?_
              refine mv_callVi (st := []) [.int v77] (fun i81 => c_X6_forget l N0 D dA i81 v77) (T := TX6) rfl (by decide) wc_L_97 ⟨by decide, by decide⟩ rfl (Nat.le_of_ble_eq_true rfl) dL_acts_806 rfl (fun v80 => ?_)
              refine mv_iload 1 dL_acts_809 rfl rfl ?_
              refine mv_iload 3 dL_acts_811 rfl rfl ?_
              refine mv_icmp_ne (tgt := 820) dL_acts_813 rfl rfl ?_ ?_
              · refine mv_iload 3 dL_acts_820 rfl rfl ?_
                refine mv_iconst (v := (1 : Int32)) dL_acts_822 (by decide) rfl ?_
                refine mv_isub dL_acts_823 rfl ?_
                refine mv_sub [6, 3, 1, 0] rfl ?_
                exact sJ_L_acts_824 l N0 D dA a0 v71 v77 v78 v80 (v71 - (1 : Int32))
              · refine mv_iconst (v := ((-1) : Int32)) dL_acts_816 (by decide) rfl ?_
                refine mv_goto (q := 824) dL_acts_817 rfl ?_
                refine mv_sub [6, 3, 1, 0] rfl ?_
                exact sJ_L_acts_824 l N0 D dA a0 v71 v77 v78 v80 ((-1) : Int32)
          · refine mv_iload_n 6 dL_acts_526 rfl rfl rfl ?_
            refine mv_iload_n 6 dL_acts_527 rfl rfl rfl ?_
            refine mv_bipush (v := (9 : Int32)) dL_acts_528 (by decide) rfl ?_
            refine mv_ishr dL_acts_530 rfl ?_
            refine mv_bipush (v := (6 : Int32)) dL_acts_531 (by decide) rfl ?_
            refine mv_callSi (st := [.int a2]) [.int (a2 >>> ((9 : Int32) &&& 31)), .int (6 : Int32)] (c_L_low l N0 D dA (a2 >>> ((9 : Int32) &&& 31)) (6 : Int32)) wc_L_38 ⟨by decide, by decide⟩ rfl (Nat.le_of_ble_eq_true rfl) dL_acts_533 rfl (fun v82 => ?_)
            refine mv_if_ne (tgt := 544) dL_acts_536 rfl rfl ?_ ?_
            · refine mv_bipush (v := (6 : Int32)) dL_acts_544 (by decide) rfl ?_
              refine mv_sub [4, 6, 1, 0] rfl ?_
              exact sJ_L_acts_546 l N0 D dA a0 a2 v71 v73 a2 (6 : Int32)
            · refine mv_bipush (v := (7 : Int32)) dL_acts_539 (by decide) rfl ?_
              refine mv_goto (q := 546) dL_acts_541 rfl ?_
              refine mv_sub [4, 6, 1, 0] rfl ?_
              exact sJ_L_acts_546 l N0 D dA a0 a2 v71 v73 a2 (7 : Int32)
        · refine mv_iload_n 6 dL_acts_438 rfl rfl rfl ?_
          refine mv_bipush (v := (10 : Int32)) dL_acts_439 (by decide) rfl ?_
          refine mv_callSi (st := []) [.int a2, .int (10 : Int32)] (c_L_low l N0 D dA a2 (10 : Int32)) wc_L_38 ⟨by decide, by decide⟩ rfl (Nat.le_of_ble_eq_true rfl) dL_acts_441 rfl (fun v83 => ?_)
          refine mw_istore rfl dL_acts_444 (by decide) rfl rfl ?_
          refine mv_iload 0 dL_acts_446 rfl rfl ?_
          refine mv_if_eq (tgt := 458) dL_acts_448 rfl rfl ?_ ?_
          · refine mv_sub [5, 0] rfl ?_
            exact sJ_L_acts_458 l N0 D dA a0 v83
          · refine mv_iload 0 dL_acts_451 rfl rfl ?_
            refine mv_bipush (v := (9 : Int32)) dL_acts_453 (by decide) rfl ?_
            refine mv_icmp_ne (tgt := 462) dL_acts_455 rfl rfl ?_ ?_
            · refine mv_iconst (v := (0 : Int32)) dL_acts_462 (by decide) rfl ?_
              refine mv_sub [5, 0] rfl ?_
              exact sJ_L_acts_463 l N0 D dA a0 v83 (0 : Int32)
            · refine mv_sub [5, 0] rfl ?_
              exact sJ_L_acts_458 l N0 D dA a0 v83
      · refine mv_iload_n 6 dL_acts_314 rfl rfl rfl ?_
        refine mv_iload 2 dL_acts_315 rfl rfl ?_
        refine mv_iconst (v := (1 : Int32)) dL_acts_317 (by decide) rfl ?_
        refine mv_iadd dL_acts_318 rfl ?_
        refine mv_callSi (st := []) [.int a2, .int (v69 + (1 : Int32))] (c_L_low l N0 D dA a2 (v69 + (1 : Int32))) wc_L_38 ⟨by decide, by decide⟩ rfl (Nat.le_of_ble_eq_true rfl) dL_acts_319 rfl (fun v84 => ?_)
        refine mw_istore rfl dL_acts_322 (by decide) rfl rfl ?_
        refine mv_iload_n 7 dL_acts_324 rfl rfl rfl ?_
        refine mv_iconst (v := (3 : Int32)) dL_acts_325 (by decide) rfl ?_
        refine mv_ishr dL_acts_326 rfl ?_
        refine mv_bipush (v := (11 : Int32)) dL_acts_327 (by decide) rfl ?_
        refine mv_callSi (st := []) [.int (a2 >>> ((3 : Int32) &&& 31)), .int (11 : Int32)] (c_L_low l N0 D dA (a2 >>> ((3 : Int32) &&& 31)) (11 : Int32)) wc_L_38 ⟨by decide, by decide⟩ rfl (Nat.le_of_ble_eq_true rfl) dL_acts_329 rfl (fun v85 => ?_)
        refine mw_istore rfl dL_acts_332 (by decide) rfl rfl ?_
        refine mv_iload 1 dL_acts_334 rfl rfl ?_
        refine mv_iload 4 dL_acts_336 rfl rfl ?_
        refine mv_icmp_eq (tgt := 348) dL_acts_338 rfl rfl ?_ ?_
        · refine mv_sub [6, 4, 1, 0] rfl ?_
          exact sJ_L_acts_348 l N0 D dA a0 v69 v84 v85
        · refine mv_iload 0 dL_acts_341 rfl rfl ?_
          refine mv_bipush (v := (10 : Int32)) dL_acts_343 (by decide) rfl ?_
          refine mv_icmp_ne (tgt := 352) dL_acts_345 rfl rfl ?_ ?_
          · refine mv_iconst (v := (0 : Int32)) dL_acts_352 (by decide) rfl ?_
            refine mv_sub [6, 4, 1, 0] rfl ?_
            exact sJ_L_acts_353 l N0 D dA a0 v69 v84 v85 (0 : Int32)
          · refine mv_sub [6, 4, 1, 0] rfl ?_
            exact sJ_L_acts_348 l N0 D dA a0 v69 v84 v85
    · refine mv_iload_n 6 dL_acts_157 rfl rfl rfl ?_
      refine mv_iload 2 dL_acts_158 rfl rfl ?_
      refine mv_iconst (v := (1 : Int32)) dL_acts_160 (by decide) rfl ?_
      refine mv_iadd dL_acts_161 rfl ?_
      refine mv_callSi (st := []) [.int a2, .int (v69 + (1 : Int32))] (c_L_low l N0 D dA a2 (v69 + (1 : Int32))) wc_L_38 ⟨by decide, by decide⟩ rfl (Nat.le_of_ble_eq_true rfl) dL_acts_162 rfl (fun v86 => ?_)
      refine mw_istore rfl dL_acts_165 (by decide) rfl rfl ?_
      refine mv_iload_n 7 dL_acts_167 rfl rfl rfl ?_
      refine mv_iconst (v := (3 : Int32)) dL_acts_168 (by decide) rfl ?_
      refine mv_ishr dL_acts_169 rfl ?_
      refine mv_iload_n 7 dL_acts_170 rfl rfl rfl ?_
      refine mv_bipush (v := (11 : Int32)) dL_acts_171 (by decide) rfl ?_
      refine mv_ishr dL_acts_173 rfl ?_
      refine mv_iconst (v := (3 : Int32)) dL_acts_174 (by decide) rfl ?_
      refine mv_callSi (st := [.int (a2 >>> ((3 : Int32) &&& 31))]) [.int (a2 >>> ((11 : Int32) &&& 31)), .int (3 : Int32)] (c_L_low l N0 D dA (a2 >>> ((11 : Int32) &&& 31)) (3 : Int32)) wc_L_38 ⟨by decide, by decide⟩ rfl (Nat.le_of_ble_eq_true rfl) dL_acts_175 rfl (fun v87 => ?_)
      refine mv_if_ne (tgt := 186) dL_acts_178 rfl rfl ?_ ?_
      · refine mv_bipush (v := (7 : Int32)) dL_acts_186 (by decide) rfl ?_
        refine mv_sub [5, 3, 1, 0] rfl ?_
        exact sJ_L_acts_188 l N0 D dA a0 v69 v73 v86 (a2 >>> ((3 : Int32) &&& 31)) (7 : Int32)
      · refine mv_bipush (v := (32 : Int32)) dL_acts_181 (by decide) rfl ?_
        refine mv_goto (q := 188) dL_acts_183 rfl ?_
        refine mv_sub [5, 3, 1, 0] rfl ?_
        exact sJ_L_acts_188 l N0 D dA a0 v69 v73 v86 (a2 >>> ((3 : Int32) &&& 31)) (32 : Int32)
  · refine mv_iload_n 6 dL_acts_33 rfl rfl rfl ?_
    refine mv_bipush (v := (8 : Int32)) dL_acts_34 (by decide) rfl ?_
    refine mv_callSi (st := []) [.int a2, .int (8 : Int32)] (c_L_low l N0 D dA a2 (8 : Int32)) wc_L_38 ⟨by decide, by decide⟩ rfl (Nat.le_of_ble_eq_true rfl) dL_acts_36 rfl (fun v88 => ?_)
    refine mw_istore rfl dL_acts_39 (by decide) rfl rfl ?_
    refine mv_iload_n 7 dL_acts_41 rfl rfl rfl ?_
    refine mv_iconst (v := (3 : Int32)) dL_acts_42 (by decide) rfl ?_
    refine mv_ishr dL_acts_43 rfl ?_
    refine mv_bipush (v := (8 : Int32)) dL_acts_44 (by decide) rfl ?_
    refine mv_callSi (st := []) [.int (a2 >>> ((3 : Int32) &&& 31)), .int (8 : Int32)] (c_L_low l N0 D dA (a2 >>> ((3 : Int32) &&& 31)) (8 : Int32)) wc_L_38 ⟨by decide, by decide⟩ rfl (Nat.le_of_ble_eq_true rfl) dL_acts_46 rfl (fun v89 => ?_)
    refine mw_istore rfl dL_acts_49 (by decide) rfl rfl ?_
    refine mv_iload 1 dL_acts_51 rfl rfl ?_
    refine mv_bipush (v := (7 : Int32)) dL_acts_53 (by decide) rfl ?_
    refine mv_icmp_eq (tgt := 65) dL_acts_55 rfl rfl ?_ ?_
    · refine mv_sub [6, 2, 1, 0] rfl ?_
      exact sJ_L_acts_65 l N0 D dA a0 v73 v88 v89
    · refine mv_iload 0 dL_acts_58 rfl rfl ?_
      refine mv_bipush (v := (7 : Int32)) dL_acts_60 (by decide) rfl ?_
      refine mv_icmp_ne (tgt := 69) dL_acts_62 rfl rfl ?_ ?_
      · refine mv_iconst (v := (0 : Int32)) dL_acts_69 (by decide) rfl ?_
        refine mv_sub [6, 2, 1, 0] rfl ?_
        exact sJ_L_acts_70 l N0 D dA a0 v73 v88 v89 (0 : Int32)
      · refine mv_sub [6, 2, 1, 0] rfl ?_
        exact sJ_L_acts_65 l N0 D dA a0 v73 v88 v89

def J_L_holds_631 (k152 : Int32 → Int32 → Int32 → Int32 → Int32 → Int32 → Int32 → Int32 → mv_M Int32) (a0 : Nat) (x1 : Int32) (x2 : Int32) (x3 : Int32) (x4 : Int32) (x5 : Int32) (x6 : Int32) (x7 : Int32) (x8 : Int32) (x9 : Int32) (x10 : Int32) (x11 : Int32) (x13 : Int32) (s0 : Int32) : mv_M Int32 :=
  k152 x4 x5 x6 x7 x10 x11 s0 (x13 + (1 : Int32))

set_option maxHeartbeats 4000000 in
set_option maxRecDepth 100000 in
theorem sJ_L_holds_631 (l : Launch) (N0 : Nat) (D : va_G) (dA : Nat → ClassId) (a0 : Nat) (x1 : Int32) (x2 : Int32) (x3 : Int32) (x4 : Int32) (x5 : Int32) (x6 : Int32) (x7 : Int32) (x8 : Int32) (x9 : Int32) (x10 : Int32) (x11 : Int32) (x13 : Int32) (s0 : Int32) (k152 : Int32 → Int32 → Int32 → Int32 → Int32 → Int32 → Int32 → Int32 → mv_M Int32) (hk152 : ∀ (y4 : Int32) (y5 : Int32) (y6 : Int32) (y7 : Int32) (y10 : Int32) (y11 : Int32) (y12 : Int32) (y13 : Int32), mv_Sim l N0 D dA RL cL_holds 20 7 167 (some .boolean) false mv_rI 152 [(0, mv_vr N0 (some a0)), (1, .int x1), (2, .int x2), (3, .int x3), (4, .int y4), (5, .int y5), (6, .int y6), (7, .int y7), (8, .int x8), (9, .int x9), (10, .int y10), (11, .int y11), (12, .int y12), (13, .int y13)] [] (k152 y4 y5 y6 y7 y10 y11 y12 y13)) : mv_Sim l N0 D dA RL cL_holds 20 7 167 (some .boolean) false mv_rI 631 [(0, mv_vr N0 (some a0)), (1, .int x1), (2, .int x2), (3, .int x3), (4, .int x4), (5, .int x5), (6, .int x6), (7, .int x7), (8, .int x8), (9, .int x9), (10, .int x10), (11, .int x11), (13, .int x13)] [.int s0] (J_L_holds_631 k152 a0 x1 x2 x3 x4 x5 x6 x7 x8 x9 x10 x11 x13 s0) := by
  unfold J_L_holds_631
  refine mw_istore rfl dL_holds_631 (by decide) rfl rfl ?_
  refine mw_iinc (y := (x13 + (1 : Int32))) 13 rfl dL_holds_633 rfl rfl (by decide) rfl rfl ?_
  refine mv_goto (q := 152) dL_holds_636 rfl ?_
  refine mv_sub [2, 3, 4, 5, 6, 7, 8, 9, 10, 11, 12, 13, 1, 0] rfl ?_
  exact hk152 x4 x5 x6 x7 x10 x11 s0 (x13 + (1 : Int32))

def J_L_holds_630 (k152 : Int32 → Int32 → Int32 → Int32 → Int32 → Int32 → Int32 → Int32 → mv_M Int32) (a0 : Nat) (x1 : Int32) (x2 : Int32) (x3 : Int32) (x4 : Int32) (x5 : Int32) (x6 : Int32) (x7 : Int32) (x8 : Int32) (x9 : Int32) (x10 : Int32) (x11 : Int32) (x13 : Int32) : mv_M Int32 :=
  J_L_holds_631 k152 a0 x1 x2 x3 x4 x5 x6 x7 x8 x9 x10 x11 x13 (0 : Int32)

set_option maxHeartbeats 4000000 in
set_option maxRecDepth 100000 in
theorem sJ_L_holds_630 (l : Launch) (N0 : Nat) (D : va_G) (dA : Nat → ClassId) (a0 : Nat) (x1 : Int32) (x2 : Int32) (x3 : Int32) (x4 : Int32) (x5 : Int32) (x6 : Int32) (x7 : Int32) (x8 : Int32) (x9 : Int32) (x10 : Int32) (x11 : Int32) (x13 : Int32) (k152 : Int32 → Int32 → Int32 → Int32 → Int32 → Int32 → Int32 → Int32 → mv_M Int32) (hk152 : ∀ (y4 : Int32) (y5 : Int32) (y6 : Int32) (y7 : Int32) (y10 : Int32) (y11 : Int32) (y12 : Int32) (y13 : Int32), mv_Sim l N0 D dA RL cL_holds 20 7 167 (some .boolean) false mv_rI 152 [(0, mv_vr N0 (some a0)), (1, .int x1), (2, .int x2), (3, .int x3), (4, .int y4), (5, .int y5), (6, .int y6), (7, .int y7), (8, .int x8), (9, .int x9), (10, .int y10), (11, .int y11), (12, .int y12), (13, .int y13)] [] (k152 y4 y5 y6 y7 y10 y11 y12 y13)) : mv_Sim l N0 D dA RL cL_holds 20 7 167 (some .boolean) false mv_rI 630 [(0, mv_vr N0 (some a0)), (1, .int x1), (2, .int x2), (3, .int x3), (4, .int x4), (5, .int x5), (6, .int x6), (7, .int x7), (8, .int x8), (9, .int x9), (10, .int x10), (11, .int x11), (13, .int x13)] [] (J_L_holds_630 k152 a0 x1 x2 x3 x4 x5 x6 x7 x8 x9 x10 x11 x13) := by
  unfold J_L_holds_630
  refine mv_iconst (v := (0 : Int32)) dL_holds_630 (by decide) rfl ?_
  refine mv_sub [0, 1, 2, 3, 4, 5, 6, 7, 8, 9, 10, 11, 12] rfl ?_
  exact sJ_L_holds_631 l N0 D dA a0 x1 x2 x3 x4 x5 x6 x7 x8 x9 x10 x11 x13 (0 : Int32) _ hk152

def J_L_holds_611 (k152 : Int32 → Int32 → Int32 → Int32 → Int32 → Int32 → Int32 → Int32 → mv_M Int32) (a0 : Nat) (x1 : Int32) (x2 : Int32) (x3 : Int32) (x4 : Int32) (x5 : Int32) (x6 : Int32) (x7 : Int32) (x8 : Int32) (x9 : Int32) (x10 : Int32) (x11 : Int32) (x13 : Int32) (s0 : Int32) (s1 : Int32) : mv_M Int32 :=
  if s0 = s1 then
    mv_bd (mv_rc 6 7 (some a0)) fun i2 => mv_bd (F_X6_bundle i2 x13 (8 : Int32)) fun v1 =>
    if x3 < v1 then
      J_L_holds_630 k152 a0 x1 x2 x3 x4 x5 x6 x7 x8 x9 x10 x11 x13
    else
      J_L_holds_631 k152 a0 x1 x2 x3 x4 x5 x6 x7 x8 x9 x10 x11 x13 (1 : Int32)
  else
    J_L_holds_630 k152 a0 x1 x2 x3 x4 x5 x6 x7 x8 x9 x10 x11 x13

set_option maxHeartbeats 4000000 in
set_option maxRecDepth 100000 in
theorem sJ_L_holds_611 (l : Launch) (N0 : Nat) (D : va_G) (dA : Nat → ClassId) (a0 : Nat) (x1 : Int32) (x2 : Int32) (x3 : Int32) (x4 : Int32) (x5 : Int32) (x6 : Int32) (x7 : Int32) (x8 : Int32) (x9 : Int32) (x10 : Int32) (x11 : Int32) (x13 : Int32) (s0 : Int32) (s1 : Int32) (k152 : Int32 → Int32 → Int32 → Int32 → Int32 → Int32 → Int32 → Int32 → mv_M Int32) (hk152 : ∀ (y4 : Int32) (y5 : Int32) (y6 : Int32) (y7 : Int32) (y10 : Int32) (y11 : Int32) (y12 : Int32) (y13 : Int32), mv_Sim l N0 D dA RL cL_holds 20 7 167 (some .boolean) false mv_rI 152 [(0, mv_vr N0 (some a0)), (1, .int x1), (2, .int x2), (3, .int x3), (4, .int y4), (5, .int y5), (6, .int y6), (7, .int y7), (8, .int x8), (9, .int x9), (10, .int y10), (11, .int y11), (12, .int y12), (13, .int y13)] [] (k152 y4 y5 y6 y7 y10 y11 y12 y13)) : mv_Sim l N0 D dA RL cL_holds 20 7 167 (some .boolean) false mv_rI 611 [(0, mv_vr N0 (some a0)), (1, .int x1), (2, .int x2), (3, .int x3), (4, .int x4), (5, .int x5), (6, .int x6), (7, .int x7), (8, .int x8), (9, .int x9), (10, .int x10), (11, .int x11), (13, .int x13)] [.int s1, .int s0] (J_L_holds_611 k152 a0 x1 x2 x3 x4 x5 x6 x7 x8 x9 x10 x11 x13 s0 s1) := by
  unfold J_L_holds_611
  refine mv_icmp_ne (tgt := 630) dL_holds_611 rfl rfl ?_ ?_
  · refine mv_sub [0, 1, 2, 3, 4, 5, 6, 7, 8, 9, 10, 11, 12] rfl ?_
    exact sJ_L_holds_630 l N0 D dA a0 x1 x2 x3 x4 x5 x6 x7 x8 x9 x10 x11 x13 _ hk152
  · refine mv_aload_n 0 dL_holds_614 rfl rfl rfl ?_
    refine mv_iload 12 dL_holds_615 rfl rfl ?_
    refine mv_bipush (v := (8 : Int32)) dL_holds_617 (by decide) rfl ?_
    refine mv_callVi (st := []) [.int x13, .int (8 : Int32)] (fun i2 => c_X6_bundle l N0 D dA i2 x13 (8 : Int32)) (T := TX6) rfl (by decide) wc_L_26 ⟨by decide, by decide⟩ rfl (Nat.le_of_ble_eq_true rfl) dL_holds_619 rfl (fun v1 => ?_)
    refine mv_iload_n 3 dL_holds_622 rfl rfl rfl ?_
    refine mv_icmp_gt (tgt := 630) dL_holds_623 rfl rfl ?_ ?_
    · refine mv_sub [0, 1, 2, 3, 4, 5, 6, 7, 8, 9, 10, 11, 12] rfl ?_
      exact sJ_L_holds_630 l N0 D dA a0 x1 x2 x3 x4 x5 x6 x7 x8 x9 x10 x11 x13 _ hk152
    · refine mv_iconst (v := (1 : Int32)) dL_holds_626 (by decide) rfl ?_
      refine mv_goto (q := 631) dL_holds_627 rfl ?_
      refine mv_sub [0, 1, 2, 3, 4, 5, 6, 7, 8, 9, 10, 11, 12] rfl ?_
      exact sJ_L_holds_631 l N0 D dA a0 x1 x2 x3 x4 x5 x6 x7 x8 x9 x10 x11 x13 (1 : Int32) _ hk152

def J_L_holds_585 (k152 : Int32 → Int32 → Int32 → Int32 → Int32 → Int32 → Int32 → Int32 → mv_M Int32) (a0 : Nat) (x1 : Int32) (x2 : Int32) (x3 : Int32) (x4 : Int32) (x5 : Int32) (x6 : Int32) (x7 : Int32) (x8 : Int32) (x9 : Int32) (x10 : Int32) (x11 : Int32) (x13 : Int32) (x17 : Int32) (x18 : Int32) (x19 : Int32) : mv_M Int32 :=
  mv_bd (mv_rc 6 7 (some a0)) fun i4 => mv_bd (F_X6_bundle i4 x13 (5 : Int32)) fun v3 =>
  if x19 = 0 then
    J_L_holds_611 k152 a0 x1 x2 x3 x4 x5 x6 x7 x8 x9 x10 x11 x13 v3 ((-4) : Int32)
  else
    J_L_holds_611 k152 a0 x1 x2 x3 x4 x5 x6 x7 x8 x9 x10 x11 x13 v3 (((1000 : Int32) + x17) - x18)

set_option maxHeartbeats 4000000 in
set_option maxRecDepth 100000 in
theorem sJ_L_holds_585 (l : Launch) (N0 : Nat) (D : va_G) (dA : Nat → ClassId) (a0 : Nat) (x1 : Int32) (x2 : Int32) (x3 : Int32) (x4 : Int32) (x5 : Int32) (x6 : Int32) (x7 : Int32) (x8 : Int32) (x9 : Int32) (x10 : Int32) (x11 : Int32) (x13 : Int32) (x17 : Int32) (x18 : Int32) (x19 : Int32) (k152 : Int32 → Int32 → Int32 → Int32 → Int32 → Int32 → Int32 → Int32 → mv_M Int32) (hk152 : ∀ (y4 : Int32) (y5 : Int32) (y6 : Int32) (y7 : Int32) (y10 : Int32) (y11 : Int32) (y12 : Int32) (y13 : Int32), mv_Sim l N0 D dA RL cL_holds 20 7 167 (some .boolean) false mv_rI 152 [(0, mv_vr N0 (some a0)), (1, .int x1), (2, .int x2), (3, .int x3), (4, .int y4), (5, .int y5), (6, .int y6), (7, .int y7), (8, .int x8), (9, .int x9), (10, .int y10), (11, .int y11), (12, .int y12), (13, .int y13)] [] (k152 y4 y5 y6 y7 y10 y11 y12 y13)) : mv_Sim l N0 D dA RL cL_holds 20 7 167 (some .boolean) false mv_rI 585 [(0, mv_vr N0 (some a0)), (1, .int x1), (2, .int x2), (3, .int x3), (4, .int x4), (5, .int x5), (6, .int x6), (7, .int x7), (8, .int x8), (9, .int x9), (10, .int x10), (11, .int x11), (13, .int x13), (17, .int x17), (18, .int x18), (19, .int x19)] [] (J_L_holds_585 k152 a0 x1 x2 x3 x4 x5 x6 x7 x8 x9 x10 x11 x13 x17 x18 x19) := by
  unfold J_L_holds_585
  refine mv_aload_n 0 dL_holds_585 rfl rfl rfl ?_
  refine mv_iload 12 dL_holds_586 rfl rfl ?_
  refine mv_iconst (v := (5 : Int32)) dL_holds_588 (by decide) rfl ?_
  refine mv_callVi (st := []) [.int x13, .int (5 : Int32)] (fun i4 => c_X6_bundle l N0 D dA i4 x13 (5 : Int32)) (T := TX6) rfl (by decide) wc_L_26 ⟨by decide, by decide⟩ rfl (Nat.le_of_ble_eq_true rfl) dL_holds_589 rfl (fun v3 => ?_)
  refine mv_iload 15 dL_holds_592 rfl rfl ?_
  refine mv_if_eq (tgt := 609) dL_holds_594 rfl rfl ?_ ?_
  · refine mv_bipush (v := ((-4) : Int32)) dL_holds_609 (by decide) rfl ?_
    refine mv_sub [0, 1, 2, 3, 4, 5, 6, 7, 8, 9, 10, 11, 12] rfl ?_
    exact sJ_L_holds_611 l N0 D dA a0 x1 x2 x3 x4 x5 x6 x7 x8 x9 x10 x11 x13 v3 ((-4) : Int32) _ hk152
  · refine mv_sipush (v := (1000 : Int32)) dL_holds_597 (by decide) rfl ?_
    refine mv_iload 13 dL_holds_600 rfl rfl ?_
    refine mv_iadd dL_holds_602 rfl ?_
    refine mv_iload 14 dL_holds_603 rfl rfl ?_
    refine mv_isub dL_holds_605 rfl ?_
    refine mv_goto (q := 611) dL_holds_606 rfl ?_
    refine mv_sub [0, 1, 2, 3, 4, 5, 6, 7, 8, 9, 10, 11, 12] rfl ?_
    exact sJ_L_holds_611 l N0 D dA a0 x1 x2 x3 x4 x5 x6 x7 x8 x9 x10 x11 x13 v3 (((1000 : Int32) + x17) - x18) _ hk152

def J_L_holds_547 (k152 : Int32 → Int32 → Int32 → Int32 → Int32 → Int32 → Int32 → Int32 → mv_M Int32) (a0 : Nat) (x1 : Int32) (x2 : Int32) (x3 : Int32) (x4 : Int32) (x5 : Int32) (x6 : Int32) (x7 : Int32) (x8 : Int32) (x9 : Int32) (x10 : Int32) (x11 : Int32) (x13 : Int32) (x17 : Int32) (x18 : Int32) (x19 : Int32) : mv_M Int32 :=
  if x18 = ((-4) : Int32) then
    J_L_holds_585 k152 a0 x1 x2 x3 x4 x5 x6 x7 x8 x9 x10 x11 x13 x17 x18 x19
  else
    mv_bd (mv_rc 6 7 (some a0)) fun i6 => mv_bd (F_X6_bundle i6 x13 (8 : Int32)) fun v5 =>
    if x18 ≤ (v5 + (1 : Int32)) then
      J_L_holds_630 k152 a0 x1 x2 x3 x4 x5 x6 x7 x8 x9 x10 x11 x13
    else
      mv_bd (mv_rc 6 7 (some a0)) fun i8 => mv_bd (F_X6_bundle i8 x13 (8 : Int32)) fun v7 =>
      if (v7 + (30 : Int32)) < x18 then
        J_L_holds_630 k152 a0 x1 x2 x3 x4 x5 x6 x7 x8 x9 x10 x11 x13
      else
        J_L_holds_585 k152 a0 x1 x2 x3 x4 x5 x6 x7 x8 x9 x10 x11 x13 x17 x18 x19

set_option maxHeartbeats 4000000 in
set_option maxRecDepth 100000 in
theorem sJ_L_holds_547 (l : Launch) (N0 : Nat) (D : va_G) (dA : Nat → ClassId) (a0 : Nat) (x1 : Int32) (x2 : Int32) (x3 : Int32) (x4 : Int32) (x5 : Int32) (x6 : Int32) (x7 : Int32) (x8 : Int32) (x9 : Int32) (x10 : Int32) (x11 : Int32) (x13 : Int32) (x17 : Int32) (x18 : Int32) (x19 : Int32) (k152 : Int32 → Int32 → Int32 → Int32 → Int32 → Int32 → Int32 → Int32 → mv_M Int32) (hk152 : ∀ (y4 : Int32) (y5 : Int32) (y6 : Int32) (y7 : Int32) (y10 : Int32) (y11 : Int32) (y12 : Int32) (y13 : Int32), mv_Sim l N0 D dA RL cL_holds 20 7 167 (some .boolean) false mv_rI 152 [(0, mv_vr N0 (some a0)), (1, .int x1), (2, .int x2), (3, .int x3), (4, .int y4), (5, .int y5), (6, .int y6), (7, .int y7), (8, .int x8), (9, .int x9), (10, .int y10), (11, .int y11), (12, .int y12), (13, .int y13)] [] (k152 y4 y5 y6 y7 y10 y11 y12 y13)) : mv_Sim l N0 D dA RL cL_holds 20 7 167 (some .boolean) false mv_rI 547 [(0, mv_vr N0 (some a0)), (1, .int x1), (2, .int x2), (3, .int x3), (4, .int x4), (5, .int x5), (6, .int x6), (7, .int x7), (8, .int x8), (9, .int x9), (10, .int x10), (11, .int x11), (13, .int x13), (17, .int x17), (18, .int x18), (19, .int x19)] [] (J_L_holds_547 k152 a0 x1 x2 x3 x4 x5 x6 x7 x8 x9 x10 x11 x13 x17 x18 x19) := by
  unfold J_L_holds_547
  refine mv_iload 14 dL_holds_547 rfl rfl ?_
  refine mv_bipush (v := ((-4) : Int32)) dL_holds_549 (by decide) rfl ?_
  refine mv_icmp_eq (tgt := 585) dL_holds_551 rfl rfl ?_ ?_
  · refine mv_sub [0, 1, 2, 3, 4, 5, 6, 7, 8, 9, 10, 11, 12, 13, 14, 15] rfl ?_
    exact sJ_L_holds_585 l N0 D dA a0 x1 x2 x3 x4 x5 x6 x7 x8 x9 x10 x11 x13 x17 x18 x19 _ hk152
  · refine mv_iload 14 dL_holds_554 rfl rfl ?_
    refine mv_aload_n 0 dL_holds_556 rfl rfl rfl ?_
    refine mv_iload 12 dL_holds_557 rfl rfl ?_
    refine mv_bipush (v := (8 : Int32)) dL_holds_559 (by decide) rfl ?_
    refine mv_callVi (st := [.int x18]) [.int x13, .int (8 : Int32)] (fun i6 => c_X6_bundle l N0 D dA i6 x13 (8 : Int32)) (T := TX6) rfl (by decide) wc_L_26 ⟨by decide, by decide⟩ rfl (Nat.le_of_ble_eq_true rfl) dL_holds_561 rfl (fun v5 => ?_)
    refine mv_iconst (v := (1 : Int32)) dL_holds_564 (by decide) rfl ?_
    refine mv_iadd dL_holds_565 rfl ?_
    refine mv_icmp_le (tgt := 630) dL_holds_566 rfl rfl ?_ ?_
    · refine mv_sub [0, 1, 2, 3, 4, 5, 6, 7, 8, 9, 10, 11, 12] rfl ?_
      exact sJ_L_holds_630 l N0 D dA a0 x1 x2 x3 x4 x5 x6 x7 x8 x9 x10 x11 x13 _ hk152
    · refine mv_iload 14 dL_holds_569 rfl rfl ?_
      refine mv_aload_n 0 dL_holds_571 rfl rfl rfl ?_
      refine mv_iload 12 dL_holds_572 rfl rfl ?_
      refine mv_bipush (v := (8 : Int32)) dL_holds_574 (by decide) rfl ?_
      refine mv_callVi (st := [.int x18]) [.int x13, .int (8 : Int32)] (fun i8 => c_X6_bundle l N0 D dA i8 x13 (8 : Int32)) (T := TX6) rfl (by decide) wc_L_26 ⟨by decide, by decide⟩ rfl (Nat.le_of_ble_eq_true rfl) dL_holds_576 rfl (fun v7 => ?_)
      refine mv_bipush (v := (30 : Int32)) dL_holds_579 (by decide) rfl ?_
      refine mv_iadd dL_holds_581 rfl ?_
      refine mv_icmp_gt (tgt := 630) dL_holds_582 rfl rfl ?_ ?_
      · refine mv_sub [0, 1, 2, 3, 4, 5, 6, 7, 8, 9, 10, 11, 12] rfl ?_
        exact sJ_L_holds_630 l N0 D dA a0 x1 x2 x3 x4 x5 x6 x7 x8 x9 x10 x11 x13 _ hk152
      · refine mv_sub [0, 1, 2, 3, 4, 5, 6, 7, 8, 9, 10, 11, 12, 13, 14, 15] rfl ?_
        exact sJ_L_holds_585 l N0 D dA a0 x1 x2 x3 x4 x5 x6 x7 x8 x9 x10 x11 x13 x17 x18 x19 _ hk152

def J_L_holds_506 (k152 : Int32 → Int32 → Int32 → Int32 → Int32 → Int32 → Int32 → Int32 → mv_M Int32) (a0 : Nat) (x1 : Int32) (x2 : Int32) (x3 : Int32) (x4 : Int32) (x5 : Int32) (x6 : Int32) (x7 : Int32) (x8 : Int32) (x9 : Int32) (x10 : Int32) (x11 : Int32) (x13 : Int32) (x16 : Int32) (x17 : Int32) (x18 : Int32) (x19 : Int32) : mv_M Int32 :=
  mv_bd (mv_rc 6 7 (some a0)) fun i10 => mv_bd (F_X6_arrival i10 x13 (1 : Int32)) fun v9 =>
  if x17 = v9 then
    if x17 = ((-4) : Int32) then
      J_L_holds_547 k152 a0 x1 x2 x3 x4 x5 x6 x7 x8 x9 x10 x11 x13 x17 x18 x19
    else
      if x16 = ((-4) : Int32) then
        if x17 ≤ x3 then
          J_L_holds_630 k152 a0 x1 x2 x3 x4 x5 x6 x7 x8 x9 x10 x11 x13
        else
          if (x3 + (30 : Int32)) < x17 then
            J_L_holds_630 k152 a0 x1 x2 x3 x4 x5 x6 x7 x8 x9 x10 x11 x13
          else
            J_L_holds_547 k152 a0 x1 x2 x3 x4 x5 x6 x7 x8 x9 x10 x11 x13 x17 x18 x19
      else
        J_L_holds_547 k152 a0 x1 x2 x3 x4 x5 x6 x7 x8 x9 x10 x11 x13 x17 x18 x19
  else
    J_L_holds_630 k152 a0 x1 x2 x3 x4 x5 x6 x7 x8 x9 x10 x11 x13

set_option maxHeartbeats 4000000 in
set_option maxRecDepth 100000 in
theorem sJ_L_holds_506 (l : Launch) (N0 : Nat) (D : va_G) (dA : Nat → ClassId) (a0 : Nat) (x1 : Int32) (x2 : Int32) (x3 : Int32) (x4 : Int32) (x5 : Int32) (x6 : Int32) (x7 : Int32) (x8 : Int32) (x9 : Int32) (x10 : Int32) (x11 : Int32) (x13 : Int32) (x16 : Int32) (x17 : Int32) (x18 : Int32) (x19 : Int32) (k152 : Int32 → Int32 → Int32 → Int32 → Int32 → Int32 → Int32 → Int32 → mv_M Int32) (hk152 : ∀ (y4 : Int32) (y5 : Int32) (y6 : Int32) (y7 : Int32) (y10 : Int32) (y11 : Int32) (y12 : Int32) (y13 : Int32), mv_Sim l N0 D dA RL cL_holds 20 7 167 (some .boolean) false mv_rI 152 [(0, mv_vr N0 (some a0)), (1, .int x1), (2, .int x2), (3, .int x3), (4, .int y4), (5, .int y5), (6, .int y6), (7, .int y7), (8, .int x8), (9, .int x9), (10, .int y10), (11, .int y11), (12, .int y12), (13, .int y13)] [] (k152 y4 y5 y6 y7 y10 y11 y12 y13)) : mv_Sim l N0 D dA RL cL_holds 20 7 167 (some .boolean) false mv_rI 506 [(0, mv_vr N0 (some a0)), (1, .int x1), (2, .int x2), (3, .int x3), (4, .int x4), (5, .int x5), (6, .int x6), (7, .int x7), (8, .int x8), (9, .int x9), (10, .int x10), (11, .int x11), (13, .int x13), (16, .int x16), (17, .int x17), (18, .int x18), (19, .int x19)] [] (J_L_holds_506 k152 a0 x1 x2 x3 x4 x5 x6 x7 x8 x9 x10 x11 x13 x16 x17 x18 x19) := by
  unfold J_L_holds_506
  refine mv_iload 14 dL_holds_506 rfl rfl ?_
  refine mv_aload_n 0 dL_holds_508 rfl rfl rfl ?_
  refine mv_iload 12 dL_holds_509 rfl rfl ?_
  refine mv_iconst (v := (1 : Int32)) dL_holds_511 (by decide) rfl ?_
  refine mv_callVi (st := [.int x17]) [.int x13, .int (1 : Int32)] (fun i10 => c_X6_arrival l N0 D dA i10 x13 (1 : Int32)) (T := TX6) rfl (by decide) wc_L_31 ⟨by decide, by decide⟩ rfl (Nat.le_of_ble_eq_true rfl) dL_holds_512 rfl (fun v9 => ?_)
  refine mv_icmp_ne (tgt := 630) dL_holds_515 rfl rfl ?_ ?_
  · refine mv_sub [0, 1, 2, 3, 4, 5, 6, 7, 8, 9, 10, 11, 12] rfl ?_
    exact sJ_L_holds_630 l N0 D dA a0 x1 x2 x3 x4 x5 x6 x7 x8 x9 x10 x11 x13 _ hk152
  · refine mv_iload 14 dL_holds_518 rfl rfl ?_
    refine mv_bipush (v := ((-4) : Int32)) dL_holds_520 (by decide) rfl ?_
    refine mv_icmp_eq (tgt := 547) dL_holds_522 rfl rfl ?_ ?_
    · refine mv_sub [0, 1, 2, 3, 4, 5, 6, 7, 8, 9, 10, 11, 12, 14, 15, 16] rfl ?_
      exact sJ_L_holds_547 l N0 D dA a0 x1 x2 x3 x4 x5 x6 x7 x8 x9 x10 x11 x13 x17 x18 x19 _ hk152
    · refine mv_iload 13 dL_holds_525 rfl rfl ?_
      refine mv_bipush (v := ((-4) : Int32)) dL_holds_527 (by decide) rfl ?_
      refine mv_icmp_ne (tgt := 547) dL_holds_529 rfl rfl ?_ ?_
      · refine mv_sub [0, 1, 2, 3, 4, 5, 6, 7, 8, 9, 10, 11, 12, 14, 15, 16] rfl ?_
        exact sJ_L_holds_547 l N0 D dA a0 x1 x2 x3 x4 x5 x6 x7 x8 x9 x10 x11 x13 x17 x18 x19 _ hk152
      · refine mv_iload 14 dL_holds_532 rfl rfl ?_
        refine mv_iload_n 3 dL_holds_534 rfl rfl rfl ?_
        refine mv_icmp_le (tgt := 630) dL_holds_535 rfl rfl ?_ ?_
        · refine mv_sub [0, 1, 2, 3, 4, 5, 6, 7, 8, 9, 10, 11, 12] rfl ?_
          exact sJ_L_holds_630 l N0 D dA a0 x1 x2 x3 x4 x5 x6 x7 x8 x9 x10 x11 x13 _ hk152
        · refine mv_iload 14 dL_holds_538 rfl rfl ?_
          refine mv_iload_n 3 dL_holds_540 rfl rfl rfl ?_
          refine mv_bipush (v := (30 : Int32)) dL_holds_541 (by decide) rfl ?_
          refine mv_iadd dL_holds_543 rfl ?_
          refine mv_icmp_gt (tgt := 630) dL_holds_544 rfl rfl ?_ ?_
          · refine mv_sub [0, 1, 2, 3, 4, 5, 6, 7, 8, 9, 10, 11, 12] rfl ?_
            exact sJ_L_holds_630 l N0 D dA a0 x1 x2 x3 x4 x5 x6 x7 x8 x9 x10 x11 x13 _ hk152
          · refine mv_sub [0, 1, 2, 3, 4, 5, 6, 7, 8, 9, 10, 11, 12, 14, 15, 16] rfl ?_
            exact sJ_L_holds_547 l N0 D dA a0 x1 x2 x3 x4 x5 x6 x7 x8 x9 x10 x11 x13 x17 x18 x19 _ hk152

def J_L_holds_485 (k152 : Int32 → Int32 → Int32 → Int32 → Int32 → Int32 → Int32 → Int32 → mv_M Int32) (a0 : Nat) (x1 : Int32) (x2 : Int32) (x3 : Int32) (x4 : Int32) (x5 : Int32) (x6 : Int32) (x7 : Int32) (x8 : Int32) (x9 : Int32) (x10 : Int32) (x11 : Int32) (x13 : Int32) (x14 : Int32) (x15 : Int32) (x16 : Int32) (x17 : Int32) (x18 : Int32) (x19 : Int32) : mv_M Int32 :=
  if x14 = ((-4) : Int32) then
    if x15 = ((-4) : Int32) then
      if x16 = ((-4) : Int32) then
        J_L_holds_630 k152 a0 x1 x2 x3 x4 x5 x6 x7 x8 x9 x10 x11 x13
      else
        J_L_holds_506 k152 a0 x1 x2 x3 x4 x5 x6 x7 x8 x9 x10 x11 x13 x16 x17 x18 x19
    else
      J_L_holds_506 k152 a0 x1 x2 x3 x4 x5 x6 x7 x8 x9 x10 x11 x13 x16 x17 x18 x19
  else
    J_L_holds_506 k152 a0 x1 x2 x3 x4 x5 x6 x7 x8 x9 x10 x11 x13 x16 x17 x18 x19

set_option maxHeartbeats 4000000 in
set_option maxRecDepth 100000 in
theorem sJ_L_holds_485 (l : Launch) (N0 : Nat) (D : va_G) (dA : Nat → ClassId) (a0 : Nat) (x1 : Int32) (x2 : Int32) (x3 : Int32) (x4 : Int32) (x5 : Int32) (x6 : Int32) (x7 : Int32) (x8 : Int32) (x9 : Int32) (x10 : Int32) (x11 : Int32) (x13 : Int32) (x14 : Int32) (x15 : Int32) (x16 : Int32) (x17 : Int32) (x18 : Int32) (x19 : Int32) (k152 : Int32 → Int32 → Int32 → Int32 → Int32 → Int32 → Int32 → Int32 → mv_M Int32) (hk152 : ∀ (y4 : Int32) (y5 : Int32) (y6 : Int32) (y7 : Int32) (y10 : Int32) (y11 : Int32) (y12 : Int32) (y13 : Int32), mv_Sim l N0 D dA RL cL_holds 20 7 167 (some .boolean) false mv_rI 152 [(0, mv_vr N0 (some a0)), (1, .int x1), (2, .int x2), (3, .int x3), (4, .int y4), (5, .int y5), (6, .int y6), (7, .int y7), (8, .int x8), (9, .int x9), (10, .int y10), (11, .int y11), (12, .int y12), (13, .int y13)] [] (k152 y4 y5 y6 y7 y10 y11 y12 y13)) : mv_Sim l N0 D dA RL cL_holds 20 7 167 (some .boolean) false mv_rI 485 [(0, mv_vr N0 (some a0)), (1, .int x1), (2, .int x2), (3, .int x3), (4, .int x4), (5, .int x5), (6, .int x6), (7, .int x7), (8, .int x8), (9, .int x9), (10, .int x10), (11, .int x11), (13, .int x13), (14, .int x14), (15, .int x15), (16, .int x16), (17, .int x17), (18, .int x18), (19, .int x19)] [] (J_L_holds_485 k152 a0 x1 x2 x3 x4 x5 x6 x7 x8 x9 x10 x11 x13 x14 x15 x16 x17 x18 x19) := by
  unfold J_L_holds_485
  refine mv_iload 13 dL_holds_485 rfl rfl ?_
  refine mv_bipush (v := ((-4) : Int32)) dL_holds_487 (by decide) rfl ?_
  refine mv_icmp_ne (tgt := 506) dL_holds_489 rfl rfl ?_ ?_
  · refine mv_sub [0, 1, 2, 3, 4, 5, 6, 7, 8, 9, 10, 11, 12, 15, 16, 17, 18] rfl ?_
    exact sJ_L_holds_506 l N0 D dA a0 x1 x2 x3 x4 x5 x6 x7 x8 x9 x10 x11 x13 x16 x17 x18 x19 _ hk152
  · refine mv_iload 14 dL_holds_492 rfl rfl ?_
    refine mv_bipush (v := ((-4) : Int32)) dL_holds_494 (by decide) rfl ?_
    refine mv_icmp_ne (tgt := 506) dL_holds_496 rfl rfl ?_ ?_
    · refine mv_sub [0, 1, 2, 3, 4, 5, 6, 7, 8, 9, 10, 11, 12, 15, 16, 17, 18] rfl ?_
      exact sJ_L_holds_506 l N0 D dA a0 x1 x2 x3 x4 x5 x6 x7 x8 x9 x10 x11 x13 x16 x17 x18 x19 _ hk152
    · refine mv_iload 15 dL_holds_499 rfl rfl ?_
      refine mv_bipush (v := ((-4) : Int32)) dL_holds_501 (by decide) rfl ?_
      refine mv_icmp_eq (tgt := 630) dL_holds_503 rfl rfl ?_ ?_
      · refine mv_sub [0, 1, 2, 3, 4, 5, 6, 7, 8, 9, 10, 11, 12] rfl ?_
        exact sJ_L_holds_630 l N0 D dA a0 x1 x2 x3 x4 x5 x6 x7 x8 x9 x10 x11 x13 _ hk152
      · refine mv_sub [0, 1, 2, 3, 4, 5, 6, 7, 8, 9, 10, 11, 12, 15, 16, 17, 18] rfl ?_
        exact sJ_L_holds_506 l N0 D dA a0 x1 x2 x3 x4 x5 x6 x7 x8 x9 x10 x11 x13 x16 x17 x18 x19 _ hk152

def J_L_holds_441 (k152 : Int32 → Int32 → Int32 → Int32 → Int32 → Int32 → Int32 → Int32 → mv_M Int32) (a0 : Nat) (x1 : Int32) (x2 : Int32) (x3 : Int32) (x4 : Int32) (x5 : Int32) (x6 : Int32) (x7 : Int32) (x8 : Int32) (x9 : Int32) (x10 : Int32) (x11 : Int32) (x13 : Int32) (x14 : Int32) (x15 : Int32) (x16 : Int32) (x17 : Int32) (x18 : Int32) (x19 : Int32) : mv_M Int32 :=
  if x16 = ((-4) : Int32) then
    J_L_holds_485 k152 a0 x1 x2 x3 x4 x5 x6 x7 x8 x9 x10 x11 x13 x14 x15 x16 x17 x18 x19
  else
    mv_bd (mv_rc 6 7 (some a0)) fun i12 => mv_bd (F_X6_bundle i12 x13 (8 : Int32)) fun v11 =>
    if x16 ≤ v11 then
      J_L_holds_630 k152 a0 x1 x2 x3 x4 x5 x6 x7 x8 x9 x10 x11 x13
    else
      if x3 < x16 then
        J_L_holds_630 k152 a0 x1 x2 x3 x4 x5 x6 x7 x8 x9 x10 x11 x13
      else
        if x17 = x16 then
          mv_bd (mv_rc 6 7 (some a0)) fun i14 => mv_bd (F_X6_bundle i14 x13 (7 : Int32)) fun v13 =>
          if v13 ≤ 0 then
            J_L_holds_630 k152 a0 x1 x2 x3 x4 x5 x6 x7 x8 x9 x10 x11 x13
          else
            J_L_holds_485 k152 a0 x1 x2 x3 x4 x5 x6 x7 x8 x9 x10 x11 x13 x14 x15 x16 x17 x18 x19
        else
          J_L_holds_630 k152 a0 x1 x2 x3 x4 x5 x6 x7 x8 x9 x10 x11 x13

set_option maxHeartbeats 4000000 in
set_option maxRecDepth 100000 in
theorem sJ_L_holds_441 (l : Launch) (N0 : Nat) (D : va_G) (dA : Nat → ClassId) (a0 : Nat) (x1 : Int32) (x2 : Int32) (x3 : Int32) (x4 : Int32) (x5 : Int32) (x6 : Int32) (x7 : Int32) (x8 : Int32) (x9 : Int32) (x10 : Int32) (x11 : Int32) (x13 : Int32) (x14 : Int32) (x15 : Int32) (x16 : Int32) (x17 : Int32) (x18 : Int32) (x19 : Int32) (k152 : Int32 → Int32 → Int32 → Int32 → Int32 → Int32 → Int32 → Int32 → mv_M Int32) (hk152 : ∀ (y4 : Int32) (y5 : Int32) (y6 : Int32) (y7 : Int32) (y10 : Int32) (y11 : Int32) (y12 : Int32) (y13 : Int32), mv_Sim l N0 D dA RL cL_holds 20 7 167 (some .boolean) false mv_rI 152 [(0, mv_vr N0 (some a0)), (1, .int x1), (2, .int x2), (3, .int x3), (4, .int y4), (5, .int y5), (6, .int y6), (7, .int y7), (8, .int x8), (9, .int x9), (10, .int y10), (11, .int y11), (12, .int y12), (13, .int y13)] [] (k152 y4 y5 y6 y7 y10 y11 y12 y13)) : mv_Sim l N0 D dA RL cL_holds 20 7 167 (some .boolean) false mv_rI 441 [(0, mv_vr N0 (some a0)), (1, .int x1), (2, .int x2), (3, .int x3), (4, .int x4), (5, .int x5), (6, .int x6), (7, .int x7), (8, .int x8), (9, .int x9), (10, .int x10), (11, .int x11), (13, .int x13), (14, .int x14), (15, .int x15), (16, .int x16), (17, .int x17), (18, .int x18), (19, .int x19)] [] (J_L_holds_441 k152 a0 x1 x2 x3 x4 x5 x6 x7 x8 x9 x10 x11 x13 x14 x15 x16 x17 x18 x19) := by
  unfold J_L_holds_441
  refine mv_iload 15 dL_holds_441 rfl rfl ?_
  refine mv_bipush (v := ((-4) : Int32)) dL_holds_443 (by decide) rfl ?_
  refine mv_icmp_eq (tgt := 485) dL_holds_445 rfl rfl ?_ ?_
  · refine mv_sub [0, 1, 2, 3, 4, 5, 6, 7, 8, 9, 10, 11, 12, 13, 14, 15, 16, 17, 18] rfl ?_
    exact sJ_L_holds_485 l N0 D dA a0 x1 x2 x3 x4 x5 x6 x7 x8 x9 x10 x11 x13 x14 x15 x16 x17 x18 x19 _ hk152
  · refine mv_iload 15 dL_holds_448 rfl rfl ?_
    refine mv_aload_n 0 dL_holds_450 rfl rfl rfl ?_
    refine mv_iload 12 dL_holds_451 rfl rfl ?_
    refine mv_bipush (v := (8 : Int32)) dL_holds_453 (by decide) rfl ?_
    refine mv_callVi (st := [.int x16]) [.int x13, .int (8 : Int32)] (fun i12 => c_X6_bundle l N0 D dA i12 x13 (8 : Int32)) (T := TX6) rfl (by decide) wc_L_26 ⟨by decide, by decide⟩ rfl (Nat.le_of_ble_eq_true rfl) dL_holds_455 rfl (fun v11 => ?_)
    refine mv_icmp_le (tgt := 630) dL_holds_458 rfl rfl ?_ ?_
    · refine mv_sub [0, 1, 2, 3, 4, 5, 6, 7, 8, 9, 10, 11, 12] rfl ?_
      exact sJ_L_holds_630 l N0 D dA a0 x1 x2 x3 x4 x5 x6 x7 x8 x9 x10 x11 x13 _ hk152
    · refine mv_iload 15 dL_holds_461 rfl rfl ?_
      refine mv_iload_n 3 dL_holds_463 rfl rfl rfl ?_
      refine mv_icmp_gt (tgt := 630) dL_holds_464 rfl rfl ?_ ?_
      · refine mv_sub [0, 1, 2, 3, 4, 5, 6, 7, 8, 9, 10, 11, 12] rfl ?_
        exact sJ_L_holds_630 l N0 D dA a0 x1 x2 x3 x4 x5 x6 x7 x8 x9 x10 x11 x13 _ hk152
      · refine mv_iload 16 dL_holds_467 rfl rfl ?_
        refine mv_iload 15 dL_holds_469 rfl rfl ?_
        refine mv_icmp_ne (tgt := 630) dL_holds_471 rfl rfl ?_ ?_
        · refine mv_sub [0, 1, 2, 3, 4, 5, 6, 7, 8, 9, 10, 11, 12] rfl ?_
          exact sJ_L_holds_630 l N0 D dA a0 x1 x2 x3 x4 x5 x6 x7 x8 x9 x10 x11 x13 _ hk152
        · refine mv_aload_n 0 dL_holds_474 rfl rfl rfl ?_
          refine mv_iload 12 dL_holds_475 rfl rfl ?_
          refine mv_bipush (v := (7 : Int32)) dL_holds_477 (by decide) rfl ?_
          refine mv_callVi (st := []) [.int x13, .int (7 : Int32)] (fun i14 => c_X6_bundle l N0 D dA i14 x13 (7 : Int32)) (T := TX6) rfl (by decide) wc_L_26 ⟨by decide, by decide⟩ rfl (Nat.le_of_ble_eq_true rfl) dL_holds_479 rfl (fun v13 => ?_)
          refine mv_if_le (tgt := 630) dL_holds_482 rfl rfl ?_ ?_
          · refine mv_sub [0, 1, 2, 3, 4, 5, 6, 7, 8, 9, 10, 11, 12] rfl ?_
            exact sJ_L_holds_630 l N0 D dA a0 x1 x2 x3 x4 x5 x6 x7 x8 x9 x10 x11 x13 _ hk152
          · refine mv_sub [0, 1, 2, 3, 4, 5, 6, 7, 8, 9, 10, 11, 12, 13, 14, 15, 16, 17, 18] rfl ?_
            exact sJ_L_holds_485 l N0 D dA a0 x1 x2 x3 x4 x5 x6 x7 x8 x9 x10 x11 x13 x14 x15 x16 x17 x18 x19 _ hk152

def J_L_holds_405 (k152 : Int32 → Int32 → Int32 → Int32 → Int32 → Int32 → Int32 → Int32 → mv_M Int32) (a0 : Nat) (x1 : Int32) (x2 : Int32) (x3 : Int32) (x4 : Int32) (x5 : Int32) (x6 : Int32) (x7 : Int32) (x8 : Int32) (x9 : Int32) (x10 : Int32) (x11 : Int32) (x13 : Int32) (x14 : Int32) (x15 : Int32) (x16 : Int32) (x17 : Int32) (x18 : Int32) (x19 : Int32) : mv_M Int32 :=
  if x15 = ((-4) : Int32) then
    J_L_holds_441 k152 a0 x1 x2 x3 x4 x5 x6 x7 x8 x9 x10 x11 x13 x14 x15 x16 x17 x18 x19
  else
    if x15 < 0 then
      J_L_holds_630 k152 a0 x1 x2 x3 x4 x5 x6 x7 x8 x9 x10 x11 x13
    else
      if x2 ≤ x15 then
        J_L_holds_630 k152 a0 x1 x2 x3 x4 x5 x6 x7 x8 x9 x10 x11 x13
      else
        if x16 = ((-4) : Int32) then
          mv_bd (mv_rc 6 7 (some a0)) fun i16 => mv_bd (F_X6_bundle i16 x13 (7 : Int32)) fun v15 =>
          if v15 ≤ 0 then
            J_L_holds_630 k152 a0 x1 x2 x3 x4 x5 x6 x7 x8 x9 x10 x11 x13
          else
            J_L_holds_441 k152 a0 x1 x2 x3 x4 x5 x6 x7 x8 x9 x10 x11 x13 x14 x15 x16 x17 x18 x19
        else
          J_L_holds_630 k152 a0 x1 x2 x3 x4 x5 x6 x7 x8 x9 x10 x11 x13

set_option maxHeartbeats 4000000 in
set_option maxRecDepth 100000 in
theorem sJ_L_holds_405 (l : Launch) (N0 : Nat) (D : va_G) (dA : Nat → ClassId) (a0 : Nat) (x1 : Int32) (x2 : Int32) (x3 : Int32) (x4 : Int32) (x5 : Int32) (x6 : Int32) (x7 : Int32) (x8 : Int32) (x9 : Int32) (x10 : Int32) (x11 : Int32) (x13 : Int32) (x14 : Int32) (x15 : Int32) (x16 : Int32) (x17 : Int32) (x18 : Int32) (x19 : Int32) (k152 : Int32 → Int32 → Int32 → Int32 → Int32 → Int32 → Int32 → Int32 → mv_M Int32) (hk152 : ∀ (y4 : Int32) (y5 : Int32) (y6 : Int32) (y7 : Int32) (y10 : Int32) (y11 : Int32) (y12 : Int32) (y13 : Int32), mv_Sim l N0 D dA RL cL_holds 20 7 167 (some .boolean) false mv_rI 152 [(0, mv_vr N0 (some a0)), (1, .int x1), (2, .int x2), (3, .int x3), (4, .int y4), (5, .int y5), (6, .int y6), (7, .int y7), (8, .int x8), (9, .int x9), (10, .int y10), (11, .int y11), (12, .int y12), (13, .int y13)] [] (k152 y4 y5 y6 y7 y10 y11 y12 y13)) : mv_Sim l N0 D dA RL cL_holds 20 7 167 (some .boolean) false mv_rI 405 [(0, mv_vr N0 (some a0)), (1, .int x1), (2, .int x2), (3, .int x3), (4, .int x4), (5, .int x5), (6, .int x6), (7, .int x7), (8, .int x8), (9, .int x9), (10, .int x10), (11, .int x11), (13, .int x13), (14, .int x14), (15, .int x15), (16, .int x16), (17, .int x17), (18, .int x18), (19, .int x19)] [] (J_L_holds_405 k152 a0 x1 x2 x3 x4 x5 x6 x7 x8 x9 x10 x11 x13 x14 x15 x16 x17 x18 x19) := by
  unfold J_L_holds_405
  refine mv_iload 14 dL_holds_405 rfl rfl ?_
  refine mv_bipush (v := ((-4) : Int32)) dL_holds_407 (by decide) rfl ?_
  refine mv_icmp_eq (tgt := 441) dL_holds_409 rfl rfl ?_ ?_
  · refine mv_sub [0, 1, 2, 3, 4, 5, 6, 7, 8, 9, 10, 11, 12, 13, 14, 15, 16, 17, 18] rfl ?_
    exact sJ_L_holds_441 l N0 D dA a0 x1 x2 x3 x4 x5 x6 x7 x8 x9 x10 x11 x13 x14 x15 x16 x17 x18 x19 _ hk152
  · refine mv_iload 14 dL_holds_412 rfl rfl ?_
    refine mv_if_lt (tgt := 630) dL_holds_414 rfl rfl ?_ ?_
    · refine mv_sub [0, 1, 2, 3, 4, 5, 6, 7, 8, 9, 10, 11, 12] rfl ?_
      exact sJ_L_holds_630 l N0 D dA a0 x1 x2 x3 x4 x5 x6 x7 x8 x9 x10 x11 x13 _ hk152
    · refine mv_iload 14 dL_holds_417 rfl rfl ?_
      refine mv_iload_n 2 dL_holds_419 rfl rfl rfl ?_
      refine mv_icmp_ge (tgt := 630) dL_holds_420 rfl rfl ?_ ?_
      · refine mv_sub [0, 1, 2, 3, 4, 5, 6, 7, 8, 9, 10, 11, 12] rfl ?_
        exact sJ_L_holds_630 l N0 D dA a0 x1 x2 x3 x4 x5 x6 x7 x8 x9 x10 x11 x13 _ hk152
      · refine mv_iload 15 dL_holds_423 rfl rfl ?_
        refine mv_bipush (v := ((-4) : Int32)) dL_holds_425 (by decide) rfl ?_
        refine mv_icmp_ne (tgt := 630) dL_holds_427 rfl rfl ?_ ?_
        · refine mv_sub [0, 1, 2, 3, 4, 5, 6, 7, 8, 9, 10, 11, 12] rfl ?_
          exact sJ_L_holds_630 l N0 D dA a0 x1 x2 x3 x4 x5 x6 x7 x8 x9 x10 x11 x13 _ hk152
        · refine mv_aload_n 0 dL_holds_430 rfl rfl rfl ?_
          refine mv_iload 12 dL_holds_431 rfl rfl ?_
          refine mv_bipush (v := (7 : Int32)) dL_holds_433 (by decide) rfl ?_
          refine mv_callVi (st := []) [.int x13, .int (7 : Int32)] (fun i16 => c_X6_bundle l N0 D dA i16 x13 (7 : Int32)) (T := TX6) rfl (by decide) wc_L_26 ⟨by decide, by decide⟩ rfl (Nat.le_of_ble_eq_true rfl) dL_holds_435 rfl (fun v15 => ?_)
          refine mv_if_le (tgt := 630) dL_holds_438 rfl rfl ?_ ?_
          · refine mv_sub [0, 1, 2, 3, 4, 5, 6, 7, 8, 9, 10, 11, 12] rfl ?_
            exact sJ_L_holds_630 l N0 D dA a0 x1 x2 x3 x4 x5 x6 x7 x8 x9 x10 x11 x13 _ hk152
          · refine mv_sub [0, 1, 2, 3, 4, 5, 6, 7, 8, 9, 10, 11, 12, 13, 14, 15, 16, 17, 18] rfl ?_
            exact sJ_L_holds_441 l N0 D dA a0 x1 x2 x3 x4 x5 x6 x7 x8 x9 x10 x11 x13 x14 x15 x16 x17 x18 x19 _ hk152

def J_L_holds_324 (k152 : Int32 → Int32 → Int32 → Int32 → Int32 → Int32 → Int32 → Int32 → mv_M Int32) (a0 : Nat) (x1 : Int32) (x2 : Int32) (x3 : Int32) (x4 : Int32) (x5 : Int32) (x6 : Int32) (x7 : Int32) (x8 : Int32) (x9 : Int32) (x10 : Int32) (x13 : Int32) (x14 : Int32) (x15 : Int32) (x16 : Int32) (x17 : Int32) (x18 : Int32) (x19 : Int32) (s0 : Int32) (s1 : Int32) : mv_M Int32 :=
  mv_bd (mv_pu (s0 + s1)) fun v17 =>
  mv_bd (mv_rc 6 7 (some a0)) fun i19 => mv_bd (F_X6_bundle i19 x13 (0 : Int32)) fun v18 =>
  if v18 < 0 then
    J_L_holds_630 k152 a0 x1 x2 x3 x4 x5 x6 x7 x8 x9 x10 v17 x13
  else
    mv_bd (mv_rc 6 7 (some a0)) fun i21 => mv_bd (F_X6_bundle i21 x13 (0 : Int32)) fun v20 =>
    if (6 : Int32) ≤ v20 then
      J_L_holds_630 k152 a0 x1 x2 x3 x4 x5 x6 x7 x8 x9 x10 v17 x13
    else
      if x14 = ((-4) : Int32) then
        J_L_holds_405 k152 a0 x1 x2 x3 x4 x5 x6 x7 x8 x9 x10 v17 x13 x14 x15 x16 x17 x18 x19
      else
        if x14 < 0 then
          J_L_holds_630 k152 a0 x1 x2 x3 x4 x5 x6 x7 x8 x9 x10 v17 x13
        else
          if (6 : Int32) ≤ x14 then
            J_L_holds_630 k152 a0 x1 x2 x3 x4 x5 x6 x7 x8 x9 x10 v17 x13
          else
            mv_bd (mv_rc 6 7 (some a0)) fun i23 => mv_bd (F_X6_bundle i23 x13 (0 : Int32)) fun v22 =>
            if x14 = v22 then
              J_L_holds_630 k152 a0 x1 x2 x3 x4 x5 x6 x7 x8 x9 x10 v17 x13
            else
              if x15 = ((-4) : Int32) then
                if x16 = ((-4) : Int32) then
                  mv_bd (mv_rc 6 7 (some a0)) fun i25 => mv_bd (F_X6_bundle i25 x13 (7 : Int32)) fun v24 =>
                  if v24 = 0 then
                    J_L_holds_405 k152 a0 x1 x2 x3 x4 x5 x6 x7 x8 x9 x10 v17 x13 x14 x15 x16 x17 x18 x19
                  else
                    J_L_holds_630 k152 a0 x1 x2 x3 x4 x5 x6 x7 x8 x9 x10 v17 x13
                else
                  J_L_holds_630 k152 a0 x1 x2 x3 x4 x5 x6 x7 x8 x9 x10 v17 x13
              else
                J_L_holds_630 k152 a0 x1 x2 x3 x4 x5 x6 x7 x8 x9 x10 v17 x13

set_option maxHeartbeats 4000000 in
set_option maxRecDepth 100000 in
theorem sJ_L_holds_324 (l : Launch) (N0 : Nat) (D : va_G) (dA : Nat → ClassId) (a0 : Nat) (x1 : Int32) (x2 : Int32) (x3 : Int32) (x4 : Int32) (x5 : Int32) (x6 : Int32) (x7 : Int32) (x8 : Int32) (x9 : Int32) (x10 : Int32) (x13 : Int32) (x14 : Int32) (x15 : Int32) (x16 : Int32) (x17 : Int32) (x18 : Int32) (x19 : Int32) (s0 : Int32) (s1 : Int32) (k152 : Int32 → Int32 → Int32 → Int32 → Int32 → Int32 → Int32 → Int32 → mv_M Int32) (hk152 : ∀ (y4 : Int32) (y5 : Int32) (y6 : Int32) (y7 : Int32) (y10 : Int32) (y11 : Int32) (y12 : Int32) (y13 : Int32), mv_Sim l N0 D dA RL cL_holds 20 7 167 (some .boolean) false mv_rI 152 [(0, mv_vr N0 (some a0)), (1, .int x1), (2, .int x2), (3, .int x3), (4, .int y4), (5, .int y5), (6, .int y6), (7, .int y7), (8, .int x8), (9, .int x9), (10, .int y10), (11, .int y11), (12, .int y12), (13, .int y13)] [] (k152 y4 y5 y6 y7 y10 y11 y12 y13)) : mv_Sim l N0 D dA RL cL_holds 20 7 167 (some .boolean) false mv_rI 324 [(0, mv_vr N0 (some a0)), (1, .int x1), (2, .int x2), (3, .int x3), (4, .int x4), (5, .int x5), (6, .int x6), (7, .int x7), (8, .int x8), (9, .int x9), (10, .int x10), (13, .int x13), (14, .int x14), (15, .int x15), (16, .int x16), (17, .int x17), (18, .int x18), (19, .int x19)] [.int s1, .int s0] (J_L_holds_324 k152 a0 x1 x2 x3 x4 x5 x6 x7 x8 x9 x10 x13 x14 x15 x16 x17 x18 x19 s0 s1) := by
  unfold J_L_holds_324
  refine mv_iadd dL_holds_324 rfl ?_
  refine mv_let (fun v17 => ?_)
  refine mw_istore rfl dL_holds_325 (by decide) rfl rfl ?_
  refine mv_aload_n 1 dL_holds_327 rfl rfl rfl ?_
  refine mv_iload 12 dL_holds_328 rfl rfl ?_
  refine mv_iconst (v := (0 : Int32)) dL_holds_330 (by decide) rfl ?_
  refine mv_callVi (st := []) [.int x13, .int (0 : Int32)] (fun i19 => c_X6_bundle l N0 D dA i19 x13 (0 : Int32)) (T := TX6) rfl (by decide) wc_L_26 ⟨by decide, by decide⟩ rfl (Nat.le_of_ble_eq_true rfl) dL_holds_331 rfl (fun v18 => ?_)
  refine mv_if_lt (tgt := 630) dL_holds_334 rfl rfl ?_ ?_
  · refine mv_sub [1, 2, 3, 4, 5, 6, 7, 8, 9, 10, 11, 0, 12] rfl ?_
    exact sJ_L_holds_630 l N0 D dA a0 x1 x2 x3 x4 x5 x6 x7 x8 x9 x10 v17 x13 _ hk152
  · refine mv_aload_n 1 dL_holds_337 rfl rfl rfl ?_
    refine mv_iload 12 dL_holds_338 rfl rfl ?_
    refine mv_iconst (v := (0 : Int32)) dL_holds_340 (by decide) rfl ?_
    refine mv_callVi (st := []) [.int x13, .int (0 : Int32)] (fun i21 => c_X6_bundle l N0 D dA i21 x13 (0 : Int32)) (T := TX6) rfl (by decide) wc_L_26 ⟨by decide, by decide⟩ rfl (Nat.le_of_ble_eq_true rfl) dL_holds_341 rfl (fun v20 => ?_)
    refine mv_bipush (v := (6 : Int32)) dL_holds_344 (by decide) rfl ?_
    refine mv_icmp_ge (tgt := 630) dL_holds_346 rfl rfl ?_ ?_
    · refine mv_sub [1, 2, 3, 4, 5, 6, 7, 8, 9, 10, 11, 0, 12] rfl ?_
      exact sJ_L_holds_630 l N0 D dA a0 x1 x2 x3 x4 x5 x6 x7 x8 x9 x10 v17 x13 _ hk152
    · refine mv_iload 13 dL_holds_349 rfl rfl ?_
      refine mv_bipush (v := ((-4) : Int32)) dL_holds_351 (by decide) rfl ?_
      refine mv_icmp_eq (tgt := 405) dL_holds_353 rfl rfl ?_ ?_
      · refine mv_sub [1, 2, 3, 4, 5, 6, 7, 8, 9, 10, 11, 0, 12, 13, 14, 15, 16, 17, 18] rfl ?_
        exact sJ_L_holds_405 l N0 D dA a0 x1 x2 x3 x4 x5 x6 x7 x8 x9 x10 v17 x13 x14 x15 x16 x17 x18 x19 _ hk152
      · refine mv_iload 13 dL_holds_356 rfl rfl ?_
        refine mv_if_lt (tgt := 630) dL_holds_358 rfl rfl ?_ ?_
        · refine mv_sub [1, 2, 3, 4, 5, 6, 7, 8, 9, 10, 11, 0, 12] rfl ?_
          exact sJ_L_holds_630 l N0 D dA a0 x1 x2 x3 x4 x5 x6 x7 x8 x9 x10 v17 x13 _ hk152
        · refine mv_iload 13 dL_holds_361 rfl rfl ?_
          refine mv_bipush (v := (6 : Int32)) dL_holds_363 (by decide) rfl ?_
          refine mv_icmp_ge (tgt := 630) dL_holds_365 rfl rfl ?_ ?_
          · refine mv_sub [1, 2, 3, 4, 5, 6, 7, 8, 9, 10, 11, 0, 12] rfl ?_
            exact sJ_L_holds_630 l N0 D dA a0 x1 x2 x3 x4 x5 x6 x7 x8 x9 x10 v17 x13 _ hk152
          · refine mv_iload 13 dL_holds_368 rfl rfl ?_
            refine mv_aload_n 1 dL_holds_370 rfl rfl rfl ?_
            refine mv_iload 12 dL_holds_371 rfl rfl ?_
            refine mv_iconst (v := (0 : Int32)) dL_holds_373 (by decide) rfl ?_
            refine mv_callVi (st := [.int x14]) [.int x13, .int (0 : Int32)] (fun i23 => c_X6_bundle l N0 D dA i23 x13 (0 : Int32)) (T := TX6) rfl (by decide) wc_L_26 ⟨by decide, by decide⟩ rfl (Nat.le_of_ble_eq_true rfl) dL_holds_374 rfl (fun v22 => ?_)
            refine mv_icmp_eq (tgt := 630) dL_holds_377 rfl rfl ?_ ?_
            · refine mv_sub [1, 2, 3, 4, 5, 6, 7, 8, 9, 10, 11, 0, 12] rfl ?_
              exact sJ_L_holds_630 l N0 D dA a0 x1 x2 x3 x4 x5 x6 x7 x8 x9 x10 v17 x13 _ hk152
            · refine mv_iload 14 dL_holds_380 rfl rfl ?_
              refine mv_bipush (v := ((-4) : Int32)) dL_holds_382 (by decide) rfl ?_
              refine mv_icmp_ne (tgt := 630) dL_holds_384 rfl rfl ?_ ?_
              · refine mv_sub [1, 2, 3, 4, 5, 6, 7, 8, 9, 10, 11, 0, 12] rfl ?_
                exact sJ_L_holds_630 l N0 D dA a0 x1 x2 x3 x4 x5 x6 x7 x8 x9 x10 v17 x13 _ hk152
              · refine mv_iload 15 dL_holds_387 rfl rfl ?_
                refine mv_bipush (v := ((-4) : Int32)) dL_holds_389 (by decide) rfl ?_
                refine mv_icmp_ne (tgt := 630) dL_holds_391 rfl rfl ?_ ?_
                · refine mv_sub [1, 2, 3, 4, 5, 6, 7, 8, 9, 10, 11, 0, 12] rfl ?_
                  exact sJ_L_holds_630 l N0 D dA a0 x1 x2 x3 x4 x5 x6 x7 x8 x9 x10 v17 x13 _ hk152
                · refine mv_aload_n 1 dL_holds_394 rfl rfl rfl ?_
                  refine mv_iload 12 dL_holds_395 rfl rfl ?_
                  refine mv_bipush (v := (7 : Int32)) dL_holds_397 (by decide) rfl ?_
                  refine mv_callVi (st := []) [.int x13, .int (7 : Int32)] (fun i25 => c_X6_bundle l N0 D dA i25 x13 (7 : Int32)) (T := TX6) rfl (by decide) wc_L_26 ⟨by decide, by decide⟩ rfl (Nat.le_of_ble_eq_true rfl) dL_holds_399 rfl (fun v24 => ?_)
                  refine mv_if_ne (tgt := 630) dL_holds_402 rfl rfl ?_ ?_
                  · refine mv_sub [1, 2, 3, 4, 5, 6, 7, 8, 9, 10, 11, 0, 12] rfl ?_
                    exact sJ_L_holds_630 l N0 D dA a0 x1 x2 x3 x4 x5 x6 x7 x8 x9 x10 v17 x13 _ hk152
                  · refine mv_sub [1, 2, 3, 4, 5, 6, 7, 8, 9, 10, 11, 0, 12, 13, 14, 15, 16, 17, 18] rfl ?_
                    exact sJ_L_holds_405 l N0 D dA a0 x1 x2 x3 x4 x5 x6 x7 x8 x9 x10 v17 x13 x14 x15 x16 x17 x18 x19 _ hk152

def J_L_holds_309 (k152 : Int32 → Int32 → Int32 → Int32 → Int32 → Int32 → Int32 → Int32 → mv_M Int32) (a0 : Nat) (x1 : Int32) (x2 : Int32) (x3 : Int32) (x4 : Int32) (x5 : Int32) (x6 : Int32) (x7 : Int32) (x8 : Int32) (x9 : Int32) (x11 : Int32) (x13 : Int32) (x14 : Int32) (x15 : Int32) (x16 : Int32) (x17 : Int32) (x18 : Int32) (x19 : Int32) (s0 : Int32) (s1 : Int32) : mv_M Int32 :=
  mv_bd (mv_pu (s0 + s1)) fun v26 =>
  if x19 = 0 then
    J_L_holds_324 k152 a0 x1 x2 x3 x4 x5 x6 x7 x8 x9 v26 x13 x14 x15 x16 x17 x18 x19 x11 (0 : Int32)
  else
    J_L_holds_324 k152 a0 x1 x2 x3 x4 x5 x6 x7 x8 x9 v26 x13 x14 x15 x16 x17 x18 x19 x11 (1 : Int32)

set_option maxHeartbeats 4000000 in
set_option maxRecDepth 100000 in
theorem sJ_L_holds_309 (l : Launch) (N0 : Nat) (D : va_G) (dA : Nat → ClassId) (a0 : Nat) (x1 : Int32) (x2 : Int32) (x3 : Int32) (x4 : Int32) (x5 : Int32) (x6 : Int32) (x7 : Int32) (x8 : Int32) (x9 : Int32) (x11 : Int32) (x13 : Int32) (x14 : Int32) (x15 : Int32) (x16 : Int32) (x17 : Int32) (x18 : Int32) (x19 : Int32) (s0 : Int32) (s1 : Int32) (k152 : Int32 → Int32 → Int32 → Int32 → Int32 → Int32 → Int32 → Int32 → mv_M Int32) (hk152 : ∀ (y4 : Int32) (y5 : Int32) (y6 : Int32) (y7 : Int32) (y10 : Int32) (y11 : Int32) (y12 : Int32) (y13 : Int32), mv_Sim l N0 D dA RL cL_holds 20 7 167 (some .boolean) false mv_rI 152 [(0, mv_vr N0 (some a0)), (1, .int x1), (2, .int x2), (3, .int x3), (4, .int y4), (5, .int y5), (6, .int y6), (7, .int y7), (8, .int x8), (9, .int x9), (10, .int y10), (11, .int y11), (12, .int y12), (13, .int y13)] [] (k152 y4 y5 y6 y7 y10 y11 y12 y13)) : mv_Sim l N0 D dA RL cL_holds 20 7 167 (some .boolean) false mv_rI 309 [(0, mv_vr N0 (some a0)), (1, .int x1), (2, .int x2), (3, .int x3), (4, .int x4), (5, .int x5), (6, .int x6), (7, .int x7), (8, .int x8), (9, .int x9), (11, .int x11), (13, .int x13), (14, .int x14), (15, .int x15), (16, .int x16), (17, .int x17), (18, .int x18), (19, .int x19)] [.int s1, .int s0] (J_L_holds_309 k152 a0 x1 x2 x3 x4 x5 x6 x7 x8 x9 x11 x13 x14 x15 x16 x17 x18 x19 s0 s1) := by
  unfold J_L_holds_309
  refine mv_iadd dL_holds_309 rfl ?_
  refine mv_let (fun v26 => ?_)
  refine mw_istore rfl dL_holds_310 (by decide) rfl rfl ?_
  refine mv_iload 11 dL_holds_312 rfl rfl ?_
  refine mv_iload 18 dL_holds_314 rfl rfl ?_
  refine mv_if_eq (tgt := 323) dL_holds_316 rfl rfl ?_ ?_
  · refine mv_iconst (v := (0 : Int32)) dL_holds_323 (by decide) rfl ?_
    refine mv_sub [1, 2, 3, 4, 5, 6, 7, 8, 9, 10, 0, 12, 13, 14, 15, 16, 17, 18] rfl ?_
    exact sJ_L_holds_324 l N0 D dA a0 x1 x2 x3 x4 x5 x6 x7 x8 x9 v26 x13 x14 x15 x16 x17 x18 x19 x11 (0 : Int32) _ hk152
  · refine mv_iconst (v := (1 : Int32)) dL_holds_319 (by decide) rfl ?_
    refine mv_goto (q := 324) dL_holds_320 rfl ?_
    refine mv_sub [1, 2, 3, 4, 5, 6, 7, 8, 9, 10, 0, 12, 13, 14, 15, 16, 17, 18] rfl ?_
    exact sJ_L_holds_324 l N0 D dA a0 x1 x2 x3 x4 x5 x6 x7 x8 x9 v26 x13 x14 x15 x16 x17 x18 x19 x11 (1 : Int32) _ hk152

def J_L_holds_277 (k152 : Int32 → Int32 → Int32 → Int32 → Int32 → Int32 → Int32 → Int32 → mv_M Int32) (a0 : Nat) (x1 : Int32) (x2 : Int32) (x3 : Int32) (x4 : Int32) (x5 : Int32) (x7 : Int32) (x8 : Int32) (x9 : Int32) (x10 : Int32) (x11 : Int32) (x13 : Int32) (x14 : Int32) (x15 : Int32) (x16 : Int32) (x17 : Int32) (x18 : Int32) (x19 : Int32) (s0 : Int32) (s1 : Int32) : mv_M Int32 :=
  mv_bd (mv_pu (s0 + s1)) fun v27 =>
  mv_bd (mv_rc 6 7 (some a0)) fun i29 => mv_bd (F_X6_bundle i29 x13 (6 : Int32)) fun v28 =>
  mv_bd (mv_pu (x7 + v28)) fun v30 =>
  if x19 = 0 then
    J_L_holds_309 k152 a0 x1 x2 x3 x4 x5 v27 v30 x8 x9 x11 x13 x14 x15 x16 x17 x18 x19 x10 (0 : Int32)
  else
    J_L_holds_309 k152 a0 x1 x2 x3 x4 x5 v27 v30 x8 x9 x11 x13 x14 x15 x16 x17 x18 x19 x10 (x17 - x18)

set_option maxHeartbeats 4000000 in
set_option maxRecDepth 100000 in
theorem sJ_L_holds_277 (l : Launch) (N0 : Nat) (D : va_G) (dA : Nat → ClassId) (a0 : Nat) (x1 : Int32) (x2 : Int32) (x3 : Int32) (x4 : Int32) (x5 : Int32) (x7 : Int32) (x8 : Int32) (x9 : Int32) (x10 : Int32) (x11 : Int32) (x13 : Int32) (x14 : Int32) (x15 : Int32) (x16 : Int32) (x17 : Int32) (x18 : Int32) (x19 : Int32) (s0 : Int32) (s1 : Int32) (k152 : Int32 → Int32 → Int32 → Int32 → Int32 → Int32 → Int32 → Int32 → mv_M Int32) (hk152 : ∀ (y4 : Int32) (y5 : Int32) (y6 : Int32) (y7 : Int32) (y10 : Int32) (y11 : Int32) (y12 : Int32) (y13 : Int32), mv_Sim l N0 D dA RL cL_holds 20 7 167 (some .boolean) false mv_rI 152 [(0, mv_vr N0 (some a0)), (1, .int x1), (2, .int x2), (3, .int x3), (4, .int y4), (5, .int y5), (6, .int y6), (7, .int y7), (8, .int x8), (9, .int x9), (10, .int y10), (11, .int y11), (12, .int y12), (13, .int y13)] [] (k152 y4 y5 y6 y7 y10 y11 y12 y13)) : mv_Sim l N0 D dA RL cL_holds 20 7 167 (some .boolean) false mv_rI 277 [(0, mv_vr N0 (some a0)), (1, .int x1), (2, .int x2), (3, .int x3), (4, .int x4), (5, .int x5), (7, .int x7), (8, .int x8), (9, .int x9), (10, .int x10), (11, .int x11), (13, .int x13), (14, .int x14), (15, .int x15), (16, .int x16), (17, .int x17), (18, .int x18), (19, .int x19)] [.int s1, .int s0] (J_L_holds_277 k152 a0 x1 x2 x3 x4 x5 x7 x8 x9 x10 x11 x13 x14 x15 x16 x17 x18 x19 s0 s1) := by
  unfold J_L_holds_277
  refine mv_iadd dL_holds_277 rfl ?_
  refine mv_let (fun v27 => ?_)
  refine mw_istore rfl dL_holds_278 (by decide) rfl rfl ?_
  refine mv_iload 7 dL_holds_280 rfl rfl ?_
  refine mv_aload_n 1 dL_holds_282 rfl rfl rfl ?_
  refine mv_iload 12 dL_holds_283 rfl rfl ?_
  refine mv_bipush (v := (6 : Int32)) dL_holds_285 (by decide) rfl ?_
  refine mv_callVi (st := [.int x7]) [.int x13, .int (6 : Int32)] (fun i29 => c_X6_bundle l N0 D dA i29 x13 (6 : Int32)) (T := TX6) rfl (by decide) wc_L_26 ⟨by decide, by decide⟩ rfl (Nat.le_of_ble_eq_true rfl) dL_holds_287 rfl (fun v28 => ?_)
  refine mv_iadd dL_holds_290 rfl ?_
  refine mv_let (fun v30 => ?_)
  refine mw_istore rfl dL_holds_291 (by decide) rfl rfl ?_
  refine mv_iload 10 dL_holds_293 rfl rfl ?_
  refine mv_iload 18 dL_holds_295 rfl rfl ?_
  refine mv_if_eq (tgt := 308) dL_holds_297 rfl rfl ?_ ?_
  · refine mv_iconst (v := (0 : Int32)) dL_holds_308 (by decide) rfl ?_
    refine mv_sub [2, 3, 4, 5, 6, 7, 1, 0, 8, 9, 11, 12, 13, 14, 15, 16, 17, 18] rfl ?_
    exact sJ_L_holds_309 l N0 D dA a0 x1 x2 x3 x4 x5 v27 v30 x8 x9 x11 x13 x14 x15 x16 x17 x18 x19 x10 (0 : Int32) _ hk152
  · refine mv_iload 16 dL_holds_300 rfl rfl ?_
    refine mv_iload 17 dL_holds_302 rfl rfl ?_
    refine mv_isub dL_holds_304 rfl ?_
    refine mv_goto (q := 309) dL_holds_305 rfl ?_
    refine mv_sub [2, 3, 4, 5, 6, 7, 1, 0, 8, 9, 11, 12, 13, 14, 15, 16, 17, 18] rfl ?_
    exact sJ_L_holds_309 l N0 D dA a0 x1 x2 x3 x4 x5 v27 v30 x8 x9 x11 x13 x14 x15 x16 x17 x18 x19 x10 (x17 - x18) _ hk152

def J_L_holds_260 (k152 : Int32 → Int32 → Int32 → Int32 → Int32 → Int32 → Int32 → Int32 → mv_M Int32) (a0 : Nat) (x1 : Int32) (x2 : Int32) (x3 : Int32) (x4 : Int32) (x6 : Int32) (x7 : Int32) (x8 : Int32) (x9 : Int32) (x10 : Int32) (x11 : Int32) (x13 : Int32) (x14 : Int32) (x15 : Int32) (x16 : Int32) (x17 : Int32) (x18 : Int32) (x19 : Int32) (s0 : Int32) (s1 : Int32) : mv_M Int32 :=
  mv_bd (mv_pu (s0 + s1)) fun v31 =>
  if x16 = ((-4) : Int32) then
    J_L_holds_277 k152 a0 x1 x2 x3 x4 v31 x7 x8 x9 x10 x11 x13 x14 x15 x16 x17 x18 x19 x6 (0 : Int32)
  else
    J_L_holds_277 k152 a0 x1 x2 x3 x4 v31 x7 x8 x9 x10 x11 x13 x14 x15 x16 x17 x18 x19 x6 (1 : Int32)

set_option maxHeartbeats 4000000 in
set_option maxRecDepth 100000 in
theorem sJ_L_holds_260 (l : Launch) (N0 : Nat) (D : va_G) (dA : Nat → ClassId) (a0 : Nat) (x1 : Int32) (x2 : Int32) (x3 : Int32) (x4 : Int32) (x6 : Int32) (x7 : Int32) (x8 : Int32) (x9 : Int32) (x10 : Int32) (x11 : Int32) (x13 : Int32) (x14 : Int32) (x15 : Int32) (x16 : Int32) (x17 : Int32) (x18 : Int32) (x19 : Int32) (s0 : Int32) (s1 : Int32) (k152 : Int32 → Int32 → Int32 → Int32 → Int32 → Int32 → Int32 → Int32 → mv_M Int32) (hk152 : ∀ (y4 : Int32) (y5 : Int32) (y6 : Int32) (y7 : Int32) (y10 : Int32) (y11 : Int32) (y12 : Int32) (y13 : Int32), mv_Sim l N0 D dA RL cL_holds 20 7 167 (some .boolean) false mv_rI 152 [(0, mv_vr N0 (some a0)), (1, .int x1), (2, .int x2), (3, .int x3), (4, .int y4), (5, .int y5), (6, .int y6), (7, .int y7), (8, .int x8), (9, .int x9), (10, .int y10), (11, .int y11), (12, .int y12), (13, .int y13)] [] (k152 y4 y5 y6 y7 y10 y11 y12 y13)) : mv_Sim l N0 D dA RL cL_holds 20 7 167 (some .boolean) false mv_rI 260 [(0, mv_vr N0 (some a0)), (1, .int x1), (2, .int x2), (3, .int x3), (4, .int x4), (6, .int x6), (7, .int x7), (8, .int x8), (9, .int x9), (10, .int x10), (11, .int x11), (13, .int x13), (14, .int x14), (15, .int x15), (16, .int x16), (17, .int x17), (18, .int x18), (19, .int x19)] [.int s1, .int s0] (J_L_holds_260 k152 a0 x1 x2 x3 x4 x6 x7 x8 x9 x10 x11 x13 x14 x15 x16 x17 x18 x19 s0 s1) := by
  unfold J_L_holds_260
  refine mv_iadd dL_holds_260 rfl ?_
  refine mv_let (fun v31 => ?_)
  refine mw_istore rfl dL_holds_261 (by decide) rfl rfl ?_
  refine mv_iload 6 dL_holds_263 rfl rfl ?_
  refine mv_iload 15 dL_holds_265 rfl rfl ?_
  refine mv_bipush (v := ((-4) : Int32)) dL_holds_267 (by decide) rfl ?_
  refine mv_icmp_ne (tgt := 276) dL_holds_269 rfl rfl ?_ ?_
  · refine mv_iconst (v := (1 : Int32)) dL_holds_276 (by decide) rfl ?_
    refine mv_sub [1, 2, 3, 4, 5, 0, 7, 8, 9, 10, 11, 12, 13, 14, 15, 16, 17, 18] rfl ?_
    exact sJ_L_holds_277 l N0 D dA a0 x1 x2 x3 x4 v31 x7 x8 x9 x10 x11 x13 x14 x15 x16 x17 x18 x19 x6 (1 : Int32) _ hk152
  · refine mv_iconst (v := (0 : Int32)) dL_holds_272 (by decide) rfl ?_
    refine mv_goto (q := 277) dL_holds_273 rfl ?_
    refine mv_sub [1, 2, 3, 4, 5, 0, 7, 8, 9, 10, 11, 12, 13, 14, 15, 16, 17, 18] rfl ?_
    exact sJ_L_holds_277 l N0 D dA a0 x1 x2 x3 x4 v31 x7 x8 x9 x10 x11 x13 x14 x15 x16 x17 x18 x19 x6 (0 : Int32) _ hk152

def J_L_holds_243 (k152 : Int32 → Int32 → Int32 → Int32 → Int32 → Int32 → Int32 → Int32 → mv_M Int32) (a0 : Nat) (x1 : Int32) (x2 : Int32) (x3 : Int32) (x5 : Int32) (x6 : Int32) (x7 : Int32) (x8 : Int32) (x9 : Int32) (x10 : Int32) (x11 : Int32) (x13 : Int32) (x14 : Int32) (x15 : Int32) (x16 : Int32) (x17 : Int32) (x18 : Int32) (x19 : Int32) (s0 : Int32) (s1 : Int32) : mv_M Int32 :=
  mv_bd (mv_pu (s0 + s1)) fun v32 =>
  if x15 = ((-4) : Int32) then
    J_L_holds_260 k152 a0 x1 x2 x3 v32 x6 x7 x8 x9 x10 x11 x13 x14 x15 x16 x17 x18 x19 x5 (0 : Int32)
  else
    J_L_holds_260 k152 a0 x1 x2 x3 v32 x6 x7 x8 x9 x10 x11 x13 x14 x15 x16 x17 x18 x19 x5 (1 : Int32)

set_option maxHeartbeats 4000000 in
set_option maxRecDepth 100000 in
theorem sJ_L_holds_243 (l : Launch) (N0 : Nat) (D : va_G) (dA : Nat → ClassId) (a0 : Nat) (x1 : Int32) (x2 : Int32) (x3 : Int32) (x5 : Int32) (x6 : Int32) (x7 : Int32) (x8 : Int32) (x9 : Int32) (x10 : Int32) (x11 : Int32) (x13 : Int32) (x14 : Int32) (x15 : Int32) (x16 : Int32) (x17 : Int32) (x18 : Int32) (x19 : Int32) (s0 : Int32) (s1 : Int32) (k152 : Int32 → Int32 → Int32 → Int32 → Int32 → Int32 → Int32 → Int32 → mv_M Int32) (hk152 : ∀ (y4 : Int32) (y5 : Int32) (y6 : Int32) (y7 : Int32) (y10 : Int32) (y11 : Int32) (y12 : Int32) (y13 : Int32), mv_Sim l N0 D dA RL cL_holds 20 7 167 (some .boolean) false mv_rI 152 [(0, mv_vr N0 (some a0)), (1, .int x1), (2, .int x2), (3, .int x3), (4, .int y4), (5, .int y5), (6, .int y6), (7, .int y7), (8, .int x8), (9, .int x9), (10, .int y10), (11, .int y11), (12, .int y12), (13, .int y13)] [] (k152 y4 y5 y6 y7 y10 y11 y12 y13)) : mv_Sim l N0 D dA RL cL_holds 20 7 167 (some .boolean) false mv_rI 243 [(0, mv_vr N0 (some a0)), (1, .int x1), (2, .int x2), (3, .int x3), (5, .int x5), (6, .int x6), (7, .int x7), (8, .int x8), (9, .int x9), (10, .int x10), (11, .int x11), (13, .int x13), (14, .int x14), (15, .int x15), (16, .int x16), (17, .int x17), (18, .int x18), (19, .int x19)] [.int s1, .int s0] (J_L_holds_243 k152 a0 x1 x2 x3 x5 x6 x7 x8 x9 x10 x11 x13 x14 x15 x16 x17 x18 x19 s0 s1) := by
  unfold J_L_holds_243
  refine mv_iadd dL_holds_243 rfl ?_
  refine mv_let (fun v32 => ?_)
  refine mw_istore rfl dL_holds_244 (by decide) rfl rfl ?_
  refine mv_iload 5 dL_holds_246 rfl rfl ?_
  refine mv_iload 14 dL_holds_248 rfl rfl ?_
  refine mv_bipush (v := ((-4) : Int32)) dL_holds_250 (by decide) rfl ?_
  refine mv_icmp_ne (tgt := 259) dL_holds_252 rfl rfl ?_ ?_
  · refine mv_iconst (v := (1 : Int32)) dL_holds_259 (by decide) rfl ?_
    refine mv_sub [1, 2, 3, 4, 0, 6, 7, 8, 9, 10, 11, 12, 13, 14, 15, 16, 17, 18] rfl ?_
    exact sJ_L_holds_260 l N0 D dA a0 x1 x2 x3 v32 x6 x7 x8 x9 x10 x11 x13 x14 x15 x16 x17 x18 x19 x5 (1 : Int32) _ hk152
  · refine mv_iconst (v := (0 : Int32)) dL_holds_255 (by decide) rfl ?_
    refine mv_goto (q := 260) dL_holds_256 rfl ?_
    refine mv_sub [1, 2, 3, 4, 0, 6, 7, 8, 9, 10, 11, 12, 13, 14, 15, 16, 17, 18] rfl ?_
    exact sJ_L_holds_260 l N0 D dA a0 x1 x2 x3 v32 x6 x7 x8 x9 x10 x11 x13 x14 x15 x16 x17 x18 x19 x5 (0 : Int32) _ hk152

def J_L_holds_227 (k152 : Int32 → Int32 → Int32 → Int32 → Int32 → Int32 → Int32 → Int32 → mv_M Int32) (a0 : Nat) (x1 : Int32) (x2 : Int32) (x3 : Int32) (x4 : Int32) (x5 : Int32) (x6 : Int32) (x7 : Int32) (x8 : Int32) (x9 : Int32) (x10 : Int32) (x11 : Int32) (x13 : Int32) (x14 : Int32) (x15 : Int32) (x16 : Int32) (x17 : Int32) (x18 : Int32) (s0 : Int32) : mv_M Int32 :=
  if x14 = ((-4) : Int32) then
    J_L_holds_243 k152 a0 x1 x2 x3 x5 x6 x7 x8 x9 x10 x11 x13 x14 x15 x16 x17 x18 s0 x4 (0 : Int32)
  else
    J_L_holds_243 k152 a0 x1 x2 x3 x5 x6 x7 x8 x9 x10 x11 x13 x14 x15 x16 x17 x18 s0 x4 (1 : Int32)

set_option maxHeartbeats 4000000 in
set_option maxRecDepth 100000 in
theorem sJ_L_holds_227 (l : Launch) (N0 : Nat) (D : va_G) (dA : Nat → ClassId) (a0 : Nat) (x1 : Int32) (x2 : Int32) (x3 : Int32) (x4 : Int32) (x5 : Int32) (x6 : Int32) (x7 : Int32) (x8 : Int32) (x9 : Int32) (x10 : Int32) (x11 : Int32) (x13 : Int32) (x14 : Int32) (x15 : Int32) (x16 : Int32) (x17 : Int32) (x18 : Int32) (s0 : Int32) (k152 : Int32 → Int32 → Int32 → Int32 → Int32 → Int32 → Int32 → Int32 → mv_M Int32) (hk152 : ∀ (y4 : Int32) (y5 : Int32) (y6 : Int32) (y7 : Int32) (y10 : Int32) (y11 : Int32) (y12 : Int32) (y13 : Int32), mv_Sim l N0 D dA RL cL_holds 20 7 167 (some .boolean) false mv_rI 152 [(0, mv_vr N0 (some a0)), (1, .int x1), (2, .int x2), (3, .int x3), (4, .int y4), (5, .int y5), (6, .int y6), (7, .int y7), (8, .int x8), (9, .int x9), (10, .int y10), (11, .int y11), (12, .int y12), (13, .int y13)] [] (k152 y4 y5 y6 y7 y10 y11 y12 y13)) : mv_Sim l N0 D dA RL cL_holds 20 7 167 (some .boolean) false mv_rI 227 [(0, mv_vr N0 (some a0)), (1, .int x1), (2, .int x2), (3, .int x3), (4, .int x4), (5, .int x5), (6, .int x6), (7, .int x7), (8, .int x8), (9, .int x9), (10, .int x10), (11, .int x11), (13, .int x13), (14, .int x14), (15, .int x15), (16, .int x16), (17, .int x17), (18, .int x18)] [.int s0] (J_L_holds_227 k152 a0 x1 x2 x3 x4 x5 x6 x7 x8 x9 x10 x11 x13 x14 x15 x16 x17 x18 s0) := by
  unfold J_L_holds_227
  refine mw_istore rfl dL_holds_227 (by decide) rfl rfl ?_
  refine mv_iload 5 dL_holds_229 rfl rfl ?_
  refine mv_iload 14 dL_holds_231 rfl rfl ?_
  refine mv_bipush (v := ((-4) : Int32)) dL_holds_233 (by decide) rfl ?_
  refine mv_icmp_ne (tgt := 242) dL_holds_235 rfl rfl ?_ ?_
  · refine mv_iconst (v := (1 : Int32)) dL_holds_242 (by decide) rfl ?_
    refine mv_sub [1, 2, 3, 4, 6, 7, 8, 9, 10, 11, 12, 13, 14, 15, 16, 17, 18, 0] rfl ?_
    exact sJ_L_holds_243 l N0 D dA a0 x1 x2 x3 x5 x6 x7 x8 x9 x10 x11 x13 x14 x15 x16 x17 x18 s0 x4 (1 : Int32) _ hk152
  · refine mv_iconst (v := (0 : Int32)) dL_holds_238 (by decide) rfl ?_
    refine mv_goto (q := 243) dL_holds_239 rfl ?_
    refine mv_sub [1, 2, 3, 4, 6, 7, 8, 9, 10, 11, 12, 13, 14, 15, 16, 17, 18, 0] rfl ?_
    exact sJ_L_holds_243 l N0 D dA a0 x1 x2 x3 x5 x6 x7 x8 x9 x10 x11 x13 x14 x15 x16 x17 x18 s0 x4 (0 : Int32) _ hk152

def J_L_holds_226 (k152 : Int32 → Int32 → Int32 → Int32 → Int32 → Int32 → Int32 → Int32 → mv_M Int32) (a0 : Nat) (x1 : Int32) (x2 : Int32) (x3 : Int32) (x4 : Int32) (x5 : Int32) (x6 : Int32) (x7 : Int32) (x8 : Int32) (x9 : Int32) (x10 : Int32) (x11 : Int32) (x13 : Int32) (x14 : Int32) (x15 : Int32) (x16 : Int32) (x17 : Int32) (x18 : Int32) : mv_M Int32 :=
  J_L_holds_227 k152 a0 x1 x2 x3 x4 x5 x6 x7 x8 x9 x10 x11 x13 x14 x15 x16 x17 x18 (0 : Int32)

set_option maxHeartbeats 4000000 in
set_option maxRecDepth 100000 in
theorem sJ_L_holds_226 (l : Launch) (N0 : Nat) (D : va_G) (dA : Nat → ClassId) (a0 : Nat) (x1 : Int32) (x2 : Int32) (x3 : Int32) (x4 : Int32) (x5 : Int32) (x6 : Int32) (x7 : Int32) (x8 : Int32) (x9 : Int32) (x10 : Int32) (x11 : Int32) (x13 : Int32) (x14 : Int32) (x15 : Int32) (x16 : Int32) (x17 : Int32) (x18 : Int32) (k152 : Int32 → Int32 → Int32 → Int32 → Int32 → Int32 → Int32 → Int32 → mv_M Int32) (hk152 : ∀ (y4 : Int32) (y5 : Int32) (y6 : Int32) (y7 : Int32) (y10 : Int32) (y11 : Int32) (y12 : Int32) (y13 : Int32), mv_Sim l N0 D dA RL cL_holds 20 7 167 (some .boolean) false mv_rI 152 [(0, mv_vr N0 (some a0)), (1, .int x1), (2, .int x2), (3, .int x3), (4, .int y4), (5, .int y5), (6, .int y6), (7, .int y7), (8, .int x8), (9, .int x9), (10, .int y10), (11, .int y11), (12, .int y12), (13, .int y13)] [] (k152 y4 y5 y6 y7 y10 y11 y12 y13)) : mv_Sim l N0 D dA RL cL_holds 20 7 167 (some .boolean) false mv_rI 226 [(0, mv_vr N0 (some a0)), (1, .int x1), (2, .int x2), (3, .int x3), (4, .int x4), (5, .int x5), (6, .int x6), (7, .int x7), (8, .int x8), (9, .int x9), (10, .int x10), (11, .int x11), (13, .int x13), (14, .int x14), (15, .int x15), (16, .int x16), (17, .int x17), (18, .int x18)] [] (J_L_holds_226 k152 a0 x1 x2 x3 x4 x5 x6 x7 x8 x9 x10 x11 x13 x14 x15 x16 x17 x18) := by
  unfold J_L_holds_226
  refine mv_iconst (v := (0 : Int32)) dL_holds_226 (by decide) rfl ?_
  refine mv_sub [0, 1, 2, 3, 4, 5, 6, 7, 8, 9, 10, 11, 12, 13, 14, 15, 16, 17] rfl ?_
  exact sJ_L_holds_227 l N0 D dA a0 x1 x2 x3 x4 x5 x6 x7 x8 x9 x10 x11 x13 x14 x15 x16 x17 x18 (0 : Int32) _ hk152

def J_L_holds_722 (k697 : Int32 → Int32 → mv_M Int32) (a0 : Nat) (x1 : Int32) (x2 : Int32) (x3 : Int32) (x4 : Int32) (x5 : Int32) (x6 : Int32) (x7 : Int32) (x8 : Int32) (x9 : Int32) (x10 : Int32) (x11 : Int32) (x13 : Int32) (x15 : Int32) (x16 : Int32) (s0 : Int32) (s1 : Int32) : mv_M Int32 :=
  mv_bd (mv_pu (s0 + s1)) fun v33 =>
  k697 v33 (x16 + (1 : Int32))

set_option maxHeartbeats 4000000 in
set_option maxRecDepth 100000 in
theorem sJ_L_holds_722 (l : Launch) (N0 : Nat) (D : va_G) (dA : Nat → ClassId) (a0 : Nat) (x1 : Int32) (x2 : Int32) (x3 : Int32) (x4 : Int32) (x5 : Int32) (x6 : Int32) (x7 : Int32) (x8 : Int32) (x9 : Int32) (x10 : Int32) (x11 : Int32) (x13 : Int32) (x15 : Int32) (x16 : Int32) (s0 : Int32) (s1 : Int32) (k697 : Int32 → Int32 → mv_M Int32) (hk697 : ∀ (y14 : Int32) (y16 : Int32), mv_Sim l N0 D dA RL cL_holds 20 7 167 (some .boolean) false mv_rI 697 [(0, mv_vr N0 (some a0)), (1, .int x1), (2, .int x2), (3, .int x3), (4, .int x4), (5, .int x5), (6, .int x6), (7, .int x7), (8, .int x8), (9, .int x9), (10, .int x10), (11, .int x11), (13, .int x13), (14, .int y14), (15, .int x15), (16, .int y16)] [] (k697 y14 y16)) : mv_Sim l N0 D dA RL cL_holds 20 7 167 (some .boolean) false mv_rI 722 [(0, mv_vr N0 (some a0)), (1, .int x1), (2, .int x2), (3, .int x3), (4, .int x4), (5, .int x5), (6, .int x6), (7, .int x7), (8, .int x8), (9, .int x9), (10, .int x10), (11, .int x11), (13, .int x13), (15, .int x15), (16, .int x16)] [.int s1, .int s0] (J_L_holds_722 k697 a0 x1 x2 x3 x4 x5 x6 x7 x8 x9 x10 x11 x13 x15 x16 s0 s1) := by
  unfold J_L_holds_722
  refine mv_iadd dL_holds_722 rfl ?_
  refine mv_let (fun v33 => ?_)
  refine mw_istore rfl dL_holds_723 (by decide) rfl rfl ?_
  refine mw_iinc (y := (x16 + (1 : Int32))) 15 rfl dL_holds_725 rfl rfl (by decide) rfl rfl ?_
  refine mv_goto (q := 697) dL_holds_728 rfl ?_
  refine mv_sub [2, 3, 4, 5, 6, 7, 8, 9, 10, 11, 12, 13, 14, 1, 15, 0] rfl ?_
  exact hk697 v33 (x16 + (1 : Int32))

def J_L_holds_875 (k642 : Int32 → Int32 → Int32 → Int32 → mv_M Int32) (a0 : Nat) (x1 : Int32) (x2 : Int32) (x3 : Int32) (x4 : Int32) (x5 : Int32) (x6 : Int32) (x7 : Int32) (x8 : Int32) (x9 : Int32) (x10 : Int32) (x11 : Int32) (x13 : Int32) (s0 : Int32) : mv_M Int32 :=
  k642 x8 x9 s0 (x13 + (1 : Int32))

set_option maxHeartbeats 4000000 in
set_option maxRecDepth 100000 in
theorem sJ_L_holds_875 (l : Launch) (N0 : Nat) (D : va_G) (dA : Nat → ClassId) (a0 : Nat) (x1 : Int32) (x2 : Int32) (x3 : Int32) (x4 : Int32) (x5 : Int32) (x6 : Int32) (x7 : Int32) (x8 : Int32) (x9 : Int32) (x10 : Int32) (x11 : Int32) (x13 : Int32) (s0 : Int32) (k642 : Int32 → Int32 → Int32 → Int32 → mv_M Int32) (hk642 : ∀ (y8 : Int32) (y9 : Int32) (y12 : Int32) (y13 : Int32), mv_Sim l N0 D dA RL cL_holds 20 7 167 (some .boolean) false mv_rI 642 [(0, mv_vr N0 (some a0)), (1, .int x1), (2, .int x2), (3, .int x3), (4, .int x4), (5, .int x5), (6, .int x6), (7, .int x7), (8, .int y8), (9, .int y9), (10, .int x10), (11, .int x11), (12, .int y12), (13, .int y13)] [] (k642 y8 y9 y12 y13)) : mv_Sim l N0 D dA RL cL_holds 20 7 167 (some .boolean) false mv_rI 875 [(0, mv_vr N0 (some a0)), (1, .int x1), (2, .int x2), (3, .int x3), (4, .int x4), (5, .int x5), (6, .int x6), (7, .int x7), (8, .int x8), (9, .int x9), (10, .int x10), (11, .int x11), (13, .int x13)] [.int s0] (J_L_holds_875 k642 a0 x1 x2 x3 x4 x5 x6 x7 x8 x9 x10 x11 x13 s0) := by
  unfold J_L_holds_875
  refine mw_istore rfl dL_holds_875 (by decide) rfl rfl ?_
  refine mw_iinc (y := (x13 + (1 : Int32))) 13 rfl dL_holds_877 rfl rfl (by decide) rfl rfl ?_
  refine mv_goto (q := 642) dL_holds_880 rfl ?_
  refine mv_sub [2, 3, 4, 5, 6, 7, 8, 9, 10, 11, 12, 13, 1, 0] rfl ?_
  exact hk642 x8 x9 s0 (x13 + (1 : Int32))

def J_L_holds_874 (k642 : Int32 → Int32 → Int32 → Int32 → mv_M Int32) (a0 : Nat) (x1 : Int32) (x2 : Int32) (x3 : Int32) (x4 : Int32) (x5 : Int32) (x6 : Int32) (x7 : Int32) (x8 : Int32) (x9 : Int32) (x10 : Int32) (x11 : Int32) (x13 : Int32) : mv_M Int32 :=
  J_L_holds_875 k642 a0 x1 x2 x3 x4 x5 x6 x7 x8 x9 x10 x11 x13 (0 : Int32)

set_option maxHeartbeats 4000000 in
set_option maxRecDepth 100000 in
theorem sJ_L_holds_874 (l : Launch) (N0 : Nat) (D : va_G) (dA : Nat → ClassId) (a0 : Nat) (x1 : Int32) (x2 : Int32) (x3 : Int32) (x4 : Int32) (x5 : Int32) (x6 : Int32) (x7 : Int32) (x8 : Int32) (x9 : Int32) (x10 : Int32) (x11 : Int32) (x13 : Int32) (k642 : Int32 → Int32 → Int32 → Int32 → mv_M Int32) (hk642 : ∀ (y8 : Int32) (y9 : Int32) (y12 : Int32) (y13 : Int32), mv_Sim l N0 D dA RL cL_holds 20 7 167 (some .boolean) false mv_rI 642 [(0, mv_vr N0 (some a0)), (1, .int x1), (2, .int x2), (3, .int x3), (4, .int x4), (5, .int x5), (6, .int x6), (7, .int x7), (8, .int y8), (9, .int y9), (10, .int x10), (11, .int x11), (12, .int y12), (13, .int y13)] [] (k642 y8 y9 y12 y13)) : mv_Sim l N0 D dA RL cL_holds 20 7 167 (some .boolean) false mv_rI 874 [(0, mv_vr N0 (some a0)), (1, .int x1), (2, .int x2), (3, .int x3), (4, .int x4), (5, .int x5), (6, .int x6), (7, .int x7), (8, .int x8), (9, .int x9), (10, .int x10), (11, .int x11), (13, .int x13)] [] (J_L_holds_874 k642 a0 x1 x2 x3 x4 x5 x6 x7 x8 x9 x10 x11 x13) := by
  unfold J_L_holds_874
  refine mv_iconst (v := (0 : Int32)) dL_holds_874 (by decide) rfl ?_
  refine mv_sub [0, 1, 2, 3, 4, 5, 6, 7, 8, 9, 10, 11, 12] rfl ?_
  exact sJ_L_holds_875 l N0 D dA a0 x1 x2 x3 x4 x5 x6 x7 x8 x9 x10 x11 x13 (0 : Int32) _ hk642

def J_L_holds_842 (k642 : Int32 → Int32 → Int32 → Int32 → mv_M Int32) (a0 : Nat) (x1 : Int32) (x2 : Int32) (x3 : Int32) (x4 : Int32) (x5 : Int32) (x6 : Int32) (x7 : Int32) (x8 : Int32) (x9 : Int32) (x10 : Int32) (x11 : Int32) (x13 : Int32) (x15 : Int32) (s0 : Int32) (s1 : Int32) : mv_M Int32 :=
  if s0 = s1 then
    if (6 : Int32) ≤ x15 then
      J_L_holds_874 k642 a0 x1 x2 x3 x4 x5 x6 x7 x8 x9 x10 x11 x13
    else
      mv_bd (mv_rc 6 7 (some a0)) fun i35 => mv_bd (F_X6_carrier i35 x13 (6 : Int32)) fun v34 =>
      mv_bd (mv_rc 6 7 (some a0)) fun i37 => mv_bd (F_X6_carrier i37 x13 (5 : Int32)) fun v36 =>
      if v36 < v34 then
        J_L_holds_874 k642 a0 x1 x2 x3 x4 x5 x6 x7 x8 x9 x10 x11 x13
      else
        J_L_holds_875 k642 a0 x1 x2 x3 x4 x5 x6 x7 x8 x9 x10 x11 x13 (1 : Int32)
  else
    J_L_holds_874 k642 a0 x1 x2 x3 x4 x5 x6 x7 x8 x9 x10 x11 x13

set_option maxHeartbeats 4000000 in
set_option maxRecDepth 100000 in
theorem sJ_L_holds_842 (l : Launch) (N0 : Nat) (D : va_G) (dA : Nat → ClassId) (a0 : Nat) (x1 : Int32) (x2 : Int32) (x3 : Int32) (x4 : Int32) (x5 : Int32) (x6 : Int32) (x7 : Int32) (x8 : Int32) (x9 : Int32) (x10 : Int32) (x11 : Int32) (x13 : Int32) (x15 : Int32) (s0 : Int32) (s1 : Int32) (k642 : Int32 → Int32 → Int32 → Int32 → mv_M Int32) (hk642 : ∀ (y8 : Int32) (y9 : Int32) (y12 : Int32) (y13 : Int32), mv_Sim l N0 D dA RL cL_holds 20 7 167 (some .boolean) false mv_rI 642 [(0, mv_vr N0 (some a0)), (1, .int x1), (2, .int x2), (3, .int x3), (4, .int x4), (5, .int x5), (6, .int x6), (7, .int x7), (8, .int y8), (9, .int y9), (10, .int x10), (11, .int x11), (12, .int y12), (13, .int y13)] [] (k642 y8 y9 y12 y13)) : mv_Sim l N0 D dA RL cL_holds 20 7 167 (some .boolean) false mv_rI 842 [(0, mv_vr N0 (some a0)), (1, .int x1), (2, .int x2), (3, .int x3), (4, .int x4), (5, .int x5), (6, .int x6), (7, .int x7), (8, .int x8), (9, .int x9), (10, .int x10), (11, .int x11), (13, .int x13), (15, .int x15)] [.int s1, .int s0] (J_L_holds_842 k642 a0 x1 x2 x3 x4 x5 x6 x7 x8 x9 x10 x11 x13 x15 s0 s1) := by
  unfold J_L_holds_842
  refine mv_icmp_ne (tgt := 874) dL_holds_842 rfl rfl ?_ ?_
  · refine mv_sub [0, 1, 2, 3, 4, 5, 6, 7, 8, 9, 10, 11, 12] rfl ?_
    exact sJ_L_holds_874 l N0 D dA a0 x1 x2 x3 x4 x5 x6 x7 x8 x9 x10 x11 x13 _ hk642
  · refine mv_iload 13 dL_holds_845 rfl rfl ?_
    refine mv_bipush (v := (6 : Int32)) dL_holds_847 (by decide) rfl ?_
    refine mv_icmp_ge (tgt := 874) dL_holds_849 rfl rfl ?_ ?_
    · refine mv_sub [0, 1, 2, 3, 4, 5, 6, 7, 8, 9, 10, 11, 12] rfl ?_
      exact sJ_L_holds_874 l N0 D dA a0 x1 x2 x3 x4 x5 x6 x7 x8 x9 x10 x11 x13 _ hk642
    · refine mv_aload_n 0 dL_holds_852 rfl rfl rfl ?_
      refine mv_iload 12 dL_holds_853 rfl rfl ?_
      refine mv_bipush (v := (6 : Int32)) dL_holds_855 (by decide) rfl ?_
      refine mv_callVi (st := []) [.int x13, .int (6 : Int32)] (fun i35 => c_X6_carrier l N0 D dA i35 x13 (6 : Int32)) (T := TX6) rfl (by decide) wc_L_19 ⟨by decide, by decide⟩ rfl (Nat.le_of_ble_eq_true rfl) dL_holds_857 rfl (fun v34 => ?_)
      refine mv_aload_n 0 dL_holds_860 rfl rfl rfl ?_
      refine mv_iload 12 dL_holds_861 rfl rfl ?_
      refine mv_iconst (v := (5 : Int32)) dL_holds_863 (by decide) rfl ?_
      refine mv_callVi (st := [.int v34]) [.int x13, .int (5 : Int32)] (fun i37 => c_X6_carrier l N0 D dA i37 x13 (5 : Int32)) (T := TX6) rfl (by decide) wc_L_19 ⟨by decide, by decide⟩ rfl (Nat.le_of_ble_eq_true rfl) dL_holds_864 rfl (fun v36 => ?_)
      refine mv_icmp_gt (tgt := 874) dL_holds_867 rfl rfl ?_ ?_
      · refine mv_sub [0, 1, 2, 3, 4, 5, 6, 7, 8, 9, 10, 11, 12] rfl ?_
        exact sJ_L_holds_874 l N0 D dA a0 x1 x2 x3 x4 x5 x6 x7 x8 x9 x10 x11 x13 _ hk642
      · refine mv_iconst (v := (1 : Int32)) dL_holds_870 (by decide) rfl ?_
        refine mv_goto (q := 875) dL_holds_871 rfl ?_
        refine mv_sub [0, 1, 2, 3, 4, 5, 6, 7, 8, 9, 10, 11, 12] rfl ?_
        exact sJ_L_holds_875 l N0 D dA a0 x1 x2 x3 x4 x5 x6 x7 x8 x9 x10 x11 x13 (1 : Int32) _ hk642

def J_L_holds_826 (k642 : Int32 → Int32 → Int32 → Int32 → mv_M Int32) (a0 : Nat) (x1 : Int32) (x2 : Int32) (x3 : Int32) (x4 : Int32) (x5 : Int32) (x6 : Int32) (x7 : Int32) (x8 : Int32) (x9 : Int32) (x10 : Int32) (x11 : Int32) (x13 : Int32) (x15 : Int32) (s0 : Int32) : mv_M Int32 :=
  mv_bd (mv_rc 6 7 (some a0)) fun i39 => mv_bd (F_X6_carrier i39 x13 (4 : Int32)) fun v38 =>
  if v38 ≤ x3 then
    J_L_holds_842 k642 a0 x1 x2 x3 x4 x5 x6 x7 x8 x9 x10 x11 x13 x15 s0 (0 : Int32)
  else
    J_L_holds_842 k642 a0 x1 x2 x3 x4 x5 x6 x7 x8 x9 x10 x11 x13 x15 s0 (1 : Int32)

set_option maxHeartbeats 4000000 in
set_option maxRecDepth 100000 in
theorem sJ_L_holds_826 (l : Launch) (N0 : Nat) (D : va_G) (dA : Nat → ClassId) (a0 : Nat) (x1 : Int32) (x2 : Int32) (x3 : Int32) (x4 : Int32) (x5 : Int32) (x6 : Int32) (x7 : Int32) (x8 : Int32) (x9 : Int32) (x10 : Int32) (x11 : Int32) (x13 : Int32) (x15 : Int32) (s0 : Int32) (k642 : Int32 → Int32 → Int32 → Int32 → mv_M Int32) (hk642 : ∀ (y8 : Int32) (y9 : Int32) (y12 : Int32) (y13 : Int32), mv_Sim l N0 D dA RL cL_holds 20 7 167 (some .boolean) false mv_rI 642 [(0, mv_vr N0 (some a0)), (1, .int x1), (2, .int x2), (3, .int x3), (4, .int x4), (5, .int x5), (6, .int x6), (7, .int x7), (8, .int y8), (9, .int y9), (10, .int x10), (11, .int x11), (12, .int y12), (13, .int y13)] [] (k642 y8 y9 y12 y13)) : mv_Sim l N0 D dA RL cL_holds 20 7 167 (some .boolean) false mv_rI 826 [(0, mv_vr N0 (some a0)), (1, .int x1), (2, .int x2), (3, .int x3), (4, .int x4), (5, .int x5), (6, .int x6), (7, .int x7), (8, .int x8), (9, .int x9), (10, .int x10), (11, .int x11), (13, .int x13), (15, .int x15)] [.int s0] (J_L_holds_826 k642 a0 x1 x2 x3 x4 x5 x6 x7 x8 x9 x10 x11 x13 x15 s0) := by
  unfold J_L_holds_826
  refine mv_iload_n 3 dL_holds_826 rfl rfl rfl ?_
  refine mv_aload_n 0 dL_holds_827 rfl rfl rfl ?_
  refine mv_iload 12 dL_holds_828 rfl rfl ?_
  refine mv_iconst (v := (4 : Int32)) dL_holds_830 (by decide) rfl ?_
  refine mv_callVi (st := [.int x3, .int s0]) [.int x13, .int (4 : Int32)] (fun i39 => c_X6_carrier l N0 D dA i39 x13 (4 : Int32)) (T := TX6) rfl (by decide) wc_L_19 ⟨by decide, by decide⟩ rfl (Nat.le_of_ble_eq_true rfl) dL_holds_831 rfl (fun v38 => ?_)
  refine mv_icmp_ge (tgt := 841) dL_holds_834 rfl rfl ?_ ?_
  · refine mv_iconst (v := (0 : Int32)) dL_holds_841 (by decide) rfl ?_
    refine mv_sub [0, 1, 2, 3, 4, 5, 6, 7, 8, 9, 10, 11, 12, 13] rfl ?_
    exact sJ_L_holds_842 l N0 D dA a0 x1 x2 x3 x4 x5 x6 x7 x8 x9 x10 x11 x13 x15 s0 (0 : Int32) _ hk642
  · refine mv_iconst (v := (1 : Int32)) dL_holds_837 (by decide) rfl ?_
    refine mv_goto (q := 842) dL_holds_838 rfl ?_
    refine mv_sub [0, 1, 2, 3, 4, 5, 6, 7, 8, 9, 10, 11, 12, 13] rfl ?_
    exact sJ_L_holds_842 l N0 D dA a0 x1 x2 x3 x4 x5 x6 x7 x8 x9 x10 x11 x13 x15 s0 (1 : Int32) _ hk642

def J_L_holds_811 (k642 : Int32 → Int32 → Int32 → Int32 → mv_M Int32) (a0 : Nat) (x1 : Int32) (x2 : Int32) (x3 : Int32) (x4 : Int32) (x5 : Int32) (x6 : Int32) (x7 : Int32) (x8 : Int32) (x9 : Int32) (x10 : Int32) (x11 : Int32) (x13 : Int32) (x15 : Int32) (s0 : Int32) (s1 : Int32) : mv_M Int32 :=
  if s0 = s1 then
    if x15 = ((-4) : Int32) then
      J_L_holds_826 k642 a0 x1 x2 x3 x4 x5 x6 x7 x8 x9 x10 x11 x13 x15 (1 : Int32)
    else
      J_L_holds_826 k642 a0 x1 x2 x3 x4 x5 x6 x7 x8 x9 x10 x11 x13 x15 (0 : Int32)
  else
    J_L_holds_874 k642 a0 x1 x2 x3 x4 x5 x6 x7 x8 x9 x10 x11 x13

set_option maxHeartbeats 4000000 in
set_option maxRecDepth 100000 in
theorem sJ_L_holds_811 (l : Launch) (N0 : Nat) (D : va_G) (dA : Nat → ClassId) (a0 : Nat) (x1 : Int32) (x2 : Int32) (x3 : Int32) (x4 : Int32) (x5 : Int32) (x6 : Int32) (x7 : Int32) (x8 : Int32) (x9 : Int32) (x10 : Int32) (x11 : Int32) (x13 : Int32) (x15 : Int32) (s0 : Int32) (s1 : Int32) (k642 : Int32 → Int32 → Int32 → Int32 → mv_M Int32) (hk642 : ∀ (y8 : Int32) (y9 : Int32) (y12 : Int32) (y13 : Int32), mv_Sim l N0 D dA RL cL_holds 20 7 167 (some .boolean) false mv_rI 642 [(0, mv_vr N0 (some a0)), (1, .int x1), (2, .int x2), (3, .int x3), (4, .int x4), (5, .int x5), (6, .int x6), (7, .int x7), (8, .int y8), (9, .int y9), (10, .int x10), (11, .int x11), (12, .int y12), (13, .int y13)] [] (k642 y8 y9 y12 y13)) : mv_Sim l N0 D dA RL cL_holds 20 7 167 (some .boolean) false mv_rI 811 [(0, mv_vr N0 (some a0)), (1, .int x1), (2, .int x2), (3, .int x3), (4, .int x4), (5, .int x5), (6, .int x6), (7, .int x7), (8, .int x8), (9, .int x9), (10, .int x10), (11, .int x11), (13, .int x13), (15, .int x15)] [.int s1, .int s0] (J_L_holds_811 k642 a0 x1 x2 x3 x4 x5 x6 x7 x8 x9 x10 x11 x13 x15 s0 s1) := by
  unfold J_L_holds_811
  refine mv_icmp_ne (tgt := 874) dL_holds_811 rfl rfl ?_ ?_
  · refine mv_sub [0, 1, 2, 3, 4, 5, 6, 7, 8, 9, 10, 11, 12] rfl ?_
    exact sJ_L_holds_874 l N0 D dA a0 x1 x2 x3 x4 x5 x6 x7 x8 x9 x10 x11 x13 _ hk642
  · refine mv_iload 13 dL_holds_814 rfl rfl ?_
    refine mv_bipush (v := ((-4) : Int32)) dL_holds_816 (by decide) rfl ?_
    refine mv_icmp_ne (tgt := 825) dL_holds_818 rfl rfl ?_ ?_
    · refine mv_iconst (v := (0 : Int32)) dL_holds_825 (by decide) rfl ?_
      refine mv_sub [0, 1, 2, 3, 4, 5, 6, 7, 8, 9, 10, 11, 12, 13] rfl ?_
      exact sJ_L_holds_826 l N0 D dA a0 x1 x2 x3 x4 x5 x6 x7 x8 x9 x10 x11 x13 x15 (0 : Int32) _ hk642
    · refine mv_iconst (v := (1 : Int32)) dL_holds_821 (by decide) rfl ?_
      refine mv_goto (q := 826) dL_holds_822 rfl ?_
      refine mv_sub [0, 1, 2, 3, 4, 5, 6, 7, 8, 9, 10, 11, 12, 13] rfl ?_
      exact sJ_L_holds_826 l N0 D dA a0 x1 x2 x3 x4 x5 x6 x7 x8 x9 x10 x11 x13 x15 (1 : Int32) _ hk642

def Lp_L_holds_697 (k642 : Int32 → Int32 → Int32 → Int32 → mv_M Int32) (a0 : Nat) (x1 : Int32) (x2 : Int32) (x3 : Int32) (x4 : Int32) (x5 : Int32) (x6 : Int32) (x7 : Int32) (x8 : Int32) (x9 : Int32) (x10 : Int32) (x11 : Int32) (x13 : Int32) (x15 : Int32) : Nat → Int32 → Int32 → mv_M Int32
  | 0, _, _ => mv_fl
  | n + 1, x14, x16 =>
    if x1 ≤ x16 then
      mv_bd (mv_rc 6 7 (some a0)) fun i41 => mv_bd (F_X6_carrier i41 x13 (0 : Int32)) fun v40 =>
      if v40 < (1 : Int32) then
        J_L_holds_874 k642 a0 x1 x2 x3 x4 x5 x6 x7 x8 x9 x10 x11 x13
      else
        mv_bd (mv_rc 6 7 (some a0)) fun i43 => mv_bd (F_X6_carrier i43 x13 (0 : Int32)) fun v42 =>
        if (7 : Int32) < v42 then
          J_L_holds_874 k642 a0 x1 x2 x3 x4 x5 x6 x7 x8 x9 x10 x11 x13
        else
          mv_bd (mv_rc 6 7 (some a0)) fun i45 => mv_bd (F_X6_carrier i45 x13 (1 : Int32)) fun v44 =>
          if v44 < 0 then
            J_L_holds_874 k642 a0 x1 x2 x3 x4 x5 x6 x7 x8 x9 x10 x11 x13
          else
            mv_bd (mv_rc 6 7 (some a0)) fun i47 => mv_bd (F_X6_carrier i47 x13 (1 : Int32)) fun v46 =>
            if (9 : Int32) < v46 then
              J_L_holds_874 k642 a0 x1 x2 x3 x4 x5 x6 x7 x8 x9 x10 x11 x13
            else
              mv_bd (mv_rc 6 7 (some a0)) fun i49 => mv_bd (F_X6_carrier i49 x13 (2 : Int32)) fun v48 =>
              if v48 = x14 then
                mv_bd (mv_rc 6 7 (some a0)) fun i51 => mv_bd (F_X6_carrier i51 x13 (3 : Int32)) fun v50 =>
                mv_bd (mv_rc 6 7 (some a0)) fun i53 => mv_bd (F_X6_count i53 (13 : Int32)) fun v52 =>
                if v52 ≤ x14 then
                  J_L_holds_811 k642 a0 x1 x2 x3 x4 x5 x6 x7 x8 x9 x10 x11 x13 x15 v50 (1 : Int32)
                else
                  J_L_holds_811 k642 a0 x1 x2 x3 x4 x5 x6 x7 x8 x9 x10 x11 x13 x15 v50 (0 : Int32)
              else
                J_L_holds_874 k642 a0 x1 x2 x3 x4 x5 x6 x7 x8 x9 x10 x11 x13
    else
      mv_bd (mv_rc 6 7 (some a0)) fun i55 => mv_bd (F_X6_bundle i55 x16 (2 : Int32)) fun v54 =>
      if v54 = x13 then
        J_L_holds_722 (Lp_L_holds_697 k642 a0 x1 x2 x3 x4 x5 x6 x7 x8 x9 x10 x11 x13 x15 n) a0 x1 x2 x3 x4 x5 x6 x7 x8 x9 x10 x11 x13 x15 x16 x14 (1 : Int32)
      else
        J_L_holds_722 (Lp_L_holds_697 k642 a0 x1 x2 x3 x4 x5 x6 x7 x8 x9 x10 x11 x13 x15 n) a0 x1 x2 x3 x4 x5 x6 x7 x8 x9 x10 x11 x13 x15 x16 x14 (0 : Int32)

set_option maxHeartbeats 4000000 in
set_option maxRecDepth 100000 in
theorem sLp_L_holds_697 (l : Launch) (N0 : Nat) (D : va_G) (dA : Nat → ClassId) (a0 : Nat) (x1 : Int32) (x2 : Int32) (x3 : Int32) (x4 : Int32) (x5 : Int32) (x6 : Int32) (x7 : Int32) (x8 : Int32) (x9 : Int32) (x10 : Int32) (x11 : Int32) (x13 : Int32) (x15 : Int32) (k642 : Int32 → Int32 → Int32 → Int32 → mv_M Int32) (hk642 : ∀ (y8 : Int32) (y9 : Int32) (y12 : Int32) (y13 : Int32), mv_Sim l N0 D dA RL cL_holds 20 7 167 (some .boolean) false mv_rI 642 [(0, mv_vr N0 (some a0)), (1, .int x1), (2, .int x2), (3, .int x3), (4, .int x4), (5, .int x5), (6, .int x6), (7, .int x7), (8, .int y8), (9, .int y9), (10, .int x10), (11, .int x11), (12, .int y12), (13, .int y13)] [] (k642 y8 y9 y12 y13)) : ∀ (n : Nat) (x14 : Int32) (x16 : Int32), mv_Sim l N0 D dA RL cL_holds 20 7 167 (some .boolean) false mv_rI 697 [(0, mv_vr N0 (some a0)), (1, .int x1), (2, .int x2), (3, .int x3), (4, .int x4), (5, .int x5), (6, .int x6), (7, .int x7), (8, .int x8), (9, .int x9), (10, .int x10), (11, .int x11), (13, .int x13), (14, .int x14), (15, .int x15), (16, .int x16)] [] (Lp_L_holds_697 k642 a0 x1 x2 x3 x4 x5 x6 x7 x8 x9 x10 x11 x13 x15 n x14 x16) := by
  intro n
  induction n with
  | zero => intro x14 x16; rw [Lp_L_holds_697]; exact mv_fl_sim
  | succ n ih =>
    intro x14 x16
    rw [Lp_L_holds_697]
    refine mv_iload 15 dL_holds_697 rfl rfl ?_
    refine mv_iload_n 1 dL_holds_699 rfl rfl rfl ?_
    refine mv_icmp_ge (tgt := 731) dL_holds_700 rfl rfl ?_ ?_
    · refine mv_aload_n 0 dL_holds_731 rfl rfl rfl ?_
      refine mv_iload 12 dL_holds_732 rfl rfl ?_
      refine mv_iconst (v := (0 : Int32)) dL_holds_734 (by decide) rfl ?_
      refine mv_callVi (st := []) [.int x13, .int (0 : Int32)] (fun i41 => c_X6_carrier l N0 D dA i41 x13 (0 : Int32)) (T := TX6) rfl (by decide) wc_L_19 ⟨by decide, by decide⟩ rfl (Nat.le_of_ble_eq_true rfl) dL_holds_735 rfl (fun v40 => ?_)
      refine mv_iconst (v := (1 : Int32)) dL_holds_738 (by decide) rfl ?_
      refine mv_icmp_lt (tgt := 874) dL_holds_739 rfl rfl ?_ ?_
      · refine mv_sub [0, 1, 2, 3, 4, 5, 6, 7, 8, 9, 10, 11, 12] rfl ?_
        exact sJ_L_holds_874 l N0 D dA a0 x1 x2 x3 x4 x5 x6 x7 x8 x9 x10 x11 x13 _ hk642
      · refine mv_aload_n 0 dL_holds_742 rfl rfl rfl ?_
        refine mv_iload 12 dL_holds_743 rfl rfl ?_
        refine mv_iconst (v := (0 : Int32)) dL_holds_745 (by decide) rfl ?_
        refine mv_callVi (st := []) [.int x13, .int (0 : Int32)] (fun i43 => c_X6_carrier l N0 D dA i43 x13 (0 : Int32)) (T := TX6) rfl (by decide) wc_L_19 ⟨by decide, by decide⟩ rfl (Nat.le_of_ble_eq_true rfl) dL_holds_746 rfl (fun v42 => ?_)
        refine mv_bipush (v := (7 : Int32)) dL_holds_749 (by decide) rfl ?_
        refine mv_icmp_gt (tgt := 874) dL_holds_751 rfl rfl ?_ ?_
        · refine mv_sub [0, 1, 2, 3, 4, 5, 6, 7, 8, 9, 10, 11, 12] rfl ?_
          exact sJ_L_holds_874 l N0 D dA a0 x1 x2 x3 x4 x5 x6 x7 x8 x9 x10 x11 x13 _ hk642
        · refine mv_aload_n 0 dL_holds_754 rfl rfl rfl ?_
          refine mv_iload 12 dL_holds_755 rfl rfl ?_
          refine mv_iconst (v := (1 : Int32)) dL_holds_757 (by decide) rfl ?_
          refine mv_callVi (st := []) [.int x13, .int (1 : Int32)] (fun i45 => c_X6_carrier l N0 D dA i45 x13 (1 : Int32)) (T := TX6) rfl (by decide) wc_L_19 ⟨by decide, by decide⟩ rfl (Nat.le_of_ble_eq_true rfl) dL_holds_758 rfl (fun v44 => ?_)
          refine mv_if_lt (tgt := 874) dL_holds_761 rfl rfl ?_ ?_
          · refine mv_sub [0, 1, 2, 3, 4, 5, 6, 7, 8, 9, 10, 11, 12] rfl ?_
            exact sJ_L_holds_874 l N0 D dA a0 x1 x2 x3 x4 x5 x6 x7 x8 x9 x10 x11 x13 _ hk642
          · refine mv_aload_n 0 dL_holds_764 rfl rfl rfl ?_
            refine mv_iload 12 dL_holds_765 rfl rfl ?_
            refine mv_iconst (v := (1 : Int32)) dL_holds_767 (by decide) rfl ?_
            refine mv_callVi (st := []) [.int x13, .int (1 : Int32)] (fun i47 => c_X6_carrier l N0 D dA i47 x13 (1 : Int32)) (T := TX6) rfl (by decide) wc_L_19 ⟨by decide, by decide⟩ rfl (Nat.le_of_ble_eq_true rfl) dL_holds_768 rfl (fun v46 => ?_)
            refine mv_bipush (v := (9 : Int32)) dL_holds_771 (by decide) rfl ?_
            refine mv_icmp_gt (tgt := 874) dL_holds_773 rfl rfl ?_ ?_
            · refine mv_sub [0, 1, 2, 3, 4, 5, 6, 7, 8, 9, 10, 11, 12] rfl ?_
              exact sJ_L_holds_874 l N0 D dA a0 x1 x2 x3 x4 x5 x6 x7 x8 x9 x10 x11 x13 _ hk642
            · refine mv_aload_n 0 dL_holds_776 rfl rfl rfl ?_
              refine mv_iload 12 dL_holds_777 rfl rfl ?_
              refine mv_iconst (v := (2 : Int32)) dL_holds_779 (by decide) rfl ?_
              refine mv_callVi (st := []) [.int x13, .int (2 : Int32)] (fun i49 => c_X6_carrier l N0 D dA i49 x13 (2 : Int32)) (T := TX6) rfl (by decide) wc_L_19 ⟨by decide, by decide⟩ rfl (Nat.le_of_ble_eq_true rfl) dL_holds_780 rfl (fun v48 => ?_)
              refine mv_iload 13 dL_holds_783 rfl rfl ?_
              refine mv_icmp_ne (tgt := 874) dL_holds_785 rfl rfl ?_ ?_
              · refine mv_sub [0, 1, 2, 3, 4, 5, 6, 7, 8, 9, 10, 11, 12] rfl ?_
                exact sJ_L_holds_874 l N0 D dA a0 x1 x2 x3 x4 x5 x6 x7 x8 x9 x10 x11 x13 _ hk642
              · refine mv_aload_n 0 dL_holds_788 rfl rfl rfl ?_
                refine mv_iload 12 dL_holds_789 rfl rfl ?_
                refine mv_iconst (v := (3 : Int32)) dL_holds_791 (by decide) rfl ?_
                refine mv_callVi (st := []) [.int x13, .int (3 : Int32)] (fun i51 => c_X6_carrier l N0 D dA i51 x13 (3 : Int32)) (T := TX6) rfl (by decide) wc_L_19 ⟨by decide, by decide⟩ rfl (Nat.le_of_ble_eq_true rfl) dL_holds_792 rfl (fun v50 => ?_)
                refine mv_iload 13 dL_holds_795 rfl rfl ?_
                refine mv_aload_n 0 dL_holds_797 rfl rfl rfl ?_
                refine mv_bipush (v := (13 : Int32)) dL_holds_798 (by decide) rfl ?_
                refine mv_callVi (st := [.int x14, .int v50]) [.int (13 : Int32)] (fun i53 => c_X6_count l N0 D dA i53 (13 : Int32)) (T := TX6) rfl (by decide) wc_L_13 ⟨by decide, by decide⟩ rfl (Nat.le_of_ble_eq_true rfl) dL_holds_800 rfl (fun v52 => ?_)
                refine mv_icmp_ge (tgt := 810) dL_holds_803 rfl rfl ?_ ?_
                · refine mv_iconst (v := (1 : Int32)) dL_holds_810 (by decide) rfl ?_
                  refine mv_sub [0, 1, 2, 3, 4, 5, 6, 7, 8, 9, 10, 11, 12, 14] rfl ?_
                  exact sJ_L_holds_811 l N0 D dA a0 x1 x2 x3 x4 x5 x6 x7 x8 x9 x10 x11 x13 x15 v50 (1 : Int32) _ hk642
                · refine mv_iconst (v := (0 : Int32)) dL_holds_806 (by decide) rfl ?_
                  refine mv_goto (q := 811) dL_holds_807 rfl ?_
                  refine mv_sub [0, 1, 2, 3, 4, 5, 6, 7, 8, 9, 10, 11, 12, 14] rfl ?_
                  exact sJ_L_holds_811 l N0 D dA a0 x1 x2 x3 x4 x5 x6 x7 x8 x9 x10 x11 x13 x15 v50 (0 : Int32) _ hk642
    · refine mv_iload 13 dL_holds_703 rfl rfl ?_
      refine mv_aload_n 0 dL_holds_705 rfl rfl rfl ?_
      refine mv_iload 15 dL_holds_706 rfl rfl ?_
      refine mv_iconst (v := (2 : Int32)) dL_holds_708 (by decide) rfl ?_
      refine mv_callVi (st := [.int x14]) [.int x16, .int (2 : Int32)] (fun i55 => c_X6_bundle l N0 D dA i55 x16 (2 : Int32)) (T := TX6) rfl (by decide) wc_L_26 ⟨by decide, by decide⟩ rfl (Nat.le_of_ble_eq_true rfl) dL_holds_709 rfl (fun v54 => ?_)
      refine mv_iload 12 dL_holds_712 rfl rfl ?_
      refine mv_icmp_ne (tgt := 721) dL_holds_714 rfl rfl ?_ ?_
      · refine mv_iconst (v := (0 : Int32)) dL_holds_721 (by decide) rfl ?_
        refine mv_sub [0, 1, 2, 3, 4, 5, 6, 7, 8, 9, 10, 11, 12, 14, 15] rfl ?_
        exact sJ_L_holds_722 l N0 D dA a0 x1 x2 x3 x4 x5 x6 x7 x8 x9 x10 x11 x13 x15 x16 x14 (0 : Int32) _ ih
      · refine mv_iconst (v := (1 : Int32)) dL_holds_717 (by decide) rfl ?_
        refine mv_goto (q := 722) dL_holds_718 rfl ?_
        refine mv_sub [0, 1, 2, 3, 4, 5, 6, 7, 8, 9, 10, 11, 12, 14, 15] rfl ?_
        exact sJ_L_holds_722 l N0 D dA a0 x1 x2 x3 x4 x5 x6 x7 x8 x9 x10 x11 x13 x15 x16 x14 (1 : Int32) _ ih

def J_L_holds_691 (k642 : Int32 → Int32 → Int32 → Int32 → mv_M Int32) (a0 : Nat) (x1 : Int32) (x2 : Int32) (x3 : Int32) (x4 : Int32) (x5 : Int32) (x6 : Int32) (x7 : Int32) (x9 : Int32) (x10 : Int32) (x11 : Int32) (x13 : Int32) (x14 : Int32) (x15 : Int32) (s0 : Int32) (s1 : Int32) : mv_M Int32 :=
  mv_bd (mv_pu (s0 + s1)) fun v56 =>
  Lp_L_holds_697 k642 a0 x1 x2 x3 x4 x5 x6 x7 v56 x9 x10 x11 x13 x15 mv_FU x14 (0 : Int32)

set_option maxHeartbeats 4000000 in
set_option maxRecDepth 100000 in
theorem sJ_L_holds_691 (l : Launch) (N0 : Nat) (D : va_G) (dA : Nat → ClassId) (a0 : Nat) (x1 : Int32) (x2 : Int32) (x3 : Int32) (x4 : Int32) (x5 : Int32) (x6 : Int32) (x7 : Int32) (x9 : Int32) (x10 : Int32) (x11 : Int32) (x13 : Int32) (x14 : Int32) (x15 : Int32) (s0 : Int32) (s1 : Int32) (k642 : Int32 → Int32 → Int32 → Int32 → mv_M Int32) (hk642 : ∀ (y8 : Int32) (y9 : Int32) (y12 : Int32) (y13 : Int32), mv_Sim l N0 D dA RL cL_holds 20 7 167 (some .boolean) false mv_rI 642 [(0, mv_vr N0 (some a0)), (1, .int x1), (2, .int x2), (3, .int x3), (4, .int x4), (5, .int x5), (6, .int x6), (7, .int x7), (8, .int y8), (9, .int y9), (10, .int x10), (11, .int x11), (12, .int y12), (13, .int y13)] [] (k642 y8 y9 y12 y13)) : mv_Sim l N0 D dA RL cL_holds 20 7 167 (some .boolean) false mv_rI 691 [(0, mv_vr N0 (some a0)), (1, .int x1), (2, .int x2), (3, .int x3), (4, .int x4), (5, .int x5), (6, .int x6), (7, .int x7), (9, .int x9), (10, .int x10), (11, .int x11), (13, .int x13), (14, .int x14), (15, .int x15)] [.int s1, .int s0] (J_L_holds_691 k642 a0 x1 x2 x3 x4 x5 x6 x7 x9 x10 x11 x13 x14 x15 s0 s1) := by
  unfold J_L_holds_691
  refine mv_iadd dL_holds_691 rfl ?_
  refine mv_let (fun v56 => ?_)
  refine mw_istore rfl dL_holds_692 (by decide) rfl rfl ?_
  refine mv_iconst (v := (0 : Int32)) dL_holds_694 (by decide) rfl ?_
  refine mw_istore rfl dL_holds_695 (by decide) rfl rfl ?_
  refine mv_sub [2, 3, 4, 5, 6, 7, 8, 9, 1, 10, 11, 12, 13, 14, 15, 0] rfl ?_
  exact sLp_L_holds_697 l N0 D dA a0 x1 x2 x3 x4 x5 x6 x7 v56 x9 x10 x11 x13 x15 _ hk642 mv_FU x14 (0 : Int32)

def J_L_holds_992 (a0 : Nat) (s0 : Int32) : mv_M Int32 :=
  mv_rz s0

set_option maxHeartbeats 4000000 in
set_option maxRecDepth 100000 in
theorem sJ_L_holds_992 (l : Launch) (N0 : Nat) (D : va_G) (dA : Nat → ClassId) (a0 : Nat) (s0 : Int32) : mv_Sim l N0 D dA RL cL_holds 20 7 167 (some .boolean) false mv_rI 992 [(0, mv_vr N0 (some a0))] [.int s0] (J_L_holds_992 a0 s0) := by
  unfold J_L_holds_992
  exact mv_zret dL_holds_992

def J_L_holds_991 (a0 : Nat) : mv_M Int32 :=
  J_L_holds_992 a0 (0 : Int32)

set_option maxHeartbeats 4000000 in
set_option maxRecDepth 100000 in
theorem sJ_L_holds_991 (l : Launch) (N0 : Nat) (D : va_G) (dA : Nat → ClassId) (a0 : Nat) : mv_Sim l N0 D dA RL cL_holds 20 7 167 (some .boolean) false mv_rI 991 [(0, mv_vr N0 (some a0))] [] (J_L_holds_991 a0) := by
  unfold J_L_holds_991
  refine mv_iconst (v := (0 : Int32)) dL_holds_991 (by decide) rfl ?_
  refine mv_sub [0] rfl ?_
  exact sJ_L_holds_992 l N0 D dA a0 (0 : Int32)

def J_L_holds_983 (a0 : Nat) (s0 : UInt64) (s1 : UInt64) : mv_M Int32 :=
  if (Op.cmpValue (FP.dcmp s0 s1) .l) = 0 then
    J_L_holds_992 a0 (1 : Int32)
  else
    J_L_holds_991 a0

set_option maxHeartbeats 4000000 in
set_option maxRecDepth 100000 in
theorem sJ_L_holds_983 (l : Launch) (N0 : Nat) (D : va_G) (dA : Nat → ClassId) (a0 : Nat) (s0 : UInt64) (s1 : UInt64) : mv_Sim l N0 D dA RL cL_holds 20 7 167 (some .boolean) false mv_rI 983 [(0, mv_vr N0 (some a0))] [.double s1, .double s0] (J_L_holds_983 a0 s0 s1) := by
  unfold J_L_holds_983
  refine mv_dcmp dL_holds_983 rfl ?_
  refine mv_if_ne (tgt := 991) dL_holds_984 rfl rfl ?_ ?_
  · refine mv_sub [0] rfl ?_
    exact sJ_L_holds_991 l N0 D dA a0
  · refine mv_iconst (v := (1 : Int32)) dL_holds_987 (by decide) rfl ?_
    refine mv_goto (q := 992) dL_holds_988 rfl ?_
    refine mv_sub [0] rfl ?_
    exact sJ_L_holds_992 l N0 D dA a0 (1 : Int32)

def J_L_holds_883 (a0 : Nat) (x4 : Int32) (x5 : Int32) (x6 : Int32) (x7 : Int32) (x8 : Int32) (x9 : Int32) (x10 : Int32) (x11 : Int32) (x12 : Int32) : mv_M Int32 :=
  if x12 = 0 then
    J_L_holds_991 a0
  else
    mv_bd (mv_rc 6 7 (some a0)) fun i58 => mv_bd (F_X6_count i58 (5 : Int32)) fun v57 =>
    if x4 = v57 then
      mv_bd (mv_rc 6 7 (some a0)) fun i60 => mv_bd (F_X6_count i60 (6 : Int32)) fun v59 =>
      if x5 = v59 then
        mv_bd (mv_rc 6 7 (some a0)) fun i62 => mv_bd (F_X6_count i62 (7 : Int32)) fun v61 =>
        if x6 = v61 then
          mv_bd (mv_rc 6 7 (some a0)) fun i64 => mv_bd (F_X6_count i64 (8 : Int32)) fun v63 =>
          if x7 = v63 then
            mv_bd (mv_rc 6 7 (some a0)) fun i66 => mv_bd (F_X6_count i66 (3 : Int32)) fun v65 =>
            if x8 = v65 then
              mv_bd (mv_rc 6 7 (some a0)) fun i68 => mv_bd (F_X6_count i68 (12 : Int32)) fun v67 =>
              if x9 = v67 then
                mv_bd (mv_rc 6 7 (some a0)) fun i70 => mv_bd (F_X6_count i70 (10 : Int32)) fun v69 =>
                if v69 < x6 then
                  J_L_holds_991 a0
                else
                  mv_bd (mv_rc 6 7 (some a0)) fun i72 => mv_bd (F_X6_lateness i72 ) fun v71 =>
                  if x11 = 0 then
                    J_L_holds_983 a0 v71 FP.dconst0
                  else
                    mv_bd (mv_dd (FP.i2d x10) (FP.i2d x11)) fun v73 =>
                    J_L_holds_983 a0 v71 v73
              else
                J_L_holds_991 a0
            else
              J_L_holds_991 a0
          else
            J_L_holds_991 a0
        else
          J_L_holds_991 a0
      else
        J_L_holds_991 a0
    else
      J_L_holds_991 a0

set_option maxHeartbeats 4000000 in
set_option maxRecDepth 100000 in
theorem sJ_L_holds_883 (l : Launch) (N0 : Nat) (D : va_G) (dA : Nat → ClassId) (a0 : Nat) (x4 : Int32) (x5 : Int32) (x6 : Int32) (x7 : Int32) (x8 : Int32) (x9 : Int32) (x10 : Int32) (x11 : Int32) (x12 : Int32) : mv_Sim l N0 D dA RL cL_holds 20 7 167 (some .boolean) false mv_rI 883 [(0, mv_vr N0 (some a0)), (4, .int x4), (5, .int x5), (6, .int x6), (7, .int x7), (8, .int x8), (9, .int x9), (10, .int x10), (11, .int x11), (12, .int x12)] [] (J_L_holds_883 a0 x4 x5 x6 x7 x8 x9 x10 x11 x12) := by
  unfold J_L_holds_883
  refine mv_iload 9 dL_holds_883 rfl rfl ?_
  refine mv_if_eq (tgt := 991) dL_holds_885 rfl rfl ?_ ?_
  · refine mv_sub [0] rfl ?_
    exact sJ_L_holds_991 l N0 D dA a0
  · refine mv_iload 1 dL_holds_888 rfl rfl ?_
    refine mv_aload_n 0 dL_holds_890 rfl rfl rfl ?_
    refine mv_iconst (v := (5 : Int32)) dL_holds_891 (by decide) rfl ?_
    refine mv_callVi (st := [.int x4]) [.int (5 : Int32)] (fun i58 => c_X6_count l N0 D dA i58 (5 : Int32)) (T := TX6) rfl (by decide) wc_L_13 ⟨by decide, by decide⟩ rfl (Nat.le_of_ble_eq_true rfl) dL_holds_892 rfl (fun v57 => ?_)
    refine mv_icmp_ne (tgt := 991) dL_holds_895 rfl rfl ?_ ?_
    · refine mv_sub [0] rfl ?_
      exact sJ_L_holds_991 l N0 D dA a0
    · refine mv_iload 2 dL_holds_898 rfl rfl ?_
      refine mv_aload_n 0 dL_holds_900 rfl rfl rfl ?_
      refine mv_bipush (v := (6 : Int32)) dL_holds_901 (by decide) rfl ?_
      refine mv_callVi (st := [.int x5]) [.int (6 : Int32)] (fun i60 => c_X6_count l N0 D dA i60 (6 : Int32)) (T := TX6) rfl (by decide) wc_L_13 ⟨by decide, by decide⟩ rfl (Nat.le_of_ble_eq_true rfl) dL_holds_903 rfl (fun v59 => ?_)
      refine mv_icmp_ne (tgt := 991) dL_holds_906 rfl rfl ?_ ?_
      · refine mv_sub [0] rfl ?_
        exact sJ_L_holds_991 l N0 D dA a0
      · refine mv_iload 3 dL_holds_909 rfl rfl ?_
        refine mv_aload_n 0 dL_holds_911 rfl rfl rfl ?_
        refine mv_bipush (v := (7 : Int32)) dL_holds_912 (by decide) rfl ?_
        refine mv_callVi (st := [.int x6]) [.int (7 : Int32)] (fun i62 => c_X6_count l N0 D dA i62 (7 : Int32)) (T := TX6) rfl (by decide) wc_L_13 ⟨by decide, by decide⟩ rfl (Nat.le_of_ble_eq_true rfl) dL_holds_914 rfl (fun v61 => ?_)
        refine mv_icmp_ne (tgt := 991) dL_holds_917 rfl rfl ?_ ?_
        · refine mv_sub [0] rfl ?_
          exact sJ_L_holds_991 l N0 D dA a0
        · refine mv_iload 4 dL_holds_920 rfl rfl ?_
          refine mv_aload_n 0 dL_holds_922 rfl rfl rfl ?_
          refine mv_bipush (v := (8 : Int32)) dL_holds_923 (by decide) rfl ?_
          refine mv_callVi (st := [.int x7]) [.int (8 : Int32)] (fun i64 => c_X6_count l N0 D dA i64 (8 : Int32)) (T := TX6) rfl (by decide) wc_L_13 ⟨by decide, by decide⟩ rfl (Nat.le_of_ble_eq_true rfl) dL_holds_925 rfl (fun v63 => ?_)
          refine mv_icmp_ne (tgt := 991) dL_holds_928 rfl rfl ?_ ?_
          · refine mv_sub [0] rfl ?_
            exact sJ_L_holds_991 l N0 D dA a0
          · refine mv_iload 5 dL_holds_931 rfl rfl ?_
            refine mv_aload_n 0 dL_holds_933 rfl rfl rfl ?_
            refine mv_iconst (v := (3 : Int32)) dL_holds_934 (by decide) rfl ?_
            refine mv_callVi (st := [.int x8]) [.int (3 : Int32)] (fun i66 => c_X6_count l N0 D dA i66 (3 : Int32)) (T := TX6) rfl (by decide) wc_L_13 ⟨by decide, by decide⟩ rfl (Nat.le_of_ble_eq_true rfl) dL_holds_935 rfl (fun v65 => ?_)
            refine mv_icmp_ne (tgt := 991) dL_holds_938 rfl rfl ?_ ?_
            · refine mv_sub [0] rfl ?_
              exact sJ_L_holds_991 l N0 D dA a0
            · refine mv_iload 6 dL_holds_941 rfl rfl ?_
              refine mv_aload_n 0 dL_holds_943 rfl rfl rfl ?_
              refine mv_bipush (v := (12 : Int32)) dL_holds_944 (by decide) rfl ?_
              refine mv_callVi (st := [.int x9]) [.int (12 : Int32)] (fun i68 => c_X6_count l N0 D dA i68 (12 : Int32)) (T := TX6) rfl (by decide) wc_L_13 ⟨by decide, by decide⟩ rfl (Nat.le_of_ble_eq_true rfl) dL_holds_946 rfl (fun v67 => ?_)
              refine mv_icmp_ne (tgt := 991) dL_holds_949 rfl rfl ?_ ?_
              · refine mv_sub [0] rfl ?_
                exact sJ_L_holds_991 l N0 D dA a0
              · refine mv_aload_n 0 dL_holds_952 rfl rfl rfl ?_
                refine mv_bipush (v := (10 : Int32)) dL_holds_953 (by decide) rfl ?_
                refine mv_callVi (st := []) [.int (10 : Int32)] (fun i70 => c_X6_count l N0 D dA i70 (10 : Int32)) (T := TX6) rfl (by decide) wc_L_13 ⟨by decide, by decide⟩ rfl (Nat.le_of_ble_eq_true rfl) dL_holds_955 rfl (fun v69 => ?_)
                refine mv_iload 3 dL_holds_958 rfl rfl ?_
                refine mv_icmp_lt (tgt := 991) dL_holds_960 rfl rfl ?_ ?_
                · refine mv_sub [0] rfl ?_
                  exact sJ_L_holds_991 l N0 D dA a0
                · refine mv_aload_n 0 dL_holds_963 rfl rfl rfl ?_
                  refine mv_callVd (st := []) [] (fun i72 => c_X6_lateness l N0 D dA i72 ) (T := TX6) rfl (by decide) wc_L_34 ⟨by decide, by decide⟩ rfl (Nat.le_of_ble_eq_true rfl) dL_holds_964 rfl (fun v71 => ?_)
                  refine mv_iload 8 dL_holds_967 rfl rfl ?_
                  refine mv_if_ne (tgt := 976) dL_holds_969 rfl rfl ?_ ?_
                  · refine mv_iload 7 dL_holds_976 rfl rfl ?_
                    refine mv_i2d dL_holds_978 rfl ?_
                    refine mv_iload 8 dL_holds_979 rfl rfl ?_
                    refine mv_i2d dL_holds_981 rfl ?_
                    refine mv_ddiv dL_holds_982 rfl (fun v73 => ?_)
                    refine mv_sub [0] rfl ?_
                    exact sJ_L_holds_983 l N0 D dA a0 v71 v73
                  · refine mv_dconst0 dL_holds_972 rfl ?_
                    refine mv_goto (q := 983) dL_holds_973 rfl ?_
                    refine mv_sub [0] rfl ?_
                    exact sJ_L_holds_983 l N0 D dA a0 v71 FP.dconst0

def Lp_L_holds_642 (a0 : Nat) (x1 : Int32) (x2 : Int32) (x3 : Int32) (x4 : Int32) (x5 : Int32) (x6 : Int32) (x7 : Int32) (x10 : Int32) (x11 : Int32) : Nat → Int32 → Int32 → Int32 → Int32 → mv_M Int32
  | 0, _, _, _, _ => mv_fl
  | n + 1, x8, x9, x12, x13 =>
    if x2 ≤ x13 then
      J_L_holds_883 a0 x4 x5 x6 x7 x8 x9 x10 x11 x12
    else
      if x12 = 0 then
        J_L_holds_883 a0 x4 x5 x6 x7 x8 x9 x10 x11 x12
      else
        mv_bd (mv_rc 6 7 (some a0)) fun i75 => mv_bd (F_X6_where i75 x13 x3) fun v74 =>
        mv_bd (mv_rc 6 7 (some a0)) fun i77 => mv_bd (F_X6_carrier i77 x13 (5 : Int32)) fun v76 =>
        mv_bd (mv_pu (x9 + v76)) fun v78 =>
        if v74 = ((-4) : Int32) then
          J_L_holds_691 (Lp_L_holds_642 a0 x1 x2 x3 x4 x5 x6 x7 x10 x11 n) a0 x1 x2 x3 x4 x5 x6 x7 v78 x10 x11 x13 (0 : Int32) v74 x8 (1 : Int32)
        else
          J_L_holds_691 (Lp_L_holds_642 a0 x1 x2 x3 x4 x5 x6 x7 x10 x11 n) a0 x1 x2 x3 x4 x5 x6 x7 v78 x10 x11 x13 (0 : Int32) v74 x8 (0 : Int32)

set_option maxHeartbeats 4000000 in
set_option maxRecDepth 100000 in
theorem sLp_L_holds_642 (l : Launch) (N0 : Nat) (D : va_G) (dA : Nat → ClassId) (a0 : Nat) (x1 : Int32) (x2 : Int32) (x3 : Int32) (x4 : Int32) (x5 : Int32) (x6 : Int32) (x7 : Int32) (x10 : Int32) (x11 : Int32) : ∀ (n : Nat) (x8 : Int32) (x9 : Int32) (x12 : Int32) (x13 : Int32), mv_Sim l N0 D dA RL cL_holds 20 7 167 (some .boolean) false mv_rI 642 [(0, mv_vr N0 (some a0)), (1, .int x1), (2, .int x2), (3, .int x3), (4, .int x4), (5, .int x5), (6, .int x6), (7, .int x7), (8, .int x8), (9, .int x9), (10, .int x10), (11, .int x11), (12, .int x12), (13, .int x13)] [] (Lp_L_holds_642 a0 x1 x2 x3 x4 x5 x6 x7 x10 x11 n x8 x9 x12 x13) := by
  intro n
  induction n with
  | zero => intro x8 x9 x12 x13; rw [Lp_L_holds_642]; exact mv_fl_sim
  | succ n ih =>
    intro x8 x9 x12 x13
    rw [Lp_L_holds_642]
    refine mv_iload 13 dL_holds_642 rfl rfl ?_
    refine mv_iload_n 2 dL_holds_644 rfl rfl rfl ?_
    refine mv_icmp_ge (tgt := 883) dL_holds_645 rfl rfl ?_ ?_
    · refine mv_sub [0, 4, 5, 6, 7, 8, 9, 10, 11, 12] rfl ?_
      exact sJ_L_holds_883 l N0 D dA a0 x4 x5 x6 x7 x8 x9 x10 x11 x12
    · refine mv_iload 12 dL_holds_648 rfl rfl ?_
      refine mv_if_eq (tgt := 883) dL_holds_650 rfl rfl ?_ ?_
      · refine mv_sub [0, 4, 5, 6, 7, 8, 9, 10, 11, 12] rfl ?_
        exact sJ_L_holds_883 l N0 D dA a0 x4 x5 x6 x7 x8 x9 x10 x11 x12
      · refine mv_iconst (v := (0 : Int32)) dL_holds_653 (by decide) rfl ?_
        refine mw_istore rfl dL_holds_654 (by decide) rfl rfl ?_
        refine mv_aload_n 1 dL_holds_656 rfl rfl rfl ?_
        refine mv_iload 14 dL_holds_657 rfl rfl ?_
        refine mv_iload_n 4 dL_holds_659 rfl rfl rfl ?_
        refine mv_callVi (st := []) [.int x13, .int x3] (fun i75 => c_X6_where l N0 D dA i75 x13 x3) (T := TX6) rfl (by decide) wc_L_23 ⟨by decide, by decide⟩ rfl (Nat.le_of_ble_eq_true rfl) dL_holds_660 rfl (fun v74 => ?_)
        refine mw_istore rfl dL_holds_663 (by decide) rfl rfl ?_
        refine mv_iload 11 dL_holds_665 rfl rfl ?_
        refine mv_aload_n 2 dL_holds_667 rfl rfl rfl ?_
        refine mv_iload 15 dL_holds_668 rfl rfl ?_
        refine mv_iconst (v := (5 : Int32)) dL_holds_670 (by decide) rfl ?_
        refine mv_callVi (st := [.int x9]) [.int x13, .int (5 : Int32)] (fun i77 => c_X6_carrier l N0 D dA i77 x13 (5 : Int32)) (T := TX6) rfl (by decide) wc_L_19 ⟨by decide, by decide⟩ rfl (Nat.le_of_ble_eq_true rfl) dL_holds_671 rfl (fun v76 => ?_)
        refine mv_iadd dL_holds_674 rfl ?_
        refine mv_let (fun v78 => ?_)
        refine mw_istore rfl dL_holds_675 (by decide) rfl rfl ?_
        refine mv_iload 11 dL_holds_677 rfl rfl ?_
        refine mv_iload 1 dL_holds_679 rfl rfl ?_
        refine mv_bipush (v := ((-4) : Int32)) dL_holds_681 (by decide) rfl ?_
        refine mv_icmp_ne (tgt := 690) dL_holds_683 rfl rfl ?_ ?_
        · refine mv_iconst (v := (0 : Int32)) dL_holds_690 (by decide) rfl ?_
          refine mv_sub [3, 4, 5, 6, 7, 8, 9, 10, 0, 12, 13, 15, 2, 1] rfl ?_
          exact sJ_L_holds_691 l N0 D dA a0 x1 x2 x3 x4 x5 x6 x7 v78 x10 x11 x13 (0 : Int32) v74 x8 (0 : Int32) _ ih
        · refine mv_iconst (v := (1 : Int32)) dL_holds_686 (by decide) rfl ?_
          refine mv_goto (q := 691) dL_holds_687 rfl ?_
          refine mv_sub [3, 4, 5, 6, 7, 8, 9, 10, 0, 12, 13, 15, 2, 1] rfl ?_
          exact sJ_L_holds_691 l N0 D dA a0 x1 x2 x3 x4 x5 x6 x7 v78 x10 x11 x13 (0 : Int32) v74 x8 (1 : Int32) _ ih

def J_L_holds_639 (a0 : Nat) (x1 : Int32) (x2 : Int32) (x3 : Int32) (x4 : Int32) (x5 : Int32) (x6 : Int32) (x7 : Int32) (x8 : Int32) (x9 : Int32) (x10 : Int32) (x11 : Int32) (x12 : Int32) : mv_M Int32 :=
  Lp_L_holds_642 a0 x1 x2 x3 x4 x5 x6 x7 x10 x11 mv_FU x8 x9 x12 (0 : Int32)

set_option maxHeartbeats 4000000 in
set_option maxRecDepth 100000 in
theorem sJ_L_holds_639 (l : Launch) (N0 : Nat) (D : va_G) (dA : Nat → ClassId) (a0 : Nat) (x1 : Int32) (x2 : Int32) (x3 : Int32) (x4 : Int32) (x5 : Int32) (x6 : Int32) (x7 : Int32) (x8 : Int32) (x9 : Int32) (x10 : Int32) (x11 : Int32) (x12 : Int32) : mv_Sim l N0 D dA RL cL_holds 20 7 167 (some .boolean) false mv_rI 639 [(0, mv_vr N0 (some a0)), (1, .int x1), (2, .int x2), (3, .int x3), (4, .int x4), (5, .int x5), (6, .int x6), (7, .int x7), (8, .int x8), (9, .int x9), (10, .int x10), (11, .int x11), (12, .int x12)] [] (J_L_holds_639 a0 x1 x2 x3 x4 x5 x6 x7 x8 x9 x10 x11 x12) := by
  unfold J_L_holds_639
  refine mv_iconst (v := (0 : Int32)) dL_holds_639 (by decide) rfl ?_
  refine mw_istore rfl dL_holds_640 (by decide) rfl rfl ?_
  refine mv_sub [1, 2, 3, 4, 5, 6, 7, 8, 9, 10, 11, 12, 13, 0] rfl ?_
  exact sLp_L_holds_642 l N0 D dA a0 x1 x2 x3 x4 x5 x6 x7 x10 x11 mv_FU x8 x9 x12 (0 : Int32)

def Lp_L_holds_152 (a0 : Nat) (x1 : Int32) (x2 : Int32) (x3 : Int32) (x8 : Int32) (x9 : Int32) : Nat → Int32 → Int32 → Int32 → Int32 → Int32 → Int32 → Int32 → Int32 → mv_M Int32
  | 0, _, _, _, _, _, _, _, _ => mv_fl
  | n + 1, x4, x5, x6, x7, x10, x11, x12, x13 =>
    if x1 ≤ x13 then
      J_L_holds_639 a0 x1 x2 x3 x4 x5 x6 x7 x8 x9 x10 x11 x12
    else
      if x12 = 0 then
        J_L_holds_639 a0 x1 x2 x3 x4 x5 x6 x7 x8 x9 x10 x11 x12
      else
        mv_bd (mv_rc 6 7 (some a0)) fun i80 => mv_bd (F_X6_bundle i80 x13 (1 : Int32)) fun v79 =>
        mv_bd (mv_rc 6 7 (some a0)) fun i82 => mv_bd (F_X6_bundle i82 x13 (2 : Int32)) fun v81 =>
        mv_bd (mv_rc 6 7 (some a0)) fun i84 => mv_bd (F_X6_bundle i84 x13 (3 : Int32)) fun v83 =>
        mv_bd (mv_rc 6 7 (some a0)) fun i86 => mv_bd (F_X6_arrival i86 x13 (0 : Int32)) fun v85 =>
        mv_bd (mv_rc 6 7 (some a0)) fun i88 => mv_bd (F_X6_bundle i88 x13 (4 : Int32)) fun v87 =>
        if v85 = ((-4) : Int32) then
          J_L_holds_226 (Lp_L_holds_152 a0 x1 x2 x3 x8 x9 n) a0 x1 x2 x3 x4 x5 x6 x7 x8 x9 x10 x11 x13 v79 v81 v83 v85 v87
        else
          if v87 = ((-4) : Int32) then
            J_L_holds_226 (Lp_L_holds_152 a0 x1 x2 x3 x8 x9 n) a0 x1 x2 x3 x4 x5 x6 x7 x8 x9 x10 x11 x13 v79 v81 v83 v85 v87
          else
            J_L_holds_227 (Lp_L_holds_152 a0 x1 x2 x3 x8 x9 n) a0 x1 x2 x3 x4 x5 x6 x7 x8 x9 x10 x11 x13 v79 v81 v83 v85 v87 (1 : Int32)

set_option maxHeartbeats 4000000 in
set_option maxRecDepth 100000 in
theorem sLp_L_holds_152 (l : Launch) (N0 : Nat) (D : va_G) (dA : Nat → ClassId) (a0 : Nat) (x1 : Int32) (x2 : Int32) (x3 : Int32) (x8 : Int32) (x9 : Int32) : ∀ (n : Nat) (x4 : Int32) (x5 : Int32) (x6 : Int32) (x7 : Int32) (x10 : Int32) (x11 : Int32) (x12 : Int32) (x13 : Int32), mv_Sim l N0 D dA RL cL_holds 20 7 167 (some .boolean) false mv_rI 152 [(0, mv_vr N0 (some a0)), (1, .int x1), (2, .int x2), (3, .int x3), (4, .int x4), (5, .int x5), (6, .int x6), (7, .int x7), (8, .int x8), (9, .int x9), (10, .int x10), (11, .int x11), (12, .int x12), (13, .int x13)] [] (Lp_L_holds_152 a0 x1 x2 x3 x8 x9 n x4 x5 x6 x7 x10 x11 x12 x13) := by
  intro n
  induction n with
  | zero => intro x4 x5 x6 x7 x10 x11 x12 x13; rw [Lp_L_holds_152]; exact mv_fl_sim
  | succ n ih =>
    intro x4 x5 x6 x7 x10 x11 x12 x13
    rw [Lp_L_holds_152]
    refine mv_iload 13 dL_holds_152 rfl rfl ?_
    refine mv_iload_n 1 dL_holds_154 rfl rfl rfl ?_
    refine mv_icmp_ge (tgt := 639) dL_holds_155 rfl rfl ?_ ?_
    · refine mv_sub [0, 1, 2, 3, 4, 5, 6, 7, 8, 9, 10, 11, 12] rfl ?_
      exact sJ_L_holds_639 l N0 D dA a0 x1 x2 x3 x4 x5 x6 x7 x8 x9 x10 x11 x12
    · refine mv_iload 12 dL_holds_158 rfl rfl ?_
      refine mv_if_eq (tgt := 639) dL_holds_160 rfl rfl ?_ ?_
      · refine mv_sub [0, 1, 2, 3, 4, 5, 6, 7, 8, 9, 10, 11, 12] rfl ?_
        exact sJ_L_holds_639 l N0 D dA a0 x1 x2 x3 x4 x5 x6 x7 x8 x9 x10 x11 x12
      · refine mv_aload_n 0 dL_holds_163 rfl rfl rfl ?_
        refine mv_iload 13 dL_holds_164 rfl rfl ?_
        refine mv_iconst (v := (1 : Int32)) dL_holds_166 (by decide) rfl ?_
        refine mv_callVi (st := []) [.int x13, .int (1 : Int32)] (fun i80 => c_X6_bundle l N0 D dA i80 x13 (1 : Int32)) (T := TX6) rfl (by decide) wc_L_26 ⟨by decide, by decide⟩ rfl (Nat.le_of_ble_eq_true rfl) dL_holds_167 rfl (fun v79 => ?_)
        refine mw_istore rfl dL_holds_170 (by decide) rfl rfl ?_
        refine mv_aload_n 1 dL_holds_172 rfl rfl rfl ?_
        refine mv_iload 14 dL_holds_173 rfl rfl ?_
        refine mv_iconst (v := (2 : Int32)) dL_holds_175 (by decide) rfl ?_
        refine mv_callVi (st := []) [.int x13, .int (2 : Int32)] (fun i82 => c_X6_bundle l N0 D dA i82 x13 (2 : Int32)) (T := TX6) rfl (by decide) wc_L_26 ⟨by decide, by decide⟩ rfl (Nat.le_of_ble_eq_true rfl) dL_holds_176 rfl (fun v81 => ?_)
        refine mw_istore rfl dL_holds_179 (by decide) rfl rfl ?_
        refine mv_aload_n 2 dL_holds_181 rfl rfl rfl ?_
        refine mv_iload 15 dL_holds_182 rfl rfl ?_
        refine mv_iconst (v := (3 : Int32)) dL_holds_184 (by decide) rfl ?_
        refine mv_callVi (st := []) [.int x13, .int (3 : Int32)] (fun i84 => c_X6_bundle l N0 D dA i84 x13 (3 : Int32)) (T := TX6) rfl (by decide) wc_L_26 ⟨by decide, by decide⟩ rfl (Nat.le_of_ble_eq_true rfl) dL_holds_185 rfl (fun v83 => ?_)
        refine mw_istore rfl dL_holds_188 (by decide) rfl rfl ?_
        refine mv_aload_n 3 dL_holds_190 rfl rfl rfl ?_
        refine mv_iload 16 dL_holds_191 rfl rfl ?_
        refine mv_iconst (v := (0 : Int32)) dL_holds_193 (by decide) rfl ?_
        refine mv_callVi (st := []) [.int x13, .int (0 : Int32)] (fun i86 => c_X6_arrival l N0 D dA i86 x13 (0 : Int32)) (T := TX6) rfl (by decide) wc_L_31 ⟨by decide, by decide⟩ rfl (Nat.le_of_ble_eq_true rfl) dL_holds_194 rfl (fun v85 => ?_)
        refine mw_istore rfl dL_holds_197 (by decide) rfl rfl ?_
        refine mv_aload_n 4 dL_holds_199 rfl rfl rfl ?_
        refine mv_iload 17 dL_holds_200 rfl rfl ?_
        refine mv_iconst (v := (4 : Int32)) dL_holds_202 (by decide) rfl ?_
        refine mv_callVi (st := []) [.int x13, .int (4 : Int32)] (fun i88 => c_X6_bundle l N0 D dA i88 x13 (4 : Int32)) (T := TX6) rfl (by decide) wc_L_26 ⟨by decide, by decide⟩ rfl (Nat.le_of_ble_eq_true rfl) dL_holds_203 rfl (fun v87 => ?_)
        refine mw_istore rfl dL_holds_206 (by decide) rfl rfl ?_
        refine mv_iload 1 dL_holds_208 rfl rfl ?_
        refine mv_bipush (v := ((-4) : Int32)) dL_holds_210 (by decide) rfl ?_
        refine mv_icmp_eq (tgt := 226) dL_holds_212 rfl rfl ?_ ?_
        · refine mv_sub [5, 6, 7, 8, 9, 10, 11, 12, 13, 14, 15, 16, 18, 4, 3, 2, 1, 0] rfl ?_
          exact sJ_L_holds_226 l N0 D dA a0 x1 x2 x3 x4 x5 x6 x7 x8 x9 x10 x11 x13 v79 v81 v83 v85 v87 _ ih
        · refine mv_iload 0 dL_holds_215 rfl rfl ?_
          refine mv_bipush (v := ((-4) : Int32)) dL_holds_217 (by decide) rfl ?_
          refine mv_icmp_eq (tgt := 226) dL_holds_219 rfl rfl ?_ ?_
          · refine mv_sub [5, 6, 7, 8, 9, 10, 11, 12, 13, 14, 15, 16, 18, 4, 3, 2, 1, 0] rfl ?_
            exact sJ_L_holds_226 l N0 D dA a0 x1 x2 x3 x4 x5 x6 x7 x8 x9 x10 x11 x13 v79 v81 v83 v85 v87 _ ih
          · refine mv_iconst (v := (1 : Int32)) dL_holds_222 (by decide) rfl ?_
            refine mv_goto (q := 227) dL_holds_223 rfl ?_
            refine mv_sub [5, 6, 7, 8, 9, 10, 11, 12, 13, 14, 15, 16, 18, 4, 3, 2, 1, 0] rfl ?_
            exact sJ_L_holds_227 l N0 D dA a0 x1 x2 x3 x4 x5 x6 x7 x8 x9 x10 x11 x13 v79 v81 v83 v85 v87 (1 : Int32) _ ih

def J_L_holds_147 (a0 : Nat) (x1 : Int32) (x2 : Int32) (x3 : Int32) (x4 : Int32) (x5 : Int32) (x6 : Int32) (x7 : Int32) (x8 : Int32) (x9 : Int32) (x10 : Int32) (x11 : Int32) (s0 : Int32) : mv_M Int32 :=
  Lp_L_holds_152 a0 x1 x2 x3 x8 x9 mv_FU x4 x5 x6 x7 x10 x11 s0 (0 : Int32)

set_option maxHeartbeats 4000000 in
set_option maxRecDepth 100000 in
theorem sJ_L_holds_147 (l : Launch) (N0 : Nat) (D : va_G) (dA : Nat → ClassId) (a0 : Nat) (x1 : Int32) (x2 : Int32) (x3 : Int32) (x4 : Int32) (x5 : Int32) (x6 : Int32) (x7 : Int32) (x8 : Int32) (x9 : Int32) (x10 : Int32) (x11 : Int32) (s0 : Int32) : mv_Sim l N0 D dA RL cL_holds 20 7 167 (some .boolean) false mv_rI 147 [(0, mv_vr N0 (some a0)), (1, .int x1), (2, .int x2), (3, .int x3), (4, .int x4), (5, .int x5), (6, .int x6), (7, .int x7), (8, .int x8), (9, .int x9), (10, .int x10), (11, .int x11)] [.int s0] (J_L_holds_147 a0 x1 x2 x3 x4 x5 x6 x7 x8 x9 x10 x11 s0) := by
  unfold J_L_holds_147
  refine mw_istore rfl dL_holds_147 (by decide) rfl rfl ?_
  refine mv_iconst (v := (0 : Int32)) dL_holds_149 (by decide) rfl ?_
  refine mw_istore rfl dL_holds_150 (by decide) rfl rfl ?_
  refine mv_sub [2, 3, 4, 5, 6, 7, 8, 9, 10, 11, 12, 13, 1, 0] rfl ?_
  exact sLp_L_holds_152 l N0 D dA a0 x1 x2 x3 x8 x9 mv_FU x4 x5 x6 x7 x10 x11 s0 (0 : Int32)

def J_L_holds_146 (a0 : Nat) (x1 : Int32) (x2 : Int32) (x3 : Int32) (x4 : Int32) (x5 : Int32) (x6 : Int32) (x7 : Int32) (x8 : Int32) (x9 : Int32) (x10 : Int32) (x11 : Int32) : mv_M Int32 :=
  J_L_holds_147 a0 x1 x2 x3 x4 x5 x6 x7 x8 x9 x10 x11 (0 : Int32)

set_option maxHeartbeats 4000000 in
set_option maxRecDepth 100000 in
theorem sJ_L_holds_146 (l : Launch) (N0 : Nat) (D : va_G) (dA : Nat → ClassId) (a0 : Nat) (x1 : Int32) (x2 : Int32) (x3 : Int32) (x4 : Int32) (x5 : Int32) (x6 : Int32) (x7 : Int32) (x8 : Int32) (x9 : Int32) (x10 : Int32) (x11 : Int32) : mv_Sim l N0 D dA RL cL_holds 20 7 167 (some .boolean) false mv_rI 146 [(0, mv_vr N0 (some a0)), (1, .int x1), (2, .int x2), (3, .int x3), (4, .int x4), (5, .int x5), (6, .int x6), (7, .int x7), (8, .int x8), (9, .int x9), (10, .int x10), (11, .int x11)] [] (J_L_holds_146 a0 x1 x2 x3 x4 x5 x6 x7 x8 x9 x10 x11) := by
  unfold J_L_holds_146
  refine mv_iconst (v := (0 : Int32)) dL_holds_146 (by decide) rfl ?_
  refine mv_sub [0, 1, 2, 3, 4, 5, 6, 7, 8, 9, 10, 11] rfl ?_
  exact sJ_L_holds_147 l N0 D dA a0 x1 x2 x3 x4 x5 x6 x7 x8 x9 x10 x11 (0 : Int32)

def F_L_holds (a0 : Nat) : mv_M Int32 :=
  mv_bd (mv_rc 6 7 (some a0)) fun i90 => mv_bd (F_X6_count i90 (4 : Int32)) fun v89 =>
  mv_bd (mv_rc 6 7 (some a0)) fun i92 => mv_bd (F_X6_count i92 (2 : Int32)) fun v91 =>
  mv_bd (mv_rc 6 7 (some a0)) fun i94 => mv_bd (F_X6_count i94 (0 : Int32)) fun v93 =>
  if (8 : Int32) < v89 then
    J_L_holds_146 a0 v89 v91 v93 (0 : Int32) (0 : Int32) (0 : Int32) (0 : Int32) (0 : Int32) (0 : Int32) (0 : Int32) (0 : Int32)
  else
    if (4 : Int32) < v91 then
      J_L_holds_146 a0 v89 v91 v93 (0 : Int32) (0 : Int32) (0 : Int32) (0 : Int32) (0 : Int32) (0 : Int32) (0 : Int32) (0 : Int32)
    else
      mv_bd (mv_rc 6 7 (some a0)) fun i96 => mv_bd (F_X6_count i96 (9 : Int32)) fun v95 =>
      mv_bd (mv_rc 6 7 (some a0)) fun i98 => mv_bd (F_X6_count i98 (11 : Int32)) fun v97 =>
      if v95 = (v89 + v97) then
        mv_bd (mv_rc 6 7 (some a0)) fun i100 => mv_bd (F_X6_count i100 (1 : Int32)) fun v99 =>
        if (6 : Int32) ≤ v99 then
          J_L_holds_146 a0 v89 v91 v93 (0 : Int32) (0 : Int32) (0 : Int32) (0 : Int32) (0 : Int32) (0 : Int32) (0 : Int32) (0 : Int32)
        else
          mv_bd (mv_rc 6 7 (some a0)) fun i102 => mv_bd (F_X6_count i102 (13 : Int32)) fun v101 =>
          if v101 < (1 : Int32) then
            J_L_holds_146 a0 v89 v91 v93 (0 : Int32) (0 : Int32) (0 : Int32) (0 : Int32) (0 : Int32) (0 : Int32) (0 : Int32) (0 : Int32)
          else
            mv_bd (mv_rc 6 7 (some a0)) fun i104 => mv_bd (F_X6_count i104 (13 : Int32)) fun v103 =>
            if (8 : Int32) < v103 then
              J_L_holds_146 a0 v89 v91 v93 (0 : Int32) (0 : Int32) (0 : Int32) (0 : Int32) (0 : Int32) (0 : Int32) (0 : Int32) (0 : Int32)
            else
              mv_bd (mv_rc 6 7 (some a0)) fun i106 => mv_bd (F_X6_count i106 (14 : Int32)) fun v105 =>
              if v105 < 0 then
                J_L_holds_146 a0 v89 v91 v93 (0 : Int32) (0 : Int32) (0 : Int32) (0 : Int32) (0 : Int32) (0 : Int32) (0 : Int32) (0 : Int32)
              else
                mv_bd (mv_rc 6 7 (some a0)) fun i108 => mv_bd (F_X6_count i108 (14 : Int32)) fun v107 =>
                if (10000 : Int32) ≤ v107 then
                  J_L_holds_146 a0 v89 v91 v93 (0 : Int32) (0 : Int32) (0 : Int32) (0 : Int32) (0 : Int32) (0 : Int32) (0 : Int32) (0 : Int32)
                else
                  mv_bd (mv_rc 6 7 (some a0)) fun i110 => mv_bd (F_X6_carrier i110 v91 (0 : Int32)) fun v109 =>
                  if v109 = ((-1) : Int32) then
                    mv_bd (mv_rc 6 7 (some a0)) fun i112 => mv_bd (F_X6_bundle i112 v89 (0 : Int32)) fun v111 =>
                    if v111 = ((-1) : Int32) then
                      J_L_holds_147 a0 v89 v91 v93 (0 : Int32) (0 : Int32) (0 : Int32) (0 : Int32) (0 : Int32) (0 : Int32) (0 : Int32) (0 : Int32) (1 : Int32)
                    else
                      J_L_holds_146 a0 v89 v91 v93 (0 : Int32) (0 : Int32) (0 : Int32) (0 : Int32) (0 : Int32) (0 : Int32) (0 : Int32) (0 : Int32)
                  else
                    J_L_holds_146 a0 v89 v91 v93 (0 : Int32) (0 : Int32) (0 : Int32) (0 : Int32) (0 : Int32) (0 : Int32) (0 : Int32) (0 : Int32)
      else
        J_L_holds_146 a0 v89 v91 v93 (0 : Int32) (0 : Int32) (0 : Int32) (0 : Int32) (0 : Int32) (0 : Int32) (0 : Int32) (0 : Int32)

set_option maxHeartbeats 4000000 in
set_option maxRecDepth 100000 in
theorem c_L_holds (l : Launch) (N0 : Nat) (D : va_G) (dA : Nat → ClassId) (a0 : Nat) : mv_SimM l N0 D dA yL_holds cL_holds 20 (some .boolean) 7 167 mv_rI [.ref (N0 + a0)] (F_L_holds a0) := by
  refine mv_SimM_oL (L0 := [(0, mv_vr N0 (some a0))]) false (by decide +kernel) (Nat.le_of_ble_eq_true rfl) rfl (rfl) (fun z => by cases z) ?_
  unfold F_L_holds
  show mv_Sim l N0 D dA RL cL_holds 20 7 167 (some .boolean) false mv_rI 0 _ _ _
  refine mv_aload_n 0 dL_holds_0 rfl rfl rfl ?_
  refine mv_iconst (v := (4 : Int32)) dL_holds_1 (by decide) rfl ?_
  refine mv_callVi (st := []) [.int (4 : Int32)] (fun i90 => c_X6_count l N0 D dA i90 (4 : Int32)) (T := TX6) rfl (by decide) wc_L_13 ⟨by decide, by decide⟩ rfl (Nat.le_of_ble_eq_true rfl) dL_holds_2 rfl (fun v89 => ?_)
  refine mw_istore_n rfl dL_holds_5 rfl (by decide) rfl rfl ?_
  refine mv_aload_n 1 dL_holds_6 rfl rfl rfl ?_
  refine mv_iconst (v := (2 : Int32)) dL_holds_7 (by decide) rfl ?_
  refine mv_callVi (st := []) [.int (2 : Int32)] (fun i92 => c_X6_count l N0 D dA i92 (2 : Int32)) (T := TX6) rfl (by decide) wc_L_13 ⟨by decide, by decide⟩ rfl (Nat.le_of_ble_eq_true rfl) dL_holds_8 rfl (fun v91 => ?_)
  refine mw_istore_n rfl dL_holds_11 rfl (by decide) rfl rfl ?_
  refine mv_aload_n 2 dL_holds_12 rfl rfl rfl ?_
  refine mv_iconst (v := (0 : Int32)) dL_holds_13 (by decide) rfl ?_
  refine mv_callVi (st := []) [.int (0 : Int32)] (fun i94 => c_X6_count l N0 D dA i94 (0 : Int32)) (T := TX6) rfl (by decide) wc_L_13 ⟨by decide, by decide⟩ rfl (Nat.le_of_ble_eq_true rfl) dL_holds_14 rfl (fun v93 => ?_)
  refine mw_istore_n rfl dL_holds_17 rfl (by decide) rfl rfl ?_
  refine mv_iconst (v := (0 : Int32)) dL_holds_18 (by decide) rfl ?_
  refine mw_istore rfl dL_holds_19 (by decide) rfl rfl ?_
  refine mv_iconst (v := (0 : Int32)) dL_holds_21 (by decide) rfl ?_
  refine mw_istore rfl dL_holds_22 (by decide) rfl rfl ?_
  refine mv_iconst (v := (0 : Int32)) dL_holds_24 (by decide) rfl ?_
  refine mw_istore rfl dL_holds_25 (by decide) rfl rfl ?_
  refine mv_iconst (v := (0 : Int32)) dL_holds_27 (by decide) rfl ?_
  refine mw_istore rfl dL_holds_28 (by decide) rfl rfl ?_
  refine mv_iconst (v := (0 : Int32)) dL_holds_30 (by decide) rfl ?_
  refine mw_istore rfl dL_holds_31 (by decide) rfl rfl ?_
  refine mv_iconst (v := (0 : Int32)) dL_holds_33 (by decide) rfl ?_
  refine mw_istore rfl dL_holds_34 (by decide) rfl rfl ?_
  refine mv_iconst (v := (0 : Int32)) dL_holds_36 (by decide) rfl ?_
  refine mw_istore rfl dL_holds_37 (by decide) rfl rfl ?_
  refine mv_iconst (v := (0 : Int32)) dL_holds_39 (by decide) rfl ?_
  refine mw_istore rfl dL_holds_40 (by decide) rfl rfl ?_
  refine mv_iload_n 10 dL_holds_42 rfl rfl rfl ?_
  refine mv_bipush (v := (8 : Int32)) dL_holds_43 (by decide) rfl ?_
  refine mv_icmp_gt (tgt := 146) dL_holds_45 rfl rfl ?_ ?_
  · refine mv_sub [11, 10, 9, 8, 7, 6, 5, 4, 3, 2, 1, 0] rfl ?_
    exact sJ_L_holds_146 l N0 D dA a0 v89 v91 v93 (0 : Int32) (0 : Int32) (0 : Int32) (0 : Int32) (0 : Int32) (0 : Int32) (0 : Int32) (0 : Int32)
  · refine mv_iload_n 9 dL_holds_48 rfl rfl rfl ?_
    refine mv_iconst (v := (4 : Int32)) dL_holds_49 (by decide) rfl ?_
    refine mv_icmp_gt (tgt := 146) dL_holds_50 rfl rfl ?_ ?_
    · refine mv_sub [11, 10, 9, 8, 7, 6, 5, 4, 3, 2, 1, 0] rfl ?_
      exact sJ_L_holds_146 l N0 D dA a0 v89 v91 v93 (0 : Int32) (0 : Int32) (0 : Int32) (0 : Int32) (0 : Int32) (0 : Int32) (0 : Int32) (0 : Int32)
    · refine mv_aload_n 11 dL_holds_53 rfl rfl rfl ?_
      refine mv_bipush (v := (9 : Int32)) dL_holds_54 (by decide) rfl ?_
      refine mv_callVi (st := []) [.int (9 : Int32)] (fun i96 => c_X6_count l N0 D dA i96 (9 : Int32)) (T := TX6) rfl (by decide) wc_L_13 ⟨by decide, by decide⟩ rfl (Nat.le_of_ble_eq_true rfl) dL_holds_56 rfl (fun v95 => ?_)
      refine mv_iload_n 10 dL_holds_59 rfl rfl rfl ?_
      refine mv_aload_n 11 dL_holds_60 rfl rfl rfl ?_
      refine mv_bipush (v := (11 : Int32)) dL_holds_61 (by decide) rfl ?_
      refine mv_callVi (st := [.int v89, .int v95]) [.int (11 : Int32)] (fun i98 => c_X6_count l N0 D dA i98 (11 : Int32)) (T := TX6) rfl (by decide) wc_L_13 ⟨by decide, by decide⟩ rfl (Nat.le_of_ble_eq_true rfl) dL_holds_63 rfl (fun v97 => ?_)
      refine mv_iadd dL_holds_66 rfl ?_
      refine mv_icmp_ne (tgt := 146) dL_holds_67 rfl rfl ?_ ?_
      · refine mv_sub [11, 10, 9, 8, 7, 6, 5, 4, 3, 2, 1, 0] rfl ?_
        exact sJ_L_holds_146 l N0 D dA a0 v89 v91 v93 (0 : Int32) (0 : Int32) (0 : Int32) (0 : Int32) (0 : Int32) (0 : Int32) (0 : Int32) (0 : Int32)
      · refine mv_aload_n 11 dL_holds_70 rfl rfl rfl ?_
        refine mv_iconst (v := (1 : Int32)) dL_holds_71 (by decide) rfl ?_
        refine mv_callVi (st := []) [.int (1 : Int32)] (fun i100 => c_X6_count l N0 D dA i100 (1 : Int32)) (T := TX6) rfl (by decide) wc_L_13 ⟨by decide, by decide⟩ rfl (Nat.le_of_ble_eq_true rfl) dL_holds_72 rfl (fun v99 => ?_)
        refine mv_bipush (v := (6 : Int32)) dL_holds_75 (by decide) rfl ?_
        refine mv_icmp_ge (tgt := 146) dL_holds_77 rfl rfl ?_ ?_
        · refine mv_sub [11, 10, 9, 8, 7, 6, 5, 4, 3, 2, 1, 0] rfl ?_
          exact sJ_L_holds_146 l N0 D dA a0 v89 v91 v93 (0 : Int32) (0 : Int32) (0 : Int32) (0 : Int32) (0 : Int32) (0 : Int32) (0 : Int32) (0 : Int32)
        · refine mv_aload_n 11 dL_holds_80 rfl rfl rfl ?_
          refine mv_bipush (v := (13 : Int32)) dL_holds_81 (by decide) rfl ?_
          refine mv_callVi (st := []) [.int (13 : Int32)] (fun i102 => c_X6_count l N0 D dA i102 (13 : Int32)) (T := TX6) rfl (by decide) wc_L_13 ⟨by decide, by decide⟩ rfl (Nat.le_of_ble_eq_true rfl) dL_holds_83 rfl (fun v101 => ?_)
          refine mv_iconst (v := (1 : Int32)) dL_holds_86 (by decide) rfl ?_
          refine mv_icmp_lt (tgt := 146) dL_holds_87 rfl rfl ?_ ?_
          · refine mv_sub [11, 10, 9, 8, 7, 6, 5, 4, 3, 2, 1, 0] rfl ?_
            exact sJ_L_holds_146 l N0 D dA a0 v89 v91 v93 (0 : Int32) (0 : Int32) (0 : Int32) (0 : Int32) (0 : Int32) (0 : Int32) (0 : Int32) (0 : Int32)
          · refine mv_aload_n 11 dL_holds_90 rfl rfl rfl ?_
            refine mv_bipush (v := (13 : Int32)) dL_holds_91 (by decide) rfl ?_
            refine mv_callVi (st := []) [.int (13 : Int32)] (fun i104 => c_X6_count l N0 D dA i104 (13 : Int32)) (T := TX6) rfl (by decide) wc_L_13 ⟨by decide, by decide⟩ rfl (Nat.le_of_ble_eq_true rfl) dL_holds_93 rfl (fun v103 => ?_)
            refine mv_bipush (v := (8 : Int32)) dL_holds_96 (by decide) rfl ?_
            refine mv_icmp_gt (tgt := 146) dL_holds_98 rfl rfl ?_ ?_
            · refine mv_sub [11, 10, 9, 8, 7, 6, 5, 4, 3, 2, 1, 0] rfl ?_
              exact sJ_L_holds_146 l N0 D dA a0 v89 v91 v93 (0 : Int32) (0 : Int32) (0 : Int32) (0 : Int32) (0 : Int32) (0 : Int32) (0 : Int32) (0 : Int32)
            · refine mv_aload_n 11 dL_holds_101 rfl rfl rfl ?_
              refine mv_bipush (v := (14 : Int32)) dL_holds_102 (by decide) rfl ?_
              refine mv_callVi (st := []) [.int (14 : Int32)] (fun i106 => c_X6_count l N0 D dA i106 (14 : Int32)) (T := TX6) rfl (by decide) wc_L_13 ⟨by decide, by decide⟩ rfl (Nat.le_of_ble_eq_true rfl) dL_holds_104 rfl (fun v105 => ?_)
              refine mv_if_lt (tgt := 146) dL_holds_107 rfl rfl ?_ ?_
              · refine mv_sub [11, 10, 9, 8, 7, 6, 5, 4, 3, 2, 1, 0] rfl ?_
                exact sJ_L_holds_146 l N0 D dA a0 v89 v91 v93 (0 : Int32) (0 : Int32) (0 : Int32) (0 : Int32) (0 : Int32) (0 : Int32) (0 : Int32) (0 : Int32)
              · refine mv_aload_n 11 dL_holds_110 rfl rfl rfl ?_
                refine mv_bipush (v := (14 : Int32)) dL_holds_111 (by decide) rfl ?_
                refine mv_callVi (st := []) [.int (14 : Int32)] (fun i108 => c_X6_count l N0 D dA i108 (14 : Int32)) (T := TX6) rfl (by decide) wc_L_13 ⟨by decide, by decide⟩ rfl (Nat.le_of_ble_eq_true rfl) dL_holds_113 rfl (fun v107 => ?_)
                refine mv_sipush (v := (10000 : Int32)) dL_holds_116 (by decide) rfl ?_
                refine mv_icmp_ge (tgt := 146) dL_holds_119 rfl rfl ?_ ?_
                · refine mv_sub [11, 10, 9, 8, 7, 6, 5, 4, 3, 2, 1, 0] rfl ?_
                  exact sJ_L_holds_146 l N0 D dA a0 v89 v91 v93 (0 : Int32) (0 : Int32) (0 : Int32) (0 : Int32) (0 : Int32) (0 : Int32) (0 : Int32) (0 : Int32)
                · refine mv_aload_n 11 dL_holds_122 rfl rfl rfl ?_
                  refine mv_iload_n 9 dL_holds_123 rfl rfl rfl ?_
                  refine mv_iconst (v := (0 : Int32)) dL_holds_124 (by decide) rfl ?_
                  refine mv_callVi (st := []) [.int v91, .int (0 : Int32)] (fun i110 => c_X6_carrier l N0 D dA i110 v91 (0 : Int32)) (T := TX6) rfl (by decide) wc_L_19 ⟨by decide, by decide⟩ rfl (Nat.le_of_ble_eq_true rfl) dL_holds_125 rfl (fun v109 => ?_)
                  refine mv_iconst (v := ((-1) : Int32)) dL_holds_128 (by decide) rfl ?_
                  refine mv_icmp_ne (tgt := 146) dL_holds_129 rfl rfl ?_ ?_
                  · refine mv_sub [11, 10, 9, 8, 7, 6, 5, 4, 3, 2, 1, 0] rfl ?_
                    exact sJ_L_holds_146 l N0 D dA a0 v89 v91 v93 (0 : Int32) (0 : Int32) (0 : Int32) (0 : Int32) (0 : Int32) (0 : Int32) (0 : Int32) (0 : Int32)
                  · refine mv_aload_n 11 dL_holds_132 rfl rfl rfl ?_
                    refine mv_iload_n 10 dL_holds_133 rfl rfl rfl ?_
                    refine mv_iconst (v := (0 : Int32)) dL_holds_134 (by decide) rfl ?_
                    refine mv_callVi (st := []) [.int v89, .int (0 : Int32)] (fun i112 => c_X6_bundle l N0 D dA i112 v89 (0 : Int32)) (T := TX6) rfl (by decide) wc_L_26 ⟨by decide, by decide⟩ rfl (Nat.le_of_ble_eq_true rfl) dL_holds_135 rfl (fun v111 => ?_)
                    refine mv_iconst (v := ((-1) : Int32)) dL_holds_138 (by decide) rfl ?_
                    refine mv_icmp_ne (tgt := 146) dL_holds_139 rfl rfl ?_ ?_
                    · refine mv_sub [11, 10, 9, 8, 7, 6, 5, 4, 3, 2, 1, 0] rfl ?_
                      exact sJ_L_holds_146 l N0 D dA a0 v89 v91 v93 (0 : Int32) (0 : Int32) (0 : Int32) (0 : Int32) (0 : Int32) (0 : Int32) (0 : Int32) (0 : Int32)
                    · refine mv_iconst (v := (1 : Int32)) dL_holds_142 (by decide) rfl ?_
                      refine mv_goto (q := 147) dL_holds_143 rfl ?_
                      refine mv_sub [11, 10, 9, 8, 7, 6, 5, 4, 3, 2, 1, 0] rfl ?_
                      exact sJ_L_holds_147 l N0 D dA a0 v89 v91 v93 (0 : Int32) (0 : Int32) (0 : Int32) (0 : Int32) (0 : Int32) (0 : Int32) (0 : Int32) (0 : Int32) (1 : Int32)

def J_L_would_525 (a0 : Nat) (s0 : Int32) : mv_M Int32 :=
  mv_rz s0

set_option maxHeartbeats 4000000 in
set_option maxRecDepth 100000 in
theorem sJ_L_would_525 (l : Launch) (N0 : Nat) (D : va_G) (dA : Nat → ClassId) (a0 : Nat) (s0 : Int32) : mv_Sim l N0 D dA RL cL_would 19 7 173 (some .boolean) false mv_rI 525 [(0, mv_vr N0 (some a0))] [.int s0] (J_L_would_525 a0 s0) := by
  unfold J_L_would_525
  exact mv_zret dL_would_525

def J_L_would_520 (a0 : Nat) : mv_M Int32 :=
  J_L_would_525 a0 (1 : Int32)

set_option maxHeartbeats 4000000 in
set_option maxRecDepth 100000 in
theorem sJ_L_would_520 (l : Launch) (N0 : Nat) (D : va_G) (dA : Nat → ClassId) (a0 : Nat) : mv_Sim l N0 D dA RL cL_would 19 7 173 (some .boolean) false mv_rI 520 [(0, mv_vr N0 (some a0))] [] (J_L_would_520 a0) := by
  unfold J_L_would_520
  refine mv_iconst (v := (1 : Int32)) dL_would_520 (by decide) rfl ?_
  refine mv_goto (q := 525) dL_would_521 rfl ?_
  refine mv_sub [0] rfl ?_
  exact sJ_L_would_525 l N0 D dA a0 (1 : Int32)

def J_L_would_524 (a0 : Nat) : mv_M Int32 :=
  J_L_would_525 a0 (0 : Int32)

set_option maxHeartbeats 4000000 in
set_option maxRecDepth 100000 in
theorem sJ_L_would_524 (l : Launch) (N0 : Nat) (D : va_G) (dA : Nat → ClassId) (a0 : Nat) : mv_Sim l N0 D dA RL cL_would 19 7 173 (some .boolean) false mv_rI 524 [(0, mv_vr N0 (some a0))] [] (J_L_would_524 a0) := by
  unfold J_L_would_524
  refine mv_iconst (v := (0 : Int32)) dL_would_524 (by decide) rfl ?_
  refine mv_sub [0] rfl ?_
  exact sJ_L_would_525 l N0 D dA a0 (0 : Int32)

def J_L_would_452 (a0 : Nat) (x13 : Int32) (x14 : Int32) (x15 : Int32) (x16 : Int32) (x18 : Int32) : mv_M Int32 :=
  if x18 = 0 then
    if x15 = ((-4) : Int32) then
      J_L_would_520 a0
    else
      if x15 ≤ x16 then
        J_L_would_524 a0
      else
        if (x16 + (30 : Int32)) < x15 then
          J_L_would_524 a0
        else
          mv_bd (mv_rc 6 7 (some a0)) fun i2 => mv_bd (F_X6_where i2 x13 x15) fun v1 =>
          mv_bd (mv_rc 6 7 (some a0)) fun i4 => mv_bd (F_X6_where i4 x14 x15) fun v3 =>
          if v1 = v3 then
            mv_bd (mv_rc 6 7 (some a0)) fun i6 => mv_bd (F_X6_where i6 x13 x15) fun v5 =>
            if v5 < 0 then
              J_L_would_524 a0
            else
              J_L_would_520 a0
          else
            J_L_would_524 a0
  else
    if x15 = ((-1) : Int32) then
      J_L_would_520 a0
    else
      J_L_would_524 a0

set_option maxHeartbeats 4000000 in
set_option maxRecDepth 100000 in
theorem sJ_L_would_452 (l : Launch) (N0 : Nat) (D : va_G) (dA : Nat → ClassId) (a0 : Nat) (x13 : Int32) (x14 : Int32) (x15 : Int32) (x16 : Int32) (x18 : Int32) : mv_Sim l N0 D dA RL cL_would 19 7 173 (some .boolean) false mv_rI 452 [(0, mv_vr N0 (some a0)), (13, .int x13), (14, .int x14), (15, .int x15), (16, .int x16), (18, .int x18)] [] (J_L_would_452 a0 x13 x14 x15 x16 x18) := by
  unfold J_L_would_452
  refine mv_iload 5 dL_would_452 rfl rfl ?_
  refine mv_if_eq (tgt := 466) dL_would_454 rfl rfl ?_ ?_
  · refine mv_iload 3 dL_would_466 rfl rfl ?_
    refine mv_bipush (v := ((-4) : Int32)) dL_would_468 (by decide) rfl ?_
    refine mv_icmp_eq (tgt := 520) dL_would_470 rfl rfl ?_ ?_
    · refine mv_sub [0] rfl ?_
      exact sJ_L_would_520 l N0 D dA a0
    · refine mv_iload 3 dL_would_473 rfl rfl ?_
      refine mv_iload 4 dL_would_475 rfl rfl ?_
      refine mv_icmp_le (tgt := 524) dL_would_477 rfl rfl ?_ ?_
      · refine mv_sub [0] rfl ?_
        exact sJ_L_would_524 l N0 D dA a0
      · refine mv_iload 3 dL_would_480 rfl rfl ?_
        refine mv_iload 4 dL_would_482 rfl rfl ?_
        refine mv_bipush (v := (30 : Int32)) dL_would_484 (by decide) rfl ?_
        refine mv_iadd dL_would_486 rfl ?_
        refine mv_icmp_gt (tgt := 524) dL_would_487 rfl rfl ?_ ?_
        · refine mv_sub [0] rfl ?_
          exact sJ_L_would_524 l N0 D dA a0
        · refine mv_aload_n 0 dL_would_490 rfl rfl rfl ?_
          refine mv_iload 1 dL_would_491 rfl rfl ?_
          refine mv_iload 3 dL_would_493 rfl rfl ?_
          refine mv_callVi (st := []) [.int x13, .int x15] (fun i2 => c_X6_where l N0 D dA i2 x13 x15) (T := TX6) rfl (by decide) wc_L_23 ⟨by decide, by decide⟩ rfl (Nat.le_of_ble_eq_true rfl) dL_would_495 rfl (fun v1 => ?_)
          refine mv_aload_n 0 dL_would_498 rfl rfl rfl ?_
          refine mv_iload 2 dL_would_499 rfl rfl ?_
          refine mv_iload 3 dL_would_501 rfl rfl ?_
          refine mv_callVi (st := [.int v1]) [.int x14, .int x15] (fun i4 => c_X6_where l N0 D dA i4 x14 x15) (T := TX6) rfl (by decide) wc_L_23 ⟨by decide, by decide⟩ rfl (Nat.le_of_ble_eq_true rfl) dL_would_503 rfl (fun v3 => ?_)
          refine mv_icmp_ne (tgt := 524) dL_would_506 rfl rfl ?_ ?_
          · refine mv_sub [0] rfl ?_
            exact sJ_L_would_524 l N0 D dA a0
          · refine mv_aload_n 0 dL_would_509 rfl rfl rfl ?_
            refine mv_iload 1 dL_would_510 rfl rfl ?_
            refine mv_iload 3 dL_would_512 rfl rfl ?_
            refine mv_callVi (st := []) [.int x13, .int x15] (fun i6 => c_X6_where l N0 D dA i6 x13 x15) (T := TX6) rfl (by decide) wc_L_23 ⟨by decide, by decide⟩ rfl (Nat.le_of_ble_eq_true rfl) dL_would_514 rfl (fun v5 => ?_)
            refine mv_if_lt (tgt := 524) dL_would_517 rfl rfl ?_ ?_
            · refine mv_sub [0] rfl ?_
              exact sJ_L_would_524 l N0 D dA a0
            · refine mv_sub [0] rfl ?_
              exact sJ_L_would_520 l N0 D dA a0
  · refine mv_iload 3 dL_would_457 rfl rfl ?_
    refine mv_iconst (v := ((-1) : Int32)) dL_would_459 (by decide) rfl ?_
    refine mv_icmp_ne (tgt := 524) dL_would_460 rfl rfl ?_ ?_
    · refine mv_sub [0] rfl ?_
      exact sJ_L_would_524 l N0 D dA a0
    · refine mv_goto (q := 520) dL_would_463 rfl ?_
      refine mv_sub [0] rfl ?_
      exact sJ_L_would_520 l N0 D dA a0

def J_L_would_439 (a0 : Nat) (x11 : Int32) (x12 : Int32) (x13 : Int32) (x14 : Int32) (x15 : Int32) (x16 : Int32) (x18 : Int32) : mv_M Int32 :=
  if x11 = (2 : Int32) then
    if (8 : Int32) < x12 then
      J_L_would_524 a0
    else
      J_L_would_452 a0 x13 x14 x15 x16 x18
  else
    J_L_would_452 a0 x13 x14 x15 x16 x18

set_option maxHeartbeats 4000000 in
set_option maxRecDepth 100000 in
theorem sJ_L_would_439 (l : Launch) (N0 : Nat) (D : va_G) (dA : Nat → ClassId) (a0 : Nat) (x11 : Int32) (x12 : Int32) (x13 : Int32) (x14 : Int32) (x15 : Int32) (x16 : Int32) (x18 : Int32) : mv_Sim l N0 D dA RL cL_would 19 7 173 (some .boolean) false mv_rI 439 [(0, mv_vr N0 (some a0)), (11, .int x11), (12, .int x12), (13, .int x13), (14, .int x14), (15, .int x15), (16, .int x16), (18, .int x18)] [] (J_L_would_439 a0 x11 x12 x13 x14 x15 x16 x18) := by
  unfold J_L_would_439
  refine mv_iload 1 dL_would_439 rfl rfl ?_
  refine mv_iconst (v := (2 : Int32)) dL_would_441 (by decide) rfl ?_
  refine mv_icmp_ne (tgt := 452) dL_would_442 rfl rfl ?_ ?_
  · refine mv_sub [0, 3, 4, 5, 6, 7] rfl ?_
    exact sJ_L_would_452 l N0 D dA a0 x13 x14 x15 x16 x18
  · refine mv_iload 2 dL_would_445 rfl rfl ?_
    refine mv_bipush (v := (8 : Int32)) dL_would_447 (by decide) rfl ?_
    refine mv_icmp_gt (tgt := 524) dL_would_449 rfl rfl ?_ ?_
    · refine mv_sub [0] rfl ?_
      exact sJ_L_would_524 l N0 D dA a0
    · refine mv_sub [0, 3, 4, 5, 6, 7] rfl ?_
      exact sJ_L_would_452 l N0 D dA a0 x13 x14 x15 x16 x18

def J_L_would_398 (a0 : Nat) (x11 : Int32) (x12 : Int32) (x13 : Int32) (x14 : Int32) (x15 : Int32) (x16 : Int32) (x17 : Int32) (x18 : Int32) : mv_M Int32 :=
  if x17 = 0 then
    if x12 < 0 then
      J_L_would_524 a0
    else
      if x11 = 0 then
        mv_bd (mv_rc 6 7 (some a0)) fun i8 => mv_bd (F_X6_count i8 (5 : Int32)) fun v7 =>
        mv_bd (mv_rc 6 7 (some a0)) fun i10 => mv_bd (F_X6_count i10 (6 : Int32)) fun v9 =>
        if (v7 + v9) < x12 then
          J_L_would_524 a0
        else
          J_L_would_439 a0 x11 x12 x13 x14 x15 x16 x18
      else
        J_L_would_439 a0 x11 x12 x13 x14 x15 x16 x18
  else
    if x12 = ((-1) : Int32) then
      J_L_would_452 a0 x13 x14 x15 x16 x18
    else
      J_L_would_524 a0

set_option maxHeartbeats 4000000 in
set_option maxRecDepth 100000 in
theorem sJ_L_would_398 (l : Launch) (N0 : Nat) (D : va_G) (dA : Nat → ClassId) (a0 : Nat) (x11 : Int32) (x12 : Int32) (x13 : Int32) (x14 : Int32) (x15 : Int32) (x16 : Int32) (x17 : Int32) (x18 : Int32) : mv_Sim l N0 D dA RL cL_would 19 7 173 (some .boolean) false mv_rI 398 [(0, mv_vr N0 (some a0)), (11, .int x11), (12, .int x12), (13, .int x13), (14, .int x14), (15, .int x15), (16, .int x16), (17, .int x17), (18, .int x18)] [] (J_L_would_398 a0 x11 x12 x13 x14 x15 x16 x17 x18) := by
  unfold J_L_would_398
  refine mv_iload 7 dL_would_398 rfl rfl ?_
  refine mv_if_eq (tgt := 412) dL_would_400 rfl rfl ?_ ?_
  · refine mv_iload 2 dL_would_412 rfl rfl ?_
    refine mv_if_lt (tgt := 524) dL_would_414 rfl rfl ?_ ?_
    · refine mv_sub [0] rfl ?_
      exact sJ_L_would_524 l N0 D dA a0
    · refine mv_iload 1 dL_would_417 rfl rfl ?_
      refine mv_if_ne (tgt := 439) dL_would_419 rfl rfl ?_ ?_
      · refine mv_sub [0, 1, 2, 3, 4, 5, 6, 8] rfl ?_
        exact sJ_L_would_439 l N0 D dA a0 x11 x12 x13 x14 x15 x16 x18
      · refine mv_iload 2 dL_would_422 rfl rfl ?_
        refine mv_aload_n 0 dL_would_424 rfl rfl rfl ?_
        refine mv_iconst (v := (5 : Int32)) dL_would_425 (by decide) rfl ?_
        refine mv_callVi (st := [.int x12]) [.int (5 : Int32)] (fun i8 => c_X6_count l N0 D dA i8 (5 : Int32)) (T := TX6) rfl (by decide) wc_L_13 ⟨by decide, by decide⟩ rfl (Nat.le_of_ble_eq_true rfl) dL_would_426 rfl (fun v7 => ?_)
        refine mv_aload_n 0 dL_would_429 rfl rfl rfl ?_
        refine mv_bipush (v := (6 : Int32)) dL_would_430 (by decide) rfl ?_
        refine mv_callVi (st := [.int v7, .int x12]) [.int (6 : Int32)] (fun i10 => c_X6_count l N0 D dA i10 (6 : Int32)) (T := TX6) rfl (by decide) wc_L_13 ⟨by decide, by decide⟩ rfl (Nat.le_of_ble_eq_true rfl) dL_would_432 rfl (fun v9 => ?_)
        refine mv_iadd dL_would_435 rfl ?_
        refine mv_icmp_gt (tgt := 524) dL_would_436 rfl rfl ?_ ?_
        · refine mv_sub [0] rfl ?_
          exact sJ_L_would_524 l N0 D dA a0
        · refine mv_sub [0, 1, 2, 3, 4, 5, 6, 8] rfl ?_
          exact sJ_L_would_439 l N0 D dA a0 x11 x12 x13 x14 x15 x16 x18
  · refine mv_iload 2 dL_would_403 rfl rfl ?_
    refine mv_iconst (v := ((-1) : Int32)) dL_would_405 (by decide) rfl ?_
    refine mv_icmp_ne (tgt := 524) dL_would_406 rfl rfl ?_ ?_
    · refine mv_sub [0] rfl ?_
      exact sJ_L_would_524 l N0 D dA a0
    · refine mv_goto (q := 452) dL_would_409 rfl ?_
      refine mv_sub [0, 3, 4, 5, 6, 8] rfl ?_
      exact sJ_L_would_452 l N0 D dA a0 x13 x14 x15 x16 x18

def J_L_would_377 (a0 : Nat) (x9 : Int32) (x11 : Int32) (x12 : Int32) (x13 : Int32) (x14 : Int32) (x15 : Int32) (x16 : Int32) (x17 : Int32) (x18 : Int32) : mv_M Int32 :=
  if x9 = ((-1) : Int32) then
    J_L_would_398 a0 x11 x12 x13 x14 x15 x16 x17 x18
  else
    J_L_would_524 a0

set_option maxHeartbeats 4000000 in
set_option maxRecDepth 100000 in
theorem sJ_L_would_377 (l : Launch) (N0 : Nat) (D : va_G) (dA : Nat → ClassId) (a0 : Nat) (x9 : Int32) (x11 : Int32) (x12 : Int32) (x13 : Int32) (x14 : Int32) (x15 : Int32) (x16 : Int32) (x17 : Int32) (x18 : Int32) : mv_Sim l N0 D dA RL cL_would 19 7 173 (some .boolean) false mv_rI 377 [(0, mv_vr N0 (some a0)), (9, .int x9), (11, .int x11), (12, .int x12), (13, .int x13), (14, .int x14), (15, .int x15), (16, .int x16), (17, .int x17), (18, .int x18)] [] (J_L_would_377 a0 x9 x11 x12 x13 x14 x15 x16 x17 x18) := by
  unfold J_L_would_377
  refine mv_iload 1 dL_would_377 rfl rfl ?_
  refine mv_iconst (v := ((-1) : Int32)) dL_would_379 (by decide) rfl ?_
  refine mv_icmp_ne (tgt := 524) dL_would_380 rfl rfl ?_ ?_
  · refine mv_sub [0] rfl ?_
    exact sJ_L_would_524 l N0 D dA a0
  · refine mv_goto (q := 398) dL_would_383 rfl ?_
    refine mv_sub [0, 2, 3, 4, 5, 6, 7, 8, 9] rfl ?_
    exact sJ_L_would_398 l N0 D dA a0 x11 x12 x13 x14 x15 x16 x17 x18

def J_L_would_365 (a0 : Nat) (x8 : Int32) (x9 : Int32) (x11 : Int32) (x12 : Int32) (x13 : Int32) (x14 : Int32) (x15 : Int32) (x16 : Int32) (x17 : Int32) (x18 : Int32) : mv_M Int32 :=
  if x8 < 0 then
    J_L_would_377 a0 x9 x11 x12 x13 x14 x15 x16 x17 x18
  else
    if x8 ≤ (6 : Int32) then
      if x9 < 0 then
        J_L_would_524 a0
      else
        if (7 : Int32) ≤ x9 then
          J_L_would_524 a0
        else
          J_L_would_398 a0 x11 x12 x13 x14 x15 x16 x17 x18
    else
      J_L_would_377 a0 x9 x11 x12 x13 x14 x15 x16 x17 x18

set_option maxHeartbeats 4000000 in
set_option maxRecDepth 100000 in
theorem sJ_L_would_365 (l : Launch) (N0 : Nat) (D : va_G) (dA : Nat → ClassId) (a0 : Nat) (x8 : Int32) (x9 : Int32) (x11 : Int32) (x12 : Int32) (x13 : Int32) (x14 : Int32) (x15 : Int32) (x16 : Int32) (x17 : Int32) (x18 : Int32) : mv_Sim l N0 D dA RL cL_would 19 7 173 (some .boolean) false mv_rI 365 [(0, mv_vr N0 (some a0)), (8, .int x8), (9, .int x9), (11, .int x11), (12, .int x12), (13, .int x13), (14, .int x14), (15, .int x15), (16, .int x16), (17, .int x17), (18, .int x18)] [] (J_L_would_365 a0 x8 x9 x11 x12 x13 x14 x15 x16 x17 x18) := by
  unfold J_L_would_365
  refine mv_iload 1 dL_would_365 rfl rfl ?_
  refine mv_if_lt (tgt := 377) dL_would_367 rfl rfl ?_ ?_
  · refine mv_sub [0, 2, 3, 4, 5, 6, 7, 8, 9, 10] rfl ?_
    exact sJ_L_would_377 l N0 D dA a0 x9 x11 x12 x13 x14 x15 x16 x17 x18
  · refine mv_iload 1 dL_would_370 rfl rfl ?_
    refine mv_bipush (v := (6 : Int32)) dL_would_372 (by decide) rfl ?_
    refine mv_icmp_le (tgt := 386) dL_would_374 rfl rfl ?_ ?_
    · refine mv_iload 2 dL_would_386 rfl rfl ?_
      refine mv_if_lt (tgt := 524) dL_would_388 rfl rfl ?_ ?_
      · refine mv_sub [0] rfl ?_
        exact sJ_L_would_524 l N0 D dA a0
      · refine mv_iload 2 dL_would_391 rfl rfl ?_
        refine mv_bipush (v := (7 : Int32)) dL_would_393 (by decide) rfl ?_
        refine mv_icmp_ge (tgt := 524) dL_would_395 rfl rfl ?_ ?_
        · refine mv_sub [0] rfl ?_
          exact sJ_L_would_524 l N0 D dA a0
        · refine mv_sub [0, 3, 4, 5, 6, 7, 8, 9, 10] rfl ?_
          exact sJ_L_would_398 l N0 D dA a0 x11 x12 x13 x14 x15 x16 x17 x18
    · refine mv_sub [0, 2, 3, 4, 5, 6, 7, 8, 9, 10] rfl ?_
      exact sJ_L_would_377 l N0 D dA a0 x9 x11 x12 x13 x14 x15 x16 x17 x18

def J_L_would_319 (a0 : Nat) (x2 : Int32) (x3 : Int32) (x5 : Int32) (x7 : Int32) (x8 : Int32) (x9 : Int32) (x11 : Int32) (x12 : Int32) (x13 : Int32) (x14 : Int32) (x15 : Int32) (x16 : Int32) (x17 : Int32) (x18 : Int32) : mv_M Int32 :=
  if x5 = 0 then
    if x7 = ((-4) : Int32) then
      J_L_would_365 a0 x8 x9 x11 x12 x13 x14 x15 x16 x17 x18
    else
      if x7 < 0 then
        J_L_would_524 a0
      else
        if (14 : Int32) ≤ x7 then
          J_L_would_524 a0
        else
          mv_bd (mv_rc 6 7 (some a0)) fun i12 => mv_bd (F_X6_ifPosted i12 x2 x3 x7) fun v11 =>
          if v11 = ((-4) : Int32) then
            J_L_would_524 a0
          else
            J_L_would_365 a0 x8 x9 x11 x12 x13 x14 x15 x16 x17 x18
  else
    if x7 = ((-1) : Int32) then
      J_L_would_365 a0 x8 x9 x11 x12 x13 x14 x15 x16 x17 x18
    else
      J_L_would_524 a0

set_option maxHeartbeats 4000000 in
set_option maxRecDepth 100000 in
theorem sJ_L_would_319 (l : Launch) (N0 : Nat) (D : va_G) (dA : Nat → ClassId) (a0 : Nat) (x2 : Int32) (x3 : Int32) (x5 : Int32) (x7 : Int32) (x8 : Int32) (x9 : Int32) (x11 : Int32) (x12 : Int32) (x13 : Int32) (x14 : Int32) (x15 : Int32) (x16 : Int32) (x17 : Int32) (x18 : Int32) : mv_Sim l N0 D dA RL cL_would 19 7 173 (some .boolean) false mv_rI 319 [(0, mv_vr N0 (some a0)), (2, .int x2), (3, .int x3), (5, .int x5), (7, .int x7), (8, .int x8), (9, .int x9), (11, .int x11), (12, .int x12), (13, .int x13), (14, .int x14), (15, .int x15), (16, .int x16), (17, .int x17), (18, .int x18)] [] (J_L_would_319 a0 x2 x3 x5 x7 x8 x9 x11 x12 x13 x14 x15 x16 x17 x18) := by
  unfold J_L_would_319
  refine mv_iload 3 dL_would_319 rfl rfl ?_
  refine mv_if_eq (tgt := 333) dL_would_321 rfl rfl ?_ ?_
  · refine mv_iload 4 dL_would_333 rfl rfl ?_
    refine mv_bipush (v := ((-4) : Int32)) dL_would_335 (by decide) rfl ?_
    refine mv_icmp_eq (tgt := 365) dL_would_337 rfl rfl ?_ ?_
    · refine mv_sub [0, 5, 6, 7, 8, 9, 10, 11, 12, 13, 14] rfl ?_
      exact sJ_L_would_365 l N0 D dA a0 x8 x9 x11 x12 x13 x14 x15 x16 x17 x18
    · refine mv_iload 4 dL_would_340 rfl rfl ?_
      refine mv_if_lt (tgt := 524) dL_would_342 rfl rfl ?_ ?_
      · refine mv_sub [0] rfl ?_
        exact sJ_L_would_524 l N0 D dA a0
      · refine mv_iload 4 dL_would_345 rfl rfl ?_
        refine mv_bipush (v := (14 : Int32)) dL_would_347 (by decide) rfl ?_
        refine mv_icmp_ge (tgt := 524) dL_would_349 rfl rfl ?_ ?_
        · refine mv_sub [0] rfl ?_
          exact sJ_L_would_524 l N0 D dA a0
        · refine mv_aload_n 0 dL_would_352 rfl rfl rfl ?_
          refine mv_iload_n 1 dL_would_353 rfl rfl rfl ?_
          refine mv_iload_n 2 dL_would_354 rfl rfl rfl ?_
          refine mv_iload 4 dL_would_355 rfl rfl ?_
          refine mv_callVi (st := []) [.int x2, .int x3, .int x7] (fun i12 => c_X6_ifPosted l N0 D dA i12 x2 x3 x7) (T := TX6) rfl (by decide) wc_L_41 ⟨by decide, by decide⟩ rfl (Nat.le_of_ble_eq_true rfl) dL_would_357 rfl (fun v11 => ?_)
          refine mv_bipush (v := ((-4) : Int32)) dL_would_360 (by decide) rfl ?_
          refine mv_icmp_eq (tgt := 524) dL_would_362 rfl rfl ?_ ?_
          · refine mv_sub [0] rfl ?_
            exact sJ_L_would_524 l N0 D dA a0
          · refine mv_sub [0, 5, 6, 7, 8, 9, 10, 11, 12, 13, 14] rfl ?_
            exact sJ_L_would_365 l N0 D dA a0 x8 x9 x11 x12 x13 x14 x15 x16 x17 x18
  · refine mv_iload 4 dL_would_324 rfl rfl ?_
    refine mv_iconst (v := ((-1) : Int32)) dL_would_326 (by decide) rfl ?_
    refine mv_icmp_ne (tgt := 524) dL_would_327 rfl rfl ?_ ?_
    · refine mv_sub [0] rfl ?_
      exact sJ_L_would_524 l N0 D dA a0
    · refine mv_goto (q := 365) dL_would_330 rfl ?_
      refine mv_sub [0, 5, 6, 7, 8, 9, 10, 11, 12, 13, 14] rfl ?_
      exact sJ_L_would_365 l N0 D dA a0 x8 x9 x11 x12 x13 x14 x15 x16 x17 x18

def J_L_would_278 (a0 : Nat) (x2 : Int32) (x3 : Int32) (x5 : Int32) (x6 : Int32) (x7 : Int32) (x8 : Int32) (x9 : Int32) (x11 : Int32) (x12 : Int32) (x13 : Int32) (x14 : Int32) (x15 : Int32) (x16 : Int32) (x17 : Int32) (x18 : Int32) : mv_M Int32 :=
  if x6 = ((-1) : Int32) then
    J_L_would_319 a0 x2 x3 x5 x7 x8 x9 x11 x12 x13 x14 x15 x16 x17 x18
  else
    J_L_would_524 a0

set_option maxHeartbeats 4000000 in
set_option maxRecDepth 100000 in
theorem sJ_L_would_278 (l : Launch) (N0 : Nat) (D : va_G) (dA : Nat → ClassId) (a0 : Nat) (x2 : Int32) (x3 : Int32) (x5 : Int32) (x6 : Int32) (x7 : Int32) (x8 : Int32) (x9 : Int32) (x11 : Int32) (x12 : Int32) (x13 : Int32) (x14 : Int32) (x15 : Int32) (x16 : Int32) (x17 : Int32) (x18 : Int32) : mv_Sim l N0 D dA RL cL_would 19 7 173 (some .boolean) false mv_rI 278 [(0, mv_vr N0 (some a0)), (2, .int x2), (3, .int x3), (5, .int x5), (6, .int x6), (7, .int x7), (8, .int x8), (9, .int x9), (11, .int x11), (12, .int x12), (13, .int x13), (14, .int x14), (15, .int x15), (16, .int x16), (17, .int x17), (18, .int x18)] [] (J_L_would_278 a0 x2 x3 x5 x6 x7 x8 x9 x11 x12 x13 x14 x15 x16 x17 x18) := by
  unfold J_L_would_278
  refine mv_iload 4 dL_would_278 rfl rfl ?_
  refine mv_iconst (v := ((-1) : Int32)) dL_would_280 (by decide) rfl ?_
  refine mv_icmp_ne (tgt := 524) dL_would_281 rfl rfl ?_ ?_
  · refine mv_sub [0] rfl ?_
    exact sJ_L_would_524 l N0 D dA a0
  · refine mv_goto (q := 319) dL_would_284 rfl ?_
    refine mv_sub [0, 1, 2, 3, 5, 6, 7, 8, 9, 10, 11, 12, 13, 14, 15] rfl ?_
    exact sJ_L_would_319 l N0 D dA a0 x2 x3 x5 x7 x8 x9 x11 x12 x13 x14 x15 x16 x17 x18

def J_L_would_259 (a0 : Nat) (x2 : Int32) (x3 : Int32) (x4 : Int32) (x5 : Int32) (x6 : Int32) (x7 : Int32) (x8 : Int32) (x9 : Int32) (x11 : Int32) (x12 : Int32) (x13 : Int32) (x14 : Int32) (x15 : Int32) (x16 : Int32) (x17 : Int32) (s0 : Int32) : mv_M Int32 :=
  if x5 = 0 then
    if x4 < 0 then
      J_L_would_278 a0 x2 x3 x5 x6 x7 x8 x9 x11 x12 x13 x14 x15 x16 x17 s0
    else
      if x4 ≤ (30 : Int32) then
        if x6 = ((-4) : Int32) then
          J_L_would_319 a0 x2 x3 x5 x7 x8 x9 x11 x12 x13 x14 x15 x16 x17 s0
        else
          if x6 ≤ ((x16 + x4) + (1 : Int32)) then
            J_L_would_524 a0
          else
            if ((x16 + x4) + (30 : Int32)) < x6 then
              J_L_would_524 a0
            else
              J_L_would_319 a0 x2 x3 x5 x7 x8 x9 x11 x12 x13 x14 x15 x16 x17 s0
      else
        J_L_would_278 a0 x2 x3 x5 x6 x7 x8 x9 x11 x12 x13 x14 x15 x16 x17 s0
  else
    J_L_would_278 a0 x2 x3 x5 x6 x7 x8 x9 x11 x12 x13 x14 x15 x16 x17 s0

set_option maxHeartbeats 4000000 in
set_option maxRecDepth 100000 in
theorem sJ_L_would_259 (l : Launch) (N0 : Nat) (D : va_G) (dA : Nat → ClassId) (a0 : Nat) (x2 : Int32) (x3 : Int32) (x4 : Int32) (x5 : Int32) (x6 : Int32) (x7 : Int32) (x8 : Int32) (x9 : Int32) (x11 : Int32) (x12 : Int32) (x13 : Int32) (x14 : Int32) (x15 : Int32) (x16 : Int32) (x17 : Int32) (s0 : Int32) : mv_Sim l N0 D dA RL cL_would 19 7 173 (some .boolean) false mv_rI 259 [(0, mv_vr N0 (some a0)), (2, .int x2), (3, .int x3), (4, .int x4), (5, .int x5), (6, .int x6), (7, .int x7), (8, .int x8), (9, .int x9), (11, .int x11), (12, .int x12), (13, .int x13), (14, .int x14), (15, .int x15), (16, .int x16), (17, .int x17)] [.int s0] (J_L_would_259 a0 x2 x3 x4 x5 x6 x7 x8 x9 x11 x12 x13 x14 x15 x16 x17 s0) := by
  unfold J_L_would_259
  refine mw_istore rfl dL_would_259 (by decide) rfl rfl ?_
  refine mv_iload 5 dL_would_261 rfl rfl ?_
  refine mv_if_ne (tgt := 278) dL_would_263 rfl rfl ?_ ?_
  · refine mv_sub [1, 2, 3, 5, 6, 7, 8, 9, 10, 11, 12, 13, 14, 15, 16, 0] rfl ?_
    exact sJ_L_would_278 l N0 D dA a0 x2 x3 x5 x6 x7 x8 x9 x11 x12 x13 x14 x15 x16 x17 s0
  · refine mv_iload 4 dL_would_266 rfl rfl ?_
    refine mv_if_lt (tgt := 278) dL_would_268 rfl rfl ?_ ?_
    · refine mv_sub [1, 2, 3, 5, 6, 7, 8, 9, 10, 11, 12, 13, 14, 15, 16, 0] rfl ?_
      exact sJ_L_would_278 l N0 D dA a0 x2 x3 x5 x6 x7 x8 x9 x11 x12 x13 x14 x15 x16 x17 s0
    · refine mv_iload 4 dL_would_271 rfl rfl ?_
      refine mv_bipush (v := (30 : Int32)) dL_would_273 (by decide) rfl ?_
      refine mv_icmp_le (tgt := 287) dL_would_275 rfl rfl ?_ ?_
      · refine mv_iload 6 dL_would_287 rfl rfl ?_
        refine mv_bipush (v := ((-4) : Int32)) dL_would_289 (by decide) rfl ?_
        refine mv_icmp_eq (tgt := 319) dL_would_291 rfl rfl ?_ ?_
        · refine mv_sub [1, 2, 3, 5, 7, 8, 9, 10, 11, 12, 13, 14, 15, 16, 0] rfl ?_
          exact sJ_L_would_319 l N0 D dA a0 x2 x3 x5 x7 x8 x9 x11 x12 x13 x14 x15 x16 x17 s0
        · refine mv_iload 6 dL_would_294 rfl rfl ?_
          refine mv_iload 15 dL_would_296 rfl rfl ?_
          refine mv_iload 4 dL_would_298 rfl rfl ?_
          refine mv_iadd dL_would_300 rfl ?_
          refine mv_iconst (v := (1 : Int32)) dL_would_301 (by decide) rfl ?_
          refine mv_iadd dL_would_302 rfl ?_
          refine mv_icmp_le (tgt := 524) dL_would_303 rfl rfl ?_ ?_
          · refine mv_sub [1] rfl ?_
            exact sJ_L_would_524 l N0 D dA a0
          · refine mv_iload 6 dL_would_306 rfl rfl ?_
            refine mv_iload 15 dL_would_308 rfl rfl ?_
            refine mv_iload 4 dL_would_310 rfl rfl ?_
            refine mv_iadd dL_would_312 rfl ?_
            refine mv_bipush (v := (30 : Int32)) dL_would_313 (by decide) rfl ?_
            refine mv_iadd dL_would_315 rfl ?_
            refine mv_icmp_gt (tgt := 524) dL_would_316 rfl rfl ?_ ?_
            · refine mv_sub [1] rfl ?_
              exact sJ_L_would_524 l N0 D dA a0
            · refine mv_sub [1, 2, 3, 5, 7, 8, 9, 10, 11, 12, 13, 14, 15, 16, 0] rfl ?_
              exact sJ_L_would_319 l N0 D dA a0 x2 x3 x5 x7 x8 x9 x11 x12 x13 x14 x15 x16 x17 s0
      · refine mv_sub [1, 2, 3, 5, 6, 7, 8, 9, 10, 11, 12, 13, 14, 15, 16, 0] rfl ?_
        exact sJ_L_would_278 l N0 D dA a0 x2 x3 x5 x6 x7 x8 x9 x11 x12 x13 x14 x15 x16 x17 s0

def J_L_would_254 (a0 : Nat) (x2 : Int32) (x3 : Int32) (x4 : Int32) (x5 : Int32) (x6 : Int32) (x7 : Int32) (x8 : Int32) (x9 : Int32) (x11 : Int32) (x12 : Int32) (x13 : Int32) (x14 : Int32) (x15 : Int32) (x16 : Int32) (x17 : Int32) : mv_M Int32 :=
  J_L_would_259 a0 x2 x3 x4 x5 x6 x7 x8 x9 x11 x12 x13 x14 x15 x16 x17 (1 : Int32)

set_option maxHeartbeats 4000000 in
set_option maxRecDepth 100000 in
theorem sJ_L_would_254 (l : Launch) (N0 : Nat) (D : va_G) (dA : Nat → ClassId) (a0 : Nat) (x2 : Int32) (x3 : Int32) (x4 : Int32) (x5 : Int32) (x6 : Int32) (x7 : Int32) (x8 : Int32) (x9 : Int32) (x11 : Int32) (x12 : Int32) (x13 : Int32) (x14 : Int32) (x15 : Int32) (x16 : Int32) (x17 : Int32) : mv_Sim l N0 D dA RL cL_would 19 7 173 (some .boolean) false mv_rI 254 [(0, mv_vr N0 (some a0)), (2, .int x2), (3, .int x3), (4, .int x4), (5, .int x5), (6, .int x6), (7, .int x7), (8, .int x8), (9, .int x9), (11, .int x11), (12, .int x12), (13, .int x13), (14, .int x14), (15, .int x15), (16, .int x16), (17, .int x17)] [] (J_L_would_254 a0 x2 x3 x4 x5 x6 x7 x8 x9 x11 x12 x13 x14 x15 x16 x17) := by
  unfold J_L_would_254
  refine mv_iconst (v := (1 : Int32)) dL_would_254 (by decide) rfl ?_
  refine mv_goto (q := 259) dL_would_255 rfl ?_
  refine mv_sub [0, 1, 2, 3, 4, 5, 6, 7, 8, 9, 10, 11, 12, 13, 14, 15] rfl ?_
  exact sJ_L_would_259 l N0 D dA a0 x2 x3 x4 x5 x6 x7 x8 x9 x11 x12 x13 x14 x15 x16 x17 (1 : Int32)

def J_L_would_225 (a0 : Nat) (x2 : Int32) (x3 : Int32) (x4 : Int32) (x5 : Int32) (x6 : Int32) (x7 : Int32) (x8 : Int32) (x9 : Int32) (x11 : Int32) (x12 : Int32) (x13 : Int32) (x14 : Int32) (x15 : Int32) (x16 : Int32) (s0 : Int32) : mv_M Int32 :=
  if x13 = x14 then
    J_L_would_254 a0 x2 x3 x4 x5 x6 x7 x8 x9 x11 x12 x13 x14 x15 x16 s0
  else
    mv_bd (mv_rc 6 7 (some a0)) fun i14 => mv_bd (F_X6_count i14 (2 : Int32)) fun v13 =>
    if x13 = v13 then
      J_L_would_254 a0 x2 x3 x4 x5 x6 x7 x8 x9 x11 x12 x13 x14 x15 x16 s0
    else
      mv_bd (mv_rc 6 7 (some a0)) fun i16 => mv_bd (F_X6_count i16 (2 : Int32)) fun v15 =>
      if x14 = v15 then
        J_L_would_254 a0 x2 x3 x4 x5 x6 x7 x8 x9 x11 x12 x13 x14 x15 x16 s0
      else
        J_L_would_259 a0 x2 x3 x4 x5 x6 x7 x8 x9 x11 x12 x13 x14 x15 x16 s0 (0 : Int32)

set_option maxHeartbeats 4000000 in
set_option maxRecDepth 100000 in
theorem sJ_L_would_225 (l : Launch) (N0 : Nat) (D : va_G) (dA : Nat → ClassId) (a0 : Nat) (x2 : Int32) (x3 : Int32) (x4 : Int32) (x5 : Int32) (x6 : Int32) (x7 : Int32) (x8 : Int32) (x9 : Int32) (x11 : Int32) (x12 : Int32) (x13 : Int32) (x14 : Int32) (x15 : Int32) (x16 : Int32) (s0 : Int32) : mv_Sim l N0 D dA RL cL_would 19 7 173 (some .boolean) false mv_rI 225 [(0, mv_vr N0 (some a0)), (2, .int x2), (3, .int x3), (4, .int x4), (5, .int x5), (6, .int x6), (7, .int x7), (8, .int x8), (9, .int x9), (11, .int x11), (12, .int x12), (13, .int x13), (14, .int x14), (15, .int x15), (16, .int x16)] [.int s0] (J_L_would_225 a0 x2 x3 x4 x5 x6 x7 x8 x9 x11 x12 x13 x14 x15 x16 s0) := by
  unfold J_L_would_225
  refine mw_istore rfl dL_would_225 (by decide) rfl rfl ?_
  refine mv_iload 12 dL_would_227 rfl rfl ?_
  refine mv_iload 13 dL_would_229 rfl rfl ?_
  refine mv_icmp_eq (tgt := 254) dL_would_231 rfl rfl ?_ ?_
  · refine mv_sub [1, 2, 3, 4, 5, 6, 7, 8, 9, 10, 11, 12, 13, 14, 15, 0] rfl ?_
    exact sJ_L_would_254 l N0 D dA a0 x2 x3 x4 x5 x6 x7 x8 x9 x11 x12 x13 x14 x15 x16 s0
  · refine mv_iload 12 dL_would_234 rfl rfl ?_
    refine mv_aload_n 1 dL_would_236 rfl rfl rfl ?_
    refine mv_iconst (v := (2 : Int32)) dL_would_237 (by decide) rfl ?_
    refine mv_callVi (st := [.int x13]) [.int (2 : Int32)] (fun i14 => c_X6_count l N0 D dA i14 (2 : Int32)) (T := TX6) rfl (by decide) wc_L_13 ⟨by decide, by decide⟩ rfl (Nat.le_of_ble_eq_true rfl) dL_would_238 rfl (fun v13 => ?_)
    refine mv_icmp_eq (tgt := 254) dL_would_241 rfl rfl ?_ ?_
    · refine mv_sub [1, 2, 3, 4, 5, 6, 7, 8, 9, 10, 11, 12, 13, 14, 15, 0] rfl ?_
      exact sJ_L_would_254 l N0 D dA a0 x2 x3 x4 x5 x6 x7 x8 x9 x11 x12 x13 x14 x15 x16 s0
    · refine mv_iload 13 dL_would_244 rfl rfl ?_
      refine mv_aload_n 1 dL_would_246 rfl rfl rfl ?_
      refine mv_iconst (v := (2 : Int32)) dL_would_247 (by decide) rfl ?_
      refine mv_callVi (st := [.int x14]) [.int (2 : Int32)] (fun i16 => c_X6_count l N0 D dA i16 (2 : Int32)) (T := TX6) rfl (by decide) wc_L_13 ⟨by decide, by decide⟩ rfl (Nat.le_of_ble_eq_true rfl) dL_would_248 rfl (fun v15 => ?_)
      refine mv_icmp_ne (tgt := 258) dL_would_251 rfl rfl ?_ ?_
      · refine mv_iconst (v := (0 : Int32)) dL_would_258 (by decide) rfl ?_
        refine mv_sub [1, 2, 3, 4, 5, 6, 7, 8, 9, 10, 11, 12, 13, 14, 15, 0] rfl ?_
        exact sJ_L_would_259 l N0 D dA a0 x2 x3 x4 x5 x6 x7 x8 x9 x11 x12 x13 x14 x15 x16 s0 (0 : Int32)
      · refine mv_sub [1, 2, 3, 4, 5, 6, 7, 8, 9, 10, 11, 12, 13, 14, 15, 0] rfl ?_
        exact sJ_L_would_254 l N0 D dA a0 x2 x3 x4 x5 x6 x7 x8 x9 x11 x12 x13 x14 x15 x16 s0

def J_L_would_220 (a0 : Nat) (x2 : Int32) (x3 : Int32) (x4 : Int32) (x5 : Int32) (x6 : Int32) (x7 : Int32) (x8 : Int32) (x9 : Int32) (x11 : Int32) (x12 : Int32) (x13 : Int32) (x14 : Int32) (x15 : Int32) (x16 : Int32) : mv_M Int32 :=
  J_L_would_225 a0 x2 x3 x4 x5 x6 x7 x8 x9 x11 x12 x13 x14 x15 x16 (1 : Int32)

set_option maxHeartbeats 4000000 in
set_option maxRecDepth 100000 in
theorem sJ_L_would_220 (l : Launch) (N0 : Nat) (D : va_G) (dA : Nat → ClassId) (a0 : Nat) (x2 : Int32) (x3 : Int32) (x4 : Int32) (x5 : Int32) (x6 : Int32) (x7 : Int32) (x8 : Int32) (x9 : Int32) (x11 : Int32) (x12 : Int32) (x13 : Int32) (x14 : Int32) (x15 : Int32) (x16 : Int32) : mv_Sim l N0 D dA RL cL_would 19 7 173 (some .boolean) false mv_rI 220 [(0, mv_vr N0 (some a0)), (2, .int x2), (3, .int x3), (4, .int x4), (5, .int x5), (6, .int x6), (7, .int x7), (8, .int x8), (9, .int x9), (11, .int x11), (12, .int x12), (13, .int x13), (14, .int x14), (15, .int x15), (16, .int x16)] [] (J_L_would_220 a0 x2 x3 x4 x5 x6 x7 x8 x9 x11 x12 x13 x14 x15 x16) := by
  unfold J_L_would_220
  refine mv_iconst (v := (1 : Int32)) dL_would_220 (by decide) rfl ?_
  refine mv_goto (q := 225) dL_would_221 rfl ?_
  refine mv_sub [0, 1, 2, 3, 4, 5, 6, 7, 8, 9, 10, 11, 12, 13, 14] rfl ?_
  exact sJ_L_would_225 l N0 D dA a0 x2 x3 x4 x5 x6 x7 x8 x9 x11 x12 x13 x14 x15 x16 (1 : Int32)

def J_L_would_185 (a0 : Nat) (x2 : Int32) (x3 : Int32) (x4 : Int32) (x5 : Int32) (x6 : Int32) (x7 : Int32) (x8 : Int32) (x9 : Int32) (x10 : Int32) (x11 : Int32) (x12 : Int32) (x13 : Int32) (x14 : Int32) (s1 : Int32) (s2 : Int32) (s3 : Int32) : mv_M Int32 :=
  mv_bd (mv_rc 6 7 (some a0)) fun i18 => mv_bd (F_X6_meeting i18 s1 s2 s3) fun v17 =>
  mv_bd (mv_rc 6 7 (some a0)) fun i20 => mv_bd (F_X6_count i20 (0 : Int32)) fun v19 =>
  if x10 = 0 then
    J_L_would_220 a0 x2 x3 x4 x5 x6 x7 x8 x9 x11 x12 x13 x14 v17 v19
  else
    if x10 = (31 : Int32) then
      J_L_would_220 a0 x2 x3 x4 x5 x6 x7 x8 x9 x11 x12 x13 x14 v17 v19
    else
      if x11 < 0 then
        J_L_would_220 a0 x2 x3 x4 x5 x6 x7 x8 x9 x11 x12 x13 x14 v17 v19
      else
        if x11 ≤ (2 : Int32) then
          J_L_would_225 a0 x2 x3 x4 x5 x6 x7 x8 x9 x11 x12 x13 x14 v17 v19 (0 : Int32)
        else
          J_L_would_220 a0 x2 x3 x4 x5 x6 x7 x8 x9 x11 x12 x13 x14 v17 v19

set_option maxHeartbeats 4000000 in
set_option maxRecDepth 100000 in
theorem sJ_L_would_185 (l : Launch) (N0 : Nat) (D : va_G) (dA : Nat → ClassId) (a0 : Nat) (x2 : Int32) (x3 : Int32) (x4 : Int32) (x5 : Int32) (x6 : Int32) (x7 : Int32) (x8 : Int32) (x9 : Int32) (x10 : Int32) (x11 : Int32) (x12 : Int32) (x13 : Int32) (x14 : Int32) (s1 : Int32) (s2 : Int32) (s3 : Int32) : mv_Sim l N0 D dA RL cL_would 19 7 173 (some .boolean) false mv_rI 185 [(0, mv_vr N0 (some a0)), (2, .int x2), (3, .int x3), (4, .int x4), (5, .int x5), (6, .int x6), (7, .int x7), (8, .int x8), (9, .int x9), (10, .int x10), (11, .int x11), (12, .int x12), (13, .int x13), (14, .int x14)] [.int s3, .int s2, .int s1, mv_vr N0 (some a0)] (J_L_would_185 a0 x2 x3 x4 x5 x6 x7 x8 x9 x10 x11 x12 x13 x14 s1 s2 s3) := by
  unfold J_L_would_185
  refine mv_callVi (st := []) [.int s1, .int s2, .int s3] (fun i18 => c_X6_meeting l N0 D dA i18 s1 s2 s3) (T := TX6) rfl (by decide) wc_L_54 ⟨by decide, by decide⟩ rfl (Nat.le_of_ble_eq_true rfl) dL_would_185 rfl (fun v17 => ?_)
  refine mw_istore rfl dL_would_188 (by decide) rfl rfl ?_
  refine mv_aload_n 1 dL_would_190 rfl rfl rfl ?_
  refine mv_iconst (v := (0 : Int32)) dL_would_191 (by decide) rfl ?_
  refine mv_callVi (st := []) [.int (0 : Int32)] (fun i20 => c_X6_count l N0 D dA i20 (0 : Int32)) (T := TX6) rfl (by decide) wc_L_13 ⟨by decide, by decide⟩ rfl (Nat.le_of_ble_eq_true rfl) dL_would_192 rfl (fun v19 => ?_)
  refine mw_istore rfl dL_would_195 (by decide) rfl rfl ?_
  refine mv_iload 11 dL_would_197 rfl rfl ?_
  refine mv_if_eq (tgt := 220) dL_would_199 rfl rfl ?_ ?_
  · refine mv_sub [2, 3, 4, 5, 6, 7, 8, 9, 10, 12, 13, 14, 15, 1, 0] rfl ?_
    exact sJ_L_would_220 l N0 D dA a0 x2 x3 x4 x5 x6 x7 x8 x9 x11 x12 x13 x14 v17 v19
  · refine mv_iload 11 dL_would_202 rfl rfl ?_
    refine mv_bipush (v := (31 : Int32)) dL_would_204 (by decide) rfl ?_
    refine mv_icmp_eq (tgt := 220) dL_would_206 rfl rfl ?_ ?_
    · refine mv_sub [2, 3, 4, 5, 6, 7, 8, 9, 10, 12, 13, 14, 15, 1, 0] rfl ?_
      exact sJ_L_would_220 l N0 D dA a0 x2 x3 x4 x5 x6 x7 x8 x9 x11 x12 x13 x14 v17 v19
    · refine mv_iload 12 dL_would_209 rfl rfl ?_
      refine mv_if_lt (tgt := 220) dL_would_211 rfl rfl ?_ ?_
      · refine mv_sub [2, 3, 4, 5, 6, 7, 8, 9, 10, 12, 13, 14, 15, 1, 0] rfl ?_
        exact sJ_L_would_220 l N0 D dA a0 x2 x3 x4 x5 x6 x7 x8 x9 x11 x12 x13 x14 v17 v19
      · refine mv_iload 12 dL_would_214 rfl rfl ?_
        refine mv_iconst (v := (2 : Int32)) dL_would_216 (by decide) rfl ?_
        refine mv_icmp_le (tgt := 224) dL_would_217 rfl rfl ?_ ?_
        · refine mv_iconst (v := (0 : Int32)) dL_would_224 (by decide) rfl ?_
          refine mv_sub [2, 3, 4, 5, 6, 7, 8, 9, 10, 12, 13, 14, 15, 1, 0] rfl ?_
          exact sJ_L_would_225 l N0 D dA a0 x2 x3 x4 x5 x6 x7 x8 x9 x11 x12 x13 x14 v17 v19 (0 : Int32)
        · refine mv_sub [2, 3, 4, 5, 6, 7, 8, 9, 10, 12, 13, 14, 15, 1, 0] rfl ?_
          exact sJ_L_would_220 l N0 D dA a0 x2 x3 x4 x5 x6 x7 x8 x9 x11 x12 x13 x14 v17 v19

def J_L_would_61 (a0 : Nat) (x1 : Int32) (x2 : Int32) (x3 : Int32) (x4 : Int32) (s0 : Int32) : mv_M Int32 :=
  mv_bd (mv_rc 6 7 (some a0)) fun i22 => mv_bd (F_X6_ifPosted i22 x2 x3 x4) fun v21 =>
  mv_bd (mv_rc 6 7 (some a0)) fun i24 => mv_bd (F_X6_bestDay i24 x2 x3) fun v23 =>
  mv_bd (F_L_low (x1 >>> ((9 : Int32) &&& 31)) (9 : Int32)) fun v25 =>
  mv_bd (mv_pu (v25 - (1 : Int32))) fun v26 =>
  mv_bd (mv_rc 6 7 (some a0)) fun i28 => mv_bd (F_X6_bestTown i28 v26) fun v27 =>
  mv_bd (F_L_low (x1 >>> ((4 : Int32) &&& 31)) (32 : Int32)) fun v29 =>
  mv_bd (F_L_low (x1 >>> ((7 : Int32) &&& 31)) (5 : Int32)) fun v30 =>
  mv_bd (mv_pu (v30 - (1 : Int32))) fun v31 =>
  mv_bd (mv_rc 6 7 (some a0)) fun i33 => mv_bd (F_X6_ifPassed i33 v29 v31) fun v32 =>
  mv_bd (mv_rc 6 7 (some a0)) fun i35 => mv_bd (F_X6_count i35 (2 : Int32)) fun v34 =>
  mv_bd (F_L_low (x1 >>> ((2 : Int32) &&& 31)) (v34 + (1 : Int32))) fun v36 =>
  mv_bd (mv_rc 6 7 (some a0)) fun i38 => mv_bd (F_X6_count i38 (2 : Int32)) fun v37 =>
  mv_bd (F_L_low (x1 >>> ((8 : Int32) &&& 31)) (v37 + (1 : Int32))) fun v39 =>
  mv_bd (F_L_low (x1 >>> ((5 : Int32) &&& 31)) (2 : Int32)) fun v40 =>
  if v40 = 0 then
    J_L_would_185 a0 x2 x3 x4 s0 v21 v23 v26 v27 v29 v31 v32 v36 v39 v36 v39 (1 : Int32)
  else
    J_L_would_185 a0 x2 x3 x4 s0 v21 v23 v26 v27 v29 v31 v32 v36 v39 v36 v39 (0 : Int32)

set_option maxHeartbeats 4000000 in
set_option maxRecDepth 100000 in
theorem sJ_L_would_61 (l : Launch) (N0 : Nat) (D : va_G) (dA : Nat → ClassId) (a0 : Nat) (x1 : Int32) (x2 : Int32) (x3 : Int32) (x4 : Int32) (s0 : Int32) : mv_Sim l N0 D dA RL cL_would 19 7 173 (some .boolean) false mv_rI 61 [(0, mv_vr N0 (some a0)), (1, .int x1), (2, .int x2), (3, .int x3), (4, .int x4)] [.int s0] (J_L_would_61 a0 x1 x2 x3 x4 s0) := by
  unfold J_L_would_61
  refine mw_istore rfl dL_would_61 (by decide) rfl rfl ?_
  refine mv_aload_n 1 dL_would_63 rfl rfl rfl ?_
  refine mv_iload_n 3 dL_would_64 rfl rfl rfl ?_
  refine mv_iload_n 4 dL_would_65 rfl rfl rfl ?_
  refine mv_iload 5 dL_would_66 rfl rfl ?_
  refine mv_callVi (st := []) [.int x2, .int x3, .int x4] (fun i22 => c_X6_ifPosted l N0 D dA i22 x2 x3 x4) (T := TX6) rfl (by decide) wc_L_41 ⟨by decide, by decide⟩ rfl (Nat.le_of_ble_eq_true rfl) dL_would_68 rfl (fun v21 => ?_)
  refine mw_istore rfl dL_would_71 (by decide) rfl rfl ?_
  refine mv_aload_n 2 dL_would_73 rfl rfl rfl ?_
  refine mv_iload_n 4 dL_would_74 rfl rfl rfl ?_
  refine mv_iload_n 5 dL_would_75 rfl rfl rfl ?_
  refine mv_callVi (st := []) [.int x2, .int x3] (fun i24 => c_X6_bestDay l N0 D dA i24 x2 x3) (T := TX6) rfl (by decide) wc_L_45 ⟨by decide, by decide⟩ rfl (Nat.le_of_ble_eq_true rfl) dL_would_76 rfl (fun v23 => ?_)
  refine mw_istore rfl dL_would_79 (by decide) rfl rfl ?_
  refine mv_iload_n 4 dL_would_81 rfl rfl rfl ?_
  refine mv_bipush (v := (9 : Int32)) dL_would_82 (by decide) rfl ?_
  refine mv_ishr dL_would_84 rfl ?_
  refine mv_bipush (v := (9 : Int32)) dL_would_85 (by decide) rfl ?_
  refine mv_callSi (st := []) [.int (x1 >>> ((9 : Int32) &&& 31)), .int (9 : Int32)] (c_L_low l N0 D dA (x1 >>> ((9 : Int32) &&& 31)) (9 : Int32)) wc_L_38 ⟨by decide, by decide⟩ rfl (Nat.le_of_ble_eq_true rfl) dL_would_87 rfl (fun v25 => ?_)
  refine mv_iconst (v := (1 : Int32)) dL_would_90 (by decide) rfl ?_
  refine mv_isub dL_would_91 rfl ?_
  refine mv_let (fun v26 => ?_)
  refine mw_istore rfl dL_would_92 (by decide) rfl rfl ?_
  refine mv_aload_n 4 dL_would_94 rfl rfl rfl ?_
  refine mv_iload 0 dL_would_95 rfl rfl ?_
  refine mv_callVi (st := []) [.int v26] (fun i28 => c_X6_bestTown l N0 D dA i28 v26) (T := TX6) rfl (by decide) wc_L_48 ⟨by decide, by decide⟩ rfl (Nat.le_of_ble_eq_true rfl) dL_would_97 rfl (fun v27 => ?_)
  refine mw_istore rfl dL_would_100 (by decide) rfl rfl ?_
  refine mv_iload_n 6 dL_would_102 rfl rfl rfl ?_
  refine mv_iconst (v := (4 : Int32)) dL_would_103 (by decide) rfl ?_
  refine mv_ishr dL_would_104 rfl ?_
  refine mv_bipush (v := (32 : Int32)) dL_would_105 (by decide) rfl ?_
  refine mv_callSi (st := []) [.int (x1 >>> ((4 : Int32) &&& 31)), .int (32 : Int32)] (c_L_low l N0 D dA (x1 >>> ((4 : Int32) &&& 31)) (32 : Int32)) wc_L_38 ⟨by decide, by decide⟩ rfl (Nat.le_of_ble_eq_true rfl) dL_would_107 rfl (fun v29 => ?_)
  refine mw_istore rfl dL_would_110 (by decide) rfl rfl ?_
  refine mv_iload_n 7 dL_would_112 rfl rfl rfl ?_
  refine mv_bipush (v := (7 : Int32)) dL_would_113 (by decide) rfl ?_
  refine mv_ishr dL_would_115 rfl ?_
  refine mv_iconst (v := (5 : Int32)) dL_would_116 (by decide) rfl ?_
  refine mv_callSi (st := []) [.int (x1 >>> ((7 : Int32) &&& 31)), .int (5 : Int32)] (c_L_low l N0 D dA (x1 >>> ((7 : Int32) &&& 31)) (5 : Int32)) wc_L_38 ⟨by decide, by decide⟩ rfl (Nat.le_of_ble_eq_true rfl) dL_would_117 rfl (fun v30 => ?_)
  refine mv_iconst (v := (1 : Int32)) dL_would_120 (by decide) rfl ?_
  refine mv_isub dL_would_121 rfl ?_
  refine mv_let (fun v31 => ?_)
  refine mw_istore rfl dL_would_122 (by decide) rfl rfl ?_
  refine mv_aload_n 7 dL_would_124 rfl rfl rfl ?_
  refine mv_iload 1 dL_would_125 rfl rfl ?_
  refine mv_iload 0 dL_would_127 rfl rfl ?_
  refine mv_callVi (st := []) [.int v29, .int v31] (fun i33 => c_X6_ifPassed l N0 D dA i33 v29 v31) (T := TX6) rfl (by decide) wc_L_51 ⟨by decide, by decide⟩ rfl (Nat.le_of_ble_eq_true rfl) dL_would_129 rfl (fun v32 => ?_)
  refine mw_istore rfl dL_would_132 (by decide) rfl rfl ?_
  refine mv_iload_n 9 dL_would_134 rfl rfl rfl ?_
  refine mv_iconst (v := (2 : Int32)) dL_would_135 (by decide) rfl ?_
  refine mv_ishr dL_would_136 rfl ?_
  refine mv_aload_n 8 dL_would_137 rfl rfl rfl ?_
  refine mv_iconst (v := (2 : Int32)) dL_would_138 (by decide) rfl ?_
  refine mv_callVi (st := [.int (x1 >>> ((2 : Int32) &&& 31))]) [.int (2 : Int32)] (fun i35 => c_X6_count l N0 D dA i35 (2 : Int32)) (T := TX6) rfl (by decide) wc_L_13 ⟨by decide, by decide⟩ rfl (Nat.le_of_ble_eq_true rfl) dL_would_139 rfl (fun v34 => ?_)
  refine mv_iconst (v := (1 : Int32)) dL_would_142 (by decide) rfl ?_
  refine mv_iadd dL_would_143 rfl ?_
  refine mv_callSi (st := []) [.int (x1 >>> ((2 : Int32) &&& 31)), .int (v34 + (1 : Int32))] (c_L_low l N0 D dA (x1 >>> ((2 : Int32) &&& 31)) (v34 + (1 : Int32))) wc_L_38 ⟨by decide, by decide⟩ rfl (Nat.le_of_ble_eq_true rfl) dL_would_144 rfl (fun v36 => ?_)
  refine mw_istore rfl dL_would_147 (by decide) rfl rfl ?_
  refine mv_iload_n 10 dL_would_149 rfl rfl rfl ?_
  refine mv_bipush (v := (8 : Int32)) dL_would_150 (by decide) rfl ?_
  refine mv_ishr dL_would_152 rfl ?_
  refine mv_aload_n 9 dL_would_153 rfl rfl rfl ?_
  refine mv_iconst (v := (2 : Int32)) dL_would_154 (by decide) rfl ?_
  refine mv_callVi (st := [.int (x1 >>> ((8 : Int32) &&& 31))]) [.int (2 : Int32)] (fun i38 => c_X6_count l N0 D dA i38 (2 : Int32)) (T := TX6) rfl (by decide) wc_L_13 ⟨by decide, by decide⟩ rfl (Nat.le_of_ble_eq_true rfl) dL_would_155 rfl (fun v37 => ?_)
  refine mv_iconst (v := (1 : Int32)) dL_would_158 (by decide) rfl ?_
  refine mv_iadd dL_would_159 rfl ?_
  refine mv_callSi (st := []) [.int (x1 >>> ((8 : Int32) &&& 31)), .int (v37 + (1 : Int32))] (c_L_low l N0 D dA (x1 >>> ((8 : Int32) &&& 31)) (v37 + (1 : Int32))) wc_L_38 ⟨by decide, by decide⟩ rfl (Nat.le_of_ble_eq_true rfl) dL_would_160 rfl (fun v39 => ?_)
  refine mw_istore rfl dL_would_163 (by decide) rfl rfl ?_
  refine mv_aload_n 10 dL_would_165 rfl rfl rfl ?_
  refine mv_iload 1 dL_would_166 rfl rfl ?_
  refine mv_iload 0 dL_would_168 rfl rfl ?_
  refine mv_iload_n 11 dL_would_170 rfl rfl rfl ?_
  refine mv_iconst (v := (5 : Int32)) dL_would_171 (by decide) rfl ?_
  refine mv_ishr dL_would_172 rfl ?_
  refine mv_iconst (v := (2 : Int32)) dL_would_173 (by decide) rfl ?_
  refine mv_callSi (st := [.int v39, .int v36, mv_vr N0 (some a0)]) [.int (x1 >>> ((5 : Int32) &&& 31)), .int (2 : Int32)] (c_L_low l N0 D dA (x1 >>> ((5 : Int32) &&& 31)) (2 : Int32)) wc_L_38 ⟨by decide, by decide⟩ rfl (Nat.le_of_ble_eq_true rfl) dL_would_174 rfl (fun v40 => ?_)
  refine mv_if_ne (tgt := 184) dL_would_177 rfl rfl ?_ ?_
  · refine mv_iconst (v := (0 : Int32)) dL_would_184 (by decide) rfl ?_
    refine mv_sub [10, 12, 13, 14, 9, 8, 7, 6, 5, 4, 3, 2, 1, 0] rfl ?_
    exact sJ_L_would_185 l N0 D dA a0 x2 x3 x4 s0 v21 v23 v26 v27 v29 v31 v32 v36 v39 v36 v39 (0 : Int32)
  · refine mv_iconst (v := (1 : Int32)) dL_would_180 (by decide) rfl ?_
    refine mv_goto (q := 185) dL_would_181 rfl ?_
    refine mv_sub [10, 12, 13, 14, 9, 8, 7, 6, 5, 4, 3, 2, 1, 0] rfl ?_
    exact sJ_L_would_185 l N0 D dA a0 x2 x3 x4 s0 v21 v23 v26 v27 v29 v31 v32 v36 v39 v36 v39 (1 : Int32)

def J_L_would_56 (a0 : Nat) (x1 : Int32) (x2 : Int32) (x3 : Int32) (x4 : Int32) : mv_M Int32 :=
  J_L_would_61 a0 x1 x2 x3 x4 (1 : Int32)

set_option maxHeartbeats 4000000 in
set_option maxRecDepth 100000 in
theorem sJ_L_would_56 (l : Launch) (N0 : Nat) (D : va_G) (dA : Nat → ClassId) (a0 : Nat) (x1 : Int32) (x2 : Int32) (x3 : Int32) (x4 : Int32) : mv_Sim l N0 D dA RL cL_would 19 7 173 (some .boolean) false mv_rI 56 [(0, mv_vr N0 (some a0)), (1, .int x1), (2, .int x2), (3, .int x3), (4, .int x4)] [] (J_L_would_56 a0 x1 x2 x3 x4) := by
  unfold J_L_would_56
  refine mv_iconst (v := (1 : Int32)) dL_would_56 (by decide) rfl ?_
  refine mv_goto (q := 61) dL_would_57 rfl ?_
  refine mv_sub [0, 1, 2, 3, 4] rfl ?_
  exact sJ_L_would_61 l N0 D dA a0 x1 x2 x3 x4 (1 : Int32)

def F_L_would (a0 : Nat) (a1 : Int32) : mv_M Int32 :=
  mv_bd (F_L_low a1 (8 : Int32)) fun v41 =>
  mv_bd (mv_pu (v41 - (1 : Int32))) fun v42 =>
  mv_bd (F_L_low (a1 >>> ((3 : Int32) &&& 31)) (8 : Int32)) fun v43 =>
  mv_bd (mv_pu (v43 - (1 : Int32))) fun v44 =>
  mv_bd (F_L_low (a1 >>> ((6 : Int32) &&& 31)) (33 : Int32)) fun v45 =>
  mv_bd (mv_pu (v45 - (1 : Int32))) fun v46 =>
  if v42 < 0 then
    J_L_would_56 a0 a1 v42 v44 v46
  else
    if (5 : Int32) < v42 then
      J_L_would_56 a0 a1 v42 v44 v46
    else
      if v44 < 0 then
        J_L_would_56 a0 a1 v42 v44 v46
      else
        if (5 : Int32) < v44 then
          J_L_would_56 a0 a1 v42 v44 v46
        else
          if v42 = v44 then
            J_L_would_56 a0 a1 v42 v44 v46
          else
            J_L_would_61 a0 a1 v42 v44 v46 (0 : Int32)

set_option maxHeartbeats 4000000 in
set_option maxRecDepth 100000 in
theorem c_L_would (l : Launch) (N0 : Nat) (D : va_G) (dA : Nat → ClassId) (a0 : Nat) (a1 : Int32) : mv_SimM l N0 D dA yL_would cL_would 19 (some .boolean) 7 173 mv_rI [.ref (N0 + a0), .int a1] (F_L_would a0 a1) := by
  refine mv_SimM_oL (L0 := [(0, mv_vr N0 (some a0)), (1, .int a1)]) false (by decide +kernel) (Nat.le_of_ble_eq_true rfl) rfl (rfl) (fun z => by cases z) ?_
  unfold F_L_would
  show mv_Sim l N0 D dA RL cL_would 19 7 173 (some .boolean) false mv_rI 0 _ _ _
  refine mv_iload_n 1 dL_would_0 rfl rfl rfl ?_
  refine mv_bipush (v := (8 : Int32)) dL_would_1 (by decide) rfl ?_
  refine mv_callSi (st := []) [.int a1, .int (8 : Int32)] (c_L_low l N0 D dA a1 (8 : Int32)) wc_L_38 ⟨by decide, by decide⟩ rfl (Nat.le_of_ble_eq_true rfl) dL_would_3 rfl (fun v41 => ?_)
  refine mv_iconst (v := (1 : Int32)) dL_would_6 (by decide) rfl ?_
  refine mv_isub dL_would_7 rfl ?_
  refine mv_let (fun v42 => ?_)
  refine mw_istore_n rfl dL_would_8 rfl (by decide) rfl rfl ?_
  refine mv_iload_n 2 dL_would_9 rfl rfl rfl ?_
  refine mv_iconst (v := (3 : Int32)) dL_would_10 (by decide) rfl ?_
  refine mv_ishr dL_would_11 rfl ?_
  refine mv_bipush (v := (8 : Int32)) dL_would_12 (by decide) rfl ?_
  refine mv_callSi (st := []) [.int (a1 >>> ((3 : Int32) &&& 31)), .int (8 : Int32)] (c_L_low l N0 D dA (a1 >>> ((3 : Int32) &&& 31)) (8 : Int32)) wc_L_38 ⟨by decide, by decide⟩ rfl (Nat.le_of_ble_eq_true rfl) dL_would_14 rfl (fun v43 => ?_)
  refine mv_iconst (v := (1 : Int32)) dL_would_17 (by decide) rfl ?_
  refine mv_isub dL_would_18 rfl ?_
  refine mv_let (fun v44 => ?_)
  refine mw_istore_n rfl dL_would_19 rfl (by decide) rfl rfl ?_
  refine mv_iload_n 3 dL_would_20 rfl rfl rfl ?_
  refine mv_bipush (v := (6 : Int32)) dL_would_21 (by decide) rfl ?_
  refine mv_ishr dL_would_23 rfl ?_
  refine mv_bipush (v := (33 : Int32)) dL_would_24 (by decide) rfl ?_
  refine mv_callSi (st := []) [.int (a1 >>> ((6 : Int32) &&& 31)), .int (33 : Int32)] (c_L_low l N0 D dA (a1 >>> ((6 : Int32) &&& 31)) (33 : Int32)) wc_L_38 ⟨by decide, by decide⟩ rfl (Nat.le_of_ble_eq_true rfl) dL_would_26 rfl (fun v45 => ?_)
  refine mv_iconst (v := (1 : Int32)) dL_would_29 (by decide) rfl ?_
  refine mv_isub dL_would_30 rfl ?_
  refine mv_let (fun v46 => ?_)
  refine mw_istore rfl dL_would_31 (by decide) rfl rfl ?_
  refine mv_iload_n 2 dL_would_33 rfl rfl rfl ?_
  refine mv_if_lt (tgt := 56) dL_would_34 rfl rfl ?_ ?_
  · refine mv_sub [3, 4, 2, 1, 0] rfl ?_
    exact sJ_L_would_56 l N0 D dA a0 a1 v42 v44 v46
  · refine mv_iload_n 2 dL_would_37 rfl rfl rfl ?_
    refine mv_iconst (v := (5 : Int32)) dL_would_38 (by decide) rfl ?_
    refine mv_icmp_gt (tgt := 56) dL_would_39 rfl rfl ?_ ?_
    · refine mv_sub [3, 4, 2, 1, 0] rfl ?_
      exact sJ_L_would_56 l N0 D dA a0 a1 v42 v44 v46
    · refine mv_iload_n 1 dL_would_42 rfl rfl rfl ?_
      refine mv_if_lt (tgt := 56) dL_would_43 rfl rfl ?_ ?_
      · refine mv_sub [3, 4, 2, 1, 0] rfl ?_
        exact sJ_L_would_56 l N0 D dA a0 a1 v42 v44 v46
      · refine mv_iload_n 1 dL_would_46 rfl rfl rfl ?_
        refine mv_iconst (v := (5 : Int32)) dL_would_47 (by decide) rfl ?_
        refine mv_icmp_gt (tgt := 56) dL_would_48 rfl rfl ?_ ?_
        · refine mv_sub [3, 4, 2, 1, 0] rfl ?_
          exact sJ_L_would_56 l N0 D dA a0 a1 v42 v44 v46
        · refine mv_iload_n 2 dL_would_51 rfl rfl rfl ?_
          refine mv_iload_n 1 dL_would_52 rfl rfl rfl ?_
          refine mv_icmp_ne (tgt := 60) dL_would_53 rfl rfl ?_ ?_
          · refine mv_iconst (v := (0 : Int32)) dL_would_60 (by decide) rfl ?_
            refine mv_sub [3, 4, 2, 1, 0] rfl ?_
            exact sJ_L_would_61 l N0 D dA a0 a1 v42 v44 v46 (0 : Int32)
          · refine mv_sub [3, 4, 2, 1, 0] rfl ?_
            exact sJ_L_would_56 l N0 D dA a0 a1 v42 v44 v46

end
