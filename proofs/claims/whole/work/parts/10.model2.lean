section
def F_X7_takesDigit (a0 : Nat) (a1 : Int32) : mv_M Int32 :=
  mv_bd (mv_rc 7 12 (some a0)) fun i2 => mv_bd (F_X7_here i2 ) fun v1 =>
  mv_bd (mv_pu (v1 - (48 : Int32))) fun v3 =>
  mv_bd (F_X7_in v3 (0 : Int32) a1) fun v4 =>
  mv_bd (mv_rc 7 12 (some a0)) fun i5 => mv_bd (F_X7_takes i5 v4) fun _ =>
  mv_pu v3

set_option maxHeartbeats 4000000 in
set_option maxRecDepth 100000 in
theorem c_X7_takesDigit (l : Launch) (N0 : Nat) (D : va_G) (dA : Nat → ClassId) (a0 : Nat) (a1 : Int32) : mv_SimM l N0 D dA yX7_takesDigit cX7_takesDigit 3 (some .int) 1 22 mv_rI [.ref (N0 + a0), .int a1] (F_X7_takesDigit a0 a1) := by
  refine mv_SimM_of (L0 := [(0, mv_vr N0 (some a0)), (1, .int a1)]) false (by decide +kernel) (Nat.le_of_ble_eq_true rfl) rfl (List.forall_mem_cons.mpr ⟨mv_cat N0 (some a0), List.forall_mem_cons.mpr ⟨rfl, fun _ h => absurd h List.not_mem_nil⟩⟩) (fun z => by cases z) ?_
  unfold F_X7_takesDigit
  show mv_Sim l N0 D dA RX7 cX7_takesDigit 3 1 22 (some .int) false mv_rI 0 _ _ _
  refine mv_aload_n 0 dX7_takesDigit_0 rfl rfl rfl ?_
  refine mv_callVi (st := []) [] (fun i2 => c_X7_here l N0 D dA i2 ) (T := TX7) rfl (by decide) wc_X7_123 ⟨by decide, by decide⟩ rfl (mv_cs (Nat.le_of_ble_eq_true rfl) (fun _ h => absurd h List.not_mem_nil)) dX7_takesDigit_1 rfl (fun v1 => ?_)
  refine mv_bipush (v := (48 : Int32)) dX7_takesDigit_4 (by decide) rfl ?_
  refine mv_isub dX7_takesDigit_6 rfl ?_
  refine mv_let (fun v3 => ?_)
  refine mv_istore_n [0, 1] dX7_takesDigit_7 rfl (by decide) rfl rfl rfl ?_
  refine mv_aload_n 1 dX7_takesDigit_8 rfl rfl rfl ?_
  refine mv_iload_n 0 dX7_takesDigit_9 rfl rfl rfl ?_
  refine mv_iconst (v := (0 : Int32)) dX7_takesDigit_10 (by decide) rfl ?_
  refine mv_iload_n 2 dX7_takesDigit_11 rfl rfl rfl ?_
  refine mv_callSi (st := [mv_vr N0 (some a0)]) [.int v3, .int (0 : Int32), .int a1] (c_X7_in l N0 D dA v3 (0 : Int32) a1) wc_X7_36 ⟨by decide, by decide⟩ rfl (mv_cs (Nat.le_of_ble_eq_true rfl) (List.forall_mem_cons.mpr ⟨mv_cat N0 (some a0), fun _ h => absurd h List.not_mem_nil⟩)) dX7_takesDigit_12 rfl (fun v4 => ?_)
  refine mv_callVv (st := []) [.int v4] (fun i5 => c_X7_takes l N0 D dA i5 v4) (T := TX7) rfl (by decide) wc_X7_126 ⟨by decide, by decide⟩ rfl (mv_cs (Nat.le_of_ble_eq_true rfl) (fun _ h => absurd h List.not_mem_nil)) dX7_takesDigit_15 rfl ?_
  refine mv_iload_n 0 dX7_takesDigit_18 rfl rfl rfl ?_
  exact mv_iret dX7_takesDigit_19

def J_X7_takesLetter_88 (a0 : Nat) (s1 : Int32) : mv_M Unit :=
  mv_bd (mv_rc 7 12 (some a0)) fun i1 => mv_bd (F_X7_takes i1 s1) fun _ =>
  mv_bd (mv_gI 7 12 10 (some a0)) fun v2 =>
  mv_bd (mv_sI 7 12 10 (some a0) (v2 + (1 : Int32))) fun _ =>
  mv_pu ()

set_option maxHeartbeats 4000000 in
set_option maxRecDepth 100000 in
theorem sJ_X7_takesLetter_88 (l : Launch) (N0 : Nat) (D : va_G) (dA : Nat → ClassId) (a0 : Nat) (s1 : Int32) : mv_Sim l N0 D dA RX7 cX7_takesLetter 2 2 44 none false mv_rV 88 [(0, mv_vr N0 (some a0))] [.int s1, mv_vr N0 (some a0)] (J_X7_takesLetter_88 a0 s1) := by
  unfold J_X7_takesLetter_88
  refine mv_callVv (st := []) [.int s1] (fun i1 => c_X7_takes l N0 D dA i1 s1) (T := TX7) rfl (by decide) wc_X7_126 ⟨by decide, by decide⟩ rfl (mv_cs (Nat.le_of_ble_eq_true rfl) (fun _ h => absurd h List.not_mem_nil)) dX7_takesLetter_88 rfl ?_
  refine mv_aload_n 0 dX7_takesLetter_91 rfl rfl rfl ?_
  refine mv_dup dX7_takesLetter_92 (mv_cat N0 (some a0)) rfl ?_
  refine mv_getI fd_X7_10 lk_X7_130 dX7_takesLetter_93 rfl (fun v2 => ?_)
  refine mv_iconst (v := (1 : Int32)) dX7_takesLetter_96 (by decide) rfl ?_
  refine mv_iadd dX7_takesLetter_97 rfl ?_
  refine mv_putI fd_X7_10 rfl (tyX7_ok 10 (by decide)) lk_X7_130 dX7_takesLetter_98 rfl ?_
  exact mv_vret dX7_takesLetter_101

def J_X7_takesLetter_87 (a0 : Nat) : mv_M Unit :=
  J_X7_takesLetter_88 a0 (0 : Int32)

set_option maxHeartbeats 4000000 in
set_option maxRecDepth 100000 in
theorem sJ_X7_takesLetter_87 (l : Launch) (N0 : Nat) (D : va_G) (dA : Nat → ClassId) (a0 : Nat) : mv_Sim l N0 D dA RX7 cX7_takesLetter 2 2 44 none false mv_rV 87 [(0, mv_vr N0 (some a0))] [mv_vr N0 (some a0)] (J_X7_takesLetter_87 a0) := by
  unfold J_X7_takesLetter_87
  refine mv_iconst (v := (0 : Int32)) dX7_takesLetter_87 (by decide) rfl ?_
  refine mv_sub [0] rfl ?_
  exact sJ_X7_takesLetter_88 l N0 D dA a0 (0 : Int32)

def J_X7_takesLetter_33 (a0 : Nat) (x1 : Int32) (s1 : Int32) : mv_M Unit :=
  mv_bd (mv_rc 7 12 (some a0)) fun i3 => mv_bd (F_X7_takes i3 s1) fun _ =>
  mv_bd (mv_gR 7 12 11 (some a0)) fun v4 =>
  mv_bd (mv_rc 7 12 (some a0)) fun i6 => mv_bd (F_X7_here i6 ) fun v5 =>
  mv_bd (mv_aS v4 (x1 + (1 : Int32)) (v5 - (48 : Int32))) fun _ =>
  mv_bd (mv_gR 7 12 11 (some a0)) fun v7 =>
  mv_bd (mv_aI v7 (x1 + (1 : Int32))) fun v8 =>
  mv_bd (F_X7_isTown v8) fun v9 =>
  if v9 = 0 then
    J_X7_takesLetter_87 a0
  else
    mv_bd (mv_gR 7 12 11 (some a0)) fun v10 =>
    mv_bd (mv_aI v10 (x1 + (1 : Int32))) fun v11 =>
    mv_bd (mv_gR 7 12 11 (some a0)) fun v12 =>
    mv_bd (mv_aI v12 x1) fun v13 =>
    if v11 = v13 then
      J_X7_takesLetter_87 a0
    else
      J_X7_takesLetter_88 a0 (1 : Int32)

set_option maxHeartbeats 4000000 in
set_option maxRecDepth 100000 in
theorem sJ_X7_takesLetter_33 (l : Launch) (N0 : Nat) (D : va_G) (dA : Nat → ClassId) (a0 : Nat) (x1 : Int32) (s1 : Int32) : mv_Sim l N0 D dA RX7 cX7_takesLetter 2 2 44 none false mv_rV 33 [(0, mv_vr N0 (some a0)), (1, .int x1)] [.int s1, mv_vr N0 (some a0)] (J_X7_takesLetter_33 a0 x1 s1) := by
  unfold J_X7_takesLetter_33
  refine mv_callVv (st := []) [.int s1] (fun i3 => c_X7_takes l N0 D dA i3 s1) (T := TX7) rfl (by decide) wc_X7_126 ⟨by decide, by decide⟩ rfl (mv_cs (Nat.le_of_ble_eq_true rfl) (fun _ h => absurd h List.not_mem_nil)) dX7_takesLetter_33 rfl ?_
  refine mv_aload_n 0 dX7_takesLetter_36 rfl rfl rfl ?_
  refine mv_getR fd_X7_11 lk_X7_25 dX7_takesLetter_37 rfl (fun v4 => ?_)
  refine mv_iload_n 1 dX7_takesLetter_40 rfl rfl rfl ?_
  refine mv_iconst (v := (1 : Int32)) dX7_takesLetter_41 (by decide) rfl ?_
  refine mv_iadd dX7_takesLetter_42 rfl ?_
  refine mv_aload_n 0 dX7_takesLetter_43 rfl rfl rfl ?_
  refine mv_callVi (st := [.int (x1 + (1 : Int32)), mv_vr N0 v4]) [] (fun i6 => c_X7_here l N0 D dA i6 ) (T := TX7) rfl (by decide) wc_X7_123 ⟨by decide, by decide⟩ rfl (mv_cs (Nat.le_of_ble_eq_true rfl) (List.forall_mem_cons.mpr ⟨rfl, List.forall_mem_cons.mpr ⟨mv_cat N0 v4, fun _ h => absurd h List.not_mem_nil⟩⟩)) dX7_takesLetter_44 rfl (fun v5 => ?_)
  refine mv_bipush (v := (48 : Int32)) dX7_takesLetter_47 (by decide) rfl ?_
  refine mv_isub dX7_takesLetter_49 rfl ?_
  refine mv_iast dX7_takesLetter_50 rfl ?_
  refine mv_aload_n 0 dX7_takesLetter_51 rfl rfl rfl ?_
  refine mv_aload_n 0 dX7_takesLetter_52 rfl rfl rfl ?_
  refine mv_getR fd_X7_11 lk_X7_25 dX7_takesLetter_53 rfl (fun v7 => ?_)
  refine mv_iload_n 1 dX7_takesLetter_56 rfl rfl rfl ?_
  refine mv_iconst (v := (1 : Int32)) dX7_takesLetter_57 (by decide) rfl ?_
  refine mv_iadd dX7_takesLetter_58 rfl ?_
  refine mv_iald dX7_takesLetter_59 rfl (fun v8 => ?_)
  refine mv_callSi (st := [mv_vr N0 (some a0)]) [.int v8] (c_X7_isTown l N0 D dA v8) wc_X7_97 ⟨by decide, by decide⟩ rfl (mv_cs (Nat.le_of_ble_eq_true rfl) (List.forall_mem_cons.mpr ⟨mv_cat N0 (some a0), fun _ h => absurd h List.not_mem_nil⟩)) dX7_takesLetter_60 rfl (fun v9 => ?_)
  refine mv_if_eq (tgt := 87) dX7_takesLetter_63 rfl rfl ?_ ?_
  · refine mv_sub [0] rfl ?_
    exact sJ_X7_takesLetter_87 l N0 D dA a0
  · refine mv_aload_n 0 dX7_takesLetter_66 rfl rfl rfl ?_
    refine mv_getR fd_X7_11 lk_X7_25 dX7_takesLetter_67 rfl (fun v10 => ?_)
    refine mv_iload_n 1 dX7_takesLetter_70 rfl rfl rfl ?_
    refine mv_iconst (v := (1 : Int32)) dX7_takesLetter_71 (by decide) rfl ?_
    refine mv_iadd dX7_takesLetter_72 rfl ?_
    refine mv_iald dX7_takesLetter_73 rfl (fun v11 => ?_)
    refine mv_aload_n 0 dX7_takesLetter_74 rfl rfl rfl ?_
    refine mv_getR fd_X7_11 lk_X7_25 dX7_takesLetter_75 rfl (fun v12 => ?_)
    refine mv_iload_n 1 dX7_takesLetter_78 rfl rfl rfl ?_
    refine mv_iald dX7_takesLetter_79 rfl (fun v13 => ?_)
    refine mv_icmp_eq (tgt := 87) dX7_takesLetter_80 rfl rfl ?_ ?_
    · refine mv_sub [0] rfl ?_
      exact sJ_X7_takesLetter_87 l N0 D dA a0
    · refine mv_iconst (v := (1 : Int32)) dX7_takesLetter_83 (by decide) rfl ?_
      refine mv_goto (q := 88) dX7_takesLetter_84 rfl ?_
      refine mv_sub [0] rfl ?_
      exact sJ_X7_takesLetter_88 l N0 D dA a0 (1 : Int32)

def F_X7_takesLetter (a0 : Nat) : mv_M Unit :=
  mv_bd (mv_gI 7 12 10 (some a0)) fun v14 =>
  mv_bd (mv_pu ((2 : Int32) * v14)) fun v15 =>
  mv_bd (mv_gR 7 12 11 (some a0)) fun v16 =>
  mv_bd (mv_rc 7 12 (some a0)) fun i18 => mv_bd (F_X7_takesDigit i18 (5 : Int32)) fun v17 =>
  mv_bd (mv_aS v16 v15 v17) fun _ =>
  mv_bd (mv_rc 7 12 (some a0)) fun i20 => mv_bd (F_X7_here i20 ) fun v19 =>
  if v19 = (62 : Int32) then
    J_X7_takesLetter_33 a0 v15 (1 : Int32)
  else
    J_X7_takesLetter_33 a0 v15 (0 : Int32)

set_option maxHeartbeats 4000000 in
set_option maxRecDepth 100000 in
theorem c_X7_takesLetter (l : Launch) (N0 : Nat) (D : va_G) (dA : Nat → ClassId) (a0 : Nat) : mv_SimM l N0 D dA yX7_takesLetter cX7_takesLetter 2 none 2 44 mv_rV [.ref (N0 + a0)] (F_X7_takesLetter a0) := by
  refine mv_SimM_of (L0 := [(0, mv_vr N0 (some a0))]) false (by decide +kernel) (Nat.le_of_ble_eq_true rfl) rfl (List.forall_mem_cons.mpr ⟨mv_cat N0 (some a0), fun _ h => absurd h List.not_mem_nil⟩) (fun z => by cases z) ?_
  unfold F_X7_takesLetter
  show mv_Sim l N0 D dA RX7 cX7_takesLetter 2 2 44 none false mv_rV 0 _ _ _
  refine mv_iconst (v := (2 : Int32)) dX7_takesLetter_0 (by decide) rfl ?_
  refine mv_aload_n 0 dX7_takesLetter_1 rfl rfl rfl ?_
  refine mv_getI fd_X7_10 lk_X7_130 dX7_takesLetter_2 rfl (fun v14 => ?_)
  refine mv_imul dX7_takesLetter_5 rfl ?_
  refine mv_let (fun v15 => ?_)
  refine mv_istore_n [0] dX7_takesLetter_6 rfl (by decide) rfl rfl rfl ?_
  refine mv_aload_n 1 dX7_takesLetter_7 rfl rfl rfl ?_
  refine mv_getR fd_X7_11 lk_X7_25 dX7_takesLetter_8 rfl (fun v16 => ?_)
  refine mv_iload_n 0 dX7_takesLetter_11 rfl rfl rfl ?_
  refine mv_aload_n 1 dX7_takesLetter_12 rfl rfl rfl ?_
  refine mv_iconst (v := (5 : Int32)) dX7_takesLetter_13 (by decide) rfl ?_
  refine mv_callVi (st := [.int v15, mv_vr N0 v16]) [.int (5 : Int32)] (fun i18 => c_X7_takesDigit l N0 D dA i18 (5 : Int32)) (T := TX7) rfl (by decide) wc_X7_133 ⟨by decide, by decide⟩ rfl (mv_cs (Nat.le_of_ble_eq_true rfl) (List.forall_mem_cons.mpr ⟨rfl, List.forall_mem_cons.mpr ⟨mv_cat N0 v16, fun _ h => absurd h List.not_mem_nil⟩⟩)) dX7_takesLetter_14 rfl (fun v17 => ?_)
  refine mv_iast dX7_takesLetter_17 rfl ?_
  refine mv_aload_n 1 dX7_takesLetter_18 rfl rfl rfl ?_
  refine mv_aload_n 1 dX7_takesLetter_19 rfl rfl rfl ?_
  refine mv_callVi (st := [mv_vr N0 (some a0)]) [] (fun i20 => c_X7_here l N0 D dA i20 ) (T := TX7) rfl (by decide) wc_X7_123 ⟨by decide, by decide⟩ rfl (mv_cs (Nat.le_of_ble_eq_true rfl) (List.forall_mem_cons.mpr ⟨mv_cat N0 (some a0), fun _ h => absurd h List.not_mem_nil⟩)) dX7_takesLetter_20 rfl (fun v19 => ?_)
  refine mv_bipush (v := (62 : Int32)) dX7_takesLetter_23 (by decide) rfl ?_
  refine mv_icmp_ne (tgt := 32) dX7_takesLetter_25 rfl rfl ?_ ?_
  · refine mv_iconst (v := (0 : Int32)) dX7_takesLetter_32 (by decide) rfl ?_
    refine mv_sub [1, 0] rfl ?_
    exact sJ_X7_takesLetter_33 l N0 D dA a0 v15 (0 : Int32)
  · refine mv_iconst (v := (1 : Int32)) dX7_takesLetter_28 (by decide) rfl ?_
    refine mv_goto (q := 33) dX7_takesLetter_29 rfl ?_
    refine mv_sub [1, 0] rfl ?_
    exact sJ_X7_takesLetter_33 l N0 D dA a0 v15 (1 : Int32)

def J_X7_takesTour_127 (a0 : Nat) : mv_M Unit :=
  mv_bd (mv_gI 7 12 10 (some a0)) fun v1 =>
  mv_bd (mv_sI 7 12 10 (some a0) (v1 + (1 : Int32))) fun _ =>
  mv_pu ()

set_option maxHeartbeats 4000000 in
set_option maxRecDepth 100000 in
theorem sJ_X7_takesTour_127 (l : Launch) (N0 : Nat) (D : va_G) (dA : Nat → ClassId) (a0 : Nat) : mv_Sim l N0 D dA RX7 cX7_takesTour 3 2 44 none false mv_rV 127 [(0, mv_vr N0 (some a0))] [] (J_X7_takesTour_127 a0) := by
  unfold J_X7_takesTour_127
  refine mv_aload_n 0 dX7_takesTour_127 rfl rfl rfl ?_
  refine mv_dup dX7_takesTour_128 (mv_cat N0 (some a0)) rfl ?_
  refine mv_getI fd_X7_10 lk_X7_130 dX7_takesTour_129 rfl (fun v1 => ?_)
  refine mv_iconst (v := (1 : Int32)) dX7_takesTour_132 (by decide) rfl ?_
  refine mv_iadd dX7_takesTour_133 rfl ?_
  refine mv_putI fd_X7_10 rfl (tyX7_ok 10 (by decide)) lk_X7_130 dX7_takesTour_134 rfl ?_
  exact mv_vret dX7_takesTour_137

def J_X7_takesTour_69 (a0 : Nat) (x1 : Int32) (x2 : Int32) : mv_M Unit :=
  mv_bd (mv_gR 7 12 11 (some a0)) fun v2 =>
  mv_bd (mv_aS v2 x1 x2) fun _ =>
  mv_bd (mv_gR 7 12 11 (some a0)) fun v3 =>
  mv_bd (mv_aS v3 (x1 + (8 : Int32)) (0 : Int32)) fun _ =>
  mv_bd (mv_gI 7 12 9 (some a0)) fun v4 =>
  if v4 = 0 then
    J_X7_takesTour_127 a0
  else
    mv_bd (mv_rc 7 12 (some a0)) fun i6 => mv_bd (F_X7_here i6 ) fun v5 =>
    if v5 = (42 : Int32) then
      mv_bd (mv_gI 7 12 8 (some a0)) fun v7 =>
      mv_bd (mv_sI 7 12 8 (some a0) (v7 + (1 : Int32))) fun _ =>
      mv_bd (mv_gR 7 12 11 (some a0)) fun v8 =>
      mv_bd (mv_rc 7 12 (some a0)) fun i10 => mv_bd (F_X7_takesDigit i10 (9 : Int32)) fun v9 =>
      mv_bd (mv_aS v8 (x1 + (8 : Int32)) v9) fun _ =>
      J_X7_takesTour_127 a0
    else
      J_X7_takesTour_127 a0

set_option maxHeartbeats 4000000 in
set_option maxRecDepth 100000 in
theorem sJ_X7_takesTour_69 (l : Launch) (N0 : Nat) (D : va_G) (dA : Nat → ClassId) (a0 : Nat) (x1 : Int32) (x2 : Int32) : mv_Sim l N0 D dA RX7 cX7_takesTour 3 2 44 none false mv_rV 69 [(0, mv_vr N0 (some a0)), (1, .int x1), (2, .int x2)] [] (J_X7_takesTour_69 a0 x1 x2) := by
  unfold J_X7_takesTour_69
  refine mv_aload_n 0 dX7_takesTour_69 rfl rfl rfl ?_
  refine mv_getR fd_X7_11 lk_X7_25 dX7_takesTour_70 rfl (fun v2 => ?_)
  refine mv_iload_n 1 dX7_takesTour_73 rfl rfl rfl ?_
  refine mv_iload_n 2 dX7_takesTour_74 rfl rfl rfl ?_
  refine mv_iast dX7_takesTour_75 rfl ?_
  refine mv_aload_n 0 dX7_takesTour_76 rfl rfl rfl ?_
  refine mv_getR fd_X7_11 lk_X7_25 dX7_takesTour_77 rfl (fun v3 => ?_)
  refine mv_iload_n 1 dX7_takesTour_80 rfl rfl rfl ?_
  refine mv_bipush (v := (8 : Int32)) dX7_takesTour_81 (by decide) rfl ?_
  refine mv_iadd dX7_takesTour_83 rfl ?_
  refine mv_iconst (v := (0 : Int32)) dX7_takesTour_84 (by decide) rfl ?_
  refine mv_iast dX7_takesTour_85 rfl ?_
  refine mv_aload_n 0 dX7_takesTour_86 rfl rfl rfl ?_
  refine mv_getI fd_X7_9 lk_X7_119 dX7_takesTour_87 rfl (fun v4 => ?_)
  refine mv_if_eq (tgt := 127) dX7_takesTour_90 rfl rfl ?_ ?_
  · refine mv_sub [0] rfl ?_
    exact sJ_X7_takesTour_127 l N0 D dA a0
  · refine mv_aload_n 0 dX7_takesTour_93 rfl rfl rfl ?_
    refine mv_callVi (st := []) [] (fun i6 => c_X7_here l N0 D dA i6 ) (T := TX7) rfl (by decide) wc_X7_123 ⟨by decide, by decide⟩ rfl (mv_cs (Nat.le_of_ble_eq_true rfl) (fun _ h => absurd h List.not_mem_nil)) dX7_takesTour_94 rfl (fun v5 => ?_)
    refine mv_bipush (v := (42 : Int32)) dX7_takesTour_97 (by decide) rfl ?_
    refine mv_icmp_ne (tgt := 127) dX7_takesTour_99 rfl rfl ?_ ?_
    · refine mv_sub [0] rfl ?_
      exact sJ_X7_takesTour_127 l N0 D dA a0
    · refine mv_aload_n 0 dX7_takesTour_102 rfl rfl rfl ?_
      refine mv_dup dX7_takesTour_103 (mv_cat N0 (some a0)) rfl ?_
      refine mv_getI fd_X7_8 lk_X7_116 dX7_takesTour_104 rfl (fun v7 => ?_)
      refine mv_iconst (v := (1 : Int32)) dX7_takesTour_107 (by decide) rfl ?_
      refine mv_iadd dX7_takesTour_108 rfl ?_
      refine mv_putI fd_X7_8 rfl (tyX7_ok 8 (by decide)) lk_X7_116 dX7_takesTour_109 rfl ?_
      refine mv_aload_n 0 dX7_takesTour_112 rfl rfl rfl ?_
      refine mv_getR fd_X7_11 lk_X7_25 dX7_takesTour_113 rfl (fun v8 => ?_)
      refine mv_iload_n 1 dX7_takesTour_116 rfl rfl rfl ?_
      refine mv_bipush (v := (8 : Int32)) dX7_takesTour_117 (by decide) rfl ?_
      refine mv_iadd dX7_takesTour_119 rfl ?_
      refine mv_aload_n 0 dX7_takesTour_120 rfl rfl rfl ?_
      refine mv_bipush (v := (9 : Int32)) dX7_takesTour_121 (by decide) rfl ?_
      refine mv_callVi (st := [.int (x1 + (8 : Int32)), mv_vr N0 v8]) [.int (9 : Int32)] (fun i10 => c_X7_takesDigit l N0 D dA i10 (9 : Int32)) (T := TX7) rfl (by decide) wc_X7_133 ⟨by decide, by decide⟩ rfl (mv_cs (Nat.le_of_ble_eq_true rfl) (List.forall_mem_cons.mpr ⟨rfl, List.forall_mem_cons.mpr ⟨mv_cat N0 v8, fun _ h => absurd h List.not_mem_nil⟩⟩)) dX7_takesTour_123 rfl (fun v9 => ?_)
      refine mv_iast dX7_takesTour_126 rfl ?_
      refine mv_sub [0] rfl ?_
      exact sJ_X7_takesTour_127 l N0 D dA a0

def Lp_X7_takesTour_23 (a0 : Nat) (x1 : Int32) : Nat → Int32 → mv_M Unit
  | 0, _ => mv_fl
  | n + 1, x2 =>
    mv_bd (mv_gI 7 12 9 (some a0)) fun v11 =>
    if v11 = 0 then
      J_X7_takesTour_69 a0 x1 x2
    else
      if (7 : Int32) ≤ x2 then
        J_X7_takesTour_69 a0 x1 x2
      else
        mv_bd (mv_rc 7 12 (some a0)) fun i13 => mv_bd (F_X7_here i13 ) fun v12 =>
        mv_bd (F_X7_in v12 (48 : Int32) (53 : Int32)) fun v14 =>
        if v14 = 0 then
          J_X7_takesTour_69 a0 x1 x2
        else
          mv_bd (mv_gR 7 12 11 (some a0)) fun v15 =>
          mv_bd (mv_rc 7 12 (some a0)) fun i17 => mv_bd (F_X7_takesDigit i17 (5 : Int32)) fun v16 =>
          mv_bd (mv_aS v15 (x1 + (x2 + (1 : Int32))) v16) fun _ =>
          Lp_X7_takesTour_23 a0 x1 n (x2 + (1 : Int32))

set_option maxHeartbeats 4000000 in
set_option maxRecDepth 100000 in
theorem sLp_X7_takesTour_23 (l : Launch) (N0 : Nat) (D : va_G) (dA : Nat → ClassId) (a0 : Nat) (x1 : Int32) : ∀ (n : Nat) (x2 : Int32), mv_Sim l N0 D dA RX7 cX7_takesTour 3 2 44 none false mv_rV 23 [(0, mv_vr N0 (some a0)), (1, .int x1), (2, .int x2)] [] (Lp_X7_takesTour_23 a0 x1 n x2) := by
  intro n
  induction n with
  | zero => intro x2; rw [Lp_X7_takesTour_23]; exact mv_fl_sim
  | succ n ih =>
    intro x2
    rw [Lp_X7_takesTour_23]
    refine mv_aload_n 0 dX7_takesTour_23 rfl rfl rfl ?_
    refine mv_getI fd_X7_9 lk_X7_119 dX7_takesTour_24 rfl (fun v11 => ?_)
    refine mv_if_eq (tgt := 69) dX7_takesTour_27 rfl rfl ?_ ?_
    · refine mv_sub [0, 1, 2] rfl ?_
      exact sJ_X7_takesTour_69 l N0 D dA a0 x1 x2
    · refine mv_iload_n 2 dX7_takesTour_30 rfl rfl rfl ?_
      refine mv_bipush (v := (7 : Int32)) dX7_takesTour_31 (by decide) rfl ?_
      refine mv_icmp_ge (tgt := 69) dX7_takesTour_33 rfl rfl ?_ ?_
      · refine mv_sub [0, 1, 2] rfl ?_
        exact sJ_X7_takesTour_69 l N0 D dA a0 x1 x2
      · refine mv_aload_n 0 dX7_takesTour_36 rfl rfl rfl ?_
        refine mv_callVi (st := []) [] (fun i13 => c_X7_here l N0 D dA i13 ) (T := TX7) rfl (by decide) wc_X7_123 ⟨by decide, by decide⟩ rfl (mv_cs (Nat.le_of_ble_eq_true rfl) (fun _ h => absurd h List.not_mem_nil)) dX7_takesTour_37 rfl (fun v12 => ?_)
        refine mv_bipush (v := (48 : Int32)) dX7_takesTour_40 (by decide) rfl ?_
        refine mv_bipush (v := (53 : Int32)) dX7_takesTour_42 (by decide) rfl ?_
        refine mv_callSi (st := []) [.int v12, .int (48 : Int32), .int (53 : Int32)] (c_X7_in l N0 D dA v12 (48 : Int32) (53 : Int32)) wc_X7_36 ⟨by decide, by decide⟩ rfl (mv_cs (Nat.le_of_ble_eq_true rfl) (fun _ h => absurd h List.not_mem_nil)) dX7_takesTour_44 rfl (fun v14 => ?_)
        refine mv_if_eq (tgt := 69) dX7_takesTour_47 rfl rfl ?_ ?_
        · refine mv_sub [0, 1, 2] rfl ?_
          exact sJ_X7_takesTour_69 l N0 D dA a0 x1 x2
        · refine mv_iinc (y := (x2 + (1 : Int32))) 2 [0, 1] dX7_takesTour_50 rfl rfl (by decide) rfl rfl rfl ?_
          refine mv_aload_n 1 dX7_takesTour_53 rfl rfl rfl ?_
          refine mv_getR fd_X7_11 lk_X7_25 dX7_takesTour_54 rfl (fun v15 => ?_)
          refine mv_iload_n 2 dX7_takesTour_57 rfl rfl rfl ?_
          refine mv_iload_n 0 dX7_takesTour_58 rfl rfl rfl ?_
          refine mv_iadd dX7_takesTour_59 rfl ?_
          refine mv_aload_n 1 dX7_takesTour_60 rfl rfl rfl ?_
          refine mv_iconst (v := (5 : Int32)) dX7_takesTour_61 (by decide) rfl ?_
          refine mv_callVi (st := [.int (x1 + (x2 + (1 : Int32))), mv_vr N0 v15]) [.int (5 : Int32)] (fun i17 => c_X7_takesDigit l N0 D dA i17 (5 : Int32)) (T := TX7) rfl (by decide) wc_X7_133 ⟨by decide, by decide⟩ rfl (mv_cs (Nat.le_of_ble_eq_true rfl) (List.forall_mem_cons.mpr ⟨rfl, List.forall_mem_cons.mpr ⟨mv_cat N0 v15, fun _ h => absurd h List.not_mem_nil⟩⟩)) dX7_takesTour_62 rfl (fun v16 => ?_)
          refine mv_iast dX7_takesTour_65 rfl ?_
          refine mv_goto (q := 23) dX7_takesTour_66 rfl ?_
          refine mv_sub [1, 2, 0] rfl ?_
          exact ih (x2 + (1 : Int32))

def F_X7_takesTour (a0 : Nat) : mv_M Unit :=
  mv_bd (mv_gI 7 12 10 (some a0)) fun v18 =>
  mv_bd (mv_pu ((9 : Int32) * v18)) fun v19 =>
  mv_bd (mv_gR 7 12 11 (some a0)) fun v20 =>
  mv_bd (mv_rc 7 12 (some a0)) fun i22 => mv_bd (F_X7_takesDigit i22 (5 : Int32)) fun v21 =>
  mv_bd (mv_aS v20 (v19 + (1 : Int32)) v21) fun _ =>
  Lp_X7_takesTour_23 a0 v19 mv_FU (1 : Int32)

set_option maxHeartbeats 4000000 in
set_option maxRecDepth 100000 in
theorem c_X7_takesTour (l : Launch) (N0 : Nat) (D : va_G) (dA : Nat → ClassId) (a0 : Nat) : mv_SimM l N0 D dA yX7_takesTour cX7_takesTour 3 none 2 44 mv_rV [.ref (N0 + a0)] (F_X7_takesTour a0) := by
  refine mv_SimM_of (L0 := [(0, mv_vr N0 (some a0))]) false (by decide +kernel) (Nat.le_of_ble_eq_true rfl) rfl (List.forall_mem_cons.mpr ⟨mv_cat N0 (some a0), fun _ h => absurd h List.not_mem_nil⟩) (fun z => by cases z) ?_
  unfold F_X7_takesTour
  show mv_Sim l N0 D dA RX7 cX7_takesTour 3 2 44 none false mv_rV 0 _ _ _
  refine mv_bipush (v := (9 : Int32)) dX7_takesTour_0 (by decide) rfl ?_
  refine mv_aload_n 0 dX7_takesTour_2 rfl rfl rfl ?_
  refine mv_getI fd_X7_10 lk_X7_130 dX7_takesTour_3 rfl (fun v18 => ?_)
  refine mv_imul dX7_takesTour_6 rfl ?_
  refine mv_let (fun v19 => ?_)
  refine mv_istore_n [0] dX7_takesTour_7 rfl (by decide) rfl rfl rfl ?_
  refine mv_iconst (v := (1 : Int32)) dX7_takesTour_8 (by decide) rfl ?_
  refine mv_istore_n [0, 1] dX7_takesTour_9 rfl (by decide) rfl rfl rfl ?_
  refine mv_aload_n 2 dX7_takesTour_10 rfl rfl rfl ?_
  refine mv_getR fd_X7_11 lk_X7_25 dX7_takesTour_11 rfl (fun v20 => ?_)
  refine mv_iload_n 1 dX7_takesTour_14 rfl rfl rfl ?_
  refine mv_iconst (v := (1 : Int32)) dX7_takesTour_15 (by decide) rfl ?_
  refine mv_iadd dX7_takesTour_16 rfl ?_
  refine mv_aload_n 2 dX7_takesTour_17 rfl rfl rfl ?_
  refine mv_iconst (v := (5 : Int32)) dX7_takesTour_18 (by decide) rfl ?_
  refine mv_callVi (st := [.int (v19 + (1 : Int32)), mv_vr N0 v20]) [.int (5 : Int32)] (fun i22 => c_X7_takesDigit l N0 D dA i22 (5 : Int32)) (T := TX7) rfl (by decide) wc_X7_133 ⟨by decide, by decide⟩ rfl (mv_cs (Nat.le_of_ble_eq_true rfl) (List.forall_mem_cons.mpr ⟨rfl, List.forall_mem_cons.mpr ⟨mv_cat N0 v20, fun _ h => absurd h List.not_mem_nil⟩⟩)) dX7_takesTour_19 rfl (fun v21 => ?_)
  refine mv_iast dX7_takesTour_22 rfl ?_
  refine mv_sub [2, 1, 0] rfl ?_
  exact sLp_X7_takesTour_23 l N0 D dA a0 v19 mv_FU (1 : Int32)

def J_X7_isText_88 (k17 : Int32 → mv_M Int32) (a0 : Nat) (x1 : Int32) (s1 : Int32) : mv_M Int32 :=
  mv_bd (mv_rc 7 12 (some a0)) fun i1 => mv_bd (F_X7_takes i1 s1) fun _ =>
  mv_bd (mv_gI 7 12 9 (some a0)) fun v2 =>
  k17 v2

set_option maxHeartbeats 4000000 in
set_option maxRecDepth 100000 in
theorem sJ_X7_isText_88 (l : Launch) (N0 : Nat) (D : va_G) (dA : Nat → ClassId) (a0 : Nat) (x1 : Int32) (s1 : Int32) (k17 : Int32 → mv_M Int32) (hk17 : ∀ (y2 : Int32), mv_Sim l N0 D dA RX7 cX7_isText 3 3 66 (some .boolean) false mv_rI 17 [(0, mv_vr N0 (some a0)), (1, .int x1), (2, .int y2)] [] (k17 y2)) : mv_Sim l N0 D dA RX7 cX7_isText 3 3 66 (some .boolean) false mv_rI 88 [(0, mv_vr N0 (some a0)), (1, .int x1)] [.int s1, mv_vr N0 (some a0)] (J_X7_isText_88 k17 a0 x1 s1) := by
  unfold J_X7_isText_88
  refine mv_callVv (st := []) [.int s1] (fun i1 => c_X7_takes l N0 D dA i1 s1) (T := TX7) rfl (by decide) wc_X7_126 ⟨by decide, by decide⟩ rfl (mv_cs (Nat.le_of_ble_eq_true rfl) (fun _ h => absurd h List.not_mem_nil)) dX7_isText_88 rfl ?_
  refine mv_aload_n 0 dX7_isText_91 rfl rfl rfl ?_
  refine mv_getI fd_X7_9 lk_X7_119 dX7_isText_92 rfl (fun v2 => ?_)
  refine mv_istore_n [0, 1] dX7_isText_95 rfl (by decide) rfl rfl rfl ?_
  refine mv_goto (q := 17) dX7_isText_96 rfl ?_
  refine mv_sub [1, 2, 0] rfl ?_
  exact hk17 v2

def J_X7_isText_80 (k17 : Int32 → mv_M Int32) (a0 : Nat) (x1 : Int32) (s1 : Int32) (s2 : Int32) : mv_M Int32 :=
  if s1 = s2 then
    J_X7_isText_88 k17 a0 x1 (1 : Int32)
  else
    J_X7_isText_88 k17 a0 x1 (0 : Int32)

set_option maxHeartbeats 4000000 in
set_option maxRecDepth 100000 in
theorem sJ_X7_isText_80 (l : Launch) (N0 : Nat) (D : va_G) (dA : Nat → ClassId) (a0 : Nat) (x1 : Int32) (s1 : Int32) (s2 : Int32) (k17 : Int32 → mv_M Int32) (hk17 : ∀ (y2 : Int32), mv_Sim l N0 D dA RX7 cX7_isText 3 3 66 (some .boolean) false mv_rI 17 [(0, mv_vr N0 (some a0)), (1, .int x1), (2, .int y2)] [] (k17 y2)) : mv_Sim l N0 D dA RX7 cX7_isText 3 3 66 (some .boolean) false mv_rI 80 [(0, mv_vr N0 (some a0)), (1, .int x1)] [.int s2, .int s1, mv_vr N0 (some a0)] (J_X7_isText_80 k17 a0 x1 s1 s2) := by
  unfold J_X7_isText_80
  refine mv_icmp_ne (tgt := 87) dX7_isText_80 rfl rfl ?_ ?_
  · refine mv_iconst (v := (0 : Int32)) dX7_isText_87 (by decide) rfl ?_
    refine mv_sub [0, 1] rfl ?_
    exact sJ_X7_isText_88 l N0 D dA a0 x1 (0 : Int32) _ hk17
  · refine mv_iconst (v := (1 : Int32)) dX7_isText_83 (by decide) rfl ?_
    refine mv_goto (q := 88) dX7_isText_84 rfl ?_
    refine mv_sub [0, 1] rfl ?_
    exact sJ_X7_isText_88 l N0 D dA a0 x1 (1 : Int32) _ hk17

def J_X7_isText_59 (k17 : Int32 → mv_M Int32) (a0 : Nat) (x1 : Int32) (s0 : Int32) : mv_M Int32 :=
  if s0 = 0 then
    k17 s0
  else
    mv_bd (mv_rc 7 12 (some a0)) fun i4 => mv_bd (F_X7_here i4 ) fun v3 =>
    if x1 = 0 then
      J_X7_isText_80 k17 a0 x1 v3 (44 : Int32)
    else
      J_X7_isText_80 k17 a0 x1 v3 (59 : Int32)

set_option maxHeartbeats 4000000 in
set_option maxRecDepth 100000 in
theorem sJ_X7_isText_59 (l : Launch) (N0 : Nat) (D : va_G) (dA : Nat → ClassId) (a0 : Nat) (x1 : Int32) (s0 : Int32) (k17 : Int32 → mv_M Int32) (hk17 : ∀ (y2 : Int32), mv_Sim l N0 D dA RX7 cX7_isText 3 3 66 (some .boolean) false mv_rI 17 [(0, mv_vr N0 (some a0)), (1, .int x1), (2, .int y2)] [] (k17 y2)) : mv_Sim l N0 D dA RX7 cX7_isText 3 3 66 (some .boolean) false mv_rI 59 [(0, mv_vr N0 (some a0)), (1, .int x1)] [.int s0] (J_X7_isText_59 k17 a0 x1 s0) := by
  unfold J_X7_isText_59
  refine mv_istore_n [0, 1] dX7_isText_59 rfl (by decide) rfl rfl rfl ?_
  refine mv_iload_n 0 dX7_isText_60 rfl rfl rfl ?_
  refine mv_if_eq (tgt := 17) dX7_isText_61 rfl rfl ?_ ?_
  · refine mv_sub [1, 2, 0] rfl ?_
    exact hk17 s0
  · refine mv_aload_n 1 dX7_isText_64 rfl rfl rfl ?_
    refine mv_aload_n 1 dX7_isText_65 rfl rfl rfl ?_
    refine mv_callVi (st := [mv_vr N0 (some a0)]) [] (fun i4 => c_X7_here l N0 D dA i4 ) (T := TX7) rfl (by decide) wc_X7_123 ⟨by decide, by decide⟩ rfl (mv_cs (Nat.le_of_ble_eq_true rfl) (List.forall_mem_cons.mpr ⟨mv_cat N0 (some a0), fun _ h => absurd h List.not_mem_nil⟩)) dX7_isText_66 rfl (fun v3 => ?_)
    refine mv_iload_n 2 dX7_isText_69 rfl rfl rfl ?_
    refine mv_if_eq (tgt := 78) dX7_isText_70 rfl rfl ?_ ?_
    · refine mv_bipush (v := (44 : Int32)) dX7_isText_78 (by decide) rfl ?_
      refine mv_sub [1, 2] rfl ?_
      exact sJ_X7_isText_80 l N0 D dA a0 x1 v3 (44 : Int32) _ hk17
    · refine mv_bipush (v := (59 : Int32)) dX7_isText_73 (by decide) rfl ?_
      refine mv_goto (q := 80) dX7_isText_75 rfl ?_
      refine mv_sub [1, 2] rfl ?_
      exact sJ_X7_isText_80 l N0 D dA a0 x1 v3 (59 : Int32) _ hk17

def J_X7_isText_58 (k17 : Int32 → mv_M Int32) (a0 : Nat) (x1 : Int32) : mv_M Int32 :=
  J_X7_isText_59 k17 a0 x1 (0 : Int32)

set_option maxHeartbeats 4000000 in
set_option maxRecDepth 100000 in
theorem sJ_X7_isText_58 (l : Launch) (N0 : Nat) (D : va_G) (dA : Nat → ClassId) (a0 : Nat) (x1 : Int32) (k17 : Int32 → mv_M Int32) (hk17 : ∀ (y2 : Int32), mv_Sim l N0 D dA RX7 cX7_isText 3 3 66 (some .boolean) false mv_rI 17 [(0, mv_vr N0 (some a0)), (1, .int x1), (2, .int y2)] [] (k17 y2)) : mv_Sim l N0 D dA RX7 cX7_isText 3 3 66 (some .boolean) false mv_rI 58 [(0, mv_vr N0 (some a0)), (1, .int x1)] [] (J_X7_isText_58 k17 a0 x1) := by
  unfold J_X7_isText_58
  refine mv_iconst (v := (0 : Int32)) dX7_isText_58 (by decide) rfl ?_
  refine mv_sub [0, 1] rfl ?_
  exact sJ_X7_isText_59 l N0 D dA a0 x1 (0 : Int32) _ hk17

def J_X7_isText_36 (k17 : Int32 → mv_M Int32) (a0 : Nat) (x1 : Int32) : mv_M Int32 :=
  mv_bd (mv_gI 7 12 9 (some a0)) fun v5 =>
  if v5 = 0 then
    J_X7_isText_58 k17 a0 x1
  else
    mv_bd (mv_gI 7 12 8 (some a0)) fun v6 =>
    mv_bd (mv_gI 7 12 7 (some a0)) fun v7 =>
    if v7 ≤ v6 then
      J_X7_isText_58 k17 a0 x1
    else
      J_X7_isText_59 k17 a0 x1 (1 : Int32)

set_option maxHeartbeats 4000000 in
set_option maxRecDepth 100000 in
theorem sJ_X7_isText_36 (l : Launch) (N0 : Nat) (D : va_G) (dA : Nat → ClassId) (a0 : Nat) (x1 : Int32) (k17 : Int32 → mv_M Int32) (hk17 : ∀ (y2 : Int32), mv_Sim l N0 D dA RX7 cX7_isText 3 3 66 (some .boolean) false mv_rI 17 [(0, mv_vr N0 (some a0)), (1, .int x1), (2, .int y2)] [] (k17 y2)) : mv_Sim l N0 D dA RX7 cX7_isText 3 3 66 (some .boolean) false mv_rI 36 [(0, mv_vr N0 (some a0)), (1, .int x1)] [] (J_X7_isText_36 k17 a0 x1) := by
  unfold J_X7_isText_36
  refine mv_aload_n 0 dX7_isText_36 rfl rfl rfl ?_
  refine mv_getI fd_X7_9 lk_X7_119 dX7_isText_37 rfl (fun v5 => ?_)
  refine mv_if_eq (tgt := 58) dX7_isText_40 rfl rfl ?_ ?_
  · refine mv_sub [0, 1] rfl ?_
    exact sJ_X7_isText_58 l N0 D dA a0 x1 _ hk17
  · refine mv_aload_n 0 dX7_isText_43 rfl rfl rfl ?_
    refine mv_getI fd_X7_8 lk_X7_116 dX7_isText_44 rfl (fun v6 => ?_)
    refine mv_aload_n 0 dX7_isText_47 rfl rfl rfl ?_
    refine mv_getI fd_X7_7 lk_X7_113 dX7_isText_48 rfl (fun v7 => ?_)
    refine mv_icmp_ge (tgt := 58) dX7_isText_51 rfl rfl ?_ ?_
    · refine mv_sub [0, 1] rfl ?_
      exact sJ_X7_isText_58 l N0 D dA a0 x1 _ hk17
    · refine mv_iconst (v := (1 : Int32)) dX7_isText_54 (by decide) rfl ?_
      refine mv_goto (q := 59) dX7_isText_55 rfl ?_
      refine mv_sub [0, 1] rfl ?_
      exact sJ_X7_isText_59 l N0 D dA a0 x1 (1 : Int32) _ hk17

def Lp_X7_isText_17 (a0 : Nat) (x1 : Int32) : Nat → Int32 → mv_M Int32
  | 0, _ => mv_fl
  | n + 1, x2 =>
    if x2 = 0 then
      mv_bd (mv_gI 7 12 9 (some a0)) fun v8 =>
      mv_rz v8
    else
      if x1 = 0 then
        mv_bd (mv_rc 7 12 (some a0)) fun i9 => mv_bd (F_X7_takesLetter i9 ) fun _ =>
        J_X7_isText_36 (Lp_X7_isText_17 a0 x1 n) a0 x1
      else
        mv_bd (mv_rc 7 12 (some a0)) fun i10 => mv_bd (F_X7_takesTour i10 ) fun _ =>
        J_X7_isText_36 (Lp_X7_isText_17 a0 x1 n) a0 x1

set_option maxHeartbeats 4000000 in
set_option maxRecDepth 100000 in
theorem sLp_X7_isText_17 (l : Launch) (N0 : Nat) (D : va_G) (dA : Nat → ClassId) (a0 : Nat) (x1 : Int32) : ∀ (n : Nat) (x2 : Int32), mv_Sim l N0 D dA RX7 cX7_isText 3 3 66 (some .boolean) false mv_rI 17 [(0, mv_vr N0 (some a0)), (1, .int x1), (2, .int x2)] [] (Lp_X7_isText_17 a0 x1 n x2) := by
  intro n
  induction n with
  | zero => intro x2; rw [Lp_X7_isText_17]; exact mv_fl_sim
  | succ n ih =>
    intro x2
    rw [Lp_X7_isText_17]
    refine mv_iload_n 2 dX7_isText_17 rfl rfl rfl ?_
    refine mv_if_eq (tgt := 99) dX7_isText_18 rfl rfl ?_ ?_
    · refine mv_aload_n 0 dX7_isText_99 rfl rfl rfl ?_
      refine mv_getI fd_X7_9 lk_X7_119 dX7_isText_100 rfl (fun v8 => ?_)
      exact mv_zret dX7_isText_103
    · refine mv_iload_n 1 dX7_isText_21 rfl rfl rfl ?_
      refine mv_if_eq (tgt := 32) dX7_isText_22 rfl rfl ?_ ?_
      · refine mv_aload_n 0 dX7_isText_32 rfl rfl rfl ?_
        refine mv_callVv (st := []) [] (fun i9 => c_X7_takesLetter l N0 D dA i9 ) (T := TX7) rfl (by decide) wc_X7_139 ⟨by decide, by decide⟩ rfl (mv_cs (Nat.le_of_ble_eq_true rfl) (fun _ h => absurd h List.not_mem_nil)) dX7_isText_33 rfl ?_
        refine mv_sub [0, 1] rfl ?_
        exact sJ_X7_isText_36 l N0 D dA a0 x1 _ ih
      · refine mv_aload_n 0 dX7_isText_25 rfl rfl rfl ?_
        refine mv_callVv (st := []) [] (fun i10 => c_X7_takesTour l N0 D dA i10 ) (T := TX7) rfl (by decide) wc_X7_136 ⟨by decide, by decide⟩ rfl (mv_cs (Nat.le_of_ble_eq_true rfl) (fun _ h => absurd h List.not_mem_nil)) dX7_isText_26 rfl ?_
        refine mv_goto (q := 36) dX7_isText_29 rfl ?_
        refine mv_sub [0, 1] rfl ?_
        exact sJ_X7_isText_36 l N0 D dA a0 x1 _ ih

def F_X7_isText (a0 : Nat) (a1 : Int32) : mv_M Int32 :=
  mv_bd (mv_sI 7 12 8 (some a0) (0 : Int32)) fun _ =>
  mv_bd (mv_sZ 7 12 9 (some a0) (1 : Int32)) fun _ =>
  mv_bd (mv_sI 7 12 10 (some a0) (0 : Int32)) fun _ =>
  Lp_X7_isText_17 a0 a1 mv_FU (1 : Int32)

set_option maxHeartbeats 4000000 in
set_option maxRecDepth 100000 in
theorem c_X7_isText (l : Launch) (N0 : Nat) (D : va_G) (dA : Nat → ClassId) (a0 : Nat) (a1 : Int32) : mv_SimM l N0 D dA yX7_isText cX7_isText 3 (some .boolean) 3 66 mv_rI [.ref (N0 + a0), .int a1] (F_X7_isText a0 a1) := by
  refine mv_SimM_of (L0 := [(0, mv_vr N0 (some a0)), (1, .int a1)]) false (by decide +kernel) (Nat.le_of_ble_eq_true rfl) rfl (List.forall_mem_cons.mpr ⟨mv_cat N0 (some a0), List.forall_mem_cons.mpr ⟨rfl, fun _ h => absurd h List.not_mem_nil⟩⟩) (fun z => by cases z) ?_
  unfold F_X7_isText
  show mv_Sim l N0 D dA RX7 cX7_isText 3 3 66 (some .boolean) false mv_rI 0 _ _ _
  refine mv_aload_n 0 dX7_isText_0 rfl rfl rfl ?_
  refine mv_iconst (v := (0 : Int32)) dX7_isText_1 (by decide) rfl ?_
  refine mv_putI fd_X7_8 rfl (tyX7_ok 8 (by decide)) lk_X7_116 dX7_isText_2 rfl ?_
  refine mv_aload_n 0 dX7_isText_5 rfl rfl rfl ?_
  refine mv_iconst (v := (1 : Int32)) dX7_isText_6 (by decide) rfl ?_
  refine mv_putZ fd_X7_9 rfl (tyX7_ok 9 (by decide)) lk_X7_119 dX7_isText_7 rfl ?_
  refine mv_aload_n 0 dX7_isText_10 rfl rfl rfl ?_
  refine mv_iconst (v := (0 : Int32)) dX7_isText_11 (by decide) rfl ?_
  refine mv_putI fd_X7_10 rfl (tyX7_ok 10 (by decide)) lk_X7_130 dX7_isText_12 rfl ?_
  refine mv_iconst (v := (1 : Int32)) dX7_isText_15 (by decide) rfl ?_
  refine mv_istore_n [0, 1] dX7_isText_16 rfl (by decide) rfl rfl rfl ?_
  refine mv_sub [1, 2, 0] rfl ?_
  exact sLp_X7_isText_17 l N0 D dA a0 a1 mv_FU (1 : Int32)

def J_X7_fault_36 (a0 : Nat) (s0 : Int32) : mv_M Int32 :=
  mv_pu s0

set_option maxHeartbeats 4000000 in
set_option maxRecDepth 100000 in
theorem sJ_X7_fault_36 (l : Launch) (N0 : Nat) (D : va_G) (dA : Nat → ClassId) (a0 : Nat) (s0 : Int32) : mv_Sim l N0 D dA RX7 cX7_fault 2 4 88 (some .int) false mv_rI 36 [(0, mv_vr N0 (some a0))] [.int s0] (J_X7_fault_36 a0 s0) := by
  unfold J_X7_fault_36
  exact mv_iret dX7_fault_36

def J_X7_fault_21 (a0 : Nat) (s1 : Int32) : mv_M Int32 :=
  mv_bd (mv_rc 7 12 (some a0)) fun i2 => mv_bd (F_X7_isText i2 s1) fun v1 =>
  if v1 = 0 then
    mv_bd (mv_gI 7 12 8 (some a0)) fun v3 =>
    J_X7_fault_36 a0 v3
  else
    J_X7_fault_36 a0 ((-4) : Int32)

set_option maxHeartbeats 4000000 in
set_option maxRecDepth 100000 in
theorem sJ_X7_fault_21 (l : Launch) (N0 : Nat) (D : va_G) (dA : Nat → ClassId) (a0 : Nat) (s1 : Int32) : mv_Sim l N0 D dA RX7 cX7_fault 2 4 88 (some .int) false mv_rI 21 [(0, mv_vr N0 (some a0))] [.int s1, mv_vr N0 (some a0)] (J_X7_fault_21 a0 s1) := by
  unfold J_X7_fault_21
  refine mv_callVi (st := []) [.int s1] (fun i2 => c_X7_isText l N0 D dA i2 s1) (T := TX7) rfl (by decide) wc_X7_142 ⟨by decide, by decide⟩ rfl (mv_cs (Nat.le_of_ble_eq_true rfl) (fun _ h => absurd h List.not_mem_nil)) dX7_fault_21 rfl (fun v1 => ?_)
  refine mv_if_eq (tgt := 32) dX7_fault_24 rfl rfl ?_ ?_
  · refine mv_aload_n 0 dX7_fault_32 rfl rfl rfl ?_
    refine mv_getI fd_X7_8 lk_X7_116 dX7_fault_33 rfl (fun v3 => ?_)
    refine mv_sub [0] rfl ?_
    exact sJ_X7_fault_36 l N0 D dA a0 v3
  · refine mv_bipush (v := ((-4) : Int32)) dX7_fault_27 (by decide) rfl ?_
    refine mv_goto (q := 36) dX7_fault_29 rfl ?_
    refine mv_sub [0] rfl ?_
    exact sJ_X7_fault_36 l N0 D dA a0 ((-4) : Int32)

def F_X7_fault (a0 : Nat) (a1 : Int32) : mv_M Int32 :=
  mv_bd (F_X7_in a1 (0 : Int32) (1 : Int32)) fun v4 =>
  if v4 = 0 then
    mv_pu ((-1) : Int32)
  else
    if a1 = 0 then
      J_X7_fault_21 a0 (1 : Int32)
    else
      J_X7_fault_21 a0 (0 : Int32)

set_option maxHeartbeats 4000000 in
set_option maxRecDepth 100000 in
theorem c_X7_fault (l : Launch) (N0 : Nat) (D : va_G) (dA : Nat → ClassId) (a0 : Nat) (a1 : Int32) : mv_SimM l N0 D dA yX7_fault cX7_fault 2 (some .int) 4 88 mv_rI [.ref (N0 + a0), .int a1] (F_X7_fault a0 a1) := by
  refine mv_SimM_of (L0 := [(0, mv_vr N0 (some a0)), (1, .int a1)]) false (by decide +kernel) (Nat.le_of_ble_eq_true rfl) rfl (List.forall_mem_cons.mpr ⟨mv_cat N0 (some a0), List.forall_mem_cons.mpr ⟨rfl, fun _ h => absurd h List.not_mem_nil⟩⟩) (fun z => by cases z) ?_
  unfold F_X7_fault
  show mv_Sim l N0 D dA RX7 cX7_fault 2 4 88 (some .int) false mv_rI 0 _ _ _
  refine mv_iload_n 1 dX7_fault_0 rfl rfl rfl ?_
  refine mv_iconst (v := (0 : Int32)) dX7_fault_1 (by decide) rfl ?_
  refine mv_iconst (v := (1 : Int32)) dX7_fault_2 (by decide) rfl ?_
  refine mv_callSi (st := []) [.int a1, .int (0 : Int32), .int (1 : Int32)] (c_X7_in l N0 D dA a1 (0 : Int32) (1 : Int32)) wc_X7_36 ⟨by decide, by decide⟩ rfl (mv_cs (Nat.le_of_ble_eq_true rfl) (fun _ h => absurd h List.not_mem_nil)) dX7_fault_3 rfl (fun v4 => ?_)
  refine mv_if_ne (tgt := 11) dX7_fault_6 rfl rfl ?_ ?_
  · refine mv_aload_n 0 dX7_fault_11 rfl rfl rfl ?_
    refine mv_iload_n 1 dX7_fault_12 rfl rfl rfl ?_
    refine mv_if_ne (tgt := 20) dX7_fault_13 rfl rfl ?_ ?_
    · refine mv_iconst (v := (0 : Int32)) dX7_fault_20 (by decide) rfl ?_
      refine mv_sub [0] rfl ?_
      exact sJ_X7_fault_21 l N0 D dA a0 (0 : Int32)
    · refine mv_iconst (v := (1 : Int32)) dX7_fault_16 (by decide) rfl ?_
      refine mv_goto (q := 21) dX7_fault_17 rfl ?_
      refine mv_sub [0] rfl ?_
      exact sJ_X7_fault_21 l N0 D dA a0 (1 : Int32)
  · refine mv_iconst (v := ((-1) : Int32)) dX7_fault_9 (by decide) rfl ?_
    exact mv_iret dX7_fault_10

def J_X7_records_49 (a0 : Nat) : mv_M Unit :=
  mv_bd (mv_gR 7 12 0 (some a0)) fun v1 =>
  mv_bd (mv_gR 7 12 2 (some a0)) fun v2 =>
  mv_bd (mv_gI 7 12 3 (some a0)) fun v3 =>
  mv_bd (F_X7_copies v1 (0 : Int32) v2 ((128 : Int32) * v3)) fun _ =>
  mv_bd (mv_gI 7 12 3 (some a0)) fun v4 =>
  mv_bd (mv_sI 7 12 3 (some a0) (v4 + (1 : Int32))) fun _ =>
  mv_pu ()

set_option maxHeartbeats 4000000 in
set_option maxRecDepth 100000 in
theorem sJ_X7_records_49 (l : Launch) (N0 : Nat) (D : va_G) (dA : Nat → ClassId) (a0 : Nat) : mv_Sim l N0 D dA RX7 cX7_records 2 1 24 none false mv_rV 49 [(0, mv_vr N0 (some a0))] [] (J_X7_records_49 a0) := by
  unfold J_X7_records_49
  refine mv_aload_n 0 dX7_records_49 rfl rfl rfl ?_
  refine mv_getR fd_X7_0 lk_X7_7 dX7_records_50 rfl (fun v1 => ?_)
  refine mv_iconst (v := (0 : Int32)) dX7_records_53 (by decide) rfl ?_
  refine mv_aload_n 0 dX7_records_54 rfl rfl rfl ?_
  refine mv_getR fd_X7_2 lk_X7_16 dX7_records_55 rfl (fun v2 => ?_)
  refine mv_sipush (v := (128 : Int32)) dX7_records_58 (by decide) rfl ?_
  refine mv_aload_n 0 dX7_records_61 rfl rfl rfl ?_
  refine mv_getI fd_X7_3 lk_X7_28 dX7_records_62 rfl (fun v3 => ?_)
  refine mv_imul dX7_records_65 rfl ?_
  refine mv_callSv (st := []) [mv_vr N0 v1, .int (0 : Int32), mv_vr N0 v2, .int ((128 : Int32) * v3)] (c_X7_copies l N0 D dA v1 (0 : Int32) v2 ((128 : Int32) * v3)) wc_X7_32 ⟨by decide, by decide⟩ rfl (mv_cs (Nat.le_of_ble_eq_true rfl) (fun _ h => absurd h List.not_mem_nil)) dX7_records_66 rfl ?_
  refine mv_aload_n 0 dX7_records_69 rfl rfl rfl ?_
  refine mv_dup dX7_records_70 (mv_cat N0 (some a0)) rfl ?_
  refine mv_getI fd_X7_3 lk_X7_28 dX7_records_71 rfl (fun v4 => ?_)
  refine mv_iconst (v := (1 : Int32)) dX7_records_74 (by decide) rfl ?_
  refine mv_iadd dX7_records_75 rfl ?_
  refine mv_putI fd_X7_3 rfl (tyX7_ok 3 (by decide)) lk_X7_28 dX7_records_76 rfl ?_
  exact mv_vret dX7_records_79

def Lp_X7_records_10 (a0 : Nat) : Nat → Int32 → mv_M Unit
  | 0, _ => mv_fl
  | n + 1, x1 =>
    if (384 : Int32) ≤ x1 then
      mv_bd (mv_gI 7 12 3 (some a0)) fun v5 =>
      mv_bd (mv_sI 7 12 3 (some a0) (v5 - (1 : Int32))) fun _ =>
      J_X7_records_49 a0
    else
      mv_bd (mv_gR 7 12 2 (some a0)) fun v6 =>
      mv_bd (mv_gR 7 12 2 (some a0)) fun v7 =>
      mv_bd (mv_aI v7 (x1 + (128 : Int32))) fun v8 =>
      mv_bd (mv_aS v6 x1 v8) fun _ =>
      Lp_X7_records_10 a0 n (x1 + (1 : Int32))

set_option maxHeartbeats 4000000 in
set_option maxRecDepth 100000 in
theorem sLp_X7_records_10 (l : Launch) (N0 : Nat) (D : va_G) (dA : Nat → ClassId) (a0 : Nat) : ∀ (n : Nat) (x1 : Int32), mv_Sim l N0 D dA RX7 cX7_records 2 1 24 none false mv_rV 10 [(0, mv_vr N0 (some a0)), (1, .int x1)] [] (Lp_X7_records_10 a0 n x1) := by
  intro n
  induction n with
  | zero => intro x1; rw [Lp_X7_records_10]; exact mv_fl_sim
  | succ n ih =>
    intro x1
    rw [Lp_X7_records_10]
    refine mv_iload_n 1 dX7_records_10 rfl rfl rfl ?_
    refine mv_sipush (v := (384 : Int32)) dX7_records_11 (by decide) rfl ?_
    refine mv_icmp_ge (tgt := 39) dX7_records_14 rfl rfl ?_ ?_
    · refine mv_aload_n 0 dX7_records_39 rfl rfl rfl ?_
      refine mv_dup dX7_records_40 (mv_cat N0 (some a0)) rfl ?_
      refine mv_getI fd_X7_3 lk_X7_28 dX7_records_41 rfl (fun v5 => ?_)
      refine mv_iconst (v := (1 : Int32)) dX7_records_44 (by decide) rfl ?_
      refine mv_isub dX7_records_45 rfl ?_
      refine mv_putI fd_X7_3 rfl (tyX7_ok 3 (by decide)) lk_X7_28 dX7_records_46 rfl ?_
      refine mv_sub [0] rfl ?_
      exact sJ_X7_records_49 l N0 D dA a0
    · refine mv_aload_n 0 dX7_records_17 rfl rfl rfl ?_
      refine mv_getR fd_X7_2 lk_X7_16 dX7_records_18 rfl (fun v6 => ?_)
      refine mv_iload_n 1 dX7_records_21 rfl rfl rfl ?_
      refine mv_aload_n 0 dX7_records_22 rfl rfl rfl ?_
      refine mv_getR fd_X7_2 lk_X7_16 dX7_records_23 rfl (fun v7 => ?_)
      refine mv_iload_n 1 dX7_records_26 rfl rfl rfl ?_
      refine mv_sipush (v := (128 : Int32)) dX7_records_27 (by decide) rfl ?_
      refine mv_iadd dX7_records_30 rfl ?_
      refine mv_iald dX7_records_31 rfl (fun v8 => ?_)
      refine mv_iast dX7_records_32 rfl ?_
      refine mv_iinc (y := (x1 + (1 : Int32))) 1 [0] dX7_records_33 rfl rfl (by decide) rfl rfl rfl ?_
      refine mv_goto (q := 10) dX7_records_36 rfl ?_
      refine mv_sub [1, 0] rfl ?_
      exact ih (x1 + (1 : Int32))

def F_X7_records (a0 : Nat) : mv_M Unit :=
  mv_bd (mv_gI 7 12 3 (some a0)) fun v9 =>
  if v9 = (4 : Int32) then
    Lp_X7_records_10 a0 mv_FU (0 : Int32)
  else
    J_X7_records_49 a0

set_option maxHeartbeats 4000000 in
set_option maxRecDepth 100000 in
theorem c_X7_records (l : Launch) (N0 : Nat) (D : va_G) (dA : Nat → ClassId) (a0 : Nat) : mv_SimM l N0 D dA yX7_records cX7_records 2 none 1 24 mv_rV [.ref (N0 + a0)] (F_X7_records a0) := by
  refine mv_SimM_of (L0 := [(0, mv_vr N0 (some a0))]) false (by decide +kernel) (Nat.le_of_ble_eq_true rfl) rfl (List.forall_mem_cons.mpr ⟨mv_cat N0 (some a0), fun _ h => absurd h List.not_mem_nil⟩) (fun z => by cases z) ?_
  unfold F_X7_records
  show mv_Sim l N0 D dA RX7 cX7_records 2 1 24 none false mv_rV 0 _ _ _
  refine mv_aload_n 0 dX7_records_0 rfl rfl rfl ?_
  refine mv_getI fd_X7_3 lk_X7_28 dX7_records_1 rfl (fun v9 => ?_)
  refine mv_iconst (v := (4 : Int32)) dX7_records_4 (by decide) rfl ?_
  refine mv_icmp_ne (tgt := 49) dX7_records_5 rfl rfl ?_ ?_
  · refine mv_sub [0] rfl ?_
    exact sJ_X7_records_49 l N0 D dA a0
  · refine mv_iconst (v := (0 : Int32)) dX7_records_8 (by decide) rfl ?_
    refine mv_istore_n [0] dX7_records_9 rfl (by decide) rfl rfl rfl ?_
    refine mv_sub [1, 0] rfl ?_
    exact sLp_X7_records_10 l N0 D dA a0 mv_FU (0 : Int32)

def J_X7_forget_78 (k43 : Int32 → mv_M Int32) (a0 : Nat) (x2 : Int32) (s0 : Option Nat) (s1 : Int32) (s2 : Int32) : mv_M Int32 :=
  mv_bd (mv_aS s0 s1 s2) fun _ =>
  k43 (x2 + (1 : Int32))

set_option maxHeartbeats 4000000 in
set_option maxRecDepth 100000 in
theorem sJ_X7_forget_78 (l : Launch) (N0 : Nat) (D : va_G) (dA : Nat → ClassId) (a0 : Nat) (x2 : Int32) (s0 : Option Nat) (s1 : Int32) (s2 : Int32) (k43 : Int32 → mv_M Int32) (hk43 : ∀ (y2 : Int32), mv_Sim l N0 D dA RX7 cX7_forget 3 2 45 (some .int) false mv_rI 43 [(0, mv_vr N0 (some a0)), (2, .int y2)] [] (k43 y2)) : mv_Sim l N0 D dA RX7 cX7_forget 3 2 45 (some .int) false mv_rI 78 [(0, mv_vr N0 (some a0)), (2, .int x2)] [.int s2, .int s1, mv_vr N0 s0] (J_X7_forget_78 k43 a0 x2 s0 s1 s2) := by
  unfold J_X7_forget_78
  refine mv_iast dX7_forget_78 rfl ?_
  refine mv_iinc (y := (x2 + (1 : Int32))) 1 [0] dX7_forget_79 rfl rfl (by decide) rfl rfl rfl ?_
  refine mv_goto (q := 43) dX7_forget_82 rfl ?_
  refine mv_sub [1, 0] rfl ?_
  exact hk43 (x2 + (1 : Int32))

def Lp_X7_forget_43 (a0 : Nat) : Nat → Int32 → mv_M Int32
  | 0, _ => mv_fl
  | n + 1, x2 =>
    if (128 : Int32) ≤ x2 then
      mv_bd (mv_gR 7 12 0 (some a0)) fun v1 =>
      mv_bd (mv_aI v1 (4 : Int32)) fun v2 =>
      mv_pu v2
    else
      mv_bd (mv_gR 7 12 0 (some a0)) fun v3 =>
      if (128 : Int32) ≤ (x2 + (8 : Int32)) then
        J_X7_forget_78 (Lp_X7_forget_43 a0 n) a0 x2 v3 x2 (0 : Int32)
      else
        mv_bd (mv_gR 7 12 0 (some a0)) fun v4 =>
        mv_bd (mv_aI v4 (x2 + (8 : Int32))) fun v5 =>
        J_X7_forget_78 (Lp_X7_forget_43 a0 n) a0 x2 v3 x2 v5

set_option maxHeartbeats 4000000 in
set_option maxRecDepth 100000 in
theorem sLp_X7_forget_43 (l : Launch) (N0 : Nat) (D : va_G) (dA : Nat → ClassId) (a0 : Nat) : ∀ (n : Nat) (x2 : Int32), mv_Sim l N0 D dA RX7 cX7_forget 3 2 45 (some .int) false mv_rI 43 [(0, mv_vr N0 (some a0)), (2, .int x2)] [] (Lp_X7_forget_43 a0 n x2) := by
  intro n
  induction n with
  | zero => intro x2; rw [Lp_X7_forget_43]; exact mv_fl_sim
  | succ n ih =>
    intro x2
    rw [Lp_X7_forget_43]
    refine mv_iload_n 1 dX7_forget_43 rfl rfl rfl ?_
    refine mv_sipush (v := (128 : Int32)) dX7_forget_44 (by decide) rfl ?_
    refine mv_icmp_ge (tgt := 85) dX7_forget_47 rfl rfl ?_ ?_
    · refine mv_aload_n 0 dX7_forget_85 rfl rfl rfl ?_
      refine mv_getR fd_X7_0 lk_X7_7 dX7_forget_86 rfl (fun v1 => ?_)
      refine mv_iconst (v := (4 : Int32)) dX7_forget_89 (by decide) rfl ?_
      refine mv_iald dX7_forget_90 rfl (fun v2 => ?_)
      exact mv_iret dX7_forget_91
    · refine mv_aload_n 0 dX7_forget_50 rfl rfl rfl ?_
      refine mv_getR fd_X7_0 lk_X7_7 dX7_forget_51 rfl (fun v3 => ?_)
      refine mv_iload_n 1 dX7_forget_54 rfl rfl rfl ?_
      refine mv_iload_n 1 dX7_forget_55 rfl rfl rfl ?_
      refine mv_bipush (v := (8 : Int32)) dX7_forget_56 (by decide) rfl ?_
      refine mv_iadd dX7_forget_58 rfl ?_
      refine mv_sipush (v := (128 : Int32)) dX7_forget_59 (by decide) rfl ?_
      refine mv_icmp_ge (tgt := 77) dX7_forget_62 rfl rfl ?_ ?_
      · refine mv_iconst (v := (0 : Int32)) dX7_forget_77 (by decide) rfl ?_
        refine mv_sub [0, 1] rfl ?_
        exact sJ_X7_forget_78 l N0 D dA a0 x2 v3 x2 (0 : Int32) _ ih
      · refine mv_aload_n 0 dX7_forget_65 rfl rfl rfl ?_
        refine mv_getR fd_X7_0 lk_X7_7 dX7_forget_66 rfl (fun v4 => ?_)
        refine mv_iload_n 1 dX7_forget_69 rfl rfl rfl ?_
        refine mv_bipush (v := (8 : Int32)) dX7_forget_70 (by decide) rfl ?_
        refine mv_iadd dX7_forget_72 rfl ?_
        refine mv_iald dX7_forget_73 rfl (fun v5 => ?_)
        refine mv_goto (q := 78) dX7_forget_74 rfl ?_
        refine mv_sub [0, 1] rfl ?_
        exact sJ_X7_forget_78 l N0 D dA a0 x2 v3 x2 v5 _ ih

def F_X7_forget (a0 : Nat) (a1 : Int32) : mv_M Int32 :=
  mv_bd (mv_rc 7 12 (some a0)) fun i7 => mv_bd (F_X7_isBundle i7 a1) fun v6 =>
  if v6 = 0 then
    mv_pu ((-1) : Int32)
  else
    mv_bd (mv_rc 7 12 (some a0)) fun i8 => mv_bd (F_X7_records i8 ) fun _ =>
    mv_bd (mv_gR 7 12 0 (some a0)) fun v9 =>
    mv_bd (mv_aI v9 (4 : Int32)) fun v10 =>
    mv_bd (mv_aS v9 (4 : Int32) (v10 - (1 : Int32))) fun _ =>
    mv_bd (mv_gR 7 12 0 (some a0)) fun v11 =>
    mv_bd (mv_aI v11 (7 : Int32)) fun v12 =>
    mv_bd (mv_aS v11 (7 : Int32) (v12 + (1 : Int32))) fun _ =>
    mv_bd (mv_pu ((64 : Int32) + ((8 : Int32) * a1))) fun v13 =>
    Lp_X7_forget_43 a0 mv_FU v13

set_option maxHeartbeats 4000000 in
set_option maxRecDepth 100000 in
theorem c_X7_forget (l : Launch) (N0 : Nat) (D : va_G) (dA : Nat → ClassId) (a0 : Nat) (a1 : Int32) : mv_SimM l N0 D dA yX7_forget cX7_forget 3 (some .int) 2 45 mv_rI [.ref (N0 + a0), .int a1] (F_X7_forget a0 a1) := by
  refine mv_SimM_of (L0 := [(0, mv_vr N0 (some a0)), (1, .int a1)]) false (by decide +kernel) (Nat.le_of_ble_eq_true rfl) rfl (List.forall_mem_cons.mpr ⟨mv_cat N0 (some a0), List.forall_mem_cons.mpr ⟨rfl, fun _ h => absurd h List.not_mem_nil⟩⟩) (fun z => by cases z) ?_
  unfold F_X7_forget
  show mv_Sim l N0 D dA RX7 cX7_forget 3 2 45 (some .int) false mv_rI 0 _ _ _
  refine mv_aload_n 0 dX7_forget_0 rfl rfl rfl ?_
  refine mv_iload_n 1 dX7_forget_1 rfl rfl rfl ?_
  refine mv_callVi (st := []) [.int a1] (fun i7 => c_X7_isBundle l N0 D dA i7 a1) (T := TX7) rfl (by decide) wc_X7_107 ⟨by decide, by decide⟩ rfl (mv_cs (Nat.le_of_ble_eq_true rfl) (fun _ h => absurd h List.not_mem_nil)) dX7_forget_2 rfl (fun v6 => ?_)
  refine mv_if_ne (tgt := 10) dX7_forget_5 rfl rfl ?_ ?_
  · refine mv_aload_n 0 dX7_forget_10 rfl rfl rfl ?_
    refine mv_callVv (st := []) [] (fun i8 => c_X7_records l N0 D dA i8 ) (T := TX7) rfl (by decide) wc_X7_90 ⟨by decide, by decide⟩ rfl (mv_cs (Nat.le_of_ble_eq_true rfl) (fun _ h => absurd h List.not_mem_nil)) dX7_forget_11 rfl ?_
    refine mv_aload_n 0 dX7_forget_14 rfl rfl rfl ?_
    refine mv_getR fd_X7_0 lk_X7_7 dX7_forget_15 rfl (fun v9 => ?_)
    refine mv_iconst (v := (4 : Int32)) dX7_forget_18 (by decide) rfl ?_
    refine mv_dup2 dX7_forget_19 rfl (mv_cat N0 v9) rfl ?_
    refine mv_iald dX7_forget_20 rfl (fun v10 => ?_)
    refine mv_iconst (v := (1 : Int32)) dX7_forget_21 (by decide) rfl ?_
    refine mv_isub dX7_forget_22 rfl ?_
    refine mv_iast dX7_forget_23 rfl ?_
    refine mv_aload_n 0 dX7_forget_24 rfl rfl rfl ?_
    refine mv_getR fd_X7_0 lk_X7_7 dX7_forget_25 rfl (fun v11 => ?_)
    refine mv_bipush (v := (7 : Int32)) dX7_forget_28 (by decide) rfl ?_
    refine mv_dup2 dX7_forget_30 rfl (mv_cat N0 v11) rfl ?_
    refine mv_iald dX7_forget_31 rfl (fun v12 => ?_)
    refine mv_iconst (v := (1 : Int32)) dX7_forget_32 (by decide) rfl ?_
    refine mv_iadd dX7_forget_33 rfl ?_
    refine mv_iast dX7_forget_34 rfl ?_
    refine mv_bipush (v := (64 : Int32)) dX7_forget_35 (by decide) rfl ?_
    refine mv_bipush (v := (8 : Int32)) dX7_forget_37 (by decide) rfl ?_
    refine mv_iload_n 1 dX7_forget_39 rfl rfl rfl ?_
    refine mv_imul dX7_forget_40 rfl ?_
    refine mv_iadd dX7_forget_41 rfl ?_
    refine mv_let (fun v13 => ?_)
    refine mv_istore_n [0, 1] dX7_forget_42 rfl (by decide) rfl rfl rfl ?_
    refine mv_sub [1, 0] rfl ?_
    exact sLp_X7_forget_43 l N0 D dA a0 mv_FU v13
  · refine mv_iconst (v := ((-1) : Int32)) dX7_forget_8 (by decide) rfl ?_
    exact mv_iret dX7_forget_9

def J_X7_goesOn_207 (k98 : Int32 → Int32 → Int32 → mv_M Unit) (a0 : Nat) (x1 : Int32) (x2 : Int32) (x3 : Int32) (x6 : Int32) (x7 : Int32) (x9 : Int32) (s0 : Int32) : mv_M Unit :=
  k98 x7 s0 (x9 + (1 : Int32))

set_option maxHeartbeats 4000000 in
set_option maxRecDepth 100000 in
theorem sJ_X7_goesOn_207 (l : Launch) (N0 : Nat) (D : va_G) (dA : Nat → ClassId) (a0 : Nat) (x1 : Int32) (x2 : Int32) (x3 : Int32) (x6 : Int32) (x7 : Int32) (x9 : Int32) (s0 : Int32) (k98 : Int32 → Int32 → Int32 → mv_M Unit) (hk98 : ∀ (y7 : Int32) (y8 : Int32) (y9 : Int32), mv_Sim l N0 D dA RX7 cX7_goesOn 12 5 118 none false mv_rV 98 [(0, mv_vr N0 (some a0)), (1, .int x1), (2, .int x2), (3, .int x3), (6, .int x6), (7, .int y7), (8, .int y8), (9, .int y9)] [] (k98 y7 y8 y9)) : mv_Sim l N0 D dA RX7 cX7_goesOn 12 5 118 none false mv_rV 207 [(0, mv_vr N0 (some a0)), (1, .int x1), (2, .int x2), (3, .int x3), (6, .int x6), (7, .int x7), (9, .int x9)] [.int s0] (J_X7_goesOn_207 k98 a0 x1 x2 x3 x6 x7 x9 s0) := by
  unfold J_X7_goesOn_207
  refine mv_istore [0, 1, 2, 3, 4, 5, 6] dX7_goesOn_207 (by decide) rfl rfl rfl ?_
  refine mv_iinc (y := (x9 + (1 : Int32))) 7 [0, 1, 2, 3, 4, 5, 6] dX7_goesOn_209 rfl rfl (by decide) rfl rfl rfl ?_
  refine mv_goto (q := 98) dX7_goesOn_212 rfl ?_
  refine mv_sub [2, 3, 4, 5, 6, 7, 1, 0] rfl ?_
  exact hk98 x7 s0 (x9 + (1 : Int32))

def J_X7_goesOn_191 (k98 : Int32 → Int32 → Int32 → mv_M Unit) (a0 : Nat) (x1 : Int32) (x2 : Int32) (x3 : Int32) (x6 : Int32) (x8 : Int32) (x9 : Int32) (x11 : Int32) (s0 : Int32) : mv_M Unit :=
  if x8 ≤ x11 then
    J_X7_goesOn_207 k98 a0 x1 x2 x3 x6 s0 x9 x8
  else
    J_X7_goesOn_207 k98 a0 x1 x2 x3 x6 s0 x9 x11

set_option maxHeartbeats 4000000 in
set_option maxRecDepth 100000 in
theorem sJ_X7_goesOn_191 (l : Launch) (N0 : Nat) (D : va_G) (dA : Nat → ClassId) (a0 : Nat) (x1 : Int32) (x2 : Int32) (x3 : Int32) (x6 : Int32) (x8 : Int32) (x9 : Int32) (x11 : Int32) (s0 : Int32) (k98 : Int32 → Int32 → Int32 → mv_M Unit) (hk98 : ∀ (y7 : Int32) (y8 : Int32) (y9 : Int32), mv_Sim l N0 D dA RX7 cX7_goesOn 12 5 118 none false mv_rV 98 [(0, mv_vr N0 (some a0)), (1, .int x1), (2, .int x2), (3, .int x3), (6, .int x6), (7, .int y7), (8, .int y8), (9, .int y9)] [] (k98 y7 y8 y9)) : mv_Sim l N0 D dA RX7 cX7_goesOn 12 5 118 none false mv_rV 191 [(0, mv_vr N0 (some a0)), (1, .int x1), (2, .int x2), (3, .int x3), (6, .int x6), (8, .int x8), (9, .int x9), (11, .int x11)] [.int s0] (J_X7_goesOn_191 k98 a0 x1 x2 x3 x6 x8 x9 x11 s0) := by
  unfold J_X7_goesOn_191
  refine mv_istore [0, 1, 2, 3, 4, 5, 6, 7] dX7_goesOn_191 (by decide) rfl rfl rfl ?_
  refine mv_iload 8 dX7_goesOn_193 rfl rfl ?_
  refine mv_iload 6 dX7_goesOn_195 rfl rfl ?_
  refine mv_icmp_ge (tgt := 205) dX7_goesOn_197 rfl rfl ?_ ?_
  · refine mv_iload 6 dX7_goesOn_205 rfl rfl ?_
    refine mv_sub [1, 2, 3, 4, 5, 0, 7] rfl ?_
    exact sJ_X7_goesOn_207 l N0 D dA a0 x1 x2 x3 x6 s0 x9 x8 _ hk98
  · refine mv_iload 8 dX7_goesOn_200 rfl rfl ?_
    refine mv_goto (q := 207) dX7_goesOn_202 rfl ?_
    refine mv_sub [1, 2, 3, 4, 5, 0, 7] rfl ?_
    exact sJ_X7_goesOn_207 l N0 D dA a0 x1 x2 x3 x6 s0 x9 x11 _ hk98

def J_X7_goesOn_175 (k98 : Int32 → Int32 → Int32 → mv_M Unit) (a0 : Nat) (x1 : Int32) (x2 : Int32) (x3 : Int32) (x6 : Int32) (x7 : Int32) (x8 : Int32) (x9 : Int32) (s0 : Int32) : mv_M Unit :=
  if x8 ≤ s0 then
    J_X7_goesOn_191 k98 a0 x1 x2 x3 x6 x8 x9 s0 x7
  else
    J_X7_goesOn_191 k98 a0 x1 x2 x3 x6 x8 x9 s0 x9

set_option maxHeartbeats 4000000 in
set_option maxRecDepth 100000 in
theorem sJ_X7_goesOn_175 (l : Launch) (N0 : Nat) (D : va_G) (dA : Nat → ClassId) (a0 : Nat) (x1 : Int32) (x2 : Int32) (x3 : Int32) (x6 : Int32) (x7 : Int32) (x8 : Int32) (x9 : Int32) (s0 : Int32) (k98 : Int32 → Int32 → Int32 → mv_M Unit) (hk98 : ∀ (y7 : Int32) (y8 : Int32) (y9 : Int32), mv_Sim l N0 D dA RX7 cX7_goesOn 12 5 118 none false mv_rV 98 [(0, mv_vr N0 (some a0)), (1, .int x1), (2, .int x2), (3, .int x3), (6, .int x6), (7, .int y7), (8, .int y8), (9, .int y9)] [] (k98 y7 y8 y9)) : mv_Sim l N0 D dA RX7 cX7_goesOn 12 5 118 none false mv_rV 175 [(0, mv_vr N0 (some a0)), (1, .int x1), (2, .int x2), (3, .int x3), (6, .int x6), (7, .int x7), (8, .int x8), (9, .int x9)] [.int s0] (J_X7_goesOn_175 k98 a0 x1 x2 x3 x6 x7 x8 x9 s0) := by
  unfold J_X7_goesOn_175
  refine mv_istore [0, 1, 2, 3, 4, 5, 6, 7] dX7_goesOn_175 (by decide) rfl rfl rfl ?_
  refine mv_iload 0 dX7_goesOn_177 rfl rfl ?_
  refine mv_iload 7 dX7_goesOn_179 rfl rfl ?_
  refine mv_icmp_ge (tgt := 189) dX7_goesOn_181 rfl rfl ?_ ?_
  · refine mv_iload 6 dX7_goesOn_189 rfl rfl ?_
    refine mv_sub [1, 2, 3, 4, 5, 7, 8, 0] rfl ?_
    exact sJ_X7_goesOn_191 l N0 D dA a0 x1 x2 x3 x6 x8 x9 s0 x7 _ hk98
  · refine mv_iload 8 dX7_goesOn_184 rfl rfl ?_
    refine mv_goto (q := 191) dX7_goesOn_186 rfl ?_
    refine mv_sub [1, 2, 3, 4, 5, 7, 8, 0] rfl ?_
    exact sJ_X7_goesOn_191 l N0 D dA a0 x1 x2 x3 x6 x8 x9 s0 x9 _ hk98

def J_X7_goesOn_146 (k98 : Int32 → Int32 → Int32 → mv_M Unit) (a0 : Nat) (x1 : Int32) (x2 : Int32) (x3 : Int32) (x6 : Int32) (x7 : Int32) (x8 : Int32) (x9 : Int32) (s0 : Int32) : mv_M Unit :=
  if s0 = 0 then
    J_X7_goesOn_175 k98 a0 x1 x2 x3 x6 x7 x8 x9 (1000000 : Int32)
  else
    mv_bd (mv_rc 7 12 (some a0)) fun i2 => mv_bd (F_X7_of i2 x1 (0 : Int32)) fun v1 =>
    mv_bd (mv_rc 7 12 (some a0)) fun i4 => mv_bd (F_X7_arrivalOf i4 v1 ((-4) : Int32) ((1 : Int32) <<< (x9 &&& 31)) x2) fun v3 =>
    J_X7_goesOn_175 k98 a0 x1 x2 x3 x6 x7 x8 x9 v3

set_option maxHeartbeats 4000000 in
set_option maxRecDepth 100000 in
theorem sJ_X7_goesOn_146 (l : Launch) (N0 : Nat) (D : va_G) (dA : Nat → ClassId) (a0 : Nat) (x1 : Int32) (x2 : Int32) (x3 : Int32) (x6 : Int32) (x7 : Int32) (x8 : Int32) (x9 : Int32) (s0 : Int32) (k98 : Int32 → Int32 → Int32 → mv_M Unit) (hk98 : ∀ (y7 : Int32) (y8 : Int32) (y9 : Int32), mv_Sim l N0 D dA RX7 cX7_goesOn 12 5 118 none false mv_rV 98 [(0, mv_vr N0 (some a0)), (1, .int x1), (2, .int x2), (3, .int x3), (6, .int x6), (7, .int y7), (8, .int y8), (9, .int y9)] [] (k98 y7 y8 y9)) : mv_Sim l N0 D dA RX7 cX7_goesOn 12 5 118 none false mv_rV 146 [(0, mv_vr N0 (some a0)), (1, .int x1), (2, .int x2), (3, .int x3), (6, .int x6), (7, .int x7), (8, .int x8), (9, .int x9)] [.int s0] (J_X7_goesOn_146 k98 a0 x1 x2 x3 x6 x7 x8 x9 s0) := by
  unfold J_X7_goesOn_146
  refine mv_istore [0, 1, 2, 3, 4, 5, 6, 7] dX7_goesOn_146 (by decide) rfl rfl rfl ?_
  refine mv_iload 0 dX7_goesOn_148 rfl rfl ?_
  refine mv_if_eq (tgt := 173) dX7_goesOn_150 rfl rfl ?_ ?_
  · refine mv_ldc (v := (1000000 : Int32)) dX7_goesOn_173 (mv_wA_of (mv_t3 (List.mem_of_getElem? (i := 185) rfl)) rfl) rfl ?_
    refine mv_sub [1, 2, 3, 4, 5, 6, 7, 8] rfl ?_
    exact sJ_X7_goesOn_175 l N0 D dA a0 x1 x2 x3 x6 x7 x8 x9 (1000000 : Int32) _ hk98
  · refine mv_aload_n 1 dX7_goesOn_153 rfl rfl rfl ?_
    refine mv_aload_n 1 dX7_goesOn_154 rfl rfl rfl ?_
    refine mv_iload_n 2 dX7_goesOn_155 rfl rfl rfl ?_
    refine mv_iconst (v := (0 : Int32)) dX7_goesOn_156 (by decide) rfl ?_
    refine mv_callVi (st := [mv_vr N0 (some a0)]) [.int x1, .int (0 : Int32)] (fun i2 => c_X7_of l N0 D dA i2 x1 (0 : Int32)) (T := TX7) rfl (by decide) wc_X7_44 ⟨by decide, by decide⟩ rfl (mv_cs (Nat.le_of_ble_eq_true rfl) (List.forall_mem_cons.mpr ⟨mv_cat N0 (some a0), fun _ h => absurd h List.not_mem_nil⟩)) dX7_goesOn_157 rfl (fun v1 => ?_)
    refine mv_bipush (v := ((-4) : Int32)) dX7_goesOn_160 (by decide) rfl ?_
    refine mv_iconst (v := (1 : Int32)) dX7_goesOn_162 (by decide) rfl ?_
    refine mv_iload 8 dX7_goesOn_163 rfl rfl ?_
    refine mv_ishl dX7_goesOn_165 rfl ?_
    refine mv_iload_n 3 dX7_goesOn_166 rfl rfl rfl ?_
    refine mv_callVi (st := []) [.int v1, .int ((-4) : Int32), .int ((1 : Int32) <<< (x9 &&& 31)), .int x2] (fun i4 => c_X7_arrivalOf l N0 D dA i4 v1 ((-4) : Int32) ((1 : Int32) <<< (x9 &&& 31)) x2) (T := TX7) rfl (by decide) wc_X7_58 ⟨by decide, by decide⟩ rfl (mv_cs (Nat.le_of_ble_eq_true rfl) (fun _ h => absurd h List.not_mem_nil)) dX7_goesOn_167 rfl (fun v3 => ?_)
    refine mv_goto (q := 175) dX7_goesOn_170 rfl ?_
    refine mv_sub [1, 2, 3, 4, 5, 6, 7, 8] rfl ?_
    exact sJ_X7_goesOn_175 l N0 D dA a0 x1 x2 x3 x6 x7 x8 x9 v3 _ hk98

def J_X7_goesOn_145 (k98 : Int32 → Int32 → Int32 → mv_M Unit) (a0 : Nat) (x1 : Int32) (x2 : Int32) (x3 : Int32) (x6 : Int32) (x7 : Int32) (x8 : Int32) (x9 : Int32) : mv_M Unit :=
  J_X7_goesOn_146 k98 a0 x1 x2 x3 x6 x7 x8 x9 (0 : Int32)

set_option maxHeartbeats 4000000 in
set_option maxRecDepth 100000 in
theorem sJ_X7_goesOn_145 (l : Launch) (N0 : Nat) (D : va_G) (dA : Nat → ClassId) (a0 : Nat) (x1 : Int32) (x2 : Int32) (x3 : Int32) (x6 : Int32) (x7 : Int32) (x8 : Int32) (x9 : Int32) (k98 : Int32 → Int32 → Int32 → mv_M Unit) (hk98 : ∀ (y7 : Int32) (y8 : Int32) (y9 : Int32), mv_Sim l N0 D dA RX7 cX7_goesOn 12 5 118 none false mv_rV 98 [(0, mv_vr N0 (some a0)), (1, .int x1), (2, .int x2), (3, .int x3), (6, .int x6), (7, .int y7), (8, .int y8), (9, .int y9)] [] (k98 y7 y8 y9)) : mv_Sim l N0 D dA RX7 cX7_goesOn 12 5 118 none false mv_rV 145 [(0, mv_vr N0 (some a0)), (1, .int x1), (2, .int x2), (3, .int x3), (6, .int x6), (7, .int x7), (8, .int x8), (9, .int x9)] [] (J_X7_goesOn_145 k98 a0 x1 x2 x3 x6 x7 x8 x9) := by
  unfold J_X7_goesOn_145
  refine mv_iconst (v := (0 : Int32)) dX7_goesOn_145 (by decide) rfl ?_
  refine mv_sub [0, 1, 2, 3, 4, 5, 6, 7] rfl ?_
  exact sJ_X7_goesOn_146 l N0 D dA a0 x1 x2 x3 x6 x7 x8 x9 (0 : Int32) _ hk98

def J_X7_goesOn_227 (a0 : Nat) : mv_M Unit :=
  mv_pu ()

set_option maxHeartbeats 4000000 in
set_option maxRecDepth 100000 in
theorem sJ_X7_goesOn_227 (l : Launch) (N0 : Nat) (D : va_G) (dA : Nat → ClassId) (a0 : Nat) : mv_Sim l N0 D dA RX7 cX7_goesOn 12 5 118 none false mv_rV 227 [(0, mv_vr N0 (some a0))] [] (J_X7_goesOn_227 a0) := by
  unfold J_X7_goesOn_227
  exact mv_vret dX7_goesOn_227

def Lp_X7_goesOn_98 (a0 : Nat) (x1 : Int32) (x2 : Int32) (x3 : Int32) (x6 : Int32) : Nat → Int32 → Int32 → Int32 → mv_M Unit
  | 0, _, _, _ => mv_fl
  | n + 1, x7, x8, x9 =>
    mv_bd (mv_gR 7 12 0 (some a0)) fun v5 =>
    mv_bd (mv_aI v5 (3 : Int32)) fun v6 =>
    if v6 ≤ x9 then
      if x7 < 0 then
        J_X7_goesOn_227 a0
      else
        mv_bd (mv_rc 7 12 (some a0)) fun i7 => mv_bd (F_X7_changes i7 x1 x7) fun _ =>
        J_X7_goesOn_227 a0
    else
      if ((x6 >>> (x9 &&& 31)) &&& (1 : Int32)) = (1 : Int32) then
        if x9 = x3 then
          J_X7_goesOn_145 (Lp_X7_goesOn_98 a0 x1 x2 x3 x6 n) a0 x1 x2 x3 x6 x7 x8 x9
        else
          mv_bd (mv_rc 7 12 (some a0)) fun i9 => mv_bd (F_X7_has i9 x9) fun v8 =>
          mv_bd (mv_gR 7 12 0 (some a0)) fun v10 =>
          mv_bd (mv_aI v10 (1 : Int32)) fun v11 =>
          if v11 ≤ v8 then
            J_X7_goesOn_145 (Lp_X7_goesOn_98 a0 x1 x2 x3 x6 n) a0 x1 x2 x3 x6 x7 x8 x9
          else
            J_X7_goesOn_146 (Lp_X7_goesOn_98 a0 x1 x2 x3 x6 n) a0 x1 x2 x3 x6 x7 x8 x9 (1 : Int32)
      else
        J_X7_goesOn_145 (Lp_X7_goesOn_98 a0 x1 x2 x3 x6 n) a0 x1 x2 x3 x6 x7 x8 x9

set_option maxHeartbeats 4000000 in
set_option maxRecDepth 100000 in
theorem sLp_X7_goesOn_98 (l : Launch) (N0 : Nat) (D : va_G) (dA : Nat → ClassId) (a0 : Nat) (x1 : Int32) (x2 : Int32) (x3 : Int32) (x6 : Int32) : ∀ (n : Nat) (x7 : Int32) (x8 : Int32) (x9 : Int32), mv_Sim l N0 D dA RX7 cX7_goesOn 12 5 118 none false mv_rV 98 [(0, mv_vr N0 (some a0)), (1, .int x1), (2, .int x2), (3, .int x3), (6, .int x6), (7, .int x7), (8, .int x8), (9, .int x9)] [] (Lp_X7_goesOn_98 a0 x1 x2 x3 x6 n x7 x8 x9) := by
  intro n
  induction n with
  | zero => intro x7 x8 x9; rw [Lp_X7_goesOn_98]; exact mv_fl_sim
  | succ n ih =>
    intro x7 x8 x9
    rw [Lp_X7_goesOn_98]
    refine mv_iload 7 dX7_goesOn_98 rfl rfl ?_
    refine mv_aload_n 0 dX7_goesOn_100 rfl rfl rfl ?_
    refine mv_getR fd_X7_0 lk_X7_7 dX7_goesOn_101 rfl (fun v5 => ?_)
    refine mv_iconst (v := (3 : Int32)) dX7_goesOn_104 (by decide) rfl ?_
    refine mv_iald dX7_goesOn_105 rfl (fun v6 => ?_)
    refine mv_icmp_ge (tgt := 215) dX7_goesOn_106 rfl rfl ?_ ?_
    · refine mv_iload 5 dX7_goesOn_215 rfl rfl ?_
      refine mv_if_lt (tgt := 227) dX7_goesOn_217 rfl rfl ?_ ?_
      · refine mv_sub [0] rfl ?_
        exact sJ_X7_goesOn_227 l N0 D dA a0
      · refine mv_aload_n 0 dX7_goesOn_220 rfl rfl rfl ?_
        refine mv_iload_n 1 dX7_goesOn_221 rfl rfl rfl ?_
        refine mv_iload 5 dX7_goesOn_222 rfl rfl ?_
        refine mv_callVv (st := []) [.int x1, .int x7] (fun i7 => c_X7_changes l N0 D dA i7 x1 x7) (T := TX7) rfl (by decide) wc_X7_78 ⟨by decide, by decide⟩ rfl (mv_cs (Nat.le_of_ble_eq_true rfl) (fun _ h => absurd h List.not_mem_nil)) dX7_goesOn_224 rfl ?_
        refine mv_sub [0] rfl ?_
        exact sJ_X7_goesOn_227 l N0 D dA a0
    · refine mv_iload 4 dX7_goesOn_109 rfl rfl ?_
      refine mv_iload 7 dX7_goesOn_111 rfl rfl ?_
      refine mv_ishr dX7_goesOn_113 rfl ?_
      refine mv_iconst (v := (1 : Int32)) dX7_goesOn_114 (by decide) rfl ?_
      refine mv_iand dX7_goesOn_115 rfl ?_
      refine mv_iconst (v := (1 : Int32)) dX7_goesOn_116 (by decide) rfl ?_
      refine mv_icmp_ne (tgt := 145) dX7_goesOn_117 rfl rfl ?_ ?_
      · refine mv_sub [0, 1, 2, 3, 4, 5, 6, 7] rfl ?_
        exact sJ_X7_goesOn_145 l N0 D dA a0 x1 x2 x3 x6 x7 x8 x9 _ ih
      · refine mv_iload 7 dX7_goesOn_120 rfl rfl ?_
        refine mv_iload_n 3 dX7_goesOn_122 rfl rfl rfl ?_
        refine mv_icmp_eq (tgt := 145) dX7_goesOn_123 rfl rfl ?_ ?_
        · refine mv_sub [0, 1, 2, 3, 4, 5, 6, 7] rfl ?_
          exact sJ_X7_goesOn_145 l N0 D dA a0 x1 x2 x3 x6 x7 x8 x9 _ ih
        · refine mv_aload_n 0 dX7_goesOn_126 rfl rfl rfl ?_
          refine mv_iload 7 dX7_goesOn_127 rfl rfl ?_
          refine mv_callVi (st := []) [.int x9] (fun i9 => c_X7_has l N0 D dA i9 x9) (T := TX7) rfl (by decide) wc_X7_75 ⟨by decide, by decide⟩ rfl (mv_cs (Nat.le_of_ble_eq_true rfl) (fun _ h => absurd h List.not_mem_nil)) dX7_goesOn_129 rfl (fun v8 => ?_)
          refine mv_aload_n 0 dX7_goesOn_132 rfl rfl rfl ?_
          refine mv_getR fd_X7_0 lk_X7_7 dX7_goesOn_133 rfl (fun v10 => ?_)
          refine mv_iconst (v := (1 : Int32)) dX7_goesOn_136 (by decide) rfl ?_
          refine mv_iald dX7_goesOn_137 rfl (fun v11 => ?_)
          refine mv_icmp_ge (tgt := 145) dX7_goesOn_138 rfl rfl ?_ ?_
          · refine mv_sub [0, 1, 2, 3, 4, 5, 6, 7] rfl ?_
            exact sJ_X7_goesOn_145 l N0 D dA a0 x1 x2 x3 x6 x7 x8 x9 _ ih
          · refine mv_iconst (v := (1 : Int32)) dX7_goesOn_141 (by decide) rfl ?_
            refine mv_goto (q := 146) dX7_goesOn_142 rfl ?_
            refine mv_sub [0, 1, 2, 3, 4, 5, 6, 7] rfl ?_
            exact sJ_X7_goesOn_146 l N0 D dA a0 x1 x2 x3 x6 x7 x8 x9 (1 : Int32) _ ih

def J_X7_goesOn_81 (a0 : Nat) (x1 : Int32) (x2 : Int32) (x3 : Int32) (s0 : Int32) : mv_M Unit :=
  mv_bd (mv_rc 7 12 (some a0)) fun i13 => mv_bd (F_X7_arrivalBehind i13 x1 x2) fun v12 =>
  Lp_X7_goesOn_98 a0 x1 x2 x3 s0 mv_FU ((-4) : Int32) v12 (0 : Int32)

set_option maxHeartbeats 4000000 in
set_option maxRecDepth 100000 in
theorem sJ_X7_goesOn_81 (l : Launch) (N0 : Nat) (D : va_G) (dA : Nat → ClassId) (a0 : Nat) (x1 : Int32) (x2 : Int32) (x3 : Int32) (s0 : Int32) : mv_Sim l N0 D dA RX7 cX7_goesOn 12 5 118 none false mv_rV 81 [(0, mv_vr N0 (some a0)), (1, .int x1), (2, .int x2), (3, .int x3)] [.int s0] (J_X7_goesOn_81 a0 x1 x2 x3 s0) := by
  unfold J_X7_goesOn_81
  refine mv_istore [0, 1, 2, 3] dX7_goesOn_81 (by decide) rfl rfl rfl ?_
  refine mv_bipush (v := ((-4) : Int32)) dX7_goesOn_83 (by decide) rfl ?_
  refine mv_istore [0, 1, 2, 3, 4] dX7_goesOn_85 (by decide) rfl rfl rfl ?_
  refine mv_aload_n 2 dX7_goesOn_87 rfl rfl rfl ?_
  refine mv_iload_n 3 dX7_goesOn_88 rfl rfl rfl ?_
  refine mv_iload_n 4 dX7_goesOn_89 rfl rfl rfl ?_
  refine mv_callVi (st := []) [.int x1, .int x2] (fun i13 => c_X7_arrivalBehind l N0 D dA i13 x1 x2) (T := TX7) rfl (by decide) wc_X7_62 ⟨by decide, by decide⟩ rfl (mv_cs (Nat.le_of_ble_eq_true rfl) (fun _ h => absurd h List.not_mem_nil)) dX7_goesOn_90 rfl (fun v12 => ?_)
  refine mv_istore [0, 1, 2, 3, 4, 5] dX7_goesOn_93 (by decide) rfl rfl rfl ?_
  refine mv_iconst (v := (0 : Int32)) dX7_goesOn_95 (by decide) rfl ?_
  refine mv_istore [0, 1, 2, 3, 4, 5, 6] dX7_goesOn_96 (by decide) rfl rfl rfl ?_
  refine mv_sub [4, 5, 6, 7, 3, 2, 1, 0] rfl ?_
  exact sLp_X7_goesOn_98 l N0 D dA a0 x1 x2 x3 s0 mv_FU ((-4) : Int32) v12 (0 : Int32)

def J_X7_goesOn_63 (a0 : Nat) (x1 : Int32) (x2 : Int32) (x3 : Int32) (x4 : Int32) (s0 : Int32) : mv_M Unit :=
  if s0 = 0 then
    J_X7_goesOn_81 a0 x1 x2 x3 (0 : Int32)
  else
    mv_bd (mv_rc 7 12 (some a0)) fun i15 => mv_bd (F_X7_thereOn i15 x4 x2) fun v14 =>
    J_X7_goesOn_81 a0 x1 x2 x3 v14

set_option maxHeartbeats 4000000 in
set_option maxRecDepth 100000 in
theorem sJ_X7_goesOn_63 (l : Launch) (N0 : Nat) (D : va_G) (dA : Nat → ClassId) (a0 : Nat) (x1 : Int32) (x2 : Int32) (x3 : Int32) (x4 : Int32) (s0 : Int32) : mv_Sim l N0 D dA RX7 cX7_goesOn 12 5 118 none false mv_rV 63 [(0, mv_vr N0 (some a0)), (1, .int x1), (2, .int x2), (3, .int x3), (4, .int x4)] [.int s0] (J_X7_goesOn_63 a0 x1 x2 x3 x4 s0) := by
  unfold J_X7_goesOn_63
  refine mv_istore [0, 1, 2, 3, 4] dX7_goesOn_63 (by decide) rfl rfl rfl ?_
  refine mv_iload 0 dX7_goesOn_65 rfl rfl ?_
  refine mv_if_eq (tgt := 80) dX7_goesOn_67 rfl rfl ?_ ?_
  · refine mv_iconst (v := (0 : Int32)) dX7_goesOn_80 (by decide) rfl ?_
    refine mv_sub [1, 2, 3, 4] rfl ?_
    exact sJ_X7_goesOn_81 l N0 D dA a0 x1 x2 x3 (0 : Int32)
  · refine mv_aload_n 1 dX7_goesOn_70 rfl rfl rfl ?_
    refine mv_iload 5 dX7_goesOn_71 rfl rfl ?_
    refine mv_iload_n 3 dX7_goesOn_73 rfl rfl rfl ?_
    refine mv_callVi (st := []) [.int x4, .int x2] (fun i15 => c_X7_thereOn l N0 D dA i15 x4 x2) (T := TX7) rfl (by decide) wc_X7_51 ⟨by decide, by decide⟩ rfl (mv_cs (Nat.le_of_ble_eq_true rfl) (fun _ h => absurd h List.not_mem_nil)) dX7_goesOn_74 rfl (fun v14 => ?_)
    refine mv_goto (q := 81) dX7_goesOn_77 rfl ?_
    refine mv_sub [1, 2, 3, 4] rfl ?_
    exact sJ_X7_goesOn_81 l N0 D dA a0 x1 x2 x3 v14

def J_X7_goesOn_58 (a0 : Nat) (x1 : Int32) (x2 : Int32) (x3 : Int32) (x4 : Int32) : mv_M Unit :=
  J_X7_goesOn_63 a0 x1 x2 x3 x4 (1 : Int32)

set_option maxHeartbeats 4000000 in
set_option maxRecDepth 100000 in
theorem sJ_X7_goesOn_58 (l : Launch) (N0 : Nat) (D : va_G) (dA : Nat → ClassId) (a0 : Nat) (x1 : Int32) (x2 : Int32) (x3 : Int32) (x4 : Int32) : mv_Sim l N0 D dA RX7 cX7_goesOn 12 5 118 none false mv_rV 58 [(0, mv_vr N0 (some a0)), (1, .int x1), (2, .int x2), (3, .int x3), (4, .int x4)] [] (J_X7_goesOn_58 a0 x1 x2 x3 x4) := by
  unfold J_X7_goesOn_58
  refine mv_iconst (v := (1 : Int32)) dX7_goesOn_58 (by decide) rfl ?_
  refine mv_goto (q := 63) dX7_goesOn_59 rfl ?_
  refine mv_sub [0, 1, 2, 3, 4] rfl ?_
  exact sJ_X7_goesOn_63 l N0 D dA a0 x1 x2 x3 x4 (1 : Int32)

def J_X7_goesOn_62 (a0 : Nat) (x1 : Int32) (x2 : Int32) (x3 : Int32) (x4 : Int32) : mv_M Unit :=
  J_X7_goesOn_63 a0 x1 x2 x3 x4 (0 : Int32)

set_option maxHeartbeats 4000000 in
set_option maxRecDepth 100000 in
theorem sJ_X7_goesOn_62 (l : Launch) (N0 : Nat) (D : va_G) (dA : Nat → ClassId) (a0 : Nat) (x1 : Int32) (x2 : Int32) (x3 : Int32) (x4 : Int32) : mv_Sim l N0 D dA RX7 cX7_goesOn 12 5 118 none false mv_rV 62 [(0, mv_vr N0 (some a0)), (1, .int x1), (2, .int x2), (3, .int x3), (4, .int x4)] [] (J_X7_goesOn_62 a0 x1 x2 x3 x4) := by
  unfold J_X7_goesOn_62
  refine mv_iconst (v := (0 : Int32)) dX7_goesOn_62 (by decide) rfl ?_
  refine mv_sub [0, 1, 2, 3, 4] rfl ?_
  exact sJ_X7_goesOn_63 l N0 D dA a0 x1 x2 x3 x4 (0 : Int32)

def J_X7_goesOn_37 (a0 : Nat) (x1 : Int32) (x2 : Int32) (x3 : Int32) (s0 : Int32) : mv_M Unit :=
  if x3 < 0 then
    J_X7_goesOn_58 a0 x1 x2 x3 s0
  else
    if s0 < 0 then
      J_X7_goesOn_62 a0 x1 x2 x3 s0
    else
      mv_bd (mv_rc 7 12 (some a0)) fun i17 => mv_bd (F_X7_stallOn i17 x2) fun v16 =>
      if s0 = v16 then
        J_X7_goesOn_58 a0 x1 x2 x3 s0
      else
        J_X7_goesOn_62 a0 x1 x2 x3 s0

set_option maxHeartbeats 4000000 in
set_option maxRecDepth 100000 in
theorem sJ_X7_goesOn_37 (l : Launch) (N0 : Nat) (D : va_G) (dA : Nat → ClassId) (a0 : Nat) (x1 : Int32) (x2 : Int32) (x3 : Int32) (s0 : Int32) : mv_Sim l N0 D dA RX7 cX7_goesOn 12 5 118 none false mv_rV 37 [(0, mv_vr N0 (some a0)), (1, .int x1), (2, .int x2), (3, .int x3)] [.int s0] (J_X7_goesOn_37 a0 x1 x2 x3 s0) := by
  unfold J_X7_goesOn_37
  refine mv_istore [0, 1, 2, 3] dX7_goesOn_37 (by decide) rfl rfl rfl ?_
  refine mv_iload_n 4 dX7_goesOn_39 rfl rfl rfl ?_
  refine mv_if_lt (tgt := 58) dX7_goesOn_40 rfl rfl ?_ ?_
  · refine mv_sub [1, 2, 3, 4, 0] rfl ?_
    exact sJ_X7_goesOn_58 l N0 D dA a0 x1 x2 x3 s0
  · refine mv_iload 0 dX7_goesOn_43 rfl rfl ?_
    refine mv_if_lt (tgt := 62) dX7_goesOn_45 rfl rfl ?_ ?_
    · refine mv_sub [1, 2, 3, 4, 0] rfl ?_
      exact sJ_X7_goesOn_62 l N0 D dA a0 x1 x2 x3 s0
    · refine mv_iload 0 dX7_goesOn_48 rfl rfl ?_
      refine mv_aload_n 1 dX7_goesOn_50 rfl rfl rfl ?_
      refine mv_iload_n 3 dX7_goesOn_51 rfl rfl rfl ?_
      refine mv_callVi (st := [.int s0]) [.int x2] (fun i17 => c_X7_stallOn l N0 D dA i17 x2) (T := TX7) rfl (by decide) wc_X7_54 ⟨by decide, by decide⟩ rfl (mv_cs (Nat.le_of_ble_eq_true rfl) (List.forall_mem_cons.mpr ⟨rfl, fun _ h => absurd h List.not_mem_nil⟩)) dX7_goesOn_52 rfl (fun v16 => ?_)
      refine mv_icmp_ne (tgt := 62) dX7_goesOn_55 rfl rfl ?_ ?_
      · refine mv_sub [1, 2, 3, 4, 0] rfl ?_
        exact sJ_X7_goesOn_62 l N0 D dA a0 x1 x2 x3 s0
      · refine mv_sub [1, 2, 3, 4, 0] rfl ?_
        exact sJ_X7_goesOn_58 l N0 D dA a0 x1 x2 x3 s0

def F_X7_goesOn (a0 : Nat) (a1 : Int32) : mv_M Unit :=
  mv_bd (mv_gR 7 12 0 (some a0)) fun v18 =>
  mv_bd (mv_aI v18 (0 : Int32)) fun v19 =>
  mv_bd (mv_rc 7 12 (some a0)) fun i21 => mv_bd (F_X7_of i21 a1 (2 : Int32)) fun v20 =>
  mv_bd (mv_pu (v20 - (1 : Int32))) fun v22 =>
  if 0 ≤ v22 then
    mv_bd (mv_rc 7 12 (some a0)) fun i24 => mv_bd (F_X7_townOf i24 v22 v19) fun v23 =>
    J_X7_goesOn_37 a0 a1 v19 v22 v23
  else
    mv_bd (mv_rc 7 12 (some a0)) fun i26 => mv_bd (F_X7_of i26 a1 (1 : Int32)) fun v25 =>
    J_X7_goesOn_37 a0 a1 v19 v22 (v25 - (1 : Int32))

set_option maxHeartbeats 4000000 in
set_option maxRecDepth 100000 in
theorem c_X7_goesOn (l : Launch) (N0 : Nat) (D : va_G) (dA : Nat → ClassId) (a0 : Nat) (a1 : Int32) : mv_SimM l N0 D dA yX7_goesOn cX7_goesOn 12 none 5 118 mv_rV [.ref (N0 + a0), .int a1] (F_X7_goesOn a0 a1) := by
  refine mv_SimM_of (L0 := [(0, mv_vr N0 (some a0)), (1, .int a1)]) false (by decide +kernel) (Nat.le_of_ble_eq_true rfl) rfl (List.forall_mem_cons.mpr ⟨mv_cat N0 (some a0), List.forall_mem_cons.mpr ⟨rfl, fun _ h => absurd h List.not_mem_nil⟩⟩) (fun z => by cases z) ?_
  unfold F_X7_goesOn
  show mv_Sim l N0 D dA RX7 cX7_goesOn 12 5 118 none false mv_rV 0 _ _ _
  refine mv_aload_n 0 dX7_goesOn_0 rfl rfl rfl ?_
  refine mv_getR fd_X7_0 lk_X7_7 dX7_goesOn_1 rfl (fun v18 => ?_)
  refine mv_iconst (v := (0 : Int32)) dX7_goesOn_4 (by decide) rfl ?_
  refine mv_iald dX7_goesOn_5 rfl (fun v19 => ?_)
  refine mv_istore_n [0, 1] dX7_goesOn_6 rfl (by decide) rfl rfl rfl ?_
  refine mv_aload_n 1 dX7_goesOn_7 rfl rfl rfl ?_
  refine mv_iload_n 2 dX7_goesOn_8 rfl rfl rfl ?_
  refine mv_iconst (v := (2 : Int32)) dX7_goesOn_9 (by decide) rfl ?_
  refine mv_callVi (st := []) [.int a1, .int (2 : Int32)] (fun i21 => c_X7_of l N0 D dA i21 a1 (2 : Int32)) (T := TX7) rfl (by decide) wc_X7_44 ⟨by decide, by decide⟩ rfl (mv_cs (Nat.le_of_ble_eq_true rfl) (fun _ h => absurd h List.not_mem_nil)) dX7_goesOn_10 rfl (fun v20 => ?_)
  refine mv_iconst (v := (1 : Int32)) dX7_goesOn_13 (by decide) rfl ?_
  refine mv_isub dX7_goesOn_14 rfl ?_
  refine mv_let (fun v22 => ?_)
  refine mv_istore_n [0, 1, 2] dX7_goesOn_15 rfl (by decide) rfl rfl rfl ?_
  refine mv_iload_n 0 dX7_goesOn_16 rfl rfl rfl ?_
  refine mv_if_ge (tgt := 31) dX7_goesOn_17 rfl rfl ?_ ?_
  · refine mv_aload_n 2 dX7_goesOn_31 rfl rfl rfl ?_
    refine mv_iload_n 0 dX7_goesOn_32 rfl rfl rfl ?_
    refine mv_iload_n 1 dX7_goesOn_33 rfl rfl rfl ?_
    refine mv_callVi (st := []) [.int v22, .int v19] (fun i24 => c_X7_townOf l N0 D dA i24 v22 v19) (T := TX7) rfl (by decide) wc_X7_47 ⟨by decide, by decide⟩ rfl (mv_cs (Nat.le_of_ble_eq_true rfl) (fun _ h => absurd h List.not_mem_nil)) dX7_goesOn_34 rfl (fun v23 => ?_)
    refine mv_sub [2, 3, 1, 0] rfl ?_
    exact sJ_X7_goesOn_37 l N0 D dA a0 a1 v19 v22 v23
  · refine mv_aload_n 2 dX7_goesOn_20 rfl rfl rfl ?_
    refine mv_iload_n 3 dX7_goesOn_21 rfl rfl rfl ?_
    refine mv_iconst (v := (1 : Int32)) dX7_goesOn_22 (by decide) rfl ?_
    refine mv_callVi (st := []) [.int a1, .int (1 : Int32)] (fun i26 => c_X7_of l N0 D dA i26 a1 (1 : Int32)) (T := TX7) rfl (by decide) wc_X7_44 ⟨by decide, by decide⟩ rfl (mv_cs (Nat.le_of_ble_eq_true rfl) (fun _ h => absurd h List.not_mem_nil)) dX7_goesOn_23 rfl (fun v25 => ?_)
    refine mv_iconst (v := (1 : Int32)) dX7_goesOn_26 (by decide) rfl ?_
    refine mv_isub dX7_goesOn_27 rfl ?_
    refine mv_goto (q := 37) dX7_goesOn_28 rfl ?_
    refine mv_sub [2, 3, 1, 0] rfl ?_
    exact sJ_X7_goesOn_37 l N0 D dA a0 a1 v19 v22 (v25 - (1 : Int32))

def J_X7_goDay_98 (k14 : Int32 → Int32 → mv_M Int32) (a0 : Nat) (x1 : Int32) (x2 : Int32) : mv_M Int32 :=
  k14 x1 (x2 + (1 : Int32))

set_option maxHeartbeats 4000000 in
set_option maxRecDepth 100000 in
theorem sJ_X7_goDay_98 (l : Launch) (N0 : Nat) (D : va_G) (dA : Nat → ClassId) (a0 : Nat) (x1 : Int32) (x2 : Int32) (k14 : Int32 → Int32 → mv_M Int32) (hk14 : ∀ (y1 : Int32) (y2 : Int32), mv_Sim l N0 D dA RX7 cX7_goDay 4 6 149 (some .int) false mv_rI 14 [(0, mv_vr N0 (some a0)), (1, .int y1), (2, .int y2)] [] (k14 y1 y2)) : mv_Sim l N0 D dA RX7 cX7_goDay 4 6 149 (some .int) false mv_rI 98 [(0, mv_vr N0 (some a0)), (1, .int x1), (2, .int x2)] [] (J_X7_goDay_98 k14 a0 x1 x2) := by
  unfold J_X7_goDay_98
  refine mv_iinc (y := (x2 + (1 : Int32))) 2 [0, 1] dX7_goDay_98 rfl rfl (by decide) rfl rfl rfl ?_
  refine mv_goto (q := 14) dX7_goDay_101 rfl ?_
  refine mv_sub [1, 2, 0] rfl ?_
  exact hk14 x1 (x2 + (1 : Int32))

def J_X7_goDay_84 (k14 : Int32 → Int32 → mv_M Int32) (a0 : Nat) (x1 : Int32) (x2 : Int32) : mv_M Int32 :=
  mv_bd (mv_rc 7 12 (some a0)) fun i2 => mv_bd (F_X7_of i2 x2 (3 : Int32)) fun v1 =>
  if v1 = 0 then
    mv_bd (mv_rc 7 12 (some a0)) fun i3 => mv_bd (F_X7_goesOn i3 x2) fun _ =>
    J_X7_goDay_98 k14 a0 x1 x2
  else
    J_X7_goDay_98 k14 a0 x1 x2

set_option maxHeartbeats 4000000 in
set_option maxRecDepth 100000 in
theorem sJ_X7_goDay_84 (l : Launch) (N0 : Nat) (D : va_G) (dA : Nat → ClassId) (a0 : Nat) (x1 : Int32) (x2 : Int32) (k14 : Int32 → Int32 → mv_M Int32) (hk14 : ∀ (y1 : Int32) (y2 : Int32), mv_Sim l N0 D dA RX7 cX7_goDay 4 6 149 (some .int) false mv_rI 14 [(0, mv_vr N0 (some a0)), (1, .int y1), (2, .int y2)] [] (k14 y1 y2)) : mv_Sim l N0 D dA RX7 cX7_goDay 4 6 149 (some .int) false mv_rI 84 [(0, mv_vr N0 (some a0)), (1, .int x1), (2, .int x2)] [] (J_X7_goDay_84 k14 a0 x1 x2) := by
  unfold J_X7_goDay_84
  refine mv_aload_n 0 dX7_goDay_84 rfl rfl rfl ?_
  refine mv_iload_n 2 dX7_goDay_85 rfl rfl rfl ?_
  refine mv_iconst (v := (3 : Int32)) dX7_goDay_86 (by decide) rfl ?_
  refine mv_callVi (st := []) [.int x2, .int (3 : Int32)] (fun i2 => c_X7_of l N0 D dA i2 x2 (3 : Int32)) (T := TX7) rfl (by decide) wc_X7_44 ⟨by decide, by decide⟩ rfl (mv_cs (Nat.le_of_ble_eq_true rfl) (fun _ h => absurd h List.not_mem_nil)) dX7_goDay_87 rfl (fun v1 => ?_)
  refine mv_if_ne (tgt := 98) dX7_goDay_90 rfl rfl ?_ ?_
  · refine mv_sub [0, 1, 2] rfl ?_
    exact sJ_X7_goDay_98 l N0 D dA a0 x1 x2 _ hk14
  · refine mv_aload_n 0 dX7_goDay_93 rfl rfl rfl ?_
    refine mv_iload_n 2 dX7_goDay_94 rfl rfl rfl ?_
    refine mv_callVv (st := []) [.int x2] (fun i3 => c_X7_goesOn l N0 D dA i3 x2) (T := TX7) rfl (by decide) wc_X7_82 ⟨by decide, by decide⟩ rfl (mv_cs (Nat.le_of_ble_eq_true rfl) (fun _ h => absurd h List.not_mem_nil)) dX7_goDay_95 rfl ?_
    refine mv_sub [0, 1, 2] rfl ?_
    exact sJ_X7_goDay_98 l N0 D dA a0 x1 x2 _ hk14

def Lp_X7_goDay_14 (a0 : Nat) : Nat → Int32 → Int32 → mv_M Int32
  | 0, _, _ => mv_fl
  | n + 1, x1, x2 =>
    mv_bd (mv_gR 7 12 0 (some a0)) fun v4 =>
    mv_bd (mv_aI v4 (4 : Int32)) fun v5 =>
    if v5 ≤ x2 then
      mv_bd (mv_gR 7 12 0 (some a0)) fun v6 =>
      mv_bd (mv_aI v6 (6 : Int32)) fun v7 =>
      mv_bd (mv_aS v6 (6 : Int32) (v7 + x1)) fun _ =>
      mv_pu x1
    else
      mv_bd (mv_rc 7 12 (some a0)) fun i9 => mv_bd (F_X7_of i9 x2 (2 : Int32)) fun v8 =>
      mv_bd (mv_pu (v8 - (1 : Int32))) fun v10 =>
      if v10 < 0 then
        J_X7_goDay_84 (Lp_X7_goDay_14 a0 n) a0 x1 x2
      else
        mv_bd (mv_gR 7 12 0 (some a0)) fun v11 =>
        mv_bd (mv_aI v11 (0 : Int32)) fun v12 =>
        mv_bd (mv_rc 7 12 (some a0)) fun i14 => mv_bd (F_X7_townOf i14 v10 v12) fun v13 =>
        mv_bd (mv_rc 7 12 (some a0)) fun i16 => mv_bd (F_X7_of i16 x2 (0 : Int32)) fun v15 =>
        if v13 = v15 then
          mv_bd (mv_rc 7 12 (some a0)) fun i17 => mv_bd (F_X7_lays i17 x2 (2 : Int32) (0 : Int32)) fun _ =>
          mv_bd (mv_gR 7 12 0 (some a0)) fun v18 =>
          mv_bd (mv_aI v18 (0 : Int32)) fun v19 =>
          mv_bd (mv_rc 7 12 (some a0)) fun i20 => mv_bd (F_X7_lays i20 x2 (3 : Int32) (v19 + (1 : Int32))) fun _ =>
          J_X7_goDay_98 (Lp_X7_goDay_14 a0 n) a0 (x1 + (1 : Int32)) x2
        else
          J_X7_goDay_84 (Lp_X7_goDay_14 a0 n) a0 x1 x2

set_option maxHeartbeats 4000000 in
set_option maxRecDepth 100000 in
theorem sLp_X7_goDay_14 (l : Launch) (N0 : Nat) (D : va_G) (dA : Nat → ClassId) (a0 : Nat) : ∀ (n : Nat) (x1 : Int32) (x2 : Int32), mv_Sim l N0 D dA RX7 cX7_goDay 4 6 149 (some .int) false mv_rI 14 [(0, mv_vr N0 (some a0)), (1, .int x1), (2, .int x2)] [] (Lp_X7_goDay_14 a0 n x1 x2) := by
  intro n
  induction n with
  | zero => intro x1 x2; rw [Lp_X7_goDay_14]; exact mv_fl_sim
  | succ n ih =>
    intro x1 x2
    rw [Lp_X7_goDay_14]
    refine mv_iload_n 2 dX7_goDay_14 rfl rfl rfl ?_
    refine mv_aload_n 0 dX7_goDay_15 rfl rfl rfl ?_
    refine mv_getR fd_X7_0 lk_X7_7 dX7_goDay_16 rfl (fun v4 => ?_)
    refine mv_iconst (v := (4 : Int32)) dX7_goDay_19 (by decide) rfl ?_
    refine mv_iald dX7_goDay_20 rfl (fun v5 => ?_)
    refine mv_icmp_ge (tgt := 104) dX7_goDay_21 rfl rfl ?_ ?_
    · refine mv_aload_n 0 dX7_goDay_104 rfl rfl rfl ?_
      refine mv_getR fd_X7_0 lk_X7_7 dX7_goDay_105 rfl (fun v6 => ?_)
      refine mv_bipush (v := (6 : Int32)) dX7_goDay_108 (by decide) rfl ?_
      refine mv_dup2 dX7_goDay_110 rfl (mv_cat N0 v6) rfl ?_
      refine mv_iald dX7_goDay_111 rfl (fun v7 => ?_)
      refine mv_iload_n 1 dX7_goDay_112 rfl rfl rfl ?_
      refine mv_iadd dX7_goDay_113 rfl ?_
      refine mv_iast dX7_goDay_114 rfl ?_
      refine mv_iload_n 1 dX7_goDay_115 rfl rfl rfl ?_
      exact mv_iret dX7_goDay_116
    · refine mv_aload_n 0 dX7_goDay_24 rfl rfl rfl ?_
      refine mv_iload_n 2 dX7_goDay_25 rfl rfl rfl ?_
      refine mv_iconst (v := (2 : Int32)) dX7_goDay_26 (by decide) rfl ?_
      refine mv_callVi (st := []) [.int x2, .int (2 : Int32)] (fun i9 => c_X7_of l N0 D dA i9 x2 (2 : Int32)) (T := TX7) rfl (by decide) wc_X7_44 ⟨by decide, by decide⟩ rfl (mv_cs (Nat.le_of_ble_eq_true rfl) (fun _ h => absurd h List.not_mem_nil)) dX7_goDay_27 rfl (fun v8 => ?_)
      refine mv_iconst (v := (1 : Int32)) dX7_goDay_30 (by decide) rfl ?_
      refine mv_isub dX7_goDay_31 rfl ?_
      refine mv_let (fun v10 => ?_)
      refine mv_istore_n [0, 1, 2] dX7_goDay_32 rfl (by decide) rfl rfl rfl ?_
      refine mv_iload_n 0 dX7_goDay_33 rfl rfl rfl ?_
      refine mv_if_lt (tgt := 84) dX7_goDay_34 rfl rfl ?_ ?_
      · refine mv_sub [1, 2, 3] rfl ?_
        exact sJ_X7_goDay_84 l N0 D dA a0 x1 x2 _ ih
      · refine mv_aload_n 1 dX7_goDay_37 rfl rfl rfl ?_
        refine mv_iload_n 0 dX7_goDay_38 rfl rfl rfl ?_
        refine mv_aload_n 1 dX7_goDay_39 rfl rfl rfl ?_
        refine mv_getR fd_X7_0 lk_X7_7 dX7_goDay_40 rfl (fun v11 => ?_)
        refine mv_iconst (v := (0 : Int32)) dX7_goDay_43 (by decide) rfl ?_
        refine mv_iald dX7_goDay_44 rfl (fun v12 => ?_)
        refine mv_callVi (st := []) [.int v10, .int v12] (fun i14 => c_X7_townOf l N0 D dA i14 v10 v12) (T := TX7) rfl (by decide) wc_X7_47 ⟨by decide, by decide⟩ rfl (mv_cs (Nat.le_of_ble_eq_true rfl) (fun _ h => absurd h List.not_mem_nil)) dX7_goDay_45 rfl (fun v13 => ?_)
        refine mv_aload_n 1 dX7_goDay_48 rfl rfl rfl ?_
        refine mv_iload_n 3 dX7_goDay_49 rfl rfl rfl ?_
        refine mv_iconst (v := (0 : Int32)) dX7_goDay_50 (by decide) rfl ?_
        refine mv_callVi (st := [.int v13]) [.int x2, .int (0 : Int32)] (fun i16 => c_X7_of l N0 D dA i16 x2 (0 : Int32)) (T := TX7) rfl (by decide) wc_X7_44 ⟨by decide, by decide⟩ rfl (mv_cs (Nat.le_of_ble_eq_true rfl) (List.forall_mem_cons.mpr ⟨rfl, fun _ h => absurd h List.not_mem_nil⟩)) dX7_goDay_51 rfl (fun v15 => ?_)
        refine mv_icmp_ne (tgt := 84) dX7_goDay_54 rfl rfl ?_ ?_
        · refine mv_sub [1, 2, 3] rfl ?_
          exact sJ_X7_goDay_84 l N0 D dA a0 x1 x2 _ ih
        · refine mv_aload_n 1 dX7_goDay_57 rfl rfl rfl ?_
          refine mv_iload_n 3 dX7_goDay_58 rfl rfl rfl ?_
          refine mv_iconst (v := (2 : Int32)) dX7_goDay_59 (by decide) rfl ?_
          refine mv_iconst (v := (0 : Int32)) dX7_goDay_60 (by decide) rfl ?_
          refine mv_callVv (st := []) [.int x2, .int (2 : Int32), .int (0 : Int32)] (fun i17 => c_X7_lays l N0 D dA i17 x2 (2 : Int32) (0 : Int32)) (T := TX7) rfl (by decide) wc_X7_68 ⟨by decide, by decide⟩ rfl (mv_cs (Nat.le_of_ble_eq_true rfl) (fun _ h => absurd h List.not_mem_nil)) dX7_goDay_61 rfl ?_
          refine mv_aload_n 1 dX7_goDay_64 rfl rfl rfl ?_
          refine mv_iload_n 3 dX7_goDay_65 rfl rfl rfl ?_
          refine mv_iconst (v := (3 : Int32)) dX7_goDay_66 (by decide) rfl ?_
          refine mv_aload_n 1 dX7_goDay_67 rfl rfl rfl ?_
          refine mv_getR fd_X7_0 lk_X7_7 dX7_goDay_68 rfl (fun v18 => ?_)
          refine mv_iconst (v := (0 : Int32)) dX7_goDay_71 (by decide) rfl ?_
          refine mv_iald dX7_goDay_72 rfl (fun v19 => ?_)
          refine mv_iconst (v := (1 : Int32)) dX7_goDay_73 (by decide) rfl ?_
          refine mv_iadd dX7_goDay_74 rfl ?_
          refine mv_callVv (st := []) [.int x2, .int (3 : Int32), .int (v19 + (1 : Int32))] (fun i20 => c_X7_lays l N0 D dA i20 x2 (3 : Int32) (v19 + (1 : Int32))) (T := TX7) rfl (by decide) wc_X7_68 ⟨by decide, by decide⟩ rfl (mv_cs (Nat.le_of_ble_eq_true rfl) (fun _ h => absurd h List.not_mem_nil)) dX7_goDay_75 rfl ?_
          refine mv_iinc (y := (x1 + (1 : Int32))) 2 [0, 1, 3] dX7_goDay_78 rfl rfl (by decide) rfl rfl rfl ?_
          refine mv_goto (q := 98) dX7_goDay_81 rfl ?_
          refine mv_sub [2, 0, 3] rfl ?_
          exact sJ_X7_goDay_98 l N0 D dA a0 (x1 + (1 : Int32)) x2 _ ih

def F_X7_goDay (a0 : Nat) : mv_M Int32 :=
  mv_bd (mv_gR 7 12 0 (some a0)) fun v21 =>
  mv_bd (mv_aI v21 (0 : Int32)) fun v22 =>
  mv_bd (mv_aS v21 (0 : Int32) (v22 + (1 : Int32))) fun _ =>
  Lp_X7_goDay_14 a0 mv_FU (0 : Int32) (0 : Int32)

set_option maxHeartbeats 4000000 in
set_option maxRecDepth 100000 in
theorem c_X7_goDay (l : Launch) (N0 : Nat) (D : va_G) (dA : Nat → ClassId) (a0 : Nat) : mv_SimM l N0 D dA yX7_goDay cX7_goDay 4 (some .int) 6 149 mv_rI [.ref (N0 + a0)] (F_X7_goDay a0) := by
  refine mv_SimM_of (L0 := [(0, mv_vr N0 (some a0))]) false (by decide +kernel) (Nat.le_of_ble_eq_true rfl) rfl (List.forall_mem_cons.mpr ⟨mv_cat N0 (some a0), fun _ h => absurd h List.not_mem_nil⟩) (fun z => by cases z) ?_
  unfold F_X7_goDay
  show mv_Sim l N0 D dA RX7 cX7_goDay 4 6 149 (some .int) false mv_rI 0 _ _ _
  refine mv_aload_n 0 dX7_goDay_0 rfl rfl rfl ?_
  refine mv_getR fd_X7_0 lk_X7_7 dX7_goDay_1 rfl (fun v21 => ?_)
  refine mv_iconst (v := (0 : Int32)) dX7_goDay_4 (by decide) rfl ?_
  refine mv_dup2 dX7_goDay_5 rfl (mv_cat N0 v21) rfl ?_
  refine mv_iald dX7_goDay_6 rfl (fun v22 => ?_)
  refine mv_iconst (v := (1 : Int32)) dX7_goDay_7 (by decide) rfl ?_
  refine mv_iadd dX7_goDay_8 rfl ?_
  refine mv_iast dX7_goDay_9 rfl ?_
  refine mv_iconst (v := (0 : Int32)) dX7_goDay_10 (by decide) rfl ?_
  refine mv_istore_n [0] dX7_goDay_11 rfl (by decide) rfl rfl rfl ?_
  refine mv_iconst (v := (0 : Int32)) dX7_goDay_12 (by decide) rfl ?_
  refine mv_istore_n [0, 1] dX7_goDay_13 rfl (by decide) rfl rfl rfl ?_
  refine mv_sub [2, 1, 0] rfl ?_
  exact sLp_X7_goDay_14 l N0 D dA a0 mv_FU (0 : Int32) (0 : Int32)

def Lp_X7_goPass_4 (a0 : Nat) (x1 : Int32) : Nat → Int32 → Int32 → mv_M Int32
  | 0, _, _ => mv_fl
  | n + 1, x2, x3 =>
    if x1 ≤ x3 then
      mv_pu x2
    else
      mv_bd (mv_rc 7 12 (some a0)) fun i2 => mv_bd (F_X7_goDay i2 ) fun v1 =>
      mv_bd (mv_pu (x2 + v1)) fun v3 =>
      Lp_X7_goPass_4 a0 x1 n v3 (x3 + (1 : Int32))

set_option maxHeartbeats 4000000 in
set_option maxRecDepth 100000 in
theorem sLp_X7_goPass_4 (l : Launch) (N0 : Nat) (D : va_G) (dA : Nat → ClassId) (a0 : Nat) (x1 : Int32) : ∀ (n : Nat) (x2 : Int32) (x3 : Int32), mv_Sim l N0 D dA RX7 cX7_goPass 4 7 172 (some .int) false mv_rI 4 [(0, mv_vr N0 (some a0)), (1, .int x1), (2, .int x2), (3, .int x3)] [] (Lp_X7_goPass_4 a0 x1 n x2 x3) := by
  intro n
  induction n with
  | zero => intro x2 x3; rw [Lp_X7_goPass_4]; exact mv_fl_sim
  | succ n ih =>
    intro x2 x3
    rw [Lp_X7_goPass_4]
    refine mv_iload_n 3 dX7_goPass_4 rfl rfl rfl ?_
    refine mv_iload_n 1 dX7_goPass_5 rfl rfl rfl ?_
    refine mv_icmp_ge (tgt := 22) dX7_goPass_6 rfl rfl ?_ ?_
    · refine mv_iload_n 2 dX7_goPass_22 rfl rfl rfl ?_
      exact mv_iret dX7_goPass_23
    · refine mv_iload_n 2 dX7_goPass_9 rfl rfl rfl ?_
      refine mv_aload_n 0 dX7_goPass_10 rfl rfl rfl ?_
      refine mv_callVi (st := [.int x2]) [] (fun i2 => c_X7_goDay l N0 D dA i2 ) (T := TX7) rfl (by decide) wc_X7_86 ⟨by decide, by decide⟩ rfl (mv_cs (Nat.le_of_ble_eq_true rfl) (List.forall_mem_cons.mpr ⟨rfl, fun _ h => absurd h List.not_mem_nil⟩)) dX7_goPass_11 rfl (fun v1 => ?_)
      refine mv_iadd dX7_goPass_14 rfl ?_
      refine mv_let (fun v3 => ?_)
      refine mv_istore_n [0, 1, 3] dX7_goPass_15 rfl (by decide) rfl rfl rfl ?_
      refine mv_iinc (y := (x3 + (1 : Int32))) 3 [0, 1, 2] dX7_goPass_16 rfl rfl (by decide) rfl rfl rfl ?_
      refine mv_goto (q := 4) dX7_goPass_19 rfl ?_
      refine mv_sub [2, 3, 1, 0] rfl ?_
      exact ih v3 (x3 + (1 : Int32))

def F_X7_goPass (a0 : Nat) (a1 : Int32) : mv_M Int32 :=
  Lp_X7_goPass_4 a0 a1 mv_FU (0 : Int32) (0 : Int32)

set_option maxHeartbeats 4000000 in
set_option maxRecDepth 100000 in
theorem c_X7_goPass (l : Launch) (N0 : Nat) (D : va_G) (dA : Nat → ClassId) (a0 : Nat) (a1 : Int32) : mv_SimM l N0 D dA yX7_goPass cX7_goPass 4 (some .int) 7 172 mv_rI [.ref (N0 + a0), .int a1] (F_X7_goPass a0 a1) := by
  refine mv_SimM_of (L0 := [(0, mv_vr N0 (some a0)), (1, .int a1)]) false (by decide +kernel) (Nat.le_of_ble_eq_true rfl) rfl (List.forall_mem_cons.mpr ⟨mv_cat N0 (some a0), List.forall_mem_cons.mpr ⟨rfl, fun _ h => absurd h List.not_mem_nil⟩⟩) (fun z => by cases z) ?_
  unfold F_X7_goPass
  show mv_Sim l N0 D dA RX7 cX7_goPass 4 7 172 (some .int) false mv_rI 0 _ _ _
  refine mv_iconst (v := (0 : Int32)) dX7_goPass_0 (by decide) rfl ?_
  refine mv_istore_n [0, 1] dX7_goPass_1 rfl (by decide) rfl rfl rfl ?_
  refine mv_iconst (v := (0 : Int32)) dX7_goPass_2 (by decide) rfl ?_
  refine mv_istore_n [0, 1, 2] dX7_goPass_3 rfl (by decide) rfl rfl rfl ?_
  refine mv_sub [2, 3, 1, 0] rfl ?_
  exact sLp_X7_goPass_4 l N0 D dA a0 a1 mv_FU (0 : Int32) (0 : Int32)

def F_X7_goPost (a0 : Nat) (a1 : Int32) (a2 : Int32) : mv_M Int32 :=
  mv_bd (mv_gR 7 12 0 (some a0)) fun v1 =>
  mv_bd (mv_aI v1 (4 : Int32)) fun v2 =>
  mv_bd (mv_gR 7 12 0 (some a0)) fun v3 =>
  mv_bd (mv_aI v3 (0 : Int32)) fun v4 =>
  mv_bd (mv_rc 7 12 (some a0)) fun i6 => mv_bd (F_X7_arrivalOf i6 a2 a1 (0 : Int32) v4) fun v5 =>
  mv_bd (F_X7_orNone v5) fun v7 =>
  mv_bd (mv_rc 7 12 (some a0)) fun i8 => mv_bd (F_X7_lays i8 v2 (0 : Int32) a2) fun _ =>
  mv_bd (mv_rc 7 12 (some a0)) fun i9 => mv_bd (F_X7_lays i9 v2 (1 : Int32) (a1 + (1 : Int32))) fun _ =>
  mv_bd (mv_rc 7 12 (some a0)) fun i10 => mv_bd (F_X7_lays i10 v2 (2 : Int32) (0 : Int32)) fun _ =>
  mv_bd (mv_rc 7 12 (some a0)) fun i11 => mv_bd (F_X7_lays i11 v2 (3 : Int32) (0 : Int32)) fun _ =>
  mv_bd (mv_rc 7 12 (some a0)) fun i12 => mv_bd (F_X7_lays i12 v2 (4 : Int32) v7) fun _ =>
  mv_bd (mv_rc 7 12 (some a0)) fun i13 => mv_bd (F_X7_lays i13 v2 (5 : Int32) (0 : Int32)) fun _ =>
  mv_bd (mv_rc 7 12 (some a0)) fun i14 => mv_bd (F_X7_lays i14 v2 (6 : Int32) (0 : Int32)) fun _ =>
  mv_bd (mv_gR 7 12 0 (some a0)) fun v15 =>
  mv_bd (mv_aI v15 (0 : Int32)) fun v16 =>
  mv_bd (mv_rc 7 12 (some a0)) fun i17 => mv_bd (F_X7_lays i17 v2 (7 : Int32) v16) fun _ =>
  mv_bd (mv_gR 7 12 0 (some a0)) fun v18 =>
  mv_bd (mv_aI v18 (4 : Int32)) fun v19 =>
  mv_bd (mv_aS v18 (4 : Int32) (v19 + (1 : Int32))) fun _ =>
  mv_bd (mv_gR 7 12 0 (some a0)) fun v20 =>
  mv_bd (mv_aI v20 (5 : Int32)) fun v21 =>
  mv_bd (mv_aS v20 (5 : Int32) (v21 + (1 : Int32))) fun _ =>
  mv_pu v7

set_option maxHeartbeats 4000000 in
set_option maxRecDepth 100000 in
theorem c_X7_goPost (l : Launch) (N0 : Nat) (D : va_G) (dA : Nat → ClassId) (a0 : Nat) (a1 : Int32) (a2 : Int32) : mv_SimM l N0 D dA yX7_goPost cX7_goPost 5 (some .int) 4 96 mv_rI [.ref (N0 + a0), .int a1, .int a2] (F_X7_goPost a0 a1 a2) := by
  refine mv_SimM_of (L0 := [(0, mv_vr N0 (some a0)), (1, .int a1), (2, .int a2)]) false (by decide +kernel) (Nat.le_of_ble_eq_true rfl) rfl (List.forall_mem_cons.mpr ⟨mv_cat N0 (some a0), List.forall_mem_cons.mpr ⟨rfl, List.forall_mem_cons.mpr ⟨rfl, fun _ h => absurd h List.not_mem_nil⟩⟩⟩) (fun z => by cases z) ?_
  unfold F_X7_goPost
  show mv_Sim l N0 D dA RX7 cX7_goPost 5 4 96 (some .int) false mv_rI 0 _ _ _
  refine mv_aload_n 0 dX7_goPost_0 rfl rfl rfl ?_
  refine mv_getR fd_X7_0 lk_X7_7 dX7_goPost_1 rfl (fun v1 => ?_)
  refine mv_iconst (v := (4 : Int32)) dX7_goPost_4 (by decide) rfl ?_
  refine mv_iald dX7_goPost_5 rfl (fun v2 => ?_)
  refine mv_istore_n [0, 1, 2] dX7_goPost_6 rfl (by decide) rfl rfl rfl ?_
  refine mv_aload_n 1 dX7_goPost_7 rfl rfl rfl ?_
  refine mv_iload_n 3 dX7_goPost_8 rfl rfl rfl ?_
  refine mv_iload_n 2 dX7_goPost_9 rfl rfl rfl ?_
  refine mv_iconst (v := (0 : Int32)) dX7_goPost_10 (by decide) rfl ?_
  refine mv_aload_n 1 dX7_goPost_11 rfl rfl rfl ?_
  refine mv_getR fd_X7_0 lk_X7_7 dX7_goPost_12 rfl (fun v3 => ?_)
  refine mv_iconst (v := (0 : Int32)) dX7_goPost_15 (by decide) rfl ?_
  refine mv_iald dX7_goPost_16 rfl (fun v4 => ?_)
  refine mv_callVi (st := []) [.int a2, .int a1, .int (0 : Int32), .int v4] (fun i6 => c_X7_arrivalOf l N0 D dA i6 a2 a1 (0 : Int32) v4) (T := TX7) rfl (by decide) wc_X7_58 ⟨by decide, by decide⟩ rfl (mv_cs (Nat.le_of_ble_eq_true rfl) (fun _ h => absurd h List.not_mem_nil)) dX7_goPost_17 rfl (fun v5 => ?_)
  refine mv_callSi (st := []) [.int v5] (c_X7_orNone l N0 D dA v5) wc_X7_65 ⟨by decide, by decide⟩ rfl (mv_cs (Nat.le_of_ble_eq_true rfl) (fun _ h => absurd h List.not_mem_nil)) dX7_goPost_20 rfl (fun v7 => ?_)
  refine mv_istore [0, 1, 2, 3] dX7_goPost_23 (by decide) rfl rfl rfl ?_
  refine mv_aload_n 2 dX7_goPost_25 rfl rfl rfl ?_
  refine mv_iload_n 1 dX7_goPost_26 rfl rfl rfl ?_
  refine mv_iconst (v := (0 : Int32)) dX7_goPost_27 (by decide) rfl ?_
  refine mv_iload_n 4 dX7_goPost_28 rfl rfl rfl ?_
  refine mv_callVv (st := []) [.int v2, .int (0 : Int32), .int a2] (fun i8 => c_X7_lays l N0 D dA i8 v2 (0 : Int32) a2) (T := TX7) rfl (by decide) wc_X7_68 ⟨by decide, by decide⟩ rfl (mv_cs (Nat.le_of_ble_eq_true rfl) (fun _ h => absurd h List.not_mem_nil)) dX7_goPost_29 rfl ?_
  refine mv_aload_n 2 dX7_goPost_32 rfl rfl rfl ?_
  refine mv_iload_n 1 dX7_goPost_33 rfl rfl rfl ?_
  refine mv_iconst (v := (1 : Int32)) dX7_goPost_34 (by decide) rfl ?_
  refine mv_iload_n 3 dX7_goPost_35 rfl rfl rfl ?_
  refine mv_iconst (v := (1 : Int32)) dX7_goPost_36 (by decide) rfl ?_
  refine mv_iadd dX7_goPost_37 rfl ?_
  refine mv_callVv (st := []) [.int v2, .int (1 : Int32), .int (a1 + (1 : Int32))] (fun i9 => c_X7_lays l N0 D dA i9 v2 (1 : Int32) (a1 + (1 : Int32))) (T := TX7) rfl (by decide) wc_X7_68 ⟨by decide, by decide⟩ rfl (mv_cs (Nat.le_of_ble_eq_true rfl) (fun _ h => absurd h List.not_mem_nil)) dX7_goPost_38 rfl ?_
  refine mv_aload_n 2 dX7_goPost_41 rfl rfl rfl ?_
  refine mv_iload_n 1 dX7_goPost_42 rfl rfl rfl ?_
  refine mv_iconst (v := (2 : Int32)) dX7_goPost_43 (by decide) rfl ?_
  refine mv_iconst (v := (0 : Int32)) dX7_goPost_44 (by decide) rfl ?_
  refine mv_callVv (st := []) [.int v2, .int (2 : Int32), .int (0 : Int32)] (fun i10 => c_X7_lays l N0 D dA i10 v2 (2 : Int32) (0 : Int32)) (T := TX7) rfl (by decide) wc_X7_68 ⟨by decide, by decide⟩ rfl (mv_cs (Nat.le_of_ble_eq_true rfl) (fun _ h => absurd h List.not_mem_nil)) dX7_goPost_45 rfl ?_
  refine mv_aload_n 2 dX7_goPost_48 rfl rfl rfl ?_
  refine mv_iload_n 1 dX7_goPost_49 rfl rfl rfl ?_
  refine mv_iconst (v := (3 : Int32)) dX7_goPost_50 (by decide) rfl ?_
  refine mv_iconst (v := (0 : Int32)) dX7_goPost_51 (by decide) rfl ?_
  refine mv_callVv (st := []) [.int v2, .int (3 : Int32), .int (0 : Int32)] (fun i11 => c_X7_lays l N0 D dA i11 v2 (3 : Int32) (0 : Int32)) (T := TX7) rfl (by decide) wc_X7_68 ⟨by decide, by decide⟩ rfl (mv_cs (Nat.le_of_ble_eq_true rfl) (fun _ h => absurd h List.not_mem_nil)) dX7_goPost_52 rfl ?_
  refine mv_aload_n 2 dX7_goPost_55 rfl rfl rfl ?_
  refine mv_iload_n 1 dX7_goPost_56 rfl rfl rfl ?_
  refine mv_iconst (v := (4 : Int32)) dX7_goPost_57 (by decide) rfl ?_
  refine mv_iload 0 dX7_goPost_58 rfl rfl ?_
  refine mv_callVv (st := []) [.int v2, .int (4 : Int32), .int v7] (fun i12 => c_X7_lays l N0 D dA i12 v2 (4 : Int32) v7) (T := TX7) rfl (by decide) wc_X7_68 ⟨by decide, by decide⟩ rfl (mv_cs (Nat.le_of_ble_eq_true rfl) (fun _ h => absurd h List.not_mem_nil)) dX7_goPost_60 rfl ?_
  refine mv_aload_n 2 dX7_goPost_63 rfl rfl rfl ?_
  refine mv_iload_n 1 dX7_goPost_64 rfl rfl rfl ?_
  refine mv_iconst (v := (5 : Int32)) dX7_goPost_65 (by decide) rfl ?_
  refine mv_iconst (v := (0 : Int32)) dX7_goPost_66 (by decide) rfl ?_
  refine mv_callVv (st := []) [.int v2, .int (5 : Int32), .int (0 : Int32)] (fun i13 => c_X7_lays l N0 D dA i13 v2 (5 : Int32) (0 : Int32)) (T := TX7) rfl (by decide) wc_X7_68 ⟨by decide, by decide⟩ rfl (mv_cs (Nat.le_of_ble_eq_true rfl) (fun _ h => absurd h List.not_mem_nil)) dX7_goPost_67 rfl ?_
  refine mv_aload_n 2 dX7_goPost_70 rfl rfl rfl ?_
  refine mv_iload_n 1 dX7_goPost_71 rfl rfl rfl ?_
  refine mv_bipush (v := (6 : Int32)) dX7_goPost_72 (by decide) rfl ?_
  refine mv_iconst (v := (0 : Int32)) dX7_goPost_74 (by decide) rfl ?_
  refine mv_callVv (st := []) [.int v2, .int (6 : Int32), .int (0 : Int32)] (fun i14 => c_X7_lays l N0 D dA i14 v2 (6 : Int32) (0 : Int32)) (T := TX7) rfl (by decide) wc_X7_68 ⟨by decide, by decide⟩ rfl (mv_cs (Nat.le_of_ble_eq_true rfl) (fun _ h => absurd h List.not_mem_nil)) dX7_goPost_75 rfl ?_
  refine mv_aload_n 2 dX7_goPost_78 rfl rfl rfl ?_
  refine mv_iload_n 1 dX7_goPost_79 rfl rfl rfl ?_
  refine mv_bipush (v := (7 : Int32)) dX7_goPost_80 (by decide) rfl ?_
  refine mv_aload_n 2 dX7_goPost_82 rfl rfl rfl ?_
  refine mv_getR fd_X7_0 lk_X7_7 dX7_goPost_83 rfl (fun v15 => ?_)
  refine mv_iconst (v := (0 : Int32)) dX7_goPost_86 (by decide) rfl ?_
  refine mv_iald dX7_goPost_87 rfl (fun v16 => ?_)
  refine mv_callVv (st := []) [.int v2, .int (7 : Int32), .int v16] (fun i17 => c_X7_lays l N0 D dA i17 v2 (7 : Int32) v16) (T := TX7) rfl (by decide) wc_X7_68 ⟨by decide, by decide⟩ rfl (mv_cs (Nat.le_of_ble_eq_true rfl) (fun _ h => absurd h List.not_mem_nil)) dX7_goPost_88 rfl ?_
  refine mv_aload_n 2 dX7_goPost_91 rfl rfl rfl ?_
  refine mv_getR fd_X7_0 lk_X7_7 dX7_goPost_92 rfl (fun v18 => ?_)
  refine mv_iconst (v := (4 : Int32)) dX7_goPost_95 (by decide) rfl ?_
  refine mv_dup2 dX7_goPost_96 rfl (mv_cat N0 v18) rfl ?_
  refine mv_iald dX7_goPost_97 rfl (fun v19 => ?_)
  refine mv_iconst (v := (1 : Int32)) dX7_goPost_98 (by decide) rfl ?_
  refine mv_iadd dX7_goPost_99 rfl ?_
  refine mv_iast dX7_goPost_100 rfl ?_
  refine mv_aload_n 2 dX7_goPost_101 rfl rfl rfl ?_
  refine mv_getR fd_X7_0 lk_X7_7 dX7_goPost_102 rfl (fun v20 => ?_)
  refine mv_iconst (v := (5 : Int32)) dX7_goPost_105 (by decide) rfl ?_
  refine mv_dup2 dX7_goPost_106 rfl (mv_cat N0 v20) rfl ?_
  refine mv_iald dX7_goPost_107 rfl (fun v21 => ?_)
  refine mv_iconst (v := (1 : Int32)) dX7_goPost_108 (by decide) rfl ?_
  refine mv_iadd dX7_goPost_109 rfl ?_
  refine mv_iast dX7_goPost_110 rfl ?_
  refine mv_iload 0 dX7_goPost_111 rfl rfl ?_
  exact mv_iret dX7_goPost_113

def J_X7_ifPassed_19 (a0 : Nat) : mv_M Int32 :=
  mv_pu ((-1) : Int32)

set_option maxHeartbeats 4000000 in
set_option maxRecDepth 100000 in
theorem sJ_X7_ifPassed_19 (l : Launch) (N0 : Nat) (D : va_G) (dA : Nat → ClassId) (a0 : Nat) : mv_Sim l N0 D dA RX7 cX7_ifPassed 6 8 195 (some .int) false mv_rI 19 [(0, mv_vr N0 (some a0))] [] (J_X7_ifPassed_19 a0) := by
  unfold J_X7_ifPassed_19
  refine mv_iconst (v := ((-1) : Int32)) dX7_ifPassed_19 (by decide) rfl ?_
  exact mv_iret dX7_ifPassed_20

def J_X7_ifPassed_86 (a0 : Nat) (s0 : Int32) : mv_M Int32 :=
  mv_bd (mv_gR 7 12 1 (some a0)) fun v1 =>
  mv_bd (mv_gR 7 12 0 (some a0)) fun v2 =>
  mv_bd (F_X7_copies v1 (0 : Int32) v2 (0 : Int32)) fun _ =>
  mv_pu s0

set_option maxHeartbeats 4000000 in
set_option maxRecDepth 100000 in
theorem sJ_X7_ifPassed_86 (l : Launch) (N0 : Nat) (D : va_G) (dA : Nat → ClassId) (a0 : Nat) (s0 : Int32) : mv_Sim l N0 D dA RX7 cX7_ifPassed 6 8 195 (some .int) false mv_rI 86 [(0, mv_vr N0 (some a0))] [.int s0] (J_X7_ifPassed_86 a0 s0) := by
  unfold J_X7_ifPassed_86
  refine mv_istore [0] dX7_ifPassed_86 (by decide) rfl rfl rfl ?_
  refine mv_aload_n 1 dX7_ifPassed_88 rfl rfl rfl ?_
  refine mv_getR fd_X7_1 lk_X7_13 dX7_ifPassed_89 rfl (fun v1 => ?_)
  refine mv_iconst (v := (0 : Int32)) dX7_ifPassed_92 (by decide) rfl ?_
  refine mv_aload_n 1 dX7_ifPassed_93 rfl rfl rfl ?_
  refine mv_getR fd_X7_0 lk_X7_7 dX7_ifPassed_94 rfl (fun v2 => ?_)
  refine mv_iconst (v := (0 : Int32)) dX7_ifPassed_97 (by decide) rfl ?_
  refine mv_callSv (st := []) [mv_vr N0 v1, .int (0 : Int32), mv_vr N0 v2, .int (0 : Int32)] (c_X7_copies l N0 D dA v1 (0 : Int32) v2 (0 : Int32)) wc_X7_32 ⟨by decide, by decide⟩ rfl (mv_cs (Nat.le_of_ble_eq_true rfl) (fun _ h => absurd h List.not_mem_nil)) dX7_ifPassed_98 rfl ?_
  refine mv_iload 0 dX7_ifPassed_101 rfl rfl ?_
  exact mv_iret dX7_ifPassed_103

def F_X7_ifPassed (a0 : Nat) (a1 : Int32) (a2 : Int32) : mv_M Int32 :=
  mv_bd (F_X7_in a1 (1 : Int32) (30 : Int32)) fun v3 =>
  if v3 = 0 then
    J_X7_ifPassed_19 a0
  else
    mv_bd (F_X7_in a2 (0 : Int32) (2 : Int32)) fun v4 =>
    if v4 = 0 then
      J_X7_ifPassed_19 a0
    else
      mv_bd (mv_gR 7 12 0 (some a0)) fun v5 =>
      mv_bd (mv_gR 7 12 1 (some a0)) fun v6 =>
      mv_bd (F_X7_copies v5 (0 : Int32) v6 (0 : Int32)) fun _ =>
      mv_bd (mv_rc 7 12 (some a0)) fun i8 => mv_bd (F_X7_bundlesBy i8 (5 : Int32)) fun v7 =>
      mv_bd (mv_rc 7 12 (some a0)) fun i10 => mv_bd (F_X7_goPass i10 a1) fun v9 =>
      if a2 = 0 then
        J_X7_ifPassed_86 a0 v9
      else
        if a2 = (1 : Int32) then
          mv_bd (mv_gR 7 12 0 (some a0)) fun v13 =>
          mv_bd (mv_aI v13 (8 : Int32)) fun v14 =>
          mv_bd (mv_gR 7 12 1 (some a0)) fun v15 =>
          mv_bd (mv_aI v15 (8 : Int32)) fun v16 =>
          J_X7_ifPassed_86 a0 (v14 - v16)
        else
          mv_bd (mv_rc 7 12 (some a0)) fun i12 => mv_bd (F_X7_bundlesBy i12 (5 : Int32)) fun v11 =>
          J_X7_ifPassed_86 a0 (v11 - v7)

set_option maxHeartbeats 4000000 in
set_option maxRecDepth 100000 in
theorem c_X7_ifPassed (l : Launch) (N0 : Nat) (D : va_G) (dA : Nat → ClassId) (a0 : Nat) (a1 : Int32) (a2 : Int32) : mv_SimM l N0 D dA yX7_ifPassed cX7_ifPassed 6 (some .int) 8 195 mv_rI [.ref (N0 + a0), .int a1, .int a2] (F_X7_ifPassed a0 a1 a2) := by
  refine mv_SimM_of (L0 := [(0, mv_vr N0 (some a0)), (1, .int a1), (2, .int a2)]) false (by decide +kernel) (Nat.le_of_ble_eq_true rfl) rfl (List.forall_mem_cons.mpr ⟨mv_cat N0 (some a0), List.forall_mem_cons.mpr ⟨rfl, List.forall_mem_cons.mpr ⟨rfl, fun _ h => absurd h List.not_mem_nil⟩⟩⟩) (fun z => by cases z) ?_
  unfold F_X7_ifPassed
  show mv_Sim l N0 D dA RX7 cX7_ifPassed 6 8 195 (some .int) false mv_rI 0 _ _ _
  refine mv_iload_n 1 dX7_ifPassed_0 rfl rfl rfl ?_
  refine mv_iconst (v := (1 : Int32)) dX7_ifPassed_1 (by decide) rfl ?_
  refine mv_bipush (v := (30 : Int32)) dX7_ifPassed_2 (by decide) rfl ?_
  refine mv_callSi (st := []) [.int a1, .int (1 : Int32), .int (30 : Int32)] (c_X7_in l N0 D dA a1 (1 : Int32) (30 : Int32)) wc_X7_36 ⟨by decide, by decide⟩ rfl (mv_cs (Nat.le_of_ble_eq_true rfl) (fun _ h => absurd h List.not_mem_nil)) dX7_ifPassed_4 rfl (fun v3 => ?_)
  refine mv_if_eq (tgt := 19) dX7_ifPassed_7 rfl rfl ?_ ?_
  · refine mv_sub [0] rfl ?_
    exact sJ_X7_ifPassed_19 l N0 D dA a0
  · refine mv_iload_n 2 dX7_ifPassed_10 rfl rfl rfl ?_
    refine mv_iconst (v := (0 : Int32)) dX7_ifPassed_11 (by decide) rfl ?_
    refine mv_iconst (v := (2 : Int32)) dX7_ifPassed_12 (by decide) rfl ?_
    refine mv_callSi (st := []) [.int a2, .int (0 : Int32), .int (2 : Int32)] (c_X7_in l N0 D dA a2 (0 : Int32) (2 : Int32)) wc_X7_36 ⟨by decide, by decide⟩ rfl (mv_cs (Nat.le_of_ble_eq_true rfl) (fun _ h => absurd h List.not_mem_nil)) dX7_ifPassed_13 rfl (fun v4 => ?_)
    refine mv_if_ne (tgt := 21) dX7_ifPassed_16 rfl rfl ?_ ?_
    · refine mv_aload_n 0 dX7_ifPassed_21 rfl rfl rfl ?_
      refine mv_getR fd_X7_0 lk_X7_7 dX7_ifPassed_22 rfl (fun v5 => ?_)
      refine mv_iconst (v := (0 : Int32)) dX7_ifPassed_25 (by decide) rfl ?_
      refine mv_aload_n 0 dX7_ifPassed_26 rfl rfl rfl ?_
      refine mv_getR fd_X7_1 lk_X7_13 dX7_ifPassed_27 rfl (fun v6 => ?_)
      refine mv_iconst (v := (0 : Int32)) dX7_ifPassed_30 (by decide) rfl ?_
      refine mv_callSv (st := []) [mv_vr N0 v5, .int (0 : Int32), mv_vr N0 v6, .int (0 : Int32)] (c_X7_copies l N0 D dA v5 (0 : Int32) v6 (0 : Int32)) wc_X7_32 ⟨by decide, by decide⟩ rfl (mv_cs (Nat.le_of_ble_eq_true rfl) (fun _ h => absurd h List.not_mem_nil)) dX7_ifPassed_31 rfl ?_
      refine mv_aload_n 0 dX7_ifPassed_34 rfl rfl rfl ?_
      refine mv_iconst (v := (5 : Int32)) dX7_ifPassed_35 (by decide) rfl ?_
      refine mv_callVi (st := []) [.int (5 : Int32)] (fun i8 => c_X7_bundlesBy l N0 D dA i8 (5 : Int32)) (T := TX7) rfl (by decide) wc_X7_161 ⟨by decide, by decide⟩ rfl (mv_cs (Nat.le_of_ble_eq_true rfl) (fun _ h => absurd h List.not_mem_nil)) dX7_ifPassed_36 rfl (fun v7 => ?_)
      refine mv_istore_n [0, 1, 2] dX7_ifPassed_39 rfl (by decide) rfl rfl rfl ?_
      refine mv_aload_n 1 dX7_ifPassed_40 rfl rfl rfl ?_
      refine mv_iload_n 2 dX7_ifPassed_41 rfl rfl rfl ?_
      refine mv_callVi (st := []) [.int a1] (fun i10 => c_X7_goPass l N0 D dA i10 a1) (T := TX7) rfl (by decide) wc_X7_110 ⟨by decide, by decide⟩ rfl (mv_cs (Nat.le_of_ble_eq_true rfl) (fun _ h => absurd h List.not_mem_nil)) dX7_ifPassed_42 rfl (fun v9 => ?_)
      refine mv_istore [0, 1, 2, 3] dX7_ifPassed_45 (by decide) rfl rfl rfl ?_
      refine mv_iload_n 4 dX7_ifPassed_47 rfl rfl rfl ?_
      refine mv_if_ne (tgt := 56) dX7_ifPassed_48 rfl rfl ?_ ?_
      · refine mv_iload_n 4 dX7_ifPassed_56 rfl rfl rfl ?_
        refine mv_iconst (v := (1 : Int32)) dX7_ifPassed_57 (by decide) rfl ?_
        refine mv_icmp_ne (tgt := 79) dX7_ifPassed_58 rfl rfl ?_ ?_
        · refine mv_aload_n 2 dX7_ifPassed_79 rfl rfl rfl ?_
          refine mv_iconst (v := (5 : Int32)) dX7_ifPassed_80 (by decide) rfl ?_
          refine mv_callVi (st := []) [.int (5 : Int32)] (fun i12 => c_X7_bundlesBy l N0 D dA i12 (5 : Int32)) (T := TX7) rfl (by decide) wc_X7_161 ⟨by decide, by decide⟩ rfl (mv_cs (Nat.le_of_ble_eq_true rfl) (fun _ h => absurd h List.not_mem_nil)) dX7_ifPassed_81 rfl (fun v11 => ?_)
          refine mv_iload_n 1 dX7_ifPassed_84 rfl rfl rfl ?_
          refine mv_isub dX7_ifPassed_85 rfl ?_
          refine mv_sub [2] rfl ?_
          exact sJ_X7_ifPassed_86 l N0 D dA a0 (v11 - v7)
        · refine mv_aload_n 2 dX7_ifPassed_61 rfl rfl rfl ?_
          refine mv_getR fd_X7_0 lk_X7_7 dX7_ifPassed_62 rfl (fun v13 => ?_)
          refine mv_bipush (v := (8 : Int32)) dX7_ifPassed_65 (by decide) rfl ?_
          refine mv_iald dX7_ifPassed_67 rfl (fun v14 => ?_)
          refine mv_aload_n 2 dX7_ifPassed_68 rfl rfl rfl ?_
          refine mv_getR fd_X7_1 lk_X7_13 dX7_ifPassed_69 rfl (fun v15 => ?_)
          refine mv_bipush (v := (8 : Int32)) dX7_ifPassed_72 (by decide) rfl ?_
          refine mv_iald dX7_ifPassed_74 rfl (fun v16 => ?_)
          refine mv_isub dX7_ifPassed_75 rfl ?_
          refine mv_goto (q := 86) dX7_ifPassed_76 rfl ?_
          refine mv_sub [2] rfl ?_
          exact sJ_X7_ifPassed_86 l N0 D dA a0 (v14 - v16)
      · refine mv_iload 0 dX7_ifPassed_51 rfl rfl ?_
        refine mv_goto (q := 86) dX7_ifPassed_53 rfl ?_
        refine mv_sub [2] rfl ?_
        exact sJ_X7_ifPassed_86 l N0 D dA a0 v9
    · refine mv_sub [0] rfl ?_
      exact sJ_X7_ifPassed_19 l N0 D dA a0

def J_X7_ifPosted_40 (a0 : Nat) (s0 : Int32) : mv_M Int32 :=
  mv_pu s0

set_option maxHeartbeats 4000000 in
set_option maxRecDepth 100000 in
theorem sJ_X7_ifPosted_40 (l : Launch) (N0 : Nat) (D : va_G) (dA : Nat → ClassId) (a0 : Nat) (s0 : Int32) : mv_Sim l N0 D dA RX7 cX7_ifPosted 4 4 96 (some .int) false mv_rI 40 [(0, mv_vr N0 (some a0))] [.int s0] (J_X7_ifPosted_40 a0 s0) := by
  unfold J_X7_ifPosted_40
  exact mv_iret dX7_ifPosted_40

def J_X7_ifPosted_39 (a0 : Nat) : mv_M Int32 :=
  J_X7_ifPosted_40 a0 ((-1) : Int32)

set_option maxHeartbeats 4000000 in
set_option maxRecDepth 100000 in
theorem sJ_X7_ifPosted_39 (l : Launch) (N0 : Nat) (D : va_G) (dA : Nat → ClassId) (a0 : Nat) : mv_Sim l N0 D dA RX7 cX7_ifPosted 4 4 96 (some .int) false mv_rI 39 [(0, mv_vr N0 (some a0))] [] (J_X7_ifPosted_39 a0) := by
  unfold J_X7_ifPosted_39
  refine mv_iconst (v := ((-1) : Int32)) dX7_ifPosted_39 (by decide) rfl ?_
  refine mv_sub [0] rfl ?_
  exact sJ_X7_ifPosted_40 l N0 D dA a0 ((-1) : Int32)

def F_X7_ifPosted (a0 : Nat) (a1 : Int32) (a2 : Int32) (a3 : Int32) : mv_M Int32 :=
  mv_bd (F_X7_isWay a1 a2) fun v1 =>
  if v1 = 0 then
    J_X7_ifPosted_39 a0
  else
    mv_bd (F_X7_in a3 (0 : Int32) (30 : Int32)) fun v2 =>
    if v2 = 0 then
      J_X7_ifPosted_39 a0
    else
      mv_bd (mv_gR 7 12 0 (some a0)) fun v3 =>
      mv_bd (mv_aI v3 (0 : Int32)) fun v4 =>
      mv_bd (mv_rc 7 12 (some a0)) fun i6 => mv_bd (F_X7_arrivalOf i6 a2 a1 (0 : Int32) (v4 + a3)) fun v5 =>
      mv_bd (F_X7_orNone v5) fun v7 =>
      J_X7_ifPosted_40 a0 v7

set_option maxHeartbeats 4000000 in
set_option maxRecDepth 100000 in
theorem c_X7_ifPosted (l : Launch) (N0 : Nat) (D : va_G) (dA : Nat → ClassId) (a0 : Nat) (a1 : Int32) (a2 : Int32) (a3 : Int32) : mv_SimM l N0 D dA yX7_ifPosted cX7_ifPosted 4 (some .int) 4 96 mv_rI [.ref (N0 + a0), .int a1, .int a2, .int a3] (F_X7_ifPosted a0 a1 a2 a3) := by
  refine mv_SimM_of (L0 := [(0, mv_vr N0 (some a0)), (1, .int a1), (2, .int a2), (3, .int a3)]) false (by decide +kernel) (Nat.le_of_ble_eq_true rfl) rfl (List.forall_mem_cons.mpr ⟨mv_cat N0 (some a0), List.forall_mem_cons.mpr ⟨rfl, List.forall_mem_cons.mpr ⟨rfl, List.forall_mem_cons.mpr ⟨rfl, fun _ h => absurd h List.not_mem_nil⟩⟩⟩⟩) (fun z => by cases z) ?_
  unfold F_X7_ifPosted
  show mv_Sim l N0 D dA RX7 cX7_ifPosted 4 4 96 (some .int) false mv_rI 0 _ _ _
  refine mv_iload_n 1 dX7_ifPosted_0 rfl rfl rfl ?_
  refine mv_iload_n 2 dX7_ifPosted_1 rfl rfl rfl ?_
  refine mv_callSi (st := []) [.int a1, .int a2] (c_X7_isWay l N0 D dA a1 a2) wc_X7_100 ⟨by decide, by decide⟩ rfl (mv_cs (Nat.le_of_ble_eq_true rfl) (fun _ h => absurd h List.not_mem_nil)) dX7_ifPosted_2 rfl (fun v1 => ?_)
  refine mv_if_eq (tgt := 39) dX7_ifPosted_5 rfl rfl ?_ ?_
  · refine mv_sub [0] rfl ?_
    exact sJ_X7_ifPosted_39 l N0 D dA a0
  · refine mv_iload_n 3 dX7_ifPosted_8 rfl rfl rfl ?_
    refine mv_iconst (v := (0 : Int32)) dX7_ifPosted_9 (by decide) rfl ?_
    refine mv_bipush (v := (30 : Int32)) dX7_ifPosted_10 (by decide) rfl ?_
    refine mv_callSi (st := []) [.int a3, .int (0 : Int32), .int (30 : Int32)] (c_X7_in l N0 D dA a3 (0 : Int32) (30 : Int32)) wc_X7_36 ⟨by decide, by decide⟩ rfl (mv_cs (Nat.le_of_ble_eq_true rfl) (fun _ h => absurd h List.not_mem_nil)) dX7_ifPosted_12 rfl (fun v2 => ?_)
    refine mv_if_eq (tgt := 39) dX7_ifPosted_15 rfl rfl ?_ ?_
    · refine mv_sub [0] rfl ?_
      exact sJ_X7_ifPosted_39 l N0 D dA a0
    · refine mv_aload_n 0 dX7_ifPosted_18 rfl rfl rfl ?_
      refine mv_iload_n 2 dX7_ifPosted_19 rfl rfl rfl ?_
      refine mv_iload_n 1 dX7_ifPosted_20 rfl rfl rfl ?_
      refine mv_iconst (v := (0 : Int32)) dX7_ifPosted_21 (by decide) rfl ?_
      refine mv_aload_n 0 dX7_ifPosted_22 rfl rfl rfl ?_
      refine mv_getR fd_X7_0 lk_X7_7 dX7_ifPosted_23 rfl (fun v3 => ?_)
      refine mv_iconst (v := (0 : Int32)) dX7_ifPosted_26 (by decide) rfl ?_
      refine mv_iald dX7_ifPosted_27 rfl (fun v4 => ?_)
      refine mv_iload_n 3 dX7_ifPosted_28 rfl rfl rfl ?_
      refine mv_iadd dX7_ifPosted_29 rfl ?_
      refine mv_callVi (st := []) [.int a2, .int a1, .int (0 : Int32), .int (v4 + a3)] (fun i6 => c_X7_arrivalOf l N0 D dA i6 a2 a1 (0 : Int32) (v4 + a3)) (T := TX7) rfl (by decide) wc_X7_58 ⟨by decide, by decide⟩ rfl (mv_cs (Nat.le_of_ble_eq_true rfl) (fun _ h => absurd h List.not_mem_nil)) dX7_ifPosted_30 rfl (fun v5 => ?_)
      refine mv_callSi (st := []) [.int v5] (c_X7_orNone l N0 D dA v5) wc_X7_65 ⟨by decide, by decide⟩ rfl (mv_cs (Nat.le_of_ble_eq_true rfl) (fun _ h => absurd h List.not_mem_nil)) dX7_ifPosted_33 rfl (fun v7 => ?_)
      refine mv_goto (q := 40) dX7_ifPosted_36 rfl ?_
      refine mv_sub [0] rfl ?_
      exact sJ_X7_ifPosted_40 l N0 D dA a0 v7

def J_X7_ill_18 (a0 : Nat) : mv_M Int32 :=
  mv_pu ((-1) : Int32)

set_option maxHeartbeats 4000000 in
set_option maxRecDepth 100000 in
theorem sJ_X7_ill_18 (l : Launch) (N0 : Nat) (D : va_G) (dA : Nat → ClassId) (a0 : Nat) : mv_Sim l N0 D dA RX7 cX7_ill 3 2 45 (some .int) false mv_rI 18 [(0, mv_vr N0 (some a0))] [] (J_X7_ill_18 a0) := by
  unfold J_X7_ill_18
  refine mv_iconst (v := ((-1) : Int32)) dX7_ill_18 (by decide) rfl ?_
  exact mv_iret dX7_ill_19

def J_X7_ill_56 (a0 : Nat) (x1 : Int32) (s0 : Option Nat) (s1 : Int32) (s2 : Int32) : mv_M Int32 :=
  mv_bd (mv_aS s0 s1 s2) fun _ =>
  mv_bd (mv_rc 7 12 (some a0)) fun i2 => mv_bd (F_X7_ofCarrier i2 x1 (9 : Int32)) fun v1 =>
  mv_pu v1

set_option maxHeartbeats 4000000 in
set_option maxRecDepth 100000 in
theorem sJ_X7_ill_56 (l : Launch) (N0 : Nat) (D : va_G) (dA : Nat → ClassId) (a0 : Nat) (x1 : Int32) (s0 : Option Nat) (s1 : Int32) (s2 : Int32) : mv_Sim l N0 D dA RX7 cX7_ill 3 2 45 (some .int) false mv_rI 56 [(0, mv_vr N0 (some a0)), (1, .int x1)] [.int s2, .int s1, mv_vr N0 s0] (J_X7_ill_56 a0 x1 s0 s1 s2) := by
  unfold J_X7_ill_56
  refine mv_iast dX7_ill_56 rfl ?_
  refine mv_aload_n 0 dX7_ill_57 rfl rfl rfl ?_
  refine mv_iload_n 1 dX7_ill_58 rfl rfl rfl ?_
  refine mv_bipush (v := (9 : Int32)) dX7_ill_59 (by decide) rfl ?_
  refine mv_callVi (st := []) [.int x1, .int (9 : Int32)] (fun i2 => c_X7_ofCarrier l N0 D dA i2 x1 (9 : Int32)) (T := TX7) rfl (by decide) wc_X7_40 ⟨by decide, by decide⟩ rfl (mv_cs (Nat.le_of_ble_eq_true rfl) (fun _ h => absurd h List.not_mem_nil)) dX7_ill_61 rfl (fun v1 => ?_)
  exact mv_iret dX7_ill_64

def F_X7_ill (a0 : Nat) (a1 : Int32) (a2 : Int32) : mv_M Int32 :=
  mv_bd (mv_rc 7 12 (some a0)) fun i4 => mv_bd (F_X7_isCarrier i4 a1) fun v3 =>
  if v3 = 0 then
    J_X7_ill_18 a0
  else
    mv_bd (F_X7_in a2 (0 : Int32) (30 : Int32)) fun v5 =>
    if v5 = 0 then
      J_X7_ill_18 a0
    else
      mv_bd (mv_rc 7 12 (some a0)) fun i6 => mv_bd (F_X7_records i6 ) fun _ =>
      mv_bd (mv_gR 7 12 0 (some a0)) fun v7 =>
      if a2 = 0 then
        J_X7_ill_56 a0 a1 v7 (((16 : Int32) + ((12 : Int32) * a1)) + (9 : Int32)) (0 : Int32)
      else
        mv_bd (mv_gR 7 12 0 (some a0)) fun v8 =>
        mv_bd (mv_aI v8 (0 : Int32)) fun v9 =>
        J_X7_ill_56 a0 a1 v7 (((16 : Int32) + ((12 : Int32) * a1)) + (9 : Int32)) ((v9 + (1 : Int32)) + a2)

set_option maxHeartbeats 4000000 in
set_option maxRecDepth 100000 in
theorem c_X7_ill (l : Launch) (N0 : Nat) (D : va_G) (dA : Nat → ClassId) (a0 : Nat) (a1 : Int32) (a2 : Int32) : mv_SimM l N0 D dA yX7_ill cX7_ill 3 (some .int) 2 45 mv_rI [.ref (N0 + a0), .int a1, .int a2] (F_X7_ill a0 a1 a2) := by
  refine mv_SimM_of (L0 := [(0, mv_vr N0 (some a0)), (1, .int a1), (2, .int a2)]) false (by decide +kernel) (Nat.le_of_ble_eq_true rfl) rfl (List.forall_mem_cons.mpr ⟨mv_cat N0 (some a0), List.forall_mem_cons.mpr ⟨rfl, List.forall_mem_cons.mpr ⟨rfl, fun _ h => absurd h List.not_mem_nil⟩⟩⟩) (fun z => by cases z) ?_
  unfold F_X7_ill
  show mv_Sim l N0 D dA RX7 cX7_ill 3 2 45 (some .int) false mv_rI 0 _ _ _
  refine mv_aload_n 0 dX7_ill_0 rfl rfl rfl ?_
  refine mv_iload_n 1 dX7_ill_1 rfl rfl rfl ?_
  refine mv_callVi (st := []) [.int a1] (fun i4 => c_X7_isCarrier l N0 D dA i4 a1) (T := TX7) rfl (by decide) wc_X7_93 ⟨by decide, by decide⟩ rfl (mv_cs (Nat.le_of_ble_eq_true rfl) (fun _ h => absurd h List.not_mem_nil)) dX7_ill_2 rfl (fun v3 => ?_)
  refine mv_if_eq (tgt := 18) dX7_ill_5 rfl rfl ?_ ?_
  · refine mv_sub [0] rfl ?_
    exact sJ_X7_ill_18 l N0 D dA a0
  · refine mv_iload_n 2 dX7_ill_8 rfl rfl rfl ?_
    refine mv_iconst (v := (0 : Int32)) dX7_ill_9 (by decide) rfl ?_
    refine mv_bipush (v := (30 : Int32)) dX7_ill_10 (by decide) rfl ?_
    refine mv_callSi (st := []) [.int a2, .int (0 : Int32), .int (30 : Int32)] (c_X7_in l N0 D dA a2 (0 : Int32) (30 : Int32)) wc_X7_36 ⟨by decide, by decide⟩ rfl (mv_cs (Nat.le_of_ble_eq_true rfl) (fun _ h => absurd h List.not_mem_nil)) dX7_ill_12 rfl (fun v5 => ?_)
    refine mv_if_ne (tgt := 20) dX7_ill_15 rfl rfl ?_ ?_
    · refine mv_aload_n 0 dX7_ill_20 rfl rfl rfl ?_
      refine mv_callVv (st := []) [] (fun i6 => c_X7_records l N0 D dA i6 ) (T := TX7) rfl (by decide) wc_X7_90 ⟨by decide, by decide⟩ rfl (mv_cs (Nat.le_of_ble_eq_true rfl) (fun _ h => absurd h List.not_mem_nil)) dX7_ill_21 rfl ?_
      refine mv_aload_n 0 dX7_ill_24 rfl rfl rfl ?_
      refine mv_getR fd_X7_0 lk_X7_7 dX7_ill_25 rfl (fun v7 => ?_)
      refine mv_bipush (v := (16 : Int32)) dX7_ill_28 (by decide) rfl ?_
      refine mv_bipush (v := (12 : Int32)) dX7_ill_30 (by decide) rfl ?_
      refine mv_iload_n 1 dX7_ill_32 rfl rfl rfl ?_
      refine mv_imul dX7_ill_33 rfl ?_
      refine mv_iadd dX7_ill_34 rfl ?_
      refine mv_bipush (v := (9 : Int32)) dX7_ill_35 (by decide) rfl ?_
      refine mv_iadd dX7_ill_37 rfl ?_
      refine mv_iload_n 2 dX7_ill_38 rfl rfl rfl ?_
      refine mv_if_ne (tgt := 46) dX7_ill_39 rfl rfl ?_ ?_
      · refine mv_aload_n 0 dX7_ill_46 rfl rfl rfl ?_
        refine mv_getR fd_X7_0 lk_X7_7 dX7_ill_47 rfl (fun v8 => ?_)
        refine mv_iconst (v := (0 : Int32)) dX7_ill_50 (by decide) rfl ?_
        refine mv_iald dX7_ill_51 rfl (fun v9 => ?_)
        refine mv_iconst (v := (1 : Int32)) dX7_ill_52 (by decide) rfl ?_
        refine mv_iadd dX7_ill_53 rfl ?_
        refine mv_iload_n 2 dX7_ill_54 rfl rfl rfl ?_
        refine mv_iadd dX7_ill_55 rfl ?_
        refine mv_sub [0, 1] rfl ?_
        exact sJ_X7_ill_56 l N0 D dA a0 a1 v7 (((16 : Int32) + ((12 : Int32) * a1)) + (9 : Int32)) ((v9 + (1 : Int32)) + a2)
      · refine mv_iconst (v := (0 : Int32)) dX7_ill_42 (by decide) rfl ?_
        refine mv_goto (q := 56) dX7_ill_43 rfl ?_
        refine mv_sub [0, 1] rfl ?_
        exact sJ_X7_ill_56 l N0 D dA a0 a1 v7 (((16 : Int32) + ((12 : Int32) * a1)) + (9 : Int32)) (0 : Int32)
    · refine mv_sub [0] rfl ?_
      exact sJ_X7_ill_18 l N0 D dA a0

def F_X7_init (a0 : Nat) : mv_M Unit :=
  mv_bd (mv_nA 8 (128 : Int32)) fun v1 =>
  mv_bd (mv_sR 7 12 0 (some a0) v1) fun _ =>
  mv_bd (mv_nA 8 (128 : Int32)) fun v2 =>
  mv_bd (mv_sR 7 12 1 (some a0) v2) fun _ =>
  mv_bd (mv_nA 8 (512 : Int32)) fun v3 =>
  mv_bd (mv_sR 7 12 2 (some a0) v3) fun _ =>
  mv_bd (mv_nA 8 (128 : Int32)) fun v4 =>
  mv_bd (mv_sR 7 12 4 (some a0) v4) fun _ =>
  mv_bd (mv_nA 8 (60 : Int32)) fun v5 =>
  mv_bd (mv_sR 7 12 6 (some a0) v5) fun _ =>
  mv_bd (mv_nA 8 (300 : Int32)) fun v6 =>
  mv_bd (mv_sR 7 12 11 (some a0) v6) fun _ =>
  mv_bd (mv_gR 7 12 0 (some a0)) fun v7 =>
  mv_bd (mv_aS v7 (1 : Int32) (3 : Int32)) fun _ =>
  mv_bd (mv_gR 7 12 0 (some a0)) fun v8 =>
  mv_bd (mv_aS v8 (2 : Int32) (1 : Int32)) fun _ =>
  mv_pu ()

set_option maxHeartbeats 4000000 in
set_option maxRecDepth 100000 in
theorem c_X7_init (l : Launch) (N0 : Nat) (D : va_G) (dA : Nat → ClassId) (a0 : Nat) : mv_SimM l N0 D dA yX7_init cX7_init 1 none 1 12 mv_rV [.ref (N0 + a0)] (F_X7_init a0) := by
  refine mv_SimM_of (L0 := [(0, mv_vr N0 (some a0))]) true (by decide +kernel) (Nat.le_of_ble_eq_true rfl) rfl (List.forall_mem_cons.mpr ⟨mv_cat N0 (some a0), fun _ h => absurd h List.not_mem_nil⟩) (fun _ => rfl) ?_
  unfold F_X7_init
  show mv_Sim l N0 D dA RX7 cX7_init 1 1 12 none true mv_rV 0 _ _ _
  refine mv_aload_n 0 dX7_init_0 rfl rfl rfl ?_
  refine mv_objInit dX7_init_1 wo_X7 ⟨by decide, by decide⟩ rfl ?_
  refine mv_aload_n 0 dX7_init_4 rfl rfl rfl ?_
  refine mv_sipush (v := (128 : Int32)) dX7_init_5 (by decide) rfl ?_
  refine mv_newa (mv_wA_of (mv_t1 (List.mem_of_getElem? (i := 64) rfl)) rfl) dX7_init_8 rfl (fun v1 => ?_)
  refine mv_putR (t := tyX7 0) fd_X7_0 rfl (tyX7_ok 0 (by decide)) (Or.inr ⟨_, rfl⟩) rfl rfl (mv_wA_of (mv_t3 (List.mem_of_getElem? (i := 96) rfl)) rfl) dX7_init_10 rfl ?_
  refine mv_aload_n 0 dX7_init_13 rfl rfl rfl ?_
  refine mv_sipush (v := (128 : Int32)) dX7_init_14 (by decide) rfl ?_
  refine mv_newa (mv_wA_of (mv_t1 (List.mem_of_getElem? (i := 64) rfl)) rfl) dX7_init_17 rfl (fun v2 => ?_)
  refine mv_putR (t := tyX7 1) fd_X7_1 rfl (tyX7_ok 1 (by decide)) (Or.inr ⟨_, rfl⟩) rfl rfl (mv_wA_of (mv_t3 (List.mem_of_getElem? (i := 97) rfl)) rfl) dX7_init_19 rfl ?_
  refine mv_aload_n 0 dX7_init_22 rfl rfl rfl ?_
  refine mv_sipush (v := (512 : Int32)) dX7_init_23 (by decide) rfl ?_
  refine mv_newa (mv_wA_of (mv_t1 (List.mem_of_getElem? (i := 64) rfl)) rfl) dX7_init_26 rfl (fun v3 => ?_)
  refine mv_putR (t := tyX7 2) fd_X7_2 rfl (tyX7_ok 2 (by decide)) (Or.inr ⟨_, rfl⟩) rfl rfl (mv_wA_of (mv_t3 (List.mem_of_getElem? (i := 98) rfl)) rfl) dX7_init_28 rfl ?_
  refine mv_aload_n 0 dX7_init_31 rfl rfl rfl ?_
  refine mv_sipush (v := (128 : Int32)) dX7_init_32 (by decide) rfl ?_
  refine mv_newa (mv_wA_of (mv_t1 (List.mem_of_getElem? (i := 64) rfl)) rfl) dX7_init_35 rfl (fun v4 => ?_)
  refine mv_putR (t := tyX7 4) fd_X7_4 rfl (tyX7_ok 4 (by decide)) (Or.inr ⟨_, rfl⟩) rfl rfl (mv_wA_of (mv_t3 (List.mem_of_getElem? (i := 100) rfl)) rfl) dX7_init_37 rfl ?_
  refine mv_aload_n 0 dX7_init_40 rfl rfl rfl ?_
  refine mv_bipush (v := (60 : Int32)) dX7_init_41 (by decide) rfl ?_
  refine mv_newa (mv_wA_of (mv_t1 (List.mem_of_getElem? (i := 64) rfl)) rfl) dX7_init_43 rfl (fun v5 => ?_)
  refine mv_putR (t := tyX7 6) fd_X7_6 rfl (tyX7_ok 6 (by decide)) (Or.inr ⟨_, rfl⟩) rfl rfl (mv_wA_of (mv_t3 (List.mem_of_getElem? (i := 102) rfl)) rfl) dX7_init_45 rfl ?_
  refine mv_aload_n 0 dX7_init_48 rfl rfl rfl ?_
  refine mv_sipush (v := (300 : Int32)) dX7_init_49 (by decide) rfl ?_
  refine mv_newa (mv_wA_of (mv_t1 (List.mem_of_getElem? (i := 64) rfl)) rfl) dX7_init_52 rfl (fun v6 => ?_)
  refine mv_putR (t := tyX7 11) fd_X7_11 rfl (tyX7_ok 11 (by decide)) (Or.inr ⟨_, rfl⟩) rfl rfl (mv_wA_of (mv_t3 (List.mem_of_getElem? (i := 107) rfl)) rfl) dX7_init_54 rfl ?_
  refine mv_aload_n 0 dX7_init_57 rfl rfl rfl ?_
  refine mv_getR fd_X7_0 lk_X7_7 dX7_init_58 rfl (fun v7 => ?_)
  refine mv_iconst (v := (1 : Int32)) dX7_init_61 (by decide) rfl ?_
  refine mv_iconst (v := (3 : Int32)) dX7_init_62 (by decide) rfl ?_
  refine mv_iast dX7_init_63 rfl ?_
  refine mv_aload_n 0 dX7_init_64 rfl rfl rfl ?_
  refine mv_getR fd_X7_0 lk_X7_7 dX7_init_65 rfl (fun v8 => ?_)
  refine mv_iconst (v := (2 : Int32)) dX7_init_68 (by decide) rfl ?_
  refine mv_iconst (v := (1 : Int32)) dX7_init_69 (by decide) rfl ?_
  refine mv_iast dX7_init_70 rfl ?_
  exact mv_vret dX7_init_71

def J_X7_lateness_50 (k6 : Int32 → Int32 → Int32 → mv_M UInt64) (a0 : Nat) (x1 : Int32) (x3 : Int32) (s0 : Int32) (s1 : Int32) : mv_M UInt64 :=
  mv_bd (mv_pu (s0 + s1)) fun v1 =>
  k6 x1 v1 (x3 + (1 : Int32))

set_option maxHeartbeats 4000000 in
set_option maxRecDepth 100000 in
theorem sJ_X7_lateness_50 (l : Launch) (N0 : Nat) (D : va_G) (dA : Nat → ClassId) (a0 : Nat) (x1 : Int32) (x3 : Int32) (s0 : Int32) (s1 : Int32) (k6 : Int32 → Int32 → Int32 → mv_M UInt64) (hk6 : ∀ (y1 : Int32) (y2 : Int32) (y3 : Int32), mv_Sim l N0 D dA RX7 cX7_lateness 4 7 160 (some .double) false mv_rD 6 [(0, mv_vr N0 (some a0)), (1, .int y1), (2, .int y2), (3, .int y3)] [] (k6 y1 y2 y3)) : mv_Sim l N0 D dA RX7 cX7_lateness 4 7 160 (some .double) false mv_rD 50 [(0, mv_vr N0 (some a0)), (1, .int x1), (3, .int x3)] [.int s1, .int s0] (J_X7_lateness_50 k6 a0 x1 x3 s0 s1) := by
  unfold J_X7_lateness_50
  refine mv_iadd dX7_lateness_50 rfl ?_
  refine mv_let (fun v1 => ?_)
  refine mv_istore_n [0, 1, 2] dX7_lateness_51 rfl (by decide) rfl rfl rfl ?_
  refine mv_iinc (y := (x3 + (1 : Int32))) 3 [0, 1, 2] dX7_lateness_52 rfl rfl (by decide) rfl rfl rfl ?_
  refine mv_goto (q := 6) dX7_lateness_55 rfl ?_
  refine mv_sub [2, 3, 1, 0] rfl ?_
  exact hk6 x1 v1 (x3 + (1 : Int32))

def J_X7_lateness_34 (k6 : Int32 → Int32 → Int32 → mv_M UInt64) (a0 : Nat) (x2 : Int32) (x3 : Int32) (s0 : Int32) (s1 : Int32) : mv_M UInt64 :=
  mv_bd (mv_pu (s0 + s1)) fun v2 =>
  mv_bd (mv_rc 7 12 (some a0)) fun i4 => mv_bd (F_X7_hasDelay i4 x3) fun v3 =>
  if v3 = 0 then
    J_X7_lateness_50 k6 a0 v2 x3 x2 (0 : Int32)
  else
    J_X7_lateness_50 k6 a0 v2 x3 x2 (1 : Int32)

set_option maxHeartbeats 4000000 in
set_option maxRecDepth 100000 in
theorem sJ_X7_lateness_34 (l : Launch) (N0 : Nat) (D : va_G) (dA : Nat → ClassId) (a0 : Nat) (x2 : Int32) (x3 : Int32) (s0 : Int32) (s1 : Int32) (k6 : Int32 → Int32 → Int32 → mv_M UInt64) (hk6 : ∀ (y1 : Int32) (y2 : Int32) (y3 : Int32), mv_Sim l N0 D dA RX7 cX7_lateness 4 7 160 (some .double) false mv_rD 6 [(0, mv_vr N0 (some a0)), (1, .int y1), (2, .int y2), (3, .int y3)] [] (k6 y1 y2 y3)) : mv_Sim l N0 D dA RX7 cX7_lateness 4 7 160 (some .double) false mv_rD 34 [(0, mv_vr N0 (some a0)), (2, .int x2), (3, .int x3)] [.int s1, .int s0] (J_X7_lateness_34 k6 a0 x2 x3 s0 s1) := by
  unfold J_X7_lateness_34
  refine mv_iadd dX7_lateness_34 rfl ?_
  refine mv_let (fun v2 => ?_)
  refine mv_istore_n [0, 1, 2] dX7_lateness_35 rfl (by decide) rfl rfl rfl ?_
  refine mv_iload_n 2 dX7_lateness_36 rfl rfl rfl ?_
  refine mv_aload_n 1 dX7_lateness_37 rfl rfl rfl ?_
  refine mv_iload_n 3 dX7_lateness_38 rfl rfl rfl ?_
  refine mv_callVi (st := [.int x2]) [.int x3] (fun i4 => c_X7_hasDelay l N0 D dA i4 x3) (T := TX7) rfl (by decide) wc_X7_152 ⟨by decide, by decide⟩ rfl (mv_cs (Nat.le_of_ble_eq_true rfl) (List.forall_mem_cons.mpr ⟨rfl, fun _ h => absurd h List.not_mem_nil⟩)) dX7_lateness_39 rfl (fun v3 => ?_)
  refine mv_if_eq (tgt := 49) dX7_lateness_42 rfl rfl ?_ ?_
  · refine mv_iconst (v := (0 : Int32)) dX7_lateness_49 (by decide) rfl ?_
    refine mv_sub [1, 0, 3] rfl ?_
    exact sJ_X7_lateness_50 l N0 D dA a0 v2 x3 x2 (0 : Int32) _ hk6
  · refine mv_iconst (v := (1 : Int32)) dX7_lateness_45 (by decide) rfl ?_
    refine mv_goto (q := 50) dX7_lateness_46 rfl ?_
    refine mv_sub [1, 0, 3] rfl ?_
    exact sJ_X7_lateness_50 l N0 D dA a0 v2 x3 x2 (1 : Int32) _ hk6

def J_X7_lateness_71 (a0 : Nat) (s0 : UInt64) : mv_M UInt64 :=
  mv_pu s0

set_option maxHeartbeats 4000000 in
set_option maxRecDepth 100000 in
theorem sJ_X7_lateness_71 (l : Launch) (N0 : Nat) (D : va_G) (dA : Nat → ClassId) (a0 : Nat) (s0 : UInt64) : mv_Sim l N0 D dA RX7 cX7_lateness 4 7 160 (some .double) false mv_rD 71 [(0, mv_vr N0 (some a0))] [.double s0] (J_X7_lateness_71 a0 s0) := by
  unfold J_X7_lateness_71
  exact mv_dret dX7_lateness_71

def Lp_X7_lateness_6 (a0 : Nat) : Nat → Int32 → Int32 → Int32 → mv_M UInt64
  | 0, _, _, _ => mv_fl
  | n + 1, x1, x2, x3 =>
    mv_bd (mv_gR 7 12 0 (some a0)) fun v5 =>
    mv_bd (mv_aI v5 (4 : Int32)) fun v6 =>
    if v6 ≤ x3 then
      if x2 = 0 then
        J_X7_lateness_71 a0 FP.dconst0
      else
        mv_bd (mv_dd (FP.i2d x1) (FP.i2d x2)) fun v7 =>
        J_X7_lateness_71 a0 v7
    else
      mv_bd (mv_rc 7 12 (some a0)) fun i9 => mv_bd (F_X7_hasDelay i9 x3) fun v8 =>
      if v8 = 0 then
        J_X7_lateness_34 (Lp_X7_lateness_6 a0 n) a0 x2 x3 x1 (0 : Int32)
      else
        mv_bd (mv_rc 7 12 (some a0)) fun i11 => mv_bd (F_X7_delayOf i11 x3) fun v10 =>
        J_X7_lateness_34 (Lp_X7_lateness_6 a0 n) a0 x2 x3 x1 v10

set_option maxHeartbeats 4000000 in
set_option maxRecDepth 100000 in
theorem sLp_X7_lateness_6 (l : Launch) (N0 : Nat) (D : va_G) (dA : Nat → ClassId) (a0 : Nat) : ∀ (n : Nat) (x1 : Int32) (x2 : Int32) (x3 : Int32), mv_Sim l N0 D dA RX7 cX7_lateness 4 7 160 (some .double) false mv_rD 6 [(0, mv_vr N0 (some a0)), (1, .int x1), (2, .int x2), (3, .int x3)] [] (Lp_X7_lateness_6 a0 n x1 x2 x3) := by
  intro n
  induction n with
  | zero => intro x1 x2 x3; rw [Lp_X7_lateness_6]; exact mv_fl_sim
  | succ n ih =>
    intro x1 x2 x3
    rw [Lp_X7_lateness_6]
    refine mv_iload_n 3 dX7_lateness_6 rfl rfl rfl ?_
    refine mv_aload_n 0 dX7_lateness_7 rfl rfl rfl ?_
    refine mv_getR fd_X7_0 lk_X7_7 dX7_lateness_8 rfl (fun v5 => ?_)
    refine mv_iconst (v := (4 : Int32)) dX7_lateness_11 (by decide) rfl ?_
    refine mv_iald dX7_lateness_12 rfl (fun v6 => ?_)
    refine mv_icmp_ge (tgt := 58) dX7_lateness_13 rfl rfl ?_ ?_
    · refine mv_iload_n 2 dX7_lateness_58 rfl rfl rfl ?_
      refine mv_if_ne (tgt := 66) dX7_lateness_59 rfl rfl ?_ ?_
      · refine mv_iload_n 1 dX7_lateness_66 rfl rfl rfl ?_
        refine mv_i2d dX7_lateness_67 rfl ?_
        refine mv_iload_n 2 dX7_lateness_68 rfl rfl rfl ?_
        refine mv_i2d dX7_lateness_69 rfl ?_
        refine mv_ddiv dX7_lateness_70 rfl (fun v7 => ?_)
        refine mv_sub [0] rfl ?_
        exact sJ_X7_lateness_71 l N0 D dA a0 v7
      · refine mv_dconst0 dX7_lateness_62 rfl ?_
        refine mv_goto (q := 71) dX7_lateness_63 rfl ?_
        refine mv_sub [0] rfl ?_
        exact sJ_X7_lateness_71 l N0 D dA a0 FP.dconst0
    · refine mv_iload_n 1 dX7_lateness_16 rfl rfl rfl ?_
      refine mv_aload_n 0 dX7_lateness_17 rfl rfl rfl ?_
      refine mv_iload_n 3 dX7_lateness_18 rfl rfl rfl ?_
      refine mv_callVi (st := [.int x1]) [.int x3] (fun i9 => c_X7_hasDelay l N0 D dA i9 x3) (T := TX7) rfl (by decide) wc_X7_152 ⟨by decide, by decide⟩ rfl (mv_cs (Nat.le_of_ble_eq_true rfl) (List.forall_mem_cons.mpr ⟨rfl, fun _ h => absurd h List.not_mem_nil⟩)) dX7_lateness_19 rfl (fun v8 => ?_)
      refine mv_if_eq (tgt := 33) dX7_lateness_22 rfl rfl ?_ ?_
      · refine mv_iconst (v := (0 : Int32)) dX7_lateness_33 (by decide) rfl ?_
        refine mv_sub [0, 2, 3] rfl ?_
        exact sJ_X7_lateness_34 l N0 D dA a0 x2 x3 x1 (0 : Int32) _ ih
      · refine mv_aload_n 0 dX7_lateness_25 rfl rfl rfl ?_
        refine mv_iload_n 3 dX7_lateness_26 rfl rfl rfl ?_
        refine mv_callVi (st := [.int x1]) [.int x3] (fun i11 => c_X7_delayOf l N0 D dA i11 x3) (T := TX7) rfl (by decide) wc_X7_155 ⟨by decide, by decide⟩ rfl (mv_cs (Nat.le_of_ble_eq_true rfl) (List.forall_mem_cons.mpr ⟨rfl, fun _ h => absurd h List.not_mem_nil⟩)) dX7_lateness_27 rfl (fun v10 => ?_)
        refine mv_goto (q := 34) dX7_lateness_30 rfl ?_
        refine mv_sub [0, 2, 3] rfl ?_
        exact sJ_X7_lateness_34 l N0 D dA a0 x2 x3 x1 v10 _ ih

def F_X7_lateness (a0 : Nat) : mv_M UInt64 :=
  Lp_X7_lateness_6 a0 mv_FU (0 : Int32) (0 : Int32) (0 : Int32)

set_option maxHeartbeats 4000000 in
set_option maxRecDepth 100000 in
theorem c_X7_lateness (l : Launch) (N0 : Nat) (D : va_G) (dA : Nat → ClassId) (a0 : Nat) : mv_SimM l N0 D dA yX7_lateness cX7_lateness 4 (some .double) 7 160 mv_rD [.ref (N0 + a0)] (F_X7_lateness a0) := by
  refine mv_SimM_of (L0 := [(0, mv_vr N0 (some a0))]) false (by decide +kernel) (Nat.le_of_ble_eq_true rfl) rfl (List.forall_mem_cons.mpr ⟨mv_cat N0 (some a0), fun _ h => absurd h List.not_mem_nil⟩) (fun z => by cases z) ?_
  unfold F_X7_lateness
  show mv_Sim l N0 D dA RX7 cX7_lateness 4 7 160 (some .double) false mv_rD 0 _ _ _
  refine mv_iconst (v := (0 : Int32)) dX7_lateness_0 (by decide) rfl ?_
  refine mv_istore_n [0] dX7_lateness_1 rfl (by decide) rfl rfl rfl ?_
  refine mv_iconst (v := (0 : Int32)) dX7_lateness_2 (by decide) rfl ?_
  refine mv_istore_n [0, 1] dX7_lateness_3 rfl (by decide) rfl rfl rfl ?_
  refine mv_iconst (v := (0 : Int32)) dX7_lateness_4 (by decide) rfl ?_
  refine mv_istore_n [0, 1, 2] dX7_lateness_5 rfl (by decide) rfl rfl rfl ?_
  refine mv_sub [3, 2, 1, 0] rfl ?_
  exact sLp_X7_lateness_6 l N0 D dA a0 mv_FU (0 : Int32) (0 : Int32) (0 : Int32)

def Lp_X7_letters_36 (a0 : Nat) : Nat → Int32 → mv_M Int32
  | 0, _ => mv_fl
  | n + 1, x1 =>
    mv_bd (mv_gI 7 12 10 (some a0)) fun v1 =>
    if v1 ≤ x1 then
      mv_bd (mv_sI 7 12 7 (some a0) (0 : Int32)) fun _ =>
      mv_bd (mv_gR 7 12 0 (some a0)) fun v2 =>
      mv_bd (mv_aI v2 (4 : Int32)) fun v3 =>
      mv_pu v3
    else
      mv_bd (mv_gR 7 12 11 (some a0)) fun v4 =>
      mv_bd (mv_aI v4 ((2 : Int32) * x1)) fun v5 =>
      mv_bd (mv_gR 7 12 11 (some a0)) fun v6 =>
      mv_bd (mv_aI v6 (((2 : Int32) * x1) + (1 : Int32))) fun v7 =>
      mv_bd (mv_rc 7 12 (some a0)) fun i9 => mv_bd (F_X7_goPost i9 v5 v7) fun v8 =>
      Lp_X7_letters_36 a0 n (x1 + (1 : Int32))

set_option maxHeartbeats 4000000 in
set_option maxRecDepth 100000 in
theorem sLp_X7_letters_36 (l : Launch) (N0 : Nat) (D : va_G) (dA : Nat → ClassId) (a0 : Nat) : ∀ (n : Nat) (x1 : Int32), mv_Sim l N0 D dA RX7 cX7_letters 3 5 120 (some .int) false mv_rI 36 [(0, mv_vr N0 (some a0)), (1, .int x1)] [] (Lp_X7_letters_36 a0 n x1) := by
  intro n
  induction n with
  | zero => intro x1; rw [Lp_X7_letters_36]; exact mv_fl_sim
  | succ n ih =>
    intro x1
    rw [Lp_X7_letters_36]
    refine mv_iload_n 1 dX7_letters_36 rfl rfl rfl ?_
    refine mv_aload_n 0 dX7_letters_37 rfl rfl rfl ?_
    refine mv_getI fd_X7_10 lk_X7_130 dX7_letters_38 rfl (fun v1 => ?_)
    refine mv_icmp_ge (tgt := 73) dX7_letters_41 rfl rfl ?_ ?_
    · refine mv_aload_n 0 dX7_letters_73 rfl rfl rfl ?_
      refine mv_iconst (v := (0 : Int32)) dX7_letters_74 (by decide) rfl ?_
      refine mv_putI fd_X7_7 rfl (tyX7_ok 7 (by decide)) lk_X7_113 dX7_letters_75 rfl ?_
      refine mv_aload_n 0 dX7_letters_78 rfl rfl rfl ?_
      refine mv_getR fd_X7_0 lk_X7_7 dX7_letters_79 rfl (fun v2 => ?_)
      refine mv_iconst (v := (4 : Int32)) dX7_letters_82 (by decide) rfl ?_
      refine mv_iald dX7_letters_83 rfl (fun v3 => ?_)
      exact mv_iret dX7_letters_84
    · refine mv_aload_n 0 dX7_letters_44 rfl rfl rfl ?_
      refine mv_aload_n 0 dX7_letters_45 rfl rfl rfl ?_
      refine mv_getR fd_X7_11 lk_X7_25 dX7_letters_46 rfl (fun v4 => ?_)
      refine mv_iconst (v := (2 : Int32)) dX7_letters_49 (by decide) rfl ?_
      refine mv_iload_n 1 dX7_letters_50 rfl rfl rfl ?_
      refine mv_imul dX7_letters_51 rfl ?_
      refine mv_iald dX7_letters_52 rfl (fun v5 => ?_)
      refine mv_aload_n 0 dX7_letters_53 rfl rfl rfl ?_
      refine mv_getR fd_X7_11 lk_X7_25 dX7_letters_54 rfl (fun v6 => ?_)
      refine mv_iconst (v := (2 : Int32)) dX7_letters_57 (by decide) rfl ?_
      refine mv_iload_n 1 dX7_letters_58 rfl rfl rfl ?_
      refine mv_imul dX7_letters_59 rfl ?_
      refine mv_iconst (v := (1 : Int32)) dX7_letters_60 (by decide) rfl ?_
      refine mv_iadd dX7_letters_61 rfl ?_
      refine mv_iald dX7_letters_62 rfl (fun v7 => ?_)
      refine mv_callVi (st := []) [.int v5, .int v7] (fun i9 => c_X7_goPost l N0 D dA i9 v5 v7) (T := TX7) rfl (by decide) wc_X7_104 ⟨by decide, by decide⟩ rfl (mv_cs (Nat.le_of_ble_eq_true rfl) (fun _ h => absurd h List.not_mem_nil)) dX7_letters_63 rfl (fun v8 => ?_)
      refine mv_istore_n [0, 1] dX7_letters_66 rfl (by decide) rfl rfl rfl ?_
      refine mv_iinc (y := (x1 + (1 : Int32))) 2 [0, 1] dX7_letters_67 rfl rfl (by decide) rfl rfl rfl ?_
      refine mv_goto (q := 36) dX7_letters_70 rfl ?_
      refine mv_sub [2, 0] rfl ?_
      exact ih (x1 + (1 : Int32))

def F_X7_letters (a0 : Nat) : mv_M Int32 :=
  mv_bd (mv_rc 7 12 (some a0)) fun i11 => mv_bd (F_X7_isText i11 (0 : Int32)) fun v10 =>
  if v10 = 0 then
    mv_pu ((-2) : Int32)
  else
    mv_bd (mv_gR 7 12 0 (some a0)) fun v12 =>
    mv_bd (mv_aI v12 (4 : Int32)) fun v13 =>
    mv_bd (mv_gI 7 12 10 (some a0)) fun v14 =>
    if (v13 + v14) ≤ (8 : Int32) then
      mv_bd (mv_rc 7 12 (some a0)) fun i15 => mv_bd (F_X7_records i15 ) fun _ =>
      Lp_X7_letters_36 a0 mv_FU (0 : Int32)
    else
      mv_pu ((-3) : Int32)

set_option maxHeartbeats 4000000 in
set_option maxRecDepth 100000 in
theorem c_X7_letters (l : Launch) (N0 : Nat) (D : va_G) (dA : Nat → ClassId) (a0 : Nat) : mv_SimM l N0 D dA yX7_letters cX7_letters 3 (some .int) 5 120 mv_rI [.ref (N0 + a0)] (F_X7_letters a0) := by
  refine mv_SimM_of (L0 := [(0, mv_vr N0 (some a0))]) false (by decide +kernel) (Nat.le_of_ble_eq_true rfl) rfl (List.forall_mem_cons.mpr ⟨mv_cat N0 (some a0), fun _ h => absurd h List.not_mem_nil⟩) (fun z => by cases z) ?_
  unfold F_X7_letters
  show mv_Sim l N0 D dA RX7 cX7_letters 3 5 120 (some .int) false mv_rI 0 _ _ _
  refine mv_aload_n 0 dX7_letters_0 rfl rfl rfl ?_
  refine mv_iconst (v := (0 : Int32)) dX7_letters_1 (by decide) rfl ?_
  refine mv_callVi (st := []) [.int (0 : Int32)] (fun i11 => c_X7_isText l N0 D dA i11 (0 : Int32)) (T := TX7) rfl (by decide) wc_X7_142 ⟨by decide, by decide⟩ rfl (mv_cs (Nat.le_of_ble_eq_true rfl) (fun _ h => absurd h List.not_mem_nil)) dX7_letters_2 rfl (fun v10 => ?_)
  refine mv_if_ne (tgt := 11) dX7_letters_5 rfl rfl ?_ ?_
  · refine mv_aload_n 0 dX7_letters_11 rfl rfl rfl ?_
    refine mv_getR fd_X7_0 lk_X7_7 dX7_letters_12 rfl (fun v12 => ?_)
    refine mv_iconst (v := (4 : Int32)) dX7_letters_15 (by decide) rfl ?_
    refine mv_iald dX7_letters_16 rfl (fun v13 => ?_)
    refine mv_aload_n 0 dX7_letters_17 rfl rfl rfl ?_
    refine mv_getI fd_X7_10 lk_X7_130 dX7_letters_18 rfl (fun v14 => ?_)
    refine mv_iadd dX7_letters_21 rfl ?_
    refine mv_bipush (v := (8 : Int32)) dX7_letters_22 (by decide) rfl ?_
    refine mv_icmp_le (tgt := 30) dX7_letters_24 rfl rfl ?_ ?_
    · refine mv_aload_n 0 dX7_letters_30 rfl rfl rfl ?_
      refine mv_callVv (st := []) [] (fun i15 => c_X7_records l N0 D dA i15 ) (T := TX7) rfl (by decide) wc_X7_90 ⟨by decide, by decide⟩ rfl (mv_cs (Nat.le_of_ble_eq_true rfl) (fun _ h => absurd h List.not_mem_nil)) dX7_letters_31 rfl ?_
      refine mv_iconst (v := (0 : Int32)) dX7_letters_34 (by decide) rfl ?_
      refine mv_istore_n [0] dX7_letters_35 rfl (by decide) rfl rfl rfl ?_
      refine mv_sub [1, 0] rfl ?_
      exact sLp_X7_letters_36 l N0 D dA a0 mv_FU (0 : Int32)
    · refine mv_bipush (v := ((-3) : Int32)) dX7_letters_27 (by decide) rfl ?_
      exact mv_iret dX7_letters_29
  · refine mv_bipush (v := ((-2) : Int32)) dX7_letters_8 (by decide) rfl ?_
    exact mv_iret dX7_letters_10

def F_X7_load (a0 : Nat) (a1 : Int32) : mv_M Int32 :=
  mv_bd (F_X7_in a1 (1 : Int32) (8 : Int32)) fun v1 =>
  if v1 = 0 then
    mv_pu ((-1) : Int32)
  else
    mv_bd (mv_rc 7 12 (some a0)) fun i2 => mv_bd (F_X7_records i2 ) fun _ =>
    mv_bd (mv_gR 7 12 0 (some a0)) fun v3 =>
    mv_bd (mv_aI v3 (1 : Int32)) fun v4 =>
    mv_bd (mv_gR 7 12 0 (some a0)) fun v5 =>
    mv_bd (mv_aS v5 (1 : Int32) a1) fun _ =>
    mv_pu v4

set_option maxHeartbeats 4000000 in
set_option maxRecDepth 100000 in
theorem c_X7_load (l : Launch) (N0 : Nat) (D : va_G) (dA : Nat → ClassId) (a0 : Nat) (a1 : Int32) : mv_SimM l N0 D dA yX7_load cX7_load 3 (some .int) 2 45 mv_rI [.ref (N0 + a0), .int a1] (F_X7_load a0 a1) := by
  refine mv_SimM_of (L0 := [(0, mv_vr N0 (some a0)), (1, .int a1)]) false (by decide +kernel) (Nat.le_of_ble_eq_true rfl) rfl (List.forall_mem_cons.mpr ⟨mv_cat N0 (some a0), List.forall_mem_cons.mpr ⟨rfl, fun _ h => absurd h List.not_mem_nil⟩⟩) (fun z => by cases z) ?_
  unfold F_X7_load
  show mv_Sim l N0 D dA RX7 cX7_load 3 2 45 (some .int) false mv_rI 0 _ _ _
  refine mv_iload_n 1 dX7_load_0 rfl rfl rfl ?_
  refine mv_iconst (v := (1 : Int32)) dX7_load_1 (by decide) rfl ?_
  refine mv_bipush (v := (8 : Int32)) dX7_load_2 (by decide) rfl ?_
  refine mv_callSi (st := []) [.int a1, .int (1 : Int32), .int (8 : Int32)] (c_X7_in l N0 D dA a1 (1 : Int32) (8 : Int32)) wc_X7_36 ⟨by decide, by decide⟩ rfl (mv_cs (Nat.le_of_ble_eq_true rfl) (fun _ h => absurd h List.not_mem_nil)) dX7_load_4 rfl (fun v1 => ?_)
  refine mv_if_ne (tgt := 12) dX7_load_7 rfl rfl ?_ ?_
  · refine mv_aload_n 0 dX7_load_12 rfl rfl rfl ?_
    refine mv_callVv (st := []) [] (fun i2 => c_X7_records l N0 D dA i2 ) (T := TX7) rfl (by decide) wc_X7_90 ⟨by decide, by decide⟩ rfl (mv_cs (Nat.le_of_ble_eq_true rfl) (fun _ h => absurd h List.not_mem_nil)) dX7_load_13 rfl ?_
    refine mv_aload_n 0 dX7_load_16 rfl rfl rfl ?_
    refine mv_getR fd_X7_0 lk_X7_7 dX7_load_17 rfl (fun v3 => ?_)
    refine mv_iconst (v := (1 : Int32)) dX7_load_20 (by decide) rfl ?_
    refine mv_iald dX7_load_21 rfl (fun v4 => ?_)
    refine mv_istore_n [0, 1] dX7_load_22 rfl (by decide) rfl rfl rfl ?_
    refine mv_aload_n 1 dX7_load_23 rfl rfl rfl ?_
    refine mv_getR fd_X7_0 lk_X7_7 dX7_load_24 rfl (fun v5 => ?_)
    refine mv_iconst (v := (1 : Int32)) dX7_load_27 (by decide) rfl ?_
    refine mv_iload_n 2 dX7_load_28 rfl rfl rfl ?_
    refine mv_iast dX7_load_29 rfl ?_
    refine mv_iload_n 0 dX7_load_30 rfl rfl rfl ?_
    exact mv_iret dX7_load_31
  · refine mv_iconst (v := ((-1) : Int32)) dX7_load_10 (by decide) rfl ?_
    exact mv_iret dX7_load_11

def J_X7_meeting_21 (a0 : Nat) : mv_M Int32 :=
  mv_pu ((-1) : Int32)

set_option maxHeartbeats 4000000 in
set_option maxRecDepth 100000 in
theorem sJ_X7_meeting_21 (l : Launch) (N0 : Nat) (D : va_G) (dA : Nat → ClassId) (a0 : Nat) : mv_Sim l N0 D dA RX7 cX7_meeting 8 2 44 (some .int) false mv_rI 21 [(0, mv_vr N0 (some a0))] [] (J_X7_meeting_21 a0) := by
  unfold J_X7_meeting_21
  refine mv_iconst (v := ((-1) : Int32)) dX7_meeting_21 (by decide) rfl ?_
  exact mv_iret dX7_meeting_22

def J_X7_meeting_109 (k38 : Int32 → Int32 → mv_M Int32) (a0 : Nat) (x1 : Int32) (x2 : Int32) (x3 : Int32) (x5 : Int32) (s0 : Int32) : mv_M Int32 :=
  k38 s0 (x5 + ((-1) : Int32))

set_option maxHeartbeats 4000000 in
set_option maxRecDepth 100000 in
theorem sJ_X7_meeting_109 (l : Launch) (N0 : Nat) (D : va_G) (dA : Nat → ClassId) (a0 : Nat) (x1 : Int32) (x2 : Int32) (x3 : Int32) (x5 : Int32) (s0 : Int32) (k38 : Int32 → Int32 → mv_M Int32) (hk38 : ∀ (y4 : Int32) (y5 : Int32), mv_Sim l N0 D dA RX7 cX7_meeting 8 2 44 (some .int) false mv_rI 38 [(0, mv_vr N0 (some a0)), (1, .int x1), (2, .int x2), (3, .int x3), (4, .int y4), (5, .int y5)] [] (k38 y4 y5)) : mv_Sim l N0 D dA RX7 cX7_meeting 8 2 44 (some .int) false mv_rI 109 [(0, mv_vr N0 (some a0)), (1, .int x1), (2, .int x2), (3, .int x3), (5, .int x5)] [.int s0] (J_X7_meeting_109 k38 a0 x1 x2 x3 x5 s0) := by
  unfold J_X7_meeting_109
  refine mv_istore [0, 1, 2, 3, 4] dX7_meeting_109 (by decide) rfl rfl rfl ?_
  refine mv_iinc (y := (x5 + ((-1) : Int32))) 5 [0, 1, 2, 3, 4] dX7_meeting_111 rfl rfl (by decide) rfl rfl rfl ?_
  refine mv_goto (q := 38) dX7_meeting_114 rfl ?_
  refine mv_sub [2, 3, 4, 5, 1, 0] rfl ?_
  exact hk38 s0 (x5 + ((-1) : Int32))

def J_X7_meeting_95 (k38 : Int32 → Int32 → mv_M Int32) (a0 : Nat) (x1 : Int32) (x2 : Int32) (x3 : Int32) (x4 : Int32) (x5 : Int32) (s0 : Int32) : mv_M Int32 :=
  if s0 = 0 then
    J_X7_meeting_109 k38 a0 x1 x2 x3 x5 x4
  else
    J_X7_meeting_109 k38 a0 x1 x2 x3 x5 x5

set_option maxHeartbeats 4000000 in
set_option maxRecDepth 100000 in
theorem sJ_X7_meeting_95 (l : Launch) (N0 : Nat) (D : va_G) (dA : Nat → ClassId) (a0 : Nat) (x1 : Int32) (x2 : Int32) (x3 : Int32) (x4 : Int32) (x5 : Int32) (s0 : Int32) (k38 : Int32 → Int32 → mv_M Int32) (hk38 : ∀ (y4 : Int32) (y5 : Int32), mv_Sim l N0 D dA RX7 cX7_meeting 8 2 44 (some .int) false mv_rI 38 [(0, mv_vr N0 (some a0)), (1, .int x1), (2, .int x2), (3, .int x3), (4, .int y4), (5, .int y5)] [] (k38 y4 y5)) : mv_Sim l N0 D dA RX7 cX7_meeting 8 2 44 (some .int) false mv_rI 95 [(0, mv_vr N0 (some a0)), (1, .int x1), (2, .int x2), (3, .int x3), (4, .int x4), (5, .int x5)] [.int s0] (J_X7_meeting_95 k38 a0 x1 x2 x3 x4 x5 s0) := by
  unfold J_X7_meeting_95
  refine mv_istore [0, 1, 2, 3, 4, 5] dX7_meeting_95 (by decide) rfl rfl rfl ?_
  refine mv_iload 0 dX7_meeting_97 rfl rfl ?_
  refine mv_if_eq (tgt := 107) dX7_meeting_99 rfl rfl ?_ ?_
  · refine mv_iload 5 dX7_meeting_107 rfl rfl ?_
    refine mv_sub [1, 2, 3, 4, 6] rfl ?_
    exact sJ_X7_meeting_109 l N0 D dA a0 x1 x2 x3 x5 x4 _ hk38
  · refine mv_iload 6 dX7_meeting_102 rfl rfl ?_
    refine mv_goto (q := 109) dX7_meeting_104 rfl ?_
    refine mv_sub [1, 2, 3, 4, 6] rfl ?_
    exact sJ_X7_meeting_109 l N0 D dA a0 x1 x2 x3 x5 x5 _ hk38

def J_X7_meeting_90 (k38 : Int32 → Int32 → mv_M Int32) (a0 : Nat) (x1 : Int32) (x2 : Int32) (x3 : Int32) (x4 : Int32) (x5 : Int32) : mv_M Int32 :=
  J_X7_meeting_95 k38 a0 x1 x2 x3 x4 x5 (1 : Int32)

set_option maxHeartbeats 4000000 in
set_option maxRecDepth 100000 in
theorem sJ_X7_meeting_90 (l : Launch) (N0 : Nat) (D : va_G) (dA : Nat → ClassId) (a0 : Nat) (x1 : Int32) (x2 : Int32) (x3 : Int32) (x4 : Int32) (x5 : Int32) (k38 : Int32 → Int32 → mv_M Int32) (hk38 : ∀ (y4 : Int32) (y5 : Int32), mv_Sim l N0 D dA RX7 cX7_meeting 8 2 44 (some .int) false mv_rI 38 [(0, mv_vr N0 (some a0)), (1, .int x1), (2, .int x2), (3, .int x3), (4, .int y4), (5, .int y5)] [] (k38 y4 y5)) : mv_Sim l N0 D dA RX7 cX7_meeting 8 2 44 (some .int) false mv_rI 90 [(0, mv_vr N0 (some a0)), (1, .int x1), (2, .int x2), (3, .int x3), (4, .int x4), (5, .int x5)] [] (J_X7_meeting_90 k38 a0 x1 x2 x3 x4 x5) := by
  unfold J_X7_meeting_90
  refine mv_iconst (v := (1 : Int32)) dX7_meeting_90 (by decide) rfl ?_
  refine mv_goto (q := 95) dX7_meeting_91 rfl ?_
  refine mv_sub [0, 1, 2, 3, 4, 5] rfl ?_
  exact sJ_X7_meeting_95 l N0 D dA a0 x1 x2 x3 x4 x5 (1 : Int32) _ hk38

def J_X7_meeting_94 (k38 : Int32 → Int32 → mv_M Int32) (a0 : Nat) (x1 : Int32) (x2 : Int32) (x3 : Int32) (x4 : Int32) (x5 : Int32) : mv_M Int32 :=
  J_X7_meeting_95 k38 a0 x1 x2 x3 x4 x5 (0 : Int32)

set_option maxHeartbeats 4000000 in
set_option maxRecDepth 100000 in
theorem sJ_X7_meeting_94 (l : Launch) (N0 : Nat) (D : va_G) (dA : Nat → ClassId) (a0 : Nat) (x1 : Int32) (x2 : Int32) (x3 : Int32) (x4 : Int32) (x5 : Int32) (k38 : Int32 → Int32 → mv_M Int32) (hk38 : ∀ (y4 : Int32) (y5 : Int32), mv_Sim l N0 D dA RX7 cX7_meeting 8 2 44 (some .int) false mv_rI 38 [(0, mv_vr N0 (some a0)), (1, .int x1), (2, .int x2), (3, .int x3), (4, .int y4), (5, .int y5)] [] (k38 y4 y5)) : mv_Sim l N0 D dA RX7 cX7_meeting 8 2 44 (some .int) false mv_rI 94 [(0, mv_vr N0 (some a0)), (1, .int x1), (2, .int x2), (3, .int x3), (4, .int x4), (5, .int x5)] [] (J_X7_meeting_94 k38 a0 x1 x2 x3 x4 x5) := by
  unfold J_X7_meeting_94
  refine mv_iconst (v := (0 : Int32)) dX7_meeting_94 (by decide) rfl ?_
  refine mv_sub [0, 1, 2, 3, 4, 5] rfl ?_
  exact sJ_X7_meeting_95 l N0 D dA a0 x1 x2 x3 x4 x5 (0 : Int32) _ hk38

def Lp_X7_meeting_38 (a0 : Nat) (x1 : Int32) (x2 : Int32) (x3 : Int32) : Nat → Int32 → Int32 → mv_M Int32
  | 0, _, _ => mv_fl
  | n + 1, x4, x5 =>
    mv_bd (mv_gR 7 12 0 (some a0)) fun v1 =>
    mv_bd (mv_aI v1 (0 : Int32)) fun v2 =>
    if x5 ≤ v2 then
      mv_pu x4
    else
      mv_bd (mv_rc 7 12 (some a0)) fun i4 => mv_bd (F_X7_townOf i4 x1 x5) fun v3 =>
      if v3 < 0 then
        J_X7_meeting_94 (Lp_X7_meeting_38 a0 x1 x2 x3 n) a0 x1 x2 x3 x4 x5
      else
        mv_bd (mv_rc 7 12 (some a0)) fun i6 => mv_bd (F_X7_townOf i6 x2 x5) fun v5 =>
        if v3 = v5 then
          if x3 = 0 then
            J_X7_meeting_90 (Lp_X7_meeting_38 a0 x1 x2 x3 n) a0 x1 x2 x3 x4 x5
          else
            mv_bd (mv_rc 7 12 (some a0)) fun i8 => mv_bd (F_X7_stallOn i8 x5) fun v7 =>
            if v3 = v7 then
              J_X7_meeting_90 (Lp_X7_meeting_38 a0 x1 x2 x3 n) a0 x1 x2 x3 x4 x5
            else
              J_X7_meeting_94 (Lp_X7_meeting_38 a0 x1 x2 x3 n) a0 x1 x2 x3 x4 x5
        else
          J_X7_meeting_94 (Lp_X7_meeting_38 a0 x1 x2 x3 n) a0 x1 x2 x3 x4 x5

set_option maxHeartbeats 4000000 in
set_option maxRecDepth 100000 in
theorem sLp_X7_meeting_38 (l : Launch) (N0 : Nat) (D : va_G) (dA : Nat → ClassId) (a0 : Nat) (x1 : Int32) (x2 : Int32) (x3 : Int32) : ∀ (n : Nat) (x4 : Int32) (x5 : Int32), mv_Sim l N0 D dA RX7 cX7_meeting 8 2 44 (some .int) false mv_rI 38 [(0, mv_vr N0 (some a0)), (1, .int x1), (2, .int x2), (3, .int x3), (4, .int x4), (5, .int x5)] [] (Lp_X7_meeting_38 a0 x1 x2 x3 n x4 x5) := by
  intro n
  induction n with
  | zero => intro x4 x5; rw [Lp_X7_meeting_38]; exact mv_fl_sim
  | succ n ih =>
    intro x4 x5
    rw [Lp_X7_meeting_38]
    refine mv_iload 5 dX7_meeting_38 rfl rfl ?_
    refine mv_aload_n 0 dX7_meeting_40 rfl rfl rfl ?_
    refine mv_getR fd_X7_0 lk_X7_7 dX7_meeting_41 rfl (fun v1 => ?_)
    refine mv_iconst (v := (0 : Int32)) dX7_meeting_44 (by decide) rfl ?_
    refine mv_iald dX7_meeting_45 rfl (fun v2 => ?_)
    refine mv_icmp_le (tgt := 117) dX7_meeting_46 rfl rfl ?_ ?_
    · refine mv_iload 4 dX7_meeting_117 rfl rfl ?_
      exact mv_iret dX7_meeting_119
    · refine mv_aload_n 0 dX7_meeting_49 rfl rfl rfl ?_
      refine mv_iload_n 1 dX7_meeting_50 rfl rfl rfl ?_
      refine mv_iload 5 dX7_meeting_51 rfl rfl ?_
      refine mv_callVi (st := []) [.int x1, .int x5] (fun i4 => c_X7_townOf l N0 D dA i4 x1 x5) (T := TX7) rfl (by decide) wc_X7_47 ⟨by decide, by decide⟩ rfl (mv_cs (Nat.le_of_ble_eq_true rfl) (fun _ h => absurd h List.not_mem_nil)) dX7_meeting_53 rfl (fun v3 => ?_)
      refine mv_istore [0, 1, 2, 3, 4, 5] dX7_meeting_56 (by decide) rfl rfl rfl ?_
      refine mv_iload 0 dX7_meeting_58 rfl rfl ?_
      refine mv_if_lt (tgt := 94) dX7_meeting_60 rfl rfl ?_ ?_
      · refine mv_sub [1, 2, 3, 4, 5, 6] rfl ?_
        exact sJ_X7_meeting_94 l N0 D dA a0 x1 x2 x3 x4 x5 _ ih
      · refine mv_iload 0 dX7_meeting_63 rfl rfl ?_
        refine mv_aload_n 1 dX7_meeting_65 rfl rfl rfl ?_
        refine mv_iload_n 3 dX7_meeting_66 rfl rfl rfl ?_
        refine mv_iload 6 dX7_meeting_67 rfl rfl ?_
        refine mv_callVi (st := [.int v3]) [.int x2, .int x5] (fun i6 => c_X7_townOf l N0 D dA i6 x2 x5) (T := TX7) rfl (by decide) wc_X7_47 ⟨by decide, by decide⟩ rfl (mv_cs (Nat.le_of_ble_eq_true rfl) (List.forall_mem_cons.mpr ⟨rfl, fun _ h => absurd h List.not_mem_nil⟩)) dX7_meeting_69 rfl (fun v5 => ?_)
        refine mv_icmp_ne (tgt := 94) dX7_meeting_72 rfl rfl ?_ ?_
        · refine mv_sub [1, 2, 3, 4, 5, 6] rfl ?_
          exact sJ_X7_meeting_94 l N0 D dA a0 x1 x2 x3 x4 x5 _ ih
        · refine mv_iload_n 4 dX7_meeting_75 rfl rfl rfl ?_
          refine mv_if_eq (tgt := 90) dX7_meeting_76 rfl rfl ?_ ?_
          · refine mv_sub [1, 2, 3, 4, 5, 6] rfl ?_
            exact sJ_X7_meeting_90 l N0 D dA a0 x1 x2 x3 x4 x5 _ ih
          · refine mv_iload 0 dX7_meeting_79 rfl rfl ?_
            refine mv_aload_n 1 dX7_meeting_81 rfl rfl rfl ?_
            refine mv_iload 6 dX7_meeting_82 rfl rfl ?_
            refine mv_callVi (st := [.int v3]) [.int x5] (fun i8 => c_X7_stallOn l N0 D dA i8 x5) (T := TX7) rfl (by decide) wc_X7_54 ⟨by decide, by decide⟩ rfl (mv_cs (Nat.le_of_ble_eq_true rfl) (List.forall_mem_cons.mpr ⟨rfl, fun _ h => absurd h List.not_mem_nil⟩)) dX7_meeting_84 rfl (fun v7 => ?_)
            refine mv_icmp_ne (tgt := 94) dX7_meeting_87 rfl rfl ?_ ?_
            · refine mv_sub [1, 2, 3, 4, 5, 6] rfl ?_
              exact sJ_X7_meeting_94 l N0 D dA a0 x1 x2 x3 x4 x5 _ ih
            · refine mv_sub [1, 2, 3, 4, 5, 6] rfl ?_
              exact sJ_X7_meeting_90 l N0 D dA a0 x1 x2 x3 x4 x5 _ ih

def F_X7_meeting (a0 : Nat) (a1 : Int32) (a2 : Int32) (a3 : Int32) : mv_M Int32 :=
  mv_bd (mv_rc 7 12 (some a0)) fun i10 => mv_bd (F_X7_isCarrier i10 a1) fun v9 =>
  if v9 = 0 then
    J_X7_meeting_21 a0
  else
    mv_bd (mv_rc 7 12 (some a0)) fun i12 => mv_bd (F_X7_isCarrier i12 a2) fun v11 =>
    if v11 = 0 then
      J_X7_meeting_21 a0
    else
      if a1 = a2 then
        J_X7_meeting_21 a0
      else
        mv_bd (mv_gR 7 12 0 (some a0)) fun v13 =>
        mv_bd (mv_aI v13 (0 : Int32)) fun v14 =>
        mv_bd (mv_pu (v14 + (30 : Int32))) fun v15 =>
        Lp_X7_meeting_38 a0 a1 a2 a3 mv_FU ((-4) : Int32) v15

set_option maxHeartbeats 4000000 in
set_option maxRecDepth 100000 in
theorem c_X7_meeting (l : Launch) (N0 : Nat) (D : va_G) (dA : Nat → ClassId) (a0 : Nat) (a1 : Int32) (a2 : Int32) (a3 : Int32) : mv_SimM l N0 D dA yX7_meeting cX7_meeting 8 (some .int) 2 44 mv_rI [.ref (N0 + a0), .int a1, .int a2, .int a3] (F_X7_meeting a0 a1 a2 a3) := by
  refine mv_SimM_of (L0 := [(0, mv_vr N0 (some a0)), (1, .int a1), (2, .int a2), (3, .int a3)]) false (by decide +kernel) (Nat.le_of_ble_eq_true rfl) rfl (List.forall_mem_cons.mpr ⟨mv_cat N0 (some a0), List.forall_mem_cons.mpr ⟨rfl, List.forall_mem_cons.mpr ⟨rfl, List.forall_mem_cons.mpr ⟨rfl, fun _ h => absurd h List.not_mem_nil⟩⟩⟩⟩) (fun z => by cases z) ?_
  unfold F_X7_meeting
  show mv_Sim l N0 D dA RX7 cX7_meeting 8 2 44 (some .int) false mv_rI 0 _ _ _
  refine mv_aload_n 0 dX7_meeting_0 rfl rfl rfl ?_
  refine mv_iload_n 1 dX7_meeting_1 rfl rfl rfl ?_
  refine mv_callVi (st := []) [.int a1] (fun i10 => c_X7_isCarrier l N0 D dA i10 a1) (T := TX7) rfl (by decide) wc_X7_93 ⟨by decide, by decide⟩ rfl (mv_cs (Nat.le_of_ble_eq_true rfl) (fun _ h => absurd h List.not_mem_nil)) dX7_meeting_2 rfl (fun v9 => ?_)
  refine mv_if_eq (tgt := 21) dX7_meeting_5 rfl rfl ?_ ?_
  · refine mv_sub [0] rfl ?_
    exact sJ_X7_meeting_21 l N0 D dA a0
  · refine mv_aload_n 0 dX7_meeting_8 rfl rfl rfl ?_
    refine mv_iload_n 2 dX7_meeting_9 rfl rfl rfl ?_
    refine mv_callVi (st := []) [.int a2] (fun i12 => c_X7_isCarrier l N0 D dA i12 a2) (T := TX7) rfl (by decide) wc_X7_93 ⟨by decide, by decide⟩ rfl (mv_cs (Nat.le_of_ble_eq_true rfl) (fun _ h => absurd h List.not_mem_nil)) dX7_meeting_10 rfl (fun v11 => ?_)
    refine mv_if_eq (tgt := 21) dX7_meeting_13 rfl rfl ?_ ?_
    · refine mv_sub [0] rfl ?_
      exact sJ_X7_meeting_21 l N0 D dA a0
    · refine mv_iload_n 1 dX7_meeting_16 rfl rfl rfl ?_
      refine mv_iload_n 2 dX7_meeting_17 rfl rfl rfl ?_
      refine mv_icmp_ne (tgt := 23) dX7_meeting_18 rfl rfl ?_ ?_
      · refine mv_bipush (v := ((-4) : Int32)) dX7_meeting_23 (by decide) rfl ?_
        refine mv_istore [0, 1, 2, 3] dX7_meeting_25 (by decide) rfl rfl rfl ?_
        refine mv_aload_n 1 dX7_meeting_27 rfl rfl rfl ?_
        refine mv_getR fd_X7_0 lk_X7_7 dX7_meeting_28 rfl (fun v13 => ?_)
        refine mv_iconst (v := (0 : Int32)) dX7_meeting_31 (by decide) rfl ?_
        refine mv_iald dX7_meeting_32 rfl (fun v14 => ?_)
        refine mv_bipush (v := (30 : Int32)) dX7_meeting_33 (by decide) rfl ?_
        refine mv_iadd dX7_meeting_35 rfl ?_
        refine mv_let (fun v15 => ?_)
        refine mv_istore [0, 1, 2, 3, 4] dX7_meeting_36 (by decide) rfl rfl rfl ?_
        refine mv_sub [2, 3, 4, 5, 1, 0] rfl ?_
        exact sLp_X7_meeting_38 l N0 D dA a0 a1 a2 a3 mv_FU ((-4) : Int32) v15
      · refine mv_sub [0] rfl ?_
        exact sJ_X7_meeting_21 l N0 D dA a0

def F_X7_pass (a0 : Nat) (a1 : Int32) : mv_M Int32 :=
  mv_bd (F_X7_in a1 (1 : Int32) (30 : Int32)) fun v1 =>
  if v1 = 0 then
    mv_pu ((-1) : Int32)
  else
    mv_bd (mv_rc 7 12 (some a0)) fun i2 => mv_bd (F_X7_records i2 ) fun _ =>
    mv_bd (mv_rc 7 12 (some a0)) fun i4 => mv_bd (F_X7_goPass i4 a1) fun v3 =>
    mv_pu v3

set_option maxHeartbeats 4000000 in
set_option maxRecDepth 100000 in
theorem c_X7_pass (l : Launch) (N0 : Nat) (D : va_G) (dA : Nat → ClassId) (a0 : Nat) (a1 : Int32) : mv_SimM l N0 D dA yX7_pass cX7_pass 2 (some .int) 8 195 mv_rI [.ref (N0 + a0), .int a1] (F_X7_pass a0 a1) := by
  refine mv_SimM_of (L0 := [(0, mv_vr N0 (some a0)), (1, .int a1)]) false (by decide +kernel) (Nat.le_of_ble_eq_true rfl) rfl (List.forall_mem_cons.mpr ⟨mv_cat N0 (some a0), List.forall_mem_cons.mpr ⟨rfl, fun _ h => absurd h List.not_mem_nil⟩⟩) (fun z => by cases z) ?_
  unfold F_X7_pass
  show mv_Sim l N0 D dA RX7 cX7_pass 2 8 195 (some .int) false mv_rI 0 _ _ _
  refine mv_iload_n 1 dX7_pass_0 rfl rfl rfl ?_
  refine mv_iconst (v := (1 : Int32)) dX7_pass_1 (by decide) rfl ?_
  refine mv_bipush (v := (30 : Int32)) dX7_pass_2 (by decide) rfl ?_
  refine mv_callSi (st := []) [.int a1, .int (1 : Int32), .int (30 : Int32)] (c_X7_in l N0 D dA a1 (1 : Int32) (30 : Int32)) wc_X7_36 ⟨by decide, by decide⟩ rfl (mv_cs (Nat.le_of_ble_eq_true rfl) (fun _ h => absurd h List.not_mem_nil)) dX7_pass_4 rfl (fun v1 => ?_)
  refine mv_if_ne (tgt := 12) dX7_pass_7 rfl rfl ?_ ?_
  · refine mv_aload_n 0 dX7_pass_12 rfl rfl rfl ?_
    refine mv_callVv (st := []) [] (fun i2 => c_X7_records l N0 D dA i2 ) (T := TX7) rfl (by decide) wc_X7_90 ⟨by decide, by decide⟩ rfl (mv_cs (Nat.le_of_ble_eq_true rfl) (fun _ h => absurd h List.not_mem_nil)) dX7_pass_13 rfl ?_
    refine mv_aload_n 0 dX7_pass_16 rfl rfl rfl ?_
    refine mv_iload_n 1 dX7_pass_17 rfl rfl rfl ?_
    refine mv_callVi (st := []) [.int a1] (fun i4 => c_X7_goPass l N0 D dA i4 a1) (T := TX7) rfl (by decide) wc_X7_110 ⟨by decide, by decide⟩ rfl (mv_cs (Nat.le_of_ble_eq_true rfl) (fun _ h => absurd h List.not_mem_nil)) dX7_pass_18 rfl (fun v3 => ?_)
    exact mv_iret dX7_pass_21
  · refine mv_iconst (v := ((-1) : Int32)) dX7_pass_10 (by decide) rfl ?_
    exact mv_iret dX7_pass_11

def F_X7_post (a0 : Nat) (a1 : Int32) (a2 : Int32) : mv_M Int32 :=
  mv_bd (F_X7_isWay a1 a2) fun v1 =>
  if v1 = 0 then
    mv_pu ((-1) : Int32)
  else
    mv_bd (mv_gR 7 12 0 (some a0)) fun v2 =>
    mv_bd (mv_aI v2 (4 : Int32)) fun v3 =>
    if v3 = (8 : Int32) then
      mv_pu ((-3) : Int32)
    else
      mv_bd (mv_rc 7 12 (some a0)) fun i4 => mv_bd (F_X7_records i4 ) fun _ =>
      mv_bd (mv_rc 7 12 (some a0)) fun i6 => mv_bd (F_X7_goPost i6 a1 a2) fun v5 =>
      mv_pu v5

set_option maxHeartbeats 4000000 in
set_option maxRecDepth 100000 in
theorem c_X7_post (l : Launch) (N0 : Nat) (D : va_G) (dA : Nat → ClassId) (a0 : Nat) (a1 : Int32) (a2 : Int32) : mv_SimM l N0 D dA yX7_post cX7_post 3 (some .int) 5 120 mv_rI [.ref (N0 + a0), .int a1, .int a2] (F_X7_post a0 a1 a2) := by
  refine mv_SimM_of (L0 := [(0, mv_vr N0 (some a0)), (1, .int a1), (2, .int a2)]) false (by decide +kernel) (Nat.le_of_ble_eq_true rfl) rfl (List.forall_mem_cons.mpr ⟨mv_cat N0 (some a0), List.forall_mem_cons.mpr ⟨rfl, List.forall_mem_cons.mpr ⟨rfl, fun _ h => absurd h List.not_mem_nil⟩⟩⟩) (fun z => by cases z) ?_
  unfold F_X7_post
  show mv_Sim l N0 D dA RX7 cX7_post 3 5 120 (some .int) false mv_rI 0 _ _ _
  refine mv_iload_n 1 dX7_post_0 rfl rfl rfl ?_
  refine mv_iload_n 2 dX7_post_1 rfl rfl rfl ?_
  refine mv_callSi (st := []) [.int a1, .int a2] (c_X7_isWay l N0 D dA a1 a2) wc_X7_100 ⟨by decide, by decide⟩ rfl (mv_cs (Nat.le_of_ble_eq_true rfl) (fun _ h => absurd h List.not_mem_nil)) dX7_post_2 rfl (fun v1 => ?_)
  refine mv_if_ne (tgt := 10) dX7_post_5 rfl rfl ?_ ?_
  · refine mv_aload_n 0 dX7_post_10 rfl rfl rfl ?_
    refine mv_getR fd_X7_0 lk_X7_7 dX7_post_11 rfl (fun v2 => ?_)
    refine mv_iconst (v := (4 : Int32)) dX7_post_14 (by decide) rfl ?_
    refine mv_iald dX7_post_15 rfl (fun v3 => ?_)
    refine mv_bipush (v := (8 : Int32)) dX7_post_16 (by decide) rfl ?_
    refine mv_icmp_ne (tgt := 24) dX7_post_18 rfl rfl ?_ ?_
    · refine mv_aload_n 0 dX7_post_24 rfl rfl rfl ?_
      refine mv_callVv (st := []) [] (fun i4 => c_X7_records l N0 D dA i4 ) (T := TX7) rfl (by decide) wc_X7_90 ⟨by decide, by decide⟩ rfl (mv_cs (Nat.le_of_ble_eq_true rfl) (fun _ h => absurd h List.not_mem_nil)) dX7_post_25 rfl ?_
      refine mv_aload_n 0 dX7_post_28 rfl rfl rfl ?_
      refine mv_iload_n 1 dX7_post_29 rfl rfl rfl ?_
      refine mv_iload_n 2 dX7_post_30 rfl rfl rfl ?_
      refine mv_callVi (st := []) [.int a1, .int a2] (fun i6 => c_X7_goPost l N0 D dA i6 a1 a2) (T := TX7) rfl (by decide) wc_X7_104 ⟨by decide, by decide⟩ rfl (mv_cs (Nat.le_of_ble_eq_true rfl) (fun _ h => absurd h List.not_mem_nil)) dX7_post_31 rfl (fun v5 => ?_)
      exact mv_iret dX7_post_34
    · refine mv_bipush (v := ((-3) : Int32)) dX7_post_21 (by decide) rfl ?_
      exact mv_iret dX7_post_23
  · refine mv_iconst (v := ((-1) : Int32)) dX7_post_8 (by decide) rfl ?_
    exact mv_iret dX7_post_9

def F_X7_restore (a0 : Nat) : mv_M Int32 :=
  mv_bd (mv_gI 7 12 5 (some a0)) fun v1 =>
  if v1 = 0 then
    mv_pu ((-2) : Int32)
  else
    mv_bd (mv_rc 7 12 (some a0)) fun i2 => mv_bd (F_X7_records i2 ) fun _ =>
    mv_bd (mv_gR 7 12 4 (some a0)) fun v3 =>
    mv_bd (mv_gR 7 12 0 (some a0)) fun v4 =>
    mv_bd (F_X7_copies v3 (0 : Int32) v4 (0 : Int32)) fun _ =>
    mv_bd (mv_gR 7 12 0 (some a0)) fun v5 =>
    mv_bd (mv_aI v5 (0 : Int32)) fun v6 =>
    mv_pu v6

set_option maxHeartbeats 4000000 in
set_option maxRecDepth 100000 in
theorem c_X7_restore (l : Launch) (N0 : Nat) (D : va_G) (dA : Nat → ClassId) (a0 : Nat) : mv_SimM l N0 D dA yX7_restore cX7_restore 1 (some .int) 2 45 mv_rI [.ref (N0 + a0)] (F_X7_restore a0) := by
  refine mv_SimM_of (L0 := [(0, mv_vr N0 (some a0))]) false (by decide +kernel) (Nat.le_of_ble_eq_true rfl) rfl (List.forall_mem_cons.mpr ⟨mv_cat N0 (some a0), fun _ h => absurd h List.not_mem_nil⟩) (fun z => by cases z) ?_
  unfold F_X7_restore
  show mv_Sim l N0 D dA RX7 cX7_restore 1 2 45 (some .int) false mv_rI 0 _ _ _
  refine mv_aload_n 0 dX7_restore_0 rfl rfl rfl ?_
  refine mv_getI fd_X7_5 lk_X7_164 dX7_restore_1 rfl (fun v1 => ?_)
  refine mv_if_ne (tgt := 10) dX7_restore_4 rfl rfl ?_ ?_
  · refine mv_aload_n 0 dX7_restore_10 rfl rfl rfl ?_
    refine mv_callVv (st := []) [] (fun i2 => c_X7_records l N0 D dA i2 ) (T := TX7) rfl (by decide) wc_X7_90 ⟨by decide, by decide⟩ rfl (mv_cs (Nat.le_of_ble_eq_true rfl) (fun _ h => absurd h List.not_mem_nil)) dX7_restore_11 rfl ?_
    refine mv_aload_n 0 dX7_restore_14 rfl rfl rfl ?_
    refine mv_getR fd_X7_4 lk_X7_19 dX7_restore_15 rfl (fun v3 => ?_)
    refine mv_iconst (v := (0 : Int32)) dX7_restore_18 (by decide) rfl ?_
    refine mv_aload_n 0 dX7_restore_19 rfl rfl rfl ?_
    refine mv_getR fd_X7_0 lk_X7_7 dX7_restore_20 rfl (fun v4 => ?_)
    refine mv_iconst (v := (0 : Int32)) dX7_restore_23 (by decide) rfl ?_
    refine mv_callSv (st := []) [mv_vr N0 v3, .int (0 : Int32), mv_vr N0 v4, .int (0 : Int32)] (c_X7_copies l N0 D dA v3 (0 : Int32) v4 (0 : Int32)) wc_X7_32 ⟨by decide, by decide⟩ rfl (mv_cs (Nat.le_of_ble_eq_true rfl) (fun _ h => absurd h List.not_mem_nil)) dX7_restore_24 rfl ?_
    refine mv_aload_n 0 dX7_restore_27 rfl rfl rfl ?_
    refine mv_getR fd_X7_0 lk_X7_7 dX7_restore_28 rfl (fun v5 => ?_)
    refine mv_iconst (v := (0 : Int32)) dX7_restore_31 (by decide) rfl ?_
    refine mv_iald dX7_restore_32 rfl (fun v6 => ?_)
    exact mv_iret dX7_restore_33
  · refine mv_bipush (v := ((-2) : Int32)) dX7_restore_7 (by decide) rfl ?_
    exact mv_iret dX7_restore_9

def J_X7_rough_18 (a0 : Nat) : mv_M Int32 :=
  mv_pu ((-1) : Int32)

set_option maxHeartbeats 4000000 in
set_option maxRecDepth 100000 in
theorem sJ_X7_rough_18 (l : Launch) (N0 : Nat) (D : va_G) (dA : Nat → ClassId) (a0 : Nat) : mv_Sim l N0 D dA RX7 cX7_rough 4 2 45 (some .int) false mv_rI 18 [(0, mv_vr N0 (some a0))] [] (J_X7_rough_18 a0) := by
  unfold J_X7_rough_18
  refine mv_iconst (v := ((-1) : Int32)) dX7_rough_18 (by decide) rfl ?_
  exact mv_iret dX7_rough_19

def F_X7_rough (a0 : Nat) (a1 : Int32) (a2 : Int32) : mv_M Int32 :=
  mv_bd (mv_rc 7 12 (some a0)) fun i2 => mv_bd (F_X7_isCarrier i2 a1) fun v1 =>
  if v1 = 0 then
    J_X7_rough_18 a0
  else
    mv_bd (F_X7_in a2 (0 : Int32) (9 : Int32)) fun v3 =>
    if v3 = 0 then
      J_X7_rough_18 a0
    else
      mv_bd (mv_rc 7 12 (some a0)) fun i4 => mv_bd (F_X7_records i4 ) fun _ =>
      mv_bd (mv_rc 7 12 (some a0)) fun i6 => mv_bd (F_X7_ofCarrier i6 a1 (8 : Int32)) fun v5 =>
      mv_bd (mv_gR 7 12 0 (some a0)) fun v7 =>
      mv_bd (mv_aS v7 (((16 : Int32) + ((12 : Int32) * a1)) + (8 : Int32)) a2) fun _ =>
      mv_pu v5

set_option maxHeartbeats 4000000 in
set_option maxRecDepth 100000 in
theorem c_X7_rough (l : Launch) (N0 : Nat) (D : va_G) (dA : Nat → ClassId) (a0 : Nat) (a1 : Int32) (a2 : Int32) : mv_SimM l N0 D dA yX7_rough cX7_rough 4 (some .int) 2 45 mv_rI [.ref (N0 + a0), .int a1, .int a2] (F_X7_rough a0 a1 a2) := by
  refine mv_SimM_of (L0 := [(0, mv_vr N0 (some a0)), (1, .int a1), (2, .int a2)]) false (by decide +kernel) (Nat.le_of_ble_eq_true rfl) rfl (List.forall_mem_cons.mpr ⟨mv_cat N0 (some a0), List.forall_mem_cons.mpr ⟨rfl, List.forall_mem_cons.mpr ⟨rfl, fun _ h => absurd h List.not_mem_nil⟩⟩⟩) (fun z => by cases z) ?_
  unfold F_X7_rough
  show mv_Sim l N0 D dA RX7 cX7_rough 4 2 45 (some .int) false mv_rI 0 _ _ _
  refine mv_aload_n 0 dX7_rough_0 rfl rfl rfl ?_
  refine mv_iload_n 1 dX7_rough_1 rfl rfl rfl ?_
  refine mv_callVi (st := []) [.int a1] (fun i2 => c_X7_isCarrier l N0 D dA i2 a1) (T := TX7) rfl (by decide) wc_X7_93 ⟨by decide, by decide⟩ rfl (mv_cs (Nat.le_of_ble_eq_true rfl) (fun _ h => absurd h List.not_mem_nil)) dX7_rough_2 rfl (fun v1 => ?_)
  refine mv_if_eq (tgt := 18) dX7_rough_5 rfl rfl ?_ ?_
  · refine mv_sub [0] rfl ?_
    exact sJ_X7_rough_18 l N0 D dA a0
  · refine mv_iload_n 2 dX7_rough_8 rfl rfl rfl ?_
    refine mv_iconst (v := (0 : Int32)) dX7_rough_9 (by decide) rfl ?_
    refine mv_bipush (v := (9 : Int32)) dX7_rough_10 (by decide) rfl ?_
    refine mv_callSi (st := []) [.int a2, .int (0 : Int32), .int (9 : Int32)] (c_X7_in l N0 D dA a2 (0 : Int32) (9 : Int32)) wc_X7_36 ⟨by decide, by decide⟩ rfl (mv_cs (Nat.le_of_ble_eq_true rfl) (fun _ h => absurd h List.not_mem_nil)) dX7_rough_12 rfl (fun v3 => ?_)
    refine mv_if_ne (tgt := 20) dX7_rough_15 rfl rfl ?_ ?_
    · refine mv_aload_n 0 dX7_rough_20 rfl rfl rfl ?_
      refine mv_callVv (st := []) [] (fun i4 => c_X7_records l N0 D dA i4 ) (T := TX7) rfl (by decide) wc_X7_90 ⟨by decide, by decide⟩ rfl (mv_cs (Nat.le_of_ble_eq_true rfl) (fun _ h => absurd h List.not_mem_nil)) dX7_rough_21 rfl ?_
      refine mv_aload_n 0 dX7_rough_24 rfl rfl rfl ?_
      refine mv_iload_n 1 dX7_rough_25 rfl rfl rfl ?_
      refine mv_bipush (v := (8 : Int32)) dX7_rough_26 (by decide) rfl ?_
      refine mv_callVi (st := []) [.int a1, .int (8 : Int32)] (fun i6 => c_X7_ofCarrier l N0 D dA i6 a1 (8 : Int32)) (T := TX7) rfl (by decide) wc_X7_40 ⟨by decide, by decide⟩ rfl (mv_cs (Nat.le_of_ble_eq_true rfl) (fun _ h => absurd h List.not_mem_nil)) dX7_rough_28 rfl (fun v5 => ?_)
      refine mv_istore_n [0, 1, 2] dX7_rough_31 rfl (by decide) rfl rfl rfl ?_
      refine mv_aload_n 1 dX7_rough_32 rfl rfl rfl ?_
      refine mv_getR fd_X7_0 lk_X7_7 dX7_rough_33 rfl (fun v7 => ?_)
      refine mv_bipush (v := (16 : Int32)) dX7_rough_36 (by decide) rfl ?_
      refine mv_bipush (v := (12 : Int32)) dX7_rough_38 (by decide) rfl ?_
      refine mv_iload_n 2 dX7_rough_40 rfl rfl rfl ?_
      refine mv_imul dX7_rough_41 rfl ?_
      refine mv_iadd dX7_rough_42 rfl ?_
      refine mv_bipush (v := (8 : Int32)) dX7_rough_43 (by decide) rfl ?_
      refine mv_iadd dX7_rough_45 rfl ?_
      refine mv_iload_n 3 dX7_rough_46 rfl rfl rfl ?_
      refine mv_iast dX7_rough_47 rfl ?_
      refine mv_iload_n 0 dX7_rough_48 rfl rfl rfl ?_
      exact mv_iret dX7_rough_49
    · refine mv_sub [0] rfl ?_
      exact sJ_X7_rough_18 l N0 D dA a0

def F_X7_save (a0 : Nat) : mv_M Int32 :=
  mv_bd (mv_gR 7 12 0 (some a0)) fun v1 =>
  mv_bd (mv_gR 7 12 4 (some a0)) fun v2 =>
  mv_bd (F_X7_copies v1 (0 : Int32) v2 (0 : Int32)) fun _ =>
  mv_bd (mv_sZ 7 12 5 (some a0) (1 : Int32)) fun _ =>
  mv_bd (mv_gR 7 12 0 (some a0)) fun v3 =>
  mv_bd (mv_aI v3 (0 : Int32)) fun v4 =>
  mv_pu v4

set_option maxHeartbeats 4000000 in
set_option maxRecDepth 100000 in
theorem c_X7_save (l : Launch) (N0 : Nat) (D : va_G) (dA : Nat → ClassId) (a0 : Nat) : mv_SimM l N0 D dA yX7_save cX7_save 1 (some .int) 1 24 mv_rI [.ref (N0 + a0)] (F_X7_save a0) := by
  refine mv_SimM_of (L0 := [(0, mv_vr N0 (some a0))]) false (by decide +kernel) (Nat.le_of_ble_eq_true rfl) rfl (List.forall_mem_cons.mpr ⟨mv_cat N0 (some a0), fun _ h => absurd h List.not_mem_nil⟩) (fun z => by cases z) ?_
  unfold F_X7_save
  show mv_Sim l N0 D dA RX7 cX7_save 1 1 24 (some .int) false mv_rI 0 _ _ _
  refine mv_aload_n 0 dX7_save_0 rfl rfl rfl ?_
  refine mv_getR fd_X7_0 lk_X7_7 dX7_save_1 rfl (fun v1 => ?_)
  refine mv_iconst (v := (0 : Int32)) dX7_save_4 (by decide) rfl ?_
  refine mv_aload_n 0 dX7_save_5 rfl rfl rfl ?_
  refine mv_getR fd_X7_4 lk_X7_19 dX7_save_6 rfl (fun v2 => ?_)
  refine mv_iconst (v := (0 : Int32)) dX7_save_9 (by decide) rfl ?_
  refine mv_callSv (st := []) [mv_vr N0 v1, .int (0 : Int32), mv_vr N0 v2, .int (0 : Int32)] (c_X7_copies l N0 D dA v1 (0 : Int32) v2 (0 : Int32)) wc_X7_32 ⟨by decide, by decide⟩ rfl (mv_cs (Nat.le_of_ble_eq_true rfl) (fun _ h => absurd h List.not_mem_nil)) dX7_save_10 rfl ?_
  refine mv_aload_n 0 dX7_save_13 rfl rfl rfl ?_
  refine mv_iconst (v := (1 : Int32)) dX7_save_14 (by decide) rfl ?_
  refine mv_putZ fd_X7_5 rfl (tyX7_ok 5 (by decide)) lk_X7_164 dX7_save_15 rfl ?_
  refine mv_aload_n 0 dX7_save_18 rfl rfl rfl ?_
  refine mv_getR fd_X7_0 lk_X7_7 dX7_save_19 rfl (fun v3 => ?_)
  refine mv_iconst (v := (0 : Int32)) dX7_save_22 (by decide) rfl ?_
  refine mv_iald dX7_save_23 rfl (fun v4 => ?_)
  exact mv_iret dX7_save_24

def J_X7_stall_20 (a0 : Nat) : mv_M Int32 :=
  mv_pu ((-1) : Int32)

set_option maxHeartbeats 4000000 in
set_option maxRecDepth 100000 in
theorem sJ_X7_stall_20 (l : Launch) (N0 : Nat) (D : va_G) (dA : Nat → ClassId) (a0 : Nat) : mv_Sim l N0 D dA RX7 cX7_stall 4 2 45 (some .int) false mv_rI 20 [(0, mv_vr N0 (some a0))] [] (J_X7_stall_20 a0) := by
  unfold J_X7_stall_20
  refine mv_iconst (v := ((-1) : Int32)) dX7_stall_20 (by decide) rfl ?_
  exact mv_iret dX7_stall_21

def F_X7_stall (a0 : Nat) (a1 : Int32) (a2 : Int32) : mv_M Int32 :=
  mv_bd (F_X7_in a1 (0 : Int32) (6 : Int32)) fun v1 =>
  if v1 = 0 then
    J_X7_stall_20 a0
  else
    mv_bd (F_X7_in a2 (0 : Int32) (6 : Int32)) fun v2 =>
    if v2 = 0 then
      J_X7_stall_20 a0
    else
      mv_bd (mv_rc 7 12 (some a0)) fun i3 => mv_bd (F_X7_records i3 ) fun _ =>
      mv_bd (mv_gR 7 12 0 (some a0)) fun v4 =>
      mv_bd (mv_aI v4 ((9 : Int32) + a1)) fun v5 =>
      mv_bd (mv_gR 7 12 0 (some a0)) fun v6 =>
      mv_bd (mv_aS v6 ((9 : Int32) + a1) a2) fun _ =>
      mv_pu v5

set_option maxHeartbeats 4000000 in
set_option maxRecDepth 100000 in
theorem c_X7_stall (l : Launch) (N0 : Nat) (D : va_G) (dA : Nat → ClassId) (a0 : Nat) (a1 : Int32) (a2 : Int32) : mv_SimM l N0 D dA yX7_stall cX7_stall 4 (some .int) 2 45 mv_rI [.ref (N0 + a0), .int a1, .int a2] (F_X7_stall a0 a1 a2) := by
  refine mv_SimM_of (L0 := [(0, mv_vr N0 (some a0)), (1, .int a1), (2, .int a2)]) false (by decide +kernel) (Nat.le_of_ble_eq_true rfl) rfl (List.forall_mem_cons.mpr ⟨mv_cat N0 (some a0), List.forall_mem_cons.mpr ⟨rfl, List.forall_mem_cons.mpr ⟨rfl, fun _ h => absurd h List.not_mem_nil⟩⟩⟩) (fun z => by cases z) ?_
  unfold F_X7_stall
  show mv_Sim l N0 D dA RX7 cX7_stall 4 2 45 (some .int) false mv_rI 0 _ _ _
  refine mv_iload_n 1 dX7_stall_0 rfl rfl rfl ?_
  refine mv_iconst (v := (0 : Int32)) dX7_stall_1 (by decide) rfl ?_
  refine mv_bipush (v := (6 : Int32)) dX7_stall_2 (by decide) rfl ?_
  refine mv_callSi (st := []) [.int a1, .int (0 : Int32), .int (6 : Int32)] (c_X7_in l N0 D dA a1 (0 : Int32) (6 : Int32)) wc_X7_36 ⟨by decide, by decide⟩ rfl (mv_cs (Nat.le_of_ble_eq_true rfl) (fun _ h => absurd h List.not_mem_nil)) dX7_stall_4 rfl (fun v1 => ?_)
  refine mv_if_eq (tgt := 20) dX7_stall_7 rfl rfl ?_ ?_
  · refine mv_sub [0] rfl ?_
    exact sJ_X7_stall_20 l N0 D dA a0
  · refine mv_iload_n 2 dX7_stall_10 rfl rfl rfl ?_
    refine mv_iconst (v := (0 : Int32)) dX7_stall_11 (by decide) rfl ?_
    refine mv_bipush (v := (6 : Int32)) dX7_stall_12 (by decide) rfl ?_
    refine mv_callSi (st := []) [.int a2, .int (0 : Int32), .int (6 : Int32)] (c_X7_in l N0 D dA a2 (0 : Int32) (6 : Int32)) wc_X7_36 ⟨by decide, by decide⟩ rfl (mv_cs (Nat.le_of_ble_eq_true rfl) (fun _ h => absurd h List.not_mem_nil)) dX7_stall_14 rfl (fun v2 => ?_)
    refine mv_if_ne (tgt := 22) dX7_stall_17 rfl rfl ?_ ?_
    · refine mv_aload_n 0 dX7_stall_22 rfl rfl rfl ?_
      refine mv_callVv (st := []) [] (fun i3 => c_X7_records l N0 D dA i3 ) (T := TX7) rfl (by decide) wc_X7_90 ⟨by decide, by decide⟩ rfl (mv_cs (Nat.le_of_ble_eq_true rfl) (fun _ h => absurd h List.not_mem_nil)) dX7_stall_23 rfl ?_
      refine mv_aload_n 0 dX7_stall_26 rfl rfl rfl ?_
      refine mv_getR fd_X7_0 lk_X7_7 dX7_stall_27 rfl (fun v4 => ?_)
      refine mv_bipush (v := (9 : Int32)) dX7_stall_30 (by decide) rfl ?_
      refine mv_iload_n 1 dX7_stall_32 rfl rfl rfl ?_
      refine mv_iadd dX7_stall_33 rfl ?_
      refine mv_iald dX7_stall_34 rfl (fun v5 => ?_)
      refine mv_istore_n [0, 1, 2] dX7_stall_35 rfl (by decide) rfl rfl rfl ?_
      refine mv_aload_n 1 dX7_stall_36 rfl rfl rfl ?_
      refine mv_getR fd_X7_0 lk_X7_7 dX7_stall_37 rfl (fun v6 => ?_)
      refine mv_bipush (v := (9 : Int32)) dX7_stall_40 (by decide) rfl ?_
      refine mv_iload_n 2 dX7_stall_42 rfl rfl rfl ?_
      refine mv_iadd dX7_stall_43 rfl ?_
      refine mv_iload_n 3 dX7_stall_44 rfl rfl rfl ?_
      refine mv_iast dX7_stall_45 rfl ?_
      refine mv_iload_n 0 dX7_stall_46 rfl rfl rfl ?_
      exact mv_iret dX7_stall_47
    · refine mv_sub [0] rfl ?_
      exact sJ_X7_stall_20 l N0 D dA a0

def J_X7_tours_109 (k58 : Int32 → mv_M Int32) (a0 : Nat) (x1 : Int32) (x2 : Int32) (x3 : Int32) (s0 : Option Nat) (s1 : Int32) (s2 : Int32) : mv_M Int32 :=
  mv_bd (mv_aS s0 s1 s2) fun _ =>
  k58 (x3 + (1 : Int32))

set_option maxHeartbeats 4000000 in
set_option maxRecDepth 100000 in
theorem sJ_X7_tours_109 (l : Launch) (N0 : Nat) (D : va_G) (dA : Nat → ClassId) (a0 : Nat) (x1 : Int32) (x2 : Int32) (x3 : Int32) (s0 : Option Nat) (s1 : Int32) (s2 : Int32) (k58 : Int32 → mv_M Int32) (hk58 : ∀ (y3 : Int32), mv_Sim l N0 D dA RX7 cX7_tours 4 4 88 (some .int) false mv_rI 58 [(0, mv_vr N0 (some a0)), (1, .int x1), (2, .int x2), (3, .int y3)] [] (k58 y3)) : mv_Sim l N0 D dA RX7 cX7_tours 4 4 88 (some .int) false mv_rI 109 [(0, mv_vr N0 (some a0)), (1, .int x1), (2, .int x2), (3, .int x3)] [.int s2, .int s1, mv_vr N0 s0] (J_X7_tours_109 k58 a0 x1 x2 x3 s0 s1 s2) := by
  unfold J_X7_tours_109
  refine mv_iast dX7_tours_109 rfl ?_
  refine mv_iinc (y := (x3 + (1 : Int32))) 3 [0, 1, 2] dX7_tours_110 rfl rfl (by decide) rfl rfl rfl ?_
  refine mv_goto (q := 58) dX7_tours_113 rfl ?_
  refine mv_sub [1, 2, 3, 0] rfl ?_
  exact hk58 (x3 + (1 : Int32))

def J_X7_tours_94 (k58 : Int32 → mv_M Int32) (a0 : Nat) (x1 : Int32) (x2 : Int32) (x3 : Int32) (s0 : Option Nat) (s1 : Int32) : mv_M Int32 :=
  mv_bd (mv_gR 7 12 11 (some a0)) fun v1 =>
  mv_bd (mv_aI v1 (((9 : Int32) * x1) + x3)) fun v2 =>
  J_X7_tours_109 k58 a0 x1 x2 x3 s0 s1 v2

set_option maxHeartbeats 4000000 in
set_option maxRecDepth 100000 in
theorem sJ_X7_tours_94 (l : Launch) (N0 : Nat) (D : va_G) (dA : Nat → ClassId) (a0 : Nat) (x1 : Int32) (x2 : Int32) (x3 : Int32) (s0 : Option Nat) (s1 : Int32) (k58 : Int32 → mv_M Int32) (hk58 : ∀ (y3 : Int32), mv_Sim l N0 D dA RX7 cX7_tours 4 4 88 (some .int) false mv_rI 58 [(0, mv_vr N0 (some a0)), (1, .int x1), (2, .int x2), (3, .int y3)] [] (k58 y3)) : mv_Sim l N0 D dA RX7 cX7_tours 4 4 88 (some .int) false mv_rI 94 [(0, mv_vr N0 (some a0)), (1, .int x1), (2, .int x2), (3, .int x3)] [.int s1, mv_vr N0 s0] (J_X7_tours_94 k58 a0 x1 x2 x3 s0 s1) := by
  unfold J_X7_tours_94
  refine mv_aload_n 0 dX7_tours_94 rfl rfl rfl ?_
  refine mv_getR fd_X7_11 lk_X7_25 dX7_tours_95 rfl (fun v1 => ?_)
  refine mv_bipush (v := (9 : Int32)) dX7_tours_98 (by decide) rfl ?_
  refine mv_iload_n 1 dX7_tours_100 rfl rfl rfl ?_
  refine mv_imul dX7_tours_101 rfl ?_
  refine mv_iload_n 3 dX7_tours_102 rfl rfl rfl ?_
  refine mv_iadd dX7_tours_103 rfl ?_
  refine mv_iald dX7_tours_104 rfl (fun v2 => ?_)
  refine mv_goto (q := 109) dX7_tours_105 rfl ?_
  refine mv_sub [0, 1, 2, 3] rfl ?_
  exact sJ_X7_tours_109 l N0 D dA a0 x1 x2 x3 s0 s1 v2 _ hk58

def Lp_X7_tours_58 (k35 : Int32 → mv_M Int32) (a0 : Nat) (x1 : Int32) (x2 : Int32) : Nat → Int32 → mv_M Int32
  | 0, _ => mv_fl
  | n + 1, x3 =>
    if (9 : Int32) ≤ x3 then
      mv_bd (mv_gR 7 12 0 (some a0)) fun v3 =>
      mv_bd (mv_aS v3 (x2 + (9 : Int32)) (0 : Int32)) fun _ =>
      mv_bd (mv_gR 7 12 0 (some a0)) fun v4 =>
      mv_bd (mv_aS v4 (x2 + (10 : Int32)) (0 : Int32)) fun _ =>
      mv_bd (mv_gR 7 12 0 (some a0)) fun v5 =>
      mv_bd (mv_aS v5 (x2 + (11 : Int32)) (0 : Int32)) fun _ =>
      mv_bd (mv_gR 7 12 0 (some a0)) fun v6 =>
      mv_bd (mv_aI v6 (3 : Int32)) fun v7 =>
      mv_bd (mv_aS v6 (3 : Int32) (v7 + (1 : Int32))) fun _ =>
      k35 (x1 + (1 : Int32))
    else
      mv_bd (mv_gR 7 12 0 (some a0)) fun v8 =>
      if x3 = 0 then
        J_X7_tours_94 (Lp_X7_tours_58 k35 a0 x1 x2 n) a0 x1 x2 x3 v8 (x2 + x3)
      else
        if x3 = (8 : Int32) then
          J_X7_tours_94 (Lp_X7_tours_58 k35 a0 x1 x2 n) a0 x1 x2 x3 v8 (x2 + x3)
        else
          mv_bd (mv_gR 7 12 11 (some a0)) fun v9 =>
          mv_bd (mv_aI v9 ((9 : Int32) * x1)) fun v10 =>
          if v10 < x3 then
            J_X7_tours_109 (Lp_X7_tours_58 k35 a0 x1 x2 n) a0 x1 x2 x3 v8 (x2 + x3) (0 : Int32)
          else
            J_X7_tours_94 (Lp_X7_tours_58 k35 a0 x1 x2 n) a0 x1 x2 x3 v8 (x2 + x3)

set_option maxHeartbeats 4000000 in
set_option maxRecDepth 100000 in
theorem sLp_X7_tours_58 (l : Launch) (N0 : Nat) (D : va_G) (dA : Nat → ClassId) (a0 : Nat) (x1 : Int32) (x2 : Int32) (k35 : Int32 → mv_M Int32) (hk35 : ∀ (y1 : Int32), mv_Sim l N0 D dA RX7 cX7_tours 4 4 88 (some .int) false mv_rI 35 [(0, mv_vr N0 (some a0)), (1, .int y1)] [] (k35 y1)) : ∀ (n : Nat) (x3 : Int32), mv_Sim l N0 D dA RX7 cX7_tours 4 4 88 (some .int) false mv_rI 58 [(0, mv_vr N0 (some a0)), (1, .int x1), (2, .int x2), (3, .int x3)] [] (Lp_X7_tours_58 k35 a0 x1 x2 n x3) := by
  intro n
  induction n with
  | zero => intro x3; rw [Lp_X7_tours_58]; exact mv_fl_sim
  | succ n ih =>
    intro x3
    rw [Lp_X7_tours_58]
    refine mv_iload_n 3 dX7_tours_58 rfl rfl rfl ?_
    refine mv_bipush (v := (9 : Int32)) dX7_tours_59 (by decide) rfl ?_
    refine mv_icmp_ge (tgt := 116) dX7_tours_61 rfl rfl ?_ ?_
    · refine mv_aload_n 0 dX7_tours_116 rfl rfl rfl ?_
      refine mv_getR fd_X7_0 lk_X7_7 dX7_tours_117 rfl (fun v3 => ?_)
      refine mv_iload_n 2 dX7_tours_120 rfl rfl rfl ?_
      refine mv_bipush (v := (9 : Int32)) dX7_tours_121 (by decide) rfl ?_
      refine mv_iadd dX7_tours_123 rfl ?_
      refine mv_iconst (v := (0 : Int32)) dX7_tours_124 (by decide) rfl ?_
      refine mv_iast dX7_tours_125 rfl ?_
      refine mv_aload_n 0 dX7_tours_126 rfl rfl rfl ?_
      refine mv_getR fd_X7_0 lk_X7_7 dX7_tours_127 rfl (fun v4 => ?_)
      refine mv_iload_n 2 dX7_tours_130 rfl rfl rfl ?_
      refine mv_bipush (v := (10 : Int32)) dX7_tours_131 (by decide) rfl ?_
      refine mv_iadd dX7_tours_133 rfl ?_
      refine mv_iconst (v := (0 : Int32)) dX7_tours_134 (by decide) rfl ?_
      refine mv_iast dX7_tours_135 rfl ?_
      refine mv_aload_n 0 dX7_tours_136 rfl rfl rfl ?_
      refine mv_getR fd_X7_0 lk_X7_7 dX7_tours_137 rfl (fun v5 => ?_)
      refine mv_iload_n 2 dX7_tours_140 rfl rfl rfl ?_
      refine mv_bipush (v := (11 : Int32)) dX7_tours_141 (by decide) rfl ?_
      refine mv_iadd dX7_tours_143 rfl ?_
      refine mv_iconst (v := (0 : Int32)) dX7_tours_144 (by decide) rfl ?_
      refine mv_iast dX7_tours_145 rfl ?_
      refine mv_aload_n 0 dX7_tours_146 rfl rfl rfl ?_
      refine mv_getR fd_X7_0 lk_X7_7 dX7_tours_147 rfl (fun v6 => ?_)
      refine mv_iconst (v := (3 : Int32)) dX7_tours_150 (by decide) rfl ?_
      refine mv_dup2 dX7_tours_151 rfl (mv_cat N0 v6) rfl ?_
      refine mv_iald dX7_tours_152 rfl (fun v7 => ?_)
      refine mv_iconst (v := (1 : Int32)) dX7_tours_153 (by decide) rfl ?_
      refine mv_iadd dX7_tours_154 rfl ?_
      refine mv_iast dX7_tours_155 rfl ?_
      refine mv_iinc (y := (x1 + (1 : Int32))) 1 [0, 2, 3] dX7_tours_156 rfl rfl (by decide) rfl rfl rfl ?_
      refine mv_goto (q := 35) dX7_tours_159 rfl ?_
      refine mv_sub [1, 0] rfl ?_
      exact hk35 (x1 + (1 : Int32))
    · refine mv_aload_n 0 dX7_tours_64 rfl rfl rfl ?_
      refine mv_getR fd_X7_0 lk_X7_7 dX7_tours_65 rfl (fun v8 => ?_)
      refine mv_iload_n 2 dX7_tours_68 rfl rfl rfl ?_
      refine mv_iload_n 3 dX7_tours_69 rfl rfl rfl ?_
      refine mv_iadd dX7_tours_70 rfl ?_
      refine mv_iload_n 3 dX7_tours_71 rfl rfl rfl ?_
      refine mv_if_eq (tgt := 94) dX7_tours_72 rfl rfl ?_ ?_
      · refine mv_sub [0, 1, 2, 3] rfl ?_
        exact sJ_X7_tours_94 l N0 D dA a0 x1 x2 x3 v8 (x2 + x3) _ ih
      · refine mv_iload_n 3 dX7_tours_75 rfl rfl rfl ?_
        refine mv_bipush (v := (8 : Int32)) dX7_tours_76 (by decide) rfl ?_
        refine mv_icmp_eq (tgt := 94) dX7_tours_78 rfl rfl ?_ ?_
        · refine mv_sub [0, 1, 2, 3] rfl ?_
          exact sJ_X7_tours_94 l N0 D dA a0 x1 x2 x3 v8 (x2 + x3) _ ih
        · refine mv_iload_n 3 dX7_tours_81 rfl rfl rfl ?_
          refine mv_aload_n 0 dX7_tours_82 rfl rfl rfl ?_
          refine mv_getR fd_X7_11 lk_X7_25 dX7_tours_83 rfl (fun v9 => ?_)
          refine mv_bipush (v := (9 : Int32)) dX7_tours_86 (by decide) rfl ?_
          refine mv_iload_n 1 dX7_tours_88 rfl rfl rfl ?_
          refine mv_imul dX7_tours_89 rfl ?_
          refine mv_iald dX7_tours_90 rfl (fun v10 => ?_)
          refine mv_icmp_gt (tgt := 108) dX7_tours_91 rfl rfl ?_ ?_
          · refine mv_iconst (v := (0 : Int32)) dX7_tours_108 (by decide) rfl ?_
            refine mv_sub [0, 1, 2, 3] rfl ?_
            exact sJ_X7_tours_109 l N0 D dA a0 x1 x2 x3 v8 (x2 + x3) (0 : Int32) _ ih
          · refine mv_sub [0, 1, 2, 3] rfl ?_
            exact sJ_X7_tours_94 l N0 D dA a0 x1 x2 x3 v8 (x2 + x3) _ ih

def Lp_X7_tours_35 (a0 : Nat) : Nat → Int32 → mv_M Int32
  | 0, _ => mv_fl
  | n + 1, x1 =>
    mv_bd (mv_gI 7 12 10 (some a0)) fun v11 =>
    if v11 ≤ x1 then
      mv_bd (mv_sI 7 12 7 (some a0) (0 : Int32)) fun _ =>
      mv_bd (mv_gR 7 12 0 (some a0)) fun v12 =>
      mv_bd (mv_aI v12 (3 : Int32)) fun v13 =>
      mv_pu v13
    else
      mv_bd (mv_gR 7 12 0 (some a0)) fun v14 =>
      mv_bd (mv_aI v14 (3 : Int32)) fun v15 =>
      mv_bd (mv_pu ((16 : Int32) + ((12 : Int32) * v15))) fun v16 =>
      Lp_X7_tours_58 (Lp_X7_tours_35 a0 n) a0 x1 v16 mv_FU (0 : Int32)

set_option maxHeartbeats 4000000 in
set_option maxRecDepth 100000 in
theorem sLp_X7_tours_35 (l : Launch) (N0 : Nat) (D : va_G) (dA : Nat → ClassId) (a0 : Nat) : ∀ (n : Nat) (x1 : Int32), mv_Sim l N0 D dA RX7 cX7_tours 4 4 88 (some .int) false mv_rI 35 [(0, mv_vr N0 (some a0)), (1, .int x1)] [] (Lp_X7_tours_35 a0 n x1) := by
  intro n
  induction n with
  | zero => intro x1; rw [Lp_X7_tours_35]; exact mv_fl_sim
  | succ n ih =>
    intro x1
    rw [Lp_X7_tours_35]
    refine mv_iload_n 1 dX7_tours_35 rfl rfl rfl ?_
    refine mv_aload_n 0 dX7_tours_36 rfl rfl rfl ?_
    refine mv_getI fd_X7_10 lk_X7_130 dX7_tours_37 rfl (fun v11 => ?_)
    refine mv_icmp_ge (tgt := 162) dX7_tours_40 rfl rfl ?_ ?_
    · refine mv_aload_n 0 dX7_tours_162 rfl rfl rfl ?_
      refine mv_iconst (v := (0 : Int32)) dX7_tours_163 (by decide) rfl ?_
      refine mv_putI fd_X7_7 rfl (tyX7_ok 7 (by decide)) lk_X7_113 dX7_tours_164 rfl ?_
      refine mv_aload_n 0 dX7_tours_167 rfl rfl rfl ?_
      refine mv_getR fd_X7_0 lk_X7_7 dX7_tours_168 rfl (fun v12 => ?_)
      refine mv_iconst (v := (3 : Int32)) dX7_tours_171 (by decide) rfl ?_
      refine mv_iald dX7_tours_172 rfl (fun v13 => ?_)
      exact mv_iret dX7_tours_173
    · refine mv_bipush (v := (16 : Int32)) dX7_tours_43 (by decide) rfl ?_
      refine mv_bipush (v := (12 : Int32)) dX7_tours_45 (by decide) rfl ?_
      refine mv_aload_n 0 dX7_tours_47 rfl rfl rfl ?_
      refine mv_getR fd_X7_0 lk_X7_7 dX7_tours_48 rfl (fun v14 => ?_)
      refine mv_iconst (v := (3 : Int32)) dX7_tours_51 (by decide) rfl ?_
      refine mv_iald dX7_tours_52 rfl (fun v15 => ?_)
      refine mv_imul dX7_tours_53 rfl ?_
      refine mv_iadd dX7_tours_54 rfl ?_
      refine mv_let (fun v16 => ?_)
      refine mv_istore_n [0, 1] dX7_tours_55 rfl (by decide) rfl rfl rfl ?_
      refine mv_iconst (v := (0 : Int32)) dX7_tours_56 (by decide) rfl ?_
      refine mv_istore_n [0, 1, 2] dX7_tours_57 rfl (by decide) rfl rfl rfl ?_
      refine mv_sub [2, 3, 1, 0] rfl ?_
      exact sLp_X7_tours_58 l N0 D dA a0 x1 v16 _ ih mv_FU (0 : Int32)

def F_X7_tours (a0 : Nat) : mv_M Int32 :=
  mv_bd (mv_rc 7 12 (some a0)) fun i18 => mv_bd (F_X7_isText i18 (1 : Int32)) fun v17 =>
  if v17 = 0 then
    mv_pu ((-2) : Int32)
  else
    mv_bd (mv_gR 7 12 0 (some a0)) fun v19 =>
    mv_bd (mv_aI v19 (3 : Int32)) fun v20 =>
    mv_bd (mv_gI 7 12 10 (some a0)) fun v21 =>
    if (v20 + v21) ≤ (4 : Int32) then
      mv_bd (mv_rc 7 12 (some a0)) fun i22 => mv_bd (F_X7_records i22 ) fun _ =>
      Lp_X7_tours_35 a0 mv_FU (0 : Int32)
    else
      mv_pu ((-3) : Int32)

set_option maxHeartbeats 4000000 in
set_option maxRecDepth 100000 in
theorem c_X7_tours (l : Launch) (N0 : Nat) (D : va_G) (dA : Nat → ClassId) (a0 : Nat) : mv_SimM l N0 D dA yX7_tours cX7_tours 4 (some .int) 4 88 mv_rI [.ref (N0 + a0)] (F_X7_tours a0) := by
  refine mv_SimM_of (L0 := [(0, mv_vr N0 (some a0))]) false (by decide +kernel) (Nat.le_of_ble_eq_true rfl) rfl (List.forall_mem_cons.mpr ⟨mv_cat N0 (some a0), fun _ h => absurd h List.not_mem_nil⟩) (fun z => by cases z) ?_
  unfold F_X7_tours
  show mv_Sim l N0 D dA RX7 cX7_tours 4 4 88 (some .int) false mv_rI 0 _ _ _
  refine mv_aload_n 0 dX7_tours_0 rfl rfl rfl ?_
  refine mv_iconst (v := (1 : Int32)) dX7_tours_1 (by decide) rfl ?_
  refine mv_callVi (st := []) [.int (1 : Int32)] (fun i18 => c_X7_isText l N0 D dA i18 (1 : Int32)) (T := TX7) rfl (by decide) wc_X7_142 ⟨by decide, by decide⟩ rfl (mv_cs (Nat.le_of_ble_eq_true rfl) (fun _ h => absurd h List.not_mem_nil)) dX7_tours_2 rfl (fun v17 => ?_)
  refine mv_if_ne (tgt := 11) dX7_tours_5 rfl rfl ?_ ?_
  · refine mv_aload_n 0 dX7_tours_11 rfl rfl rfl ?_
    refine mv_getR fd_X7_0 lk_X7_7 dX7_tours_12 rfl (fun v19 => ?_)
    refine mv_iconst (v := (3 : Int32)) dX7_tours_15 (by decide) rfl ?_
    refine mv_iald dX7_tours_16 rfl (fun v20 => ?_)
    refine mv_aload_n 0 dX7_tours_17 rfl rfl rfl ?_
    refine mv_getI fd_X7_10 lk_X7_130 dX7_tours_18 rfl (fun v21 => ?_)
    refine mv_iadd dX7_tours_21 rfl ?_
    refine mv_iconst (v := (4 : Int32)) dX7_tours_22 (by decide) rfl ?_
    refine mv_icmp_le (tgt := 29) dX7_tours_23 rfl rfl ?_ ?_
    · refine mv_aload_n 0 dX7_tours_29 rfl rfl rfl ?_
      refine mv_callVv (st := []) [] (fun i22 => c_X7_records l N0 D dA i22 ) (T := TX7) rfl (by decide) wc_X7_90 ⟨by decide, by decide⟩ rfl (mv_cs (Nat.le_of_ble_eq_true rfl) (fun _ h => absurd h List.not_mem_nil)) dX7_tours_30 rfl ?_
      refine mv_iconst (v := (0 : Int32)) dX7_tours_33 (by decide) rfl ?_
      refine mv_istore_n [0] dX7_tours_34 rfl (by decide) rfl rfl rfl ?_
      refine mv_sub [1, 0] rfl ?_
      exact sLp_X7_tours_35 l N0 D dA a0 mv_FU (0 : Int32)
    · refine mv_bipush (v := ((-3) : Int32)) dX7_tours_26 (by decide) rfl ?_
      exact mv_iret dX7_tours_28
  · refine mv_bipush (v := ((-2) : Int32)) dX7_tours_8 (by decide) rfl ?_
    exact mv_iret dX7_tours_10

def F_X7_undo (a0 : Nat) : mv_M Int32 :=
  mv_bd (mv_gI 7 12 3 (some a0)) fun v1 =>
  if v1 = 0 then
    mv_pu ((-2) : Int32)
  else
    mv_bd (mv_gI 7 12 3 (some a0)) fun v2 =>
    mv_bd (mv_sI 7 12 3 (some a0) (v2 - (1 : Int32))) fun _ =>
    mv_bd (mv_gR 7 12 2 (some a0)) fun v3 =>
    mv_bd (mv_gI 7 12 3 (some a0)) fun v4 =>
    mv_bd (mv_gR 7 12 0 (some a0)) fun v5 =>
    mv_bd (F_X7_copies v3 ((128 : Int32) * v4) v5 (0 : Int32)) fun _ =>
    mv_bd (mv_gI 7 12 3 (some a0)) fun v6 =>
    mv_pu v6

set_option maxHeartbeats 4000000 in
set_option maxRecDepth 100000 in
theorem c_X7_undo (l : Launch) (N0 : Nat) (D : va_G) (dA : Nat → ClassId) (a0 : Nat) : mv_SimM l N0 D dA yX7_undo cX7_undo 1 (some .int) 1 24 mv_rI [.ref (N0 + a0)] (F_X7_undo a0) := by
  refine mv_SimM_of (L0 := [(0, mv_vr N0 (some a0))]) false (by decide +kernel) (Nat.le_of_ble_eq_true rfl) rfl (List.forall_mem_cons.mpr ⟨mv_cat N0 (some a0), fun _ h => absurd h List.not_mem_nil⟩) (fun z => by cases z) ?_
  unfold F_X7_undo
  show mv_Sim l N0 D dA RX7 cX7_undo 1 1 24 (some .int) false mv_rI 0 _ _ _
  refine mv_aload_n 0 dX7_undo_0 rfl rfl rfl ?_
  refine mv_getI fd_X7_3 lk_X7_28 dX7_undo_1 rfl (fun v1 => ?_)
  refine mv_if_ne (tgt := 10) dX7_undo_4 rfl rfl ?_ ?_
  · refine mv_aload_n 0 dX7_undo_10 rfl rfl rfl ?_
    refine mv_dup dX7_undo_11 (mv_cat N0 (some a0)) rfl ?_
    refine mv_getI fd_X7_3 lk_X7_28 dX7_undo_12 rfl (fun v2 => ?_)
    refine mv_iconst (v := (1 : Int32)) dX7_undo_15 (by decide) rfl ?_
    refine mv_isub dX7_undo_16 rfl ?_
    refine mv_putI fd_X7_3 rfl (tyX7_ok 3 (by decide)) lk_X7_28 dX7_undo_17 rfl ?_
    refine mv_aload_n 0 dX7_undo_20 rfl rfl rfl ?_
    refine mv_getR fd_X7_2 lk_X7_16 dX7_undo_21 rfl (fun v3 => ?_)
    refine mv_sipush (v := (128 : Int32)) dX7_undo_24 (by decide) rfl ?_
    refine mv_aload_n 0 dX7_undo_27 rfl rfl rfl ?_
    refine mv_getI fd_X7_3 lk_X7_28 dX7_undo_28 rfl (fun v4 => ?_)
    refine mv_imul dX7_undo_31 rfl ?_
    refine mv_aload_n 0 dX7_undo_32 rfl rfl rfl ?_
    refine mv_getR fd_X7_0 lk_X7_7 dX7_undo_33 rfl (fun v5 => ?_)
    refine mv_iconst (v := (0 : Int32)) dX7_undo_36 (by decide) rfl ?_
    refine mv_callSv (st := []) [mv_vr N0 v3, .int ((128 : Int32) * v4), mv_vr N0 v5, .int (0 : Int32)] (c_X7_copies l N0 D dA v3 ((128 : Int32) * v4) v5 (0 : Int32)) wc_X7_32 ⟨by decide, by decide⟩ rfl (mv_cs (Nat.le_of_ble_eq_true rfl) (fun _ h => absurd h List.not_mem_nil)) dX7_undo_37 rfl ?_
    refine mv_aload_n 0 dX7_undo_40 rfl rfl rfl ?_
    refine mv_getI fd_X7_3 lk_X7_28 dX7_undo_41 rfl (fun v6 => ?_)
    exact mv_iret dX7_undo_44
  · refine mv_bipush (v := ((-2) : Int32)) dX7_undo_7 (by decide) rfl ?_
    exact mv_iret dX7_undo_9

def J_X7_where_29 (a0 : Nat) (s0 : Int32) : mv_M Int32 :=
  mv_pu s0

set_option maxHeartbeats 4000000 in
set_option maxRecDepth 100000 in
theorem sJ_X7_where_29 (l : Launch) (N0 : Nat) (D : va_G) (dA : Nat → ClassId) (a0 : Nat) (s0 : Int32) : mv_Sim l N0 D dA RX7 cX7_where 3 2 44 (some .int) false mv_rI 29 [(0, mv_vr N0 (some a0))] [.int s0] (J_X7_where_29 a0 s0) := by
  unfold J_X7_where_29
  exact mv_iret dX7_where_29

def J_X7_where_28 (a0 : Nat) : mv_M Int32 :=
  J_X7_where_29 a0 ((-1) : Int32)

set_option maxHeartbeats 4000000 in
set_option maxRecDepth 100000 in
theorem sJ_X7_where_28 (l : Launch) (N0 : Nat) (D : va_G) (dA : Nat → ClassId) (a0 : Nat) : mv_Sim l N0 D dA RX7 cX7_where 3 2 44 (some .int) false mv_rI 28 [(0, mv_vr N0 (some a0))] [] (J_X7_where_28 a0) := by
  unfold J_X7_where_28
  refine mv_iconst (v := ((-1) : Int32)) dX7_where_28 (by decide) rfl ?_
  refine mv_sub [0] rfl ?_
  exact sJ_X7_where_29 l N0 D dA a0 ((-1) : Int32)

def F_X7_where (a0 : Nat) (a1 : Int32) (a2 : Int32) : mv_M Int32 :=
  mv_bd (mv_rc 7 12 (some a0)) fun i2 => mv_bd (F_X7_isCarrier i2 a1) fun v1 =>
  if v1 = 0 then
    J_X7_where_28 a0
  else
    mv_bd (F_X7_in a2 (0 : Int32) (9999 : Int32)) fun v3 =>
    if v3 = 0 then
      J_X7_where_28 a0
    else
      mv_bd (mv_rc 7 12 (some a0)) fun i5 => mv_bd (F_X7_townOf i5 a1 a2) fun v4 =>
      J_X7_where_29 a0 v4

set_option maxHeartbeats 4000000 in
set_option maxRecDepth 100000 in
theorem c_X7_where (l : Launch) (N0 : Nat) (D : va_G) (dA : Nat → ClassId) (a0 : Nat) (a1 : Int32) (a2 : Int32) : mv_SimM l N0 D dA yX7_where cX7_where 3 (some .int) 2 44 mv_rI [.ref (N0 + a0), .int a1, .int a2] (F_X7_where a0 a1 a2) := by
  refine mv_SimM_of (L0 := [(0, mv_vr N0 (some a0)), (1, .int a1), (2, .int a2)]) false (by decide +kernel) (Nat.le_of_ble_eq_true rfl) rfl (List.forall_mem_cons.mpr ⟨mv_cat N0 (some a0), List.forall_mem_cons.mpr ⟨rfl, List.forall_mem_cons.mpr ⟨rfl, fun _ h => absurd h List.not_mem_nil⟩⟩⟩) (fun z => by cases z) ?_
  unfold F_X7_where
  show mv_Sim l N0 D dA RX7 cX7_where 3 2 44 (some .int) false mv_rI 0 _ _ _
  refine mv_aload_n 0 dX7_where_0 rfl rfl rfl ?_
  refine mv_iload_n 1 dX7_where_1 rfl rfl rfl ?_
  refine mv_callVi (st := []) [.int a1] (fun i2 => c_X7_isCarrier l N0 D dA i2 a1) (T := TX7) rfl (by decide) wc_X7_93 ⟨by decide, by decide⟩ rfl (mv_cs (Nat.le_of_ble_eq_true rfl) (fun _ h => absurd h List.not_mem_nil)) dX7_where_2 rfl (fun v1 => ?_)
  refine mv_if_eq (tgt := 28) dX7_where_5 rfl rfl ?_ ?_
  · refine mv_sub [0] rfl ?_
    exact sJ_X7_where_28 l N0 D dA a0
  · refine mv_iload_n 2 dX7_where_8 rfl rfl rfl ?_
    refine mv_iconst (v := (0 : Int32)) dX7_where_9 (by decide) rfl ?_
    refine mv_sipush (v := (9999 : Int32)) dX7_where_10 (by decide) rfl ?_
    refine mv_callSi (st := []) [.int a2, .int (0 : Int32), .int (9999 : Int32)] (c_X7_in l N0 D dA a2 (0 : Int32) (9999 : Int32)) wc_X7_36 ⟨by decide, by decide⟩ rfl (mv_cs (Nat.le_of_ble_eq_true rfl) (fun _ h => absurd h List.not_mem_nil)) dX7_where_13 rfl (fun v3 => ?_)
    refine mv_if_eq (tgt := 28) dX7_where_16 rfl rfl ?_ ?_
    · refine mv_sub [0] rfl ?_
      exact sJ_X7_where_28 l N0 D dA a0
    · refine mv_aload_n 0 dX7_where_19 rfl rfl rfl ?_
      refine mv_iload_n 1 dX7_where_20 rfl rfl rfl ?_
      refine mv_iload_n 2 dX7_where_21 rfl rfl rfl ?_
      refine mv_callVi (st := []) [.int a1, .int a2] (fun i5 => c_X7_townOf l N0 D dA i5 a1 a2) (T := TX7) rfl (by decide) wc_X7_47 ⟨by decide, by decide⟩ rfl (mv_cs (Nat.le_of_ble_eq_true rfl) (fun _ h => absurd h List.not_mem_nil)) dX7_where_22 rfl (fun v4 => ?_)
      refine mv_goto (q := 29) dX7_where_25 rfl ?_
      refine mv_sub [0] rfl ?_
      exact sJ_X7_where_29 l N0 D dA a0 v4

end
