section
def J_X6_delayOf_13 (a0 : Nat) : mv_M Int32 :=
  mv_pu (2147483647 : Int32)

set_option maxHeartbeats 4000000 in
set_option maxRecDepth 100000 in
theorem sJ_X6_delayOf_13 (l : Launch) (N0 : Nat) (D : va_G) (dA : Nat → ClassId) (a0 : Nat) : mv_Sim l N0 D dA RX6 cX6_delayOf 3 4 100 (some .int) false mv_rI 13 [(0, mv_vr N0 (some a0))] [] (J_X6_delayOf_13 a0) := by
  unfold J_X6_delayOf_13
  refine mv_ldc (v := (2147483647 : Int32)) dX6_delayOf_13 (mv_wA_of (mv_t2 (List.mem_of_getElem? (i := 130) rfl)) rfl) rfl ?_
  exact mv_iret dX6_delayOf_15

def J_X6_delayOf_46 (a0 : Nat) (s0 : Int32) : mv_M Int32 :=
  mv_pu s0

set_option maxHeartbeats 4000000 in
set_option maxRecDepth 100000 in
theorem sJ_X6_delayOf_46 (l : Launch) (N0 : Nat) (D : va_G) (dA : Nat → ClassId) (a0 : Nat) (s0 : Int32) : mv_Sim l N0 D dA RX6 cX6_delayOf 3 4 100 (some .int) false mv_rI 46 [(0, mv_vr N0 (some a0))] [.int s0] (J_X6_delayOf_46 a0 s0) := by
  unfold J_X6_delayOf_46
  exact mv_iret dX6_delayOf_46

def F_X6_delayOf (a0 : Nat) (a1 : Option Nat) : mv_M Int32 :=
  if a1 = none then
    J_X6_delayOf_13 a0
  else
    mv_bd (mv_gI 0 8 4 a1) fun v1 =>
    if v1 = ((-4) : Int32) then
      J_X6_delayOf_13 a0
    else
      mv_bd (mv_gR 6 7 5 (some a0)) fun v2 =>
      mv_bd (mv_gR 6 7 0 (some a0)) fun v3 =>
      mv_bd (mv_rc 2 4 v2) fun i5 => mv_bd (F_X2_arrivalOf i5 v3 a1) fun v4 =>
      if v4 = ((-4) : Int32) then
        J_X6_delayOf_46 a0 (2147483647 : Int32)
      else
        mv_bd (mv_gI 0 8 4 a1) fun v6 =>
        J_X6_delayOf_46 a0 (v4 - v6)

set_option maxHeartbeats 4000000 in
set_option maxRecDepth 100000 in
theorem c_X6_delayOf (l : Launch) (N0 : Nat) (D : va_G) (dA : Nat → ClassId) (a0 : Nat) (a1 : Option Nat) : mv_SimM l N0 D dA yX6_delayOf cX6_delayOf 3 (some .int) 4 100 mv_rI [.ref (N0 + a0), mv_vr N0 a1] (F_X6_delayOf a0 a1) := by
  refine mv_SimM_of (L0 := [(0, mv_vr N0 (some a0)), (1, mv_vr N0 a1)]) false (by decide +kernel) (by cases a1 <;> exact Nat.le_of_ble_eq_true rfl) (by cases a1 <;> rfl) (List.forall_mem_cons.mpr ⟨mv_cat N0 (some a0), List.forall_mem_cons.mpr ⟨mv_cat N0 a1, fun _ h => absurd h List.not_mem_nil⟩⟩) (fun z => by cases z) ?_
  unfold F_X6_delayOf
  show mv_Sim l N0 D dA RX6 cX6_delayOf 3 4 100 (some .int) false mv_rI 0 _ _ _
  refine mv_aload_n 1 dX6_delayOf_0 rfl rfl rfl ?_
  refine mv_ifnull (tgt := 13) dX6_delayOf_1 rfl rfl ?_ ?_
  · refine mv_sub [0] rfl ?_
    exact sJ_X6_delayOf_13 l N0 D dA a0
  · refine mv_aload_n 1 dX6_delayOf_4 rfl rfl rfl ?_
    refine mv_getI fd_X0_4 lk_X6_167 dX6_delayOf_5 rfl (fun v1 => ?_)
    refine mv_bipush (v := ((-4) : Int32)) dX6_delayOf_8 (by decide) rfl ?_
    refine mv_icmp_ne (tgt := 16) dX6_delayOf_10 rfl rfl ?_ ?_
    · refine mv_aload_n 0 dX6_delayOf_16 rfl rfl rfl ?_
      refine mv_getR fd_X6_5 lk_X6_39 dX6_delayOf_17 rfl (fun v2 => ?_)
      refine mv_aload_n 0 dX6_delayOf_20 rfl rfl rfl ?_
      refine mv_getR fd_X6_0 lk_X6_10 dX6_delayOf_21 rfl (fun v3 => ?_)
      refine mv_aload_n 1 dX6_delayOf_24 rfl rfl rfl ?_
      refine mv_callVi (st := []) [mv_vr N0 v3, mv_vr N0 a1] (fun i5 => c_X2_arrivalOf l N0 D dA i5 v3 a1) (T := TX2) rfl (by decide) wc_X6_181 ⟨by decide, by decide⟩ rfl (mv_cs (Nat.le_of_ble_eq_true rfl) (fun _ h => absurd h List.not_mem_nil)) dX6_delayOf_25 rfl (fun v4 => ?_)
      refine mv_istore_n [0, 1] no_X6 dX6_delayOf_28 rfl (by decide) rfl rfl rfl ?_
      refine mv_iload_n 0 dX6_delayOf_29 rfl rfl rfl ?_
      refine mv_bipush (v := ((-4) : Int32)) dX6_delayOf_30 (by decide) rfl ?_
      refine mv_icmp_ne (tgt := 40) dX6_delayOf_32 rfl rfl ?_ ?_
      · refine mv_iload_n 0 dX6_delayOf_40 rfl rfl rfl ?_
        refine mv_aload_n 2 dX6_delayOf_41 rfl rfl rfl ?_
        refine mv_getI fd_X0_4 lk_X6_167 dX6_delayOf_42 rfl (fun v6 => ?_)
        refine mv_isub dX6_delayOf_45 rfl ?_
        refine mv_sub [1] rfl ?_
        exact sJ_X6_delayOf_46 l N0 D dA a0 (v4 - v6)
      · refine mv_ldc (v := (2147483647 : Int32)) dX6_delayOf_35 (mv_wA_of (mv_t2 (List.mem_of_getElem? (i := 130) rfl)) rfl) rfl ?_
        refine mv_goto (q := 46) dX6_delayOf_37 rfl ?_
        refine mv_sub [1] rfl ?_
        exact sJ_X6_delayOf_46 l N0 D dA a0 (2147483647 : Int32)
    · refine mv_sub [0] rfl ?_
      exact sJ_X6_delayOf_13 l N0 D dA a0

def J_X6_shiftedDelayOf_22 (a0 : Nat) (s0 : Int32) : mv_M Int32 :=
  mv_pu s0

set_option maxHeartbeats 4000000 in
set_option maxRecDepth 100000 in
theorem sJ_X6_shiftedDelayOf_22 (l : Launch) (N0 : Nat) (D : va_G) (dA : Nat → ClassId) (a0 : Nat) (s0 : Int32) : mv_Sim l N0 D dA RX6 cX6_shiftedDelayOf 3 5 122 (some .int) false mv_rI 22 [(0, mv_vr N0 (some a0))] [.int s0] (J_X6_shiftedDelayOf_22 a0 s0) := by
  unfold J_X6_shiftedDelayOf_22
  exact mv_iret dX6_shiftedDelayOf_22

def F_X6_shiftedDelayOf (a0 : Nat) (a1 : Option Nat) : mv_M Int32 :=
  mv_bd (mv_rc 6 7 (some a0)) fun i2 => mv_bd (F_X6_delayOf i2 a1) fun v1 =>
  if v1 = (2147483647 : Int32) then
    J_X6_shiftedDelayOf_22 a0 ((-4) : Int32)
  else
    J_X6_shiftedDelayOf_22 a0 (v1 + (1000 : Int32))

set_option maxHeartbeats 4000000 in
set_option maxRecDepth 100000 in
theorem c_X6_shiftedDelayOf (l : Launch) (N0 : Nat) (D : va_G) (dA : Nat → ClassId) (a0 : Nat) (a1 : Option Nat) : mv_SimM l N0 D dA yX6_shiftedDelayOf cX6_shiftedDelayOf 3 (some .int) 5 122 mv_rI [.ref (N0 + a0), mv_vr N0 a1] (F_X6_shiftedDelayOf a0 a1) := by
  refine mv_SimM_of (L0 := [(0, mv_vr N0 (some a0)), (1, mv_vr N0 a1)]) false (by decide +kernel) (by cases a1 <;> exact Nat.le_of_ble_eq_true rfl) (by cases a1 <;> rfl) (List.forall_mem_cons.mpr ⟨mv_cat N0 (some a0), List.forall_mem_cons.mpr ⟨mv_cat N0 a1, fun _ h => absurd h List.not_mem_nil⟩⟩) (fun z => by cases z) ?_
  unfold F_X6_shiftedDelayOf
  show mv_Sim l N0 D dA RX6 cX6_shiftedDelayOf 3 5 122 (some .int) false mv_rI 0 _ _ _
  refine mv_aload_n 0 dX6_shiftedDelayOf_0 rfl rfl rfl ?_
  refine mv_aload_n 1 dX6_shiftedDelayOf_1 rfl rfl rfl ?_
  refine mv_callVi (st := []) [mv_vr N0 a1] (fun i2 => c_X6_delayOf l N0 D dA i2 a1) (T := TX6) rfl (by decide) wc_X6_214 ⟨by decide, by decide⟩ rfl (mv_cs (Nat.le_of_ble_eq_true rfl) (fun _ h => absurd h List.not_mem_nil)) dX6_shiftedDelayOf_2 rfl (fun v1 => ?_)
  refine mv_istore_n [0, 1] no_X6 dX6_shiftedDelayOf_5 rfl (by decide) rfl rfl rfl ?_
  refine mv_iload_n 0 dX6_shiftedDelayOf_6 rfl rfl rfl ?_
  refine mv_ldc (v := (2147483647 : Int32)) dX6_shiftedDelayOf_7 (mv_wA_of (mv_t2 (List.mem_of_getElem? (i := 130) rfl)) rfl) rfl ?_
  refine mv_icmp_ne (tgt := 17) dX6_shiftedDelayOf_9 rfl rfl ?_ ?_
  · refine mv_iload_n 0 dX6_shiftedDelayOf_17 rfl rfl rfl ?_
    refine mv_sipush (v := (1000 : Int32)) dX6_shiftedDelayOf_18 (by decide) rfl ?_
    refine mv_iadd dX6_shiftedDelayOf_21 rfl ?_
    refine mv_sub [1] rfl ?_
    exact sJ_X6_shiftedDelayOf_22 l N0 D dA a0 (v1 + (1000 : Int32))
  · refine mv_bipush (v := ((-4) : Int32)) dX6_shiftedDelayOf_12 (by decide) rfl ?_
    refine mv_goto (q := 22) dX6_shiftedDelayOf_14 rfl ?_
    refine mv_sub [1] rfl ?_
    exact sJ_X6_shiftedDelayOf_22 l N0 D dA a0 ((-4) : Int32)

def J_X6_bundle_111 (a0 : Nat) (s0 : Int32) : mv_M Int32 :=
  mv_pu s0

set_option maxHeartbeats 4000000 in
set_option maxRecDepth 100000 in
theorem sJ_X6_bundle_111 (l : Launch) (N0 : Nat) (D : va_G) (dA : Nat → ClassId) (a0 : Nat) (s0 : Int32) : mv_Sim l N0 D dA RX6 cX6_bundle 4 6 144 (some .int) false mv_rI 111 [(0, mv_vr N0 (some a0))] [.int s0] (J_X6_bundle_111 a0 s0) := by
  unfold J_X6_bundle_111
  exact mv_iret dX6_bundle_111

def F_X6_bundle (a0 : Nat) (a1 : Int32) (a2 : Int32) : mv_M Int32 :=
  mv_bd (mv_gR 6 7 0 (some a0)) fun v1 =>
  mv_bd (mv_rc 5 12 v1) fun i3 => mv_bd (F_X5_bundleAt i3 a1) fun v2 =>
  if v2 = none then
    mv_pu ((-1) : Int32)
  else
    if a2 = (0 : Int32) then
      mv_bd (mv_gI 0 8 0 v2) fun v4 =>
      mv_pu v4
    else
    if a2 = (1 : Int32) then
      mv_bd (mv_gI 0 8 1 v2) fun v5 =>
      mv_pu v5
    else
    if a2 = (2 : Int32) then
      mv_bd (mv_gI 0 8 2 v2) fun v6 =>
      mv_pu v6
    else
    if a2 = (3 : Int32) then
      mv_bd (mv_gI 0 8 3 v2) fun v7 =>
      mv_pu v7
    else
    if a2 = (4 : Int32) then
      mv_bd (mv_gI 0 8 4 v2) fun v8 =>
      mv_pu v8
    else
    if a2 = (5 : Int32) then
      mv_bd (mv_rc 6 7 (some a0)) fun i10 => mv_bd (F_X6_shiftedDelayOf i10 v2) fun v9 =>
      mv_pu v9
    else
    if a2 = (6 : Int32) then
      mv_bd (mv_gI 0 8 5 v2) fun v11 =>
      if v11 = 0 then
        J_X6_bundle_111 a0 (0 : Int32)
      else
        J_X6_bundle_111 a0 (1 : Int32)
    else
    if a2 = (7 : Int32) then
      mv_bd (mv_gI 0 8 6 v2) fun v12 =>
      mv_pu v12
    else
    if a2 = (8 : Int32) then
      mv_bd (mv_gI 0 8 7 v2) fun v13 =>
      mv_pu v13
    else
    mv_pu ((-1) : Int32)

set_option maxHeartbeats 4000000 in
set_option maxRecDepth 100000 in
theorem c_X6_bundle (l : Launch) (N0 : Nat) (D : va_G) (dA : Nat → ClassId) (a0 : Nat) (a1 : Int32) (a2 : Int32) : mv_SimM l N0 D dA yX6_bundle cX6_bundle 4 (some .int) 6 144 mv_rI [.ref (N0 + a0), .int a1, .int a2] (F_X6_bundle a0 a1 a2) := by
  refine mv_SimM_of (L0 := [(0, mv_vr N0 (some a0)), (1, .int a1), (2, .int a2)]) false (by decide +kernel) (Nat.le_of_ble_eq_true rfl) rfl (List.forall_mem_cons.mpr ⟨mv_cat N0 (some a0), List.forall_mem_cons.mpr ⟨rfl, List.forall_mem_cons.mpr ⟨rfl, fun _ h => absurd h List.not_mem_nil⟩⟩⟩) (fun z => by cases z) ?_
  unfold F_X6_bundle
  show mv_Sim l N0 D dA RX6 cX6_bundle 4 6 144 (some .int) false mv_rI 0 _ _ _
  refine mv_aload_n 0 dX6_bundle_0 rfl rfl rfl ?_
  refine mv_getR fd_X6_0 lk_X6_10 dX6_bundle_1 rfl (fun v1 => ?_)
  refine mv_iload_n 1 dX6_bundle_4 rfl rfl rfl ?_
  refine mv_callVr (st := []) [.int a1] (fun i3 => c_X5_bundleAt l N0 D dA i3 a1) (T := TX5) rfl (by decide) wc_X6_93 ⟨by decide, by decide⟩ rfl (mv_cs (Nat.le_of_ble_eq_true rfl) (fun _ h => absurd h List.not_mem_nil)) dX6_bundle_5 rfl (fun v2 => ?_)
  refine mv_astore_n [0, 1, 2] no_X6 dX6_bundle_8 rfl (by decide) rfl rfl rfl ?_
  refine mv_aload_n 0 dX6_bundle_9 rfl rfl rfl ?_
  refine mv_ifnonnull (tgt := 15) dX6_bundle_10 rfl rfl ?_ ?_
  · refine mv_iload_n 3 dX6_bundle_15 rfl rfl rfl ?_
    refine mv_ite (fun hs0 => ?_) (fun hs0 => ?_)
    · refine mv_tabIn (q := 68) dX6_bundle_16 (by rw [hs0]; decide) (by rw [hs0]; decide) (by rw [hs0]; rfl) rfl ?_
      refine mv_aload_n 0 dX6_bundle_68 rfl rfl rfl ?_
      refine mv_getI fd_X0_0 lk_X6_153 dX6_bundle_69 rfl (fun v4 => ?_)
      exact mv_iret dX6_bundle_72
    refine mv_ite (fun hs1 => ?_) (fun hs1 => ?_)
    · refine mv_tabIn (q := 73) dX6_bundle_16 (by rw [hs1]; decide) (by rw [hs1]; decide) (by rw [hs1]; rfl) rfl ?_
      refine mv_aload_n 0 dX6_bundle_73 rfl rfl rfl ?_
      refine mv_getI fd_X0_1 lk_X6_158 dX6_bundle_74 rfl (fun v5 => ?_)
      exact mv_iret dX6_bundle_77
    refine mv_ite (fun hs2 => ?_) (fun hs2 => ?_)
    · refine mv_tabIn (q := 78) dX6_bundle_16 (by rw [hs2]; decide) (by rw [hs2]; decide) (by rw [hs2]; rfl) rfl ?_
      refine mv_aload_n 0 dX6_bundle_78 rfl rfl rfl ?_
      refine mv_getI fd_X0_2 lk_X6_161 dX6_bundle_79 rfl (fun v6 => ?_)
      exact mv_iret dX6_bundle_82
    refine mv_ite (fun hs3 => ?_) (fun hs3 => ?_)
    · refine mv_tabIn (q := 83) dX6_bundle_16 (by rw [hs3]; decide) (by rw [hs3]; decide) (by rw [hs3]; rfl) rfl ?_
      refine mv_aload_n 0 dX6_bundle_83 rfl rfl rfl ?_
      refine mv_getI fd_X0_3 lk_X6_164 dX6_bundle_84 rfl (fun v7 => ?_)
      exact mv_iret dX6_bundle_87
    refine mv_ite (fun hs4 => ?_) (fun hs4 => ?_)
    · refine mv_tabIn (q := 88) dX6_bundle_16 (by rw [hs4]; decide) (by rw [hs4]; decide) (by rw [hs4]; rfl) rfl ?_
      refine mv_aload_n 0 dX6_bundle_88 rfl rfl rfl ?_
      refine mv_getI fd_X0_4 lk_X6_167 dX6_bundle_89 rfl (fun v8 => ?_)
      exact mv_iret dX6_bundle_92
    refine mv_ite (fun hs5 => ?_) (fun hs5 => ?_)
    · refine mv_tabIn (q := 93) dX6_bundle_16 (by rw [hs5]; decide) (by rw [hs5]; decide) (by rw [hs5]; rfl) rfl ?_
      refine mv_aload_n 1 dX6_bundle_93 rfl rfl rfl ?_
      refine mv_aload_n 0 dX6_bundle_94 rfl rfl rfl ?_
      refine mv_callVi (st := []) [mv_vr N0 v2] (fun i10 => c_X6_shiftedDelayOf l N0 D dA i10 v2) (T := TX6) rfl (by decide) wc_X6_170 ⟨by decide, by decide⟩ rfl (mv_cs (Nat.le_of_ble_eq_true rfl) (fun _ h => absurd h List.not_mem_nil)) dX6_bundle_95 rfl (fun v9 => ?_)
      exact mv_iret dX6_bundle_98
    refine mv_ite (fun hs6 => ?_) (fun hs6 => ?_)
    · refine mv_tabIn (q := 99) dX6_bundle_16 (by rw [hs6]; decide) (by rw [hs6]; decide) (by rw [hs6]; rfl) rfl ?_
      refine mv_aload_n 0 dX6_bundle_99 rfl rfl rfl ?_
      refine mv_getI fd_X0_5 lk_X6_174 dX6_bundle_100 rfl (fun v11 => ?_)
      refine mv_if_eq (tgt := 110) dX6_bundle_103 rfl rfl ?_ ?_
      · refine mv_iconst (v := (0 : Int32)) dX6_bundle_110 (by decide) rfl ?_
        refine mv_sub [1] rfl ?_
        exact sJ_X6_bundle_111 l N0 D dA a0 (0 : Int32)
      · refine mv_iconst (v := (1 : Int32)) dX6_bundle_106 (by decide) rfl ?_
        refine mv_goto (q := 111) dX6_bundle_107 rfl ?_
        refine mv_sub [1] rfl ?_
        exact sJ_X6_bundle_111 l N0 D dA a0 (1 : Int32)
    refine mv_ite (fun hs7 => ?_) (fun hs7 => ?_)
    · refine mv_tabIn (q := 112) dX6_bundle_16 (by rw [hs7]; decide) (by rw [hs7]; decide) (by rw [hs7]; rfl) rfl ?_
      refine mv_aload_n 0 dX6_bundle_112 rfl rfl rfl ?_
      refine mv_getI fd_X0_6 lk_X6_177 dX6_bundle_113 rfl (fun v12 => ?_)
      exact mv_iret dX6_bundle_116
    refine mv_ite (fun hs8 => ?_) (fun hs8 => ?_)
    · refine mv_tabIn (q := 117) dX6_bundle_16 (by rw [hs8]; decide) (by rw [hs8]; decide) (by rw [hs8]; rfl) rfl ?_
      refine mv_aload_n 0 dX6_bundle_117 rfl rfl rfl ?_
      refine mv_getI fd_X0_7 lk_X6_178 dX6_bundle_118 rfl (fun v13 => ?_)
      exact mv_iret dX6_bundle_121
    refine mv_tabOut (q := 122) dX6_bundle_16 (by have z0 := lv_neT hs0 (show ((0 : Int32)).toInt = 0 by decide); have z1 := lv_neT hs1 (show ((1 : Int32)).toInt = 1 by decide); have z2 := lv_neT hs2 (show ((2 : Int32)).toInt = 2 by decide); have z3 := lv_neT hs3 (show ((3 : Int32)).toInt = 3 by decide); have z4 := lv_neT hs4 (show ((4 : Int32)).toInt = 4 by decide); have z5 := lv_neT hs5 (show ((5 : Int32)).toInt = 5 by decide); have z6 := lv_neT hs6 (show ((6 : Int32)).toInt = 6 by decide); have z7 := lv_neT hs7 (show ((7 : Int32)).toInt = 7 by decide); have z8 := lv_neT hs8 (show ((8 : Int32)).toInt = 8 by decide); omega) rfl ?_
    refine mv_iconst (v := ((-1) : Int32)) dX6_bundle_122 (by decide) rfl ?_
    exact mv_iret dX6_bundle_123
  · refine mv_iconst (v := ((-1) : Int32)) dX6_bundle_13 (by decide) rfl ?_
    exact mv_iret dX6_bundle_14

def J_X6_carrier_95 (a0 : Nat) (s0 : Int32) : mv_M Int32 :=
  mv_pu s0

set_option maxHeartbeats 4000000 in
set_option maxRecDepth 100000 in
theorem sJ_X6_carrier_95 (l : Launch) (N0 : Nat) (D : va_G) (dA : Nat → ClassId) (a0 : Nat) (s0 : Int32) : mv_Sim l N0 D dA RX6 cX6_carrier 4 3 67 (some .int) false mv_rI 95 [(0, mv_vr N0 (some a0))] [.int s0] (J_X6_carrier_95 a0 s0) := by
  unfold J_X6_carrier_95
  exact mv_iret dX6_carrier_95

def F_X6_carrier (a0 : Nat) (a1 : Int32) (a2 : Int32) : mv_M Int32 :=
  mv_bd (mv_gR 6 7 0 (some a0)) fun v1 =>
  mv_bd (mv_rc 5 12 v1) fun i3 => mv_bd (F_X5_carrierAt i3 a1) fun v2 =>
  if v2 = none then
    mv_pu ((-1) : Int32)
  else
    if a2 = (0 : Int32) then
      mv_bd (mv_gI 1 6 1 v2) fun v4 =>
      mv_pu v4
    else
    if a2 = (1 : Int32) then
      mv_bd (mv_gI 1 6 2 v2) fun v5 =>
      mv_pu v5
    else
    if a2 = (2 : Int32) then
      mv_bd (mv_gR 6 7 0 (some a0)) fun v6 =>
      mv_bd (mv_rc 5 12 v6) fun i8 => mv_bd (F_X5_bundlesWith i8 a1) fun v7 =>
      mv_pu v7
    else
    if a2 = (3 : Int32) then
      mv_bd (mv_gR 6 7 0 (some a0)) fun v9 =>
      mv_bd (mv_rc 5 12 v9) fun i11 => mv_bd (F_X5_isFull i11 a1) fun v10 =>
      if v10 = 0 then
        J_X6_carrier_95 a0 (0 : Int32)
      else
        J_X6_carrier_95 a0 (1 : Int32)
    else
    if a2 = (4 : Int32) then
      mv_bd (mv_gI 1 6 3 v2) fun v12 =>
      mv_pu v12
    else
    if a2 = (5 : Int32) then
      mv_bd (mv_gI 1 6 4 v2) fun v13 =>
      mv_pu v13
    else
    if a2 = (6 : Int32) then
      mv_bd (mv_gI 1 6 5 v2) fun v14 =>
      mv_pu v14
    else
    mv_pu ((-1) : Int32)

set_option maxHeartbeats 4000000 in
set_option maxRecDepth 100000 in
theorem c_X6_carrier (l : Launch) (N0 : Nat) (D : va_G) (dA : Nat → ClassId) (a0 : Nat) (a1 : Int32) (a2 : Int32) : mv_SimM l N0 D dA yX6_carrier cX6_carrier 4 (some .int) 3 67 mv_rI [.ref (N0 + a0), .int a1, .int a2] (F_X6_carrier a0 a1 a2) := by
  refine mv_SimM_of (L0 := [(0, mv_vr N0 (some a0)), (1, .int a1), (2, .int a2)]) false (by decide +kernel) (Nat.le_of_ble_eq_true rfl) rfl (List.forall_mem_cons.mpr ⟨mv_cat N0 (some a0), List.forall_mem_cons.mpr ⟨rfl, List.forall_mem_cons.mpr ⟨rfl, fun _ h => absurd h List.not_mem_nil⟩⟩⟩) (fun z => by cases z) ?_
  unfold F_X6_carrier
  show mv_Sim l N0 D dA RX6 cX6_carrier 4 3 67 (some .int) false mv_rI 0 _ _ _
  refine mv_aload_n 0 dX6_carrier_0 rfl rfl rfl ?_
  refine mv_getR fd_X6_0 lk_X6_10 dX6_carrier_1 rfl (fun v1 => ?_)
  refine mv_iload_n 1 dX6_carrier_4 rfl rfl rfl ?_
  refine mv_callVr (st := []) [.int a1] (fun i3 => c_X5_carrierAt l N0 D dA i3 a1) (T := TX5) rfl (by decide) wc_X6_59 ⟨by decide, by decide⟩ rfl (mv_cs (Nat.le_of_ble_eq_true rfl) (fun _ h => absurd h List.not_mem_nil)) dX6_carrier_5 rfl (fun v2 => ?_)
  refine mv_astore_n [0, 1, 2] no_X6 dX6_carrier_8 rfl (by decide) rfl rfl rfl ?_
  refine mv_aload_n 0 dX6_carrier_9 rfl rfl rfl ?_
  refine mv_ifnonnull (tgt := 15) dX6_carrier_10 rfl rfl ?_ ?_
  · refine mv_iload_n 3 dX6_carrier_15 rfl rfl rfl ?_
    refine mv_ite (fun hs0 => ?_) (fun hs0 => ?_)
    · refine mv_tabIn (q := 60) dX6_carrier_16 (by rw [hs0]; decide) (by rw [hs0]; decide) (by rw [hs0]; rfl) rfl ?_
      refine mv_aload_n 0 dX6_carrier_60 rfl rfl rfl ?_
      refine mv_getI fd_X1_1 lk_X6_140 dX6_carrier_61 rfl (fun v4 => ?_)
      exact mv_iret dX6_carrier_64
    refine mv_ite (fun hs1 => ?_) (fun hs1 => ?_)
    · refine mv_tabIn (q := 65) dX6_carrier_16 (by rw [hs1]; decide) (by rw [hs1]; decide) (by rw [hs1]; rfl) rfl ?_
      refine mv_aload_n 0 dX6_carrier_65 rfl rfl rfl ?_
      refine mv_getI fd_X1_2 lk_X6_72 dX6_carrier_66 rfl (fun v5 => ?_)
      exact mv_iret dX6_carrier_69
    refine mv_ite (fun hs2 => ?_) (fun hs2 => ?_)
    · refine mv_tabIn (q := 70) dX6_carrier_16 (by rw [hs2]; decide) (by rw [hs2]; decide) (by rw [hs2]; rfl) rfl ?_
      refine mv_aload_n 1 dX6_carrier_70 rfl rfl rfl ?_
      refine mv_getR fd_X6_0 lk_X6_10 dX6_carrier_71 rfl (fun v6 => ?_)
      refine mv_iload_n 2 dX6_carrier_74 rfl rfl rfl ?_
      refine mv_callVi (st := []) [.int a1] (fun i8 => c_X5_bundlesWith l N0 D dA i8 a1) (T := TX5) rfl (by decide) wc_X6_141 ⟨by decide, by decide⟩ rfl (mv_cs (Nat.le_of_ble_eq_true rfl) (fun _ h => absurd h List.not_mem_nil)) dX6_carrier_75 rfl (fun v7 => ?_)
      exact mv_iret dX6_carrier_78
    refine mv_ite (fun hs3 => ?_) (fun hs3 => ?_)
    · refine mv_tabIn (q := 79) dX6_carrier_16 (by rw [hs3]; decide) (by rw [hs3]; decide) (by rw [hs3]; rfl) rfl ?_
      refine mv_aload_n 1 dX6_carrier_79 rfl rfl rfl ?_
      refine mv_getR fd_X6_0 lk_X6_10 dX6_carrier_80 rfl (fun v9 => ?_)
      refine mv_iload_n 2 dX6_carrier_83 rfl rfl rfl ?_
      refine mv_callVi (st := []) [.int a1] (fun i11 => c_X5_isFull l N0 D dA i11 a1) (T := TX5) rfl (by decide) wc_X6_144 ⟨by decide, by decide⟩ rfl (mv_cs (Nat.le_of_ble_eq_true rfl) (fun _ h => absurd h List.not_mem_nil)) dX6_carrier_84 rfl (fun v10 => ?_)
      refine mv_if_eq (tgt := 94) dX6_carrier_87 rfl rfl ?_ ?_
      · refine mv_iconst (v := (0 : Int32)) dX6_carrier_94 (by decide) rfl ?_
        refine mv_sub [1] rfl ?_
        exact sJ_X6_carrier_95 l N0 D dA a0 (0 : Int32)
      · refine mv_iconst (v := (1 : Int32)) dX6_carrier_90 (by decide) rfl ?_
        refine mv_goto (q := 95) dX6_carrier_91 rfl ?_
        refine mv_sub [1] rfl ?_
        exact sJ_X6_carrier_95 l N0 D dA a0 (1 : Int32)
    refine mv_ite (fun hs4 => ?_) (fun hs4 => ?_)
    · refine mv_tabIn (q := 96) dX6_carrier_16 (by rw [hs4]; decide) (by rw [hs4]; decide) (by rw [hs4]; rfl) rfl ?_
      refine mv_aload_n 0 dX6_carrier_96 rfl rfl rfl ?_
      refine mv_getI fd_X1_3 lk_X6_67 dX6_carrier_97 rfl (fun v12 => ?_)
      exact mv_iret dX6_carrier_100
    refine mv_ite (fun hs5 => ?_) (fun hs5 => ?_)
    · refine mv_tabIn (q := 101) dX6_carrier_16 (by rw [hs5]; decide) (by rw [hs5]; decide) (by rw [hs5]; rfl) rfl ?_
      refine mv_aload_n 0 dX6_carrier_101 rfl rfl rfl ?_
      refine mv_getI fd_X1_4 lk_X6_147 dX6_carrier_102 rfl (fun v13 => ?_)
      exact mv_iret dX6_carrier_105
    refine mv_ite (fun hs6 => ?_) (fun hs6 => ?_)
    · refine mv_tabIn (q := 106) dX6_carrier_16 (by rw [hs6]; decide) (by rw [hs6]; decide) (by rw [hs6]; rfl) rfl ?_
      refine mv_aload_n 0 dX6_carrier_106 rfl rfl rfl ?_
      refine mv_getI fd_X1_5 lk_X6_150 dX6_carrier_107 rfl (fun v14 => ?_)
      exact mv_iret dX6_carrier_110
    refine mv_tabOut (q := 111) dX6_carrier_16 (by have z0 := lv_neT hs0 (show ((0 : Int32)).toInt = 0 by decide); have z1 := lv_neT hs1 (show ((1 : Int32)).toInt = 1 by decide); have z2 := lv_neT hs2 (show ((2 : Int32)).toInt = 2 by decide); have z3 := lv_neT hs3 (show ((3 : Int32)).toInt = 3 by decide); have z4 := lv_neT hs4 (show ((4 : Int32)).toInt = 4 by decide); have z5 := lv_neT hs5 (show ((5 : Int32)).toInt = 5 by decide); have z6 := lv_neT hs6 (show ((6 : Int32)).toInt = 6 by decide); omega) rfl ?_
    refine mv_iconst (v := ((-1) : Int32)) dX6_carrier_111 (by decide) rfl ?_
    exact mv_iret dX6_carrier_112
  · refine mv_iconst (v := ((-1) : Int32)) dX6_carrier_13 (by decide) rfl ?_
    exact mv_iret dX6_carrier_14

def J_X6_stallToday_27 (a0 : Nat) (s0 : Int32) : mv_M Int32 :=
  mv_pu s0

set_option maxHeartbeats 4000000 in
set_option maxRecDepth 100000 in
theorem sJ_X6_stallToday_27 (l : Launch) (N0 : Nat) (D : va_G) (dA : Nat → ClassId) (a0 : Nat) (s0 : Int32) : mv_Sim l N0 D dA RX6 cX6_stallToday 2 1 22 (some .int) false mv_rI 27 [(0, mv_vr N0 (some a0))] [.int s0] (J_X6_stallToday_27 a0 s0) := by
  unfold J_X6_stallToday_27
  exact mv_iret dX6_stallToday_27

def F_X6_stallToday (a0 : Nat) : mv_M Int32 :=
  mv_bd (mv_gR 6 7 0 (some a0)) fun v1 =>
  mv_bd (mv_gR 6 7 0 (some a0)) fun v2 =>
  mv_bd (mv_gI 5 12 5 v2) fun v3 =>
  mv_bd (mv_rc 5 12 v1) fun i5 => mv_bd (F_X5_stallOn i5 v3) fun v4 =>
  if v4 = (6 : Int32) then
    J_X6_stallToday_27 a0 ((-4) : Int32)
  else
    J_X6_stallToday_27 a0 v4

set_option maxHeartbeats 4000000 in
set_option maxRecDepth 100000 in
theorem c_X6_stallToday (l : Launch) (N0 : Nat) (D : va_G) (dA : Nat → ClassId) (a0 : Nat) : mv_SimM l N0 D dA yX6_stallToday cX6_stallToday 2 (some .int) 1 22 mv_rI [.ref (N0 + a0)] (F_X6_stallToday a0) := by
  refine mv_SimM_of (L0 := [(0, mv_vr N0 (some a0))]) false (by decide +kernel) (Nat.le_of_ble_eq_true rfl) rfl (List.forall_mem_cons.mpr ⟨mv_cat N0 (some a0), fun _ h => absurd h List.not_mem_nil⟩) (fun z => by cases z) ?_
  unfold F_X6_stallToday
  show mv_Sim l N0 D dA RX6 cX6_stallToday 2 1 22 (some .int) false mv_rI 0 _ _ _
  refine mv_aload_n 0 dX6_stallToday_0 rfl rfl rfl ?_
  refine mv_getR fd_X6_0 lk_X6_10 dX6_stallToday_1 rfl (fun v1 => ?_)
  refine mv_aload_n 0 dX6_stallToday_4 rfl rfl rfl ?_
  refine mv_getR fd_X6_0 lk_X6_10 dX6_stallToday_5 rfl (fun v2 => ?_)
  refine mv_getI fd_X5_5 lk_X6_63 dX6_stallToday_8 rfl (fun v3 => ?_)
  refine mv_callVi (st := []) [.int v3] (fun i5 => c_X5_stallOn l N0 D dA i5 v3) (T := TX5) rfl (by decide) wc_X6_47 ⟨by decide, by decide⟩ rfl (mv_cs (Nat.le_of_ble_eq_true rfl) (fun _ h => absurd h List.not_mem_nil)) dX6_stallToday_11 rfl (fun v4 => ?_)
  refine mv_istore_n [0] no_X6 dX6_stallToday_14 rfl (by decide) rfl rfl rfl ?_
  refine mv_iload_n 0 dX6_stallToday_15 rfl rfl rfl ?_
  refine mv_bipush (v := (6 : Int32)) dX6_stallToday_16 (by decide) rfl ?_
  refine mv_icmp_ne (tgt := 26) dX6_stallToday_18 rfl rfl ?_ ?_
  · refine mv_iload_n 0 dX6_stallToday_26 rfl rfl rfl ?_
    refine mv_sub [1] rfl ?_
    exact sJ_X6_stallToday_27 l N0 D dA a0 v4
  · refine mv_bipush (v := ((-4) : Int32)) dX6_stallToday_21 (by decide) rfl ?_
    refine mv_goto (q := 27) dX6_stallToday_23 rfl ?_
    refine mv_sub [1] rfl ?_
    exact sJ_X6_stallToday_27 l N0 D dA a0 ((-4) : Int32)

def F_X6_count (a0 : Nat) (a1 : Int32) : mv_M Int32 :=
  if a1 = (0 : Int32) then
    mv_bd (mv_gR 6 7 0 (some a0)) fun v1 =>
    mv_bd (mv_gI 5 12 5 v1) fun v2 =>
    mv_pu v2
  else
  if a1 = (1 : Int32) then
    mv_bd (mv_rc 6 7 (some a0)) fun i4 => mv_bd (F_X6_stallToday i4 ) fun v3 =>
    mv_pu v3
  else
  if a1 = (2 : Int32) then
    mv_bd (mv_gR 6 7 0 (some a0)) fun v5 =>
    mv_bd (mv_gI 5 12 3 v5) fun v6 =>
    mv_pu v6
  else
  if a1 = (3 : Int32) then
    mv_bd (mv_gR 6 7 0 (some a0)) fun v7 =>
    mv_bd (mv_rc 5 12 v7) fun i9 => mv_bd (F_X5_illToday i9 ) fun v8 =>
    mv_pu v8
  else
  if a1 = (4 : Int32) then
    mv_bd (mv_gR 6 7 0 (some a0)) fun v10 =>
    mv_bd (mv_gI 5 12 4 v10) fun v11 =>
    mv_pu v11
  else
  if a1 = (5 : Int32) then
    mv_bd (mv_gR 6 7 0 (some a0)) fun v12 =>
    mv_bd (mv_rc 5 12 v12) fun i14 => mv_bd (F_X5_lyingBundles i14 ) fun v13 =>
    mv_pu v13
  else
  if a1 = (6 : Int32) then
    mv_bd (mv_gR 6 7 0 (some a0)) fun v15 =>
    mv_bd (mv_gI 5 12 4 v15) fun v16 =>
    mv_bd (mv_gR 6 7 0 (some a0)) fun v17 =>
    mv_bd (mv_rc 5 12 v17) fun i19 => mv_bd (F_X5_lyingBundles i19 ) fun v18 =>
    mv_bd (mv_gR 6 7 0 (some a0)) fun v20 =>
    mv_bd (mv_rc 5 12 v20) fun i22 => mv_bd (F_X5_arrivedBundles i22 ) fun v21 =>
    mv_pu ((v16 - v18) - v21)
  else
  if a1 = (7 : Int32) then
    mv_bd (mv_gR 6 7 0 (some a0)) fun v23 =>
    mv_bd (mv_rc 5 12 v23) fun i25 => mv_bd (F_X5_arrivedBundles i25 ) fun v24 =>
    mv_pu v24
  else
  if a1 = (8 : Int32) then
    mv_bd (mv_gR 6 7 0 (some a0)) fun v26 =>
    mv_bd (mv_rc 5 12 v26) fun i28 => mv_bd (F_X5_brokenBundles i28 ) fun v27 =>
    mv_pu v27
  else
  if a1 = (9 : Int32) then
    mv_bd (mv_gR 6 7 0 (some a0)) fun v29 =>
    mv_bd (mv_gI 5 12 8 v29) fun v30 =>
    mv_pu v30
  else
  if a1 = (10 : Int32) then
    mv_bd (mv_gR 6 7 0 (some a0)) fun v31 =>
    mv_bd (mv_gI 5 12 9 v31) fun v32 =>
    mv_pu v32
  else
  if a1 = (11 : Int32) then
    mv_bd (mv_gR 6 7 0 (some a0)) fun v33 =>
    mv_bd (mv_gI 5 12 10 v33) fun v34 =>
    mv_pu v34
  else
  if a1 = (12 : Int32) then
    mv_bd (mv_gR 6 7 0 (some a0)) fun v35 =>
    mv_bd (mv_gI 5 12 11 v35) fun v36 =>
    mv_pu v36
  else
  if a1 = (13 : Int32) then
    mv_bd (mv_gR 6 7 0 (some a0)) fun v37 =>
    mv_bd (mv_gI 5 12 6 v37) fun v38 =>
    mv_pu v38
  else
  if a1 = (14 : Int32) then
    mv_bd (mv_gR 6 7 0 (some a0)) fun v39 =>
    mv_bd (mv_gI 5 12 7 v39) fun v40 =>
    mv_pu v40
  else
  if a1 = (15 : Int32) then
    mv_bd (mv_gR 6 7 4 (some a0)) fun v41 =>
    mv_bd (mv_gI 4 2 1 v41) fun v42 =>
    mv_pu v42
  else
  if a1 = (16 : Int32) then
    mv_bd (mv_gR 6 7 3 (some a0)) fun v43 =>
    mv_bd (mv_gI 3 2 1 v43) fun v44 =>
    mv_pu v44
  else
  mv_pu ((-1) : Int32)

set_option maxHeartbeats 4000000 in
set_option maxRecDepth 100000 in
theorem c_X6_count (l : Launch) (N0 : Nat) (D : va_G) (dA : Nat → ClassId) (a0 : Nat) (a1 : Int32) : mv_SimM l N0 D dA yX6_count cX6_count 2 (some .int) 2 46 mv_rI [.ref (N0 + a0), .int a1] (F_X6_count a0 a1) := by
  refine mv_SimM_of (L0 := [(0, mv_vr N0 (some a0)), (1, .int a1)]) false (by decide +kernel) (Nat.le_of_ble_eq_true rfl) rfl (List.forall_mem_cons.mpr ⟨mv_cat N0 (some a0), List.forall_mem_cons.mpr ⟨rfl, fun _ h => absurd h List.not_mem_nil⟩⟩) (fun z => by cases z) ?_
  unfold F_X6_count
  show mv_Sim l N0 D dA RX6 cX6_count 2 2 46 (some .int) false mv_rI 0 _ _ _
  refine mv_iload_n 1 dX6_count_0 rfl rfl rfl ?_
  refine mv_ite (fun hs0 => ?_) (fun hs0 => ?_)
  · refine mv_tabIn (q := 84) dX6_count_1 (by rw [hs0]; decide) (by rw [hs0]; decide) (by rw [hs0]; rfl) rfl ?_
    refine mv_aload_n 0 dX6_count_84 rfl rfl rfl ?_
    refine mv_getR fd_X6_0 lk_X6_10 dX6_count_85 rfl (fun v1 => ?_)
    refine mv_getI fd_X5_5 lk_X6_63 dX6_count_88 rfl (fun v2 => ?_)
    exact mv_iret dX6_count_91
  refine mv_ite (fun hs1 => ?_) (fun hs1 => ?_)
  · refine mv_tabIn (q := 92) dX6_count_1 (by rw [hs1]; decide) (by rw [hs1]; decide) (by rw [hs1]; rfl) rfl ?_
    refine mv_aload_n 0 dX6_count_92 rfl rfl rfl ?_
    refine mv_callVi (st := []) [] (fun i4 => c_X6_stallToday l N0 D dA i4 ) (T := TX6) rfl (by decide) wc_X6_188 ⟨by decide, by decide⟩ rfl (mv_cs (Nat.le_of_ble_eq_true rfl) (fun _ h => absurd h List.not_mem_nil)) dX6_count_93 rfl (fun v3 => ?_)
    exact mv_iret dX6_count_96
  refine mv_ite (fun hs2 => ?_) (fun hs2 => ?_)
  · refine mv_tabIn (q := 97) dX6_count_1 (by rw [hs2]; decide) (by rw [hs2]; decide) (by rw [hs2]; rfl) rfl ?_
    refine mv_aload_n 0 dX6_count_97 rfl rfl rfl ?_
    refine mv_getR fd_X6_0 lk_X6_10 dX6_count_98 rfl (fun v5 => ?_)
    refine mv_getI fd_X5_3 lk_X6_121 dX6_count_101 rfl (fun v6 => ?_)
    exact mv_iret dX6_count_104
  refine mv_ite (fun hs3 => ?_) (fun hs3 => ?_)
  · refine mv_tabIn (q := 105) dX6_count_1 (by rw [hs3]; decide) (by rw [hs3]; decide) (by rw [hs3]; rfl) rfl ?_
    refine mv_aload_n 0 dX6_count_105 rfl rfl rfl ?_
    refine mv_getR fd_X6_0 lk_X6_10 dX6_count_106 rfl (fun v7 => ?_)
    refine mv_callVi (st := []) [] (fun i9 => c_X5_illToday l N0 D dA i9 ) (T := TX5) rfl (by decide) wc_X6_191 ⟨by decide, by decide⟩ rfl (mv_cs (Nat.le_of_ble_eq_true rfl) (fun _ h => absurd h List.not_mem_nil)) dX6_count_109 rfl (fun v8 => ?_)
    exact mv_iret dX6_count_112
  refine mv_ite (fun hs4 => ?_) (fun hs4 => ?_)
  · refine mv_tabIn (q := 113) dX6_count_1 (by rw [hs4]; decide) (by rw [hs4]; decide) (by rw [hs4]; rfl) rfl ?_
    refine mv_aload_n 0 dX6_count_113 rfl rfl rfl ?_
    refine mv_getR fd_X6_0 lk_X6_10 dX6_count_114 rfl (fun v10 => ?_)
    refine mv_getI fd_X5_4 lk_X6_82 dX6_count_117 rfl (fun v11 => ?_)
    exact mv_iret dX6_count_120
  refine mv_ite (fun hs5 => ?_) (fun hs5 => ?_)
  · refine mv_tabIn (q := 121) dX6_count_1 (by rw [hs5]; decide) (by rw [hs5]; decide) (by rw [hs5]; rfl) rfl ?_
    refine mv_aload_n 0 dX6_count_121 rfl rfl rfl ?_
    refine mv_getR fd_X6_0 lk_X6_10 dX6_count_122 rfl (fun v12 => ?_)
    refine mv_callVi (st := []) [] (fun i14 => c_X5_lyingBundles l N0 D dA i14 ) (T := TX5) rfl (by decide) wc_X6_194 ⟨by decide, by decide⟩ rfl (mv_cs (Nat.le_of_ble_eq_true rfl) (fun _ h => absurd h List.not_mem_nil)) dX6_count_125 rfl (fun v13 => ?_)
    exact mv_iret dX6_count_128
  refine mv_ite (fun hs6 => ?_) (fun hs6 => ?_)
  · refine mv_tabIn (q := 129) dX6_count_1 (by rw [hs6]; decide) (by rw [hs6]; decide) (by rw [hs6]; rfl) rfl ?_
    refine mv_aload_n 0 dX6_count_129 rfl rfl rfl ?_
    refine mv_getR fd_X6_0 lk_X6_10 dX6_count_130 rfl (fun v15 => ?_)
    refine mv_getI fd_X5_4 lk_X6_82 dX6_count_133 rfl (fun v16 => ?_)
    refine mv_aload_n 0 dX6_count_136 rfl rfl rfl ?_
    refine mv_getR fd_X6_0 lk_X6_10 dX6_count_137 rfl (fun v17 => ?_)
    refine mv_callVi (st := [.int v16]) [] (fun i19 => c_X5_lyingBundles l N0 D dA i19 ) (T := TX5) rfl (by decide) wc_X6_194 ⟨by decide, by decide⟩ rfl (mv_cs (Nat.le_of_ble_eq_true rfl) (List.forall_mem_cons.mpr ⟨rfl, fun _ h => absurd h List.not_mem_nil⟩)) dX6_count_140 rfl (fun v18 => ?_)
    refine mv_isub dX6_count_143 rfl ?_
    refine mv_aload_n 0 dX6_count_144 rfl rfl rfl ?_
    refine mv_getR fd_X6_0 lk_X6_10 dX6_count_145 rfl (fun v20 => ?_)
    refine mv_callVi (st := [.int (v16 - v18)]) [] (fun i22 => c_X5_arrivedBundles l N0 D dA i22 ) (T := TX5) rfl (by decide) wc_X6_197 ⟨by decide, by decide⟩ rfl (mv_cs (Nat.le_of_ble_eq_true rfl) (List.forall_mem_cons.mpr ⟨rfl, fun _ h => absurd h List.not_mem_nil⟩)) dX6_count_148 rfl (fun v21 => ?_)
    refine mv_isub dX6_count_151 rfl ?_
    exact mv_iret dX6_count_152
  refine mv_ite (fun hs7 => ?_) (fun hs7 => ?_)
  · refine mv_tabIn (q := 153) dX6_count_1 (by rw [hs7]; decide) (by rw [hs7]; decide) (by rw [hs7]; rfl) rfl ?_
    refine mv_aload_n 0 dX6_count_153 rfl rfl rfl ?_
    refine mv_getR fd_X6_0 lk_X6_10 dX6_count_154 rfl (fun v23 => ?_)
    refine mv_callVi (st := []) [] (fun i25 => c_X5_arrivedBundles l N0 D dA i25 ) (T := TX5) rfl (by decide) wc_X6_197 ⟨by decide, by decide⟩ rfl (mv_cs (Nat.le_of_ble_eq_true rfl) (fun _ h => absurd h List.not_mem_nil)) dX6_count_157 rfl (fun v24 => ?_)
    exact mv_iret dX6_count_160
  refine mv_ite (fun hs8 => ?_) (fun hs8 => ?_)
  · refine mv_tabIn (q := 161) dX6_count_1 (by rw [hs8]; decide) (by rw [hs8]; decide) (by rw [hs8]; rfl) rfl ?_
    refine mv_aload_n 0 dX6_count_161 rfl rfl rfl ?_
    refine mv_getR fd_X6_0 lk_X6_10 dX6_count_162 rfl (fun v26 => ?_)
    refine mv_callVi (st := []) [] (fun i28 => c_X5_brokenBundles l N0 D dA i28 ) (T := TX5) rfl (by decide) wc_X6_200 ⟨by decide, by decide⟩ rfl (mv_cs (Nat.le_of_ble_eq_true rfl) (fun _ h => absurd h List.not_mem_nil)) dX6_count_165 rfl (fun v27 => ?_)
    exact mv_iret dX6_count_168
  refine mv_ite (fun hs9 => ?_) (fun hs9 => ?_)
  · refine mv_tabIn (q := 169) dX6_count_1 (by rw [hs9]; decide) (by rw [hs9]; decide) (by rw [hs9]; rfl) rfl ?_
    refine mv_aload_n 0 dX6_count_169 rfl rfl rfl ?_
    refine mv_getR fd_X6_0 lk_X6_10 dX6_count_170 rfl (fun v29 => ?_)
    refine mv_getI fd_X5_8 lk_X6_203 dX6_count_173 rfl (fun v30 => ?_)
    exact mv_iret dX6_count_176
  refine mv_ite (fun hs10 => ?_) (fun hs10 => ?_)
  · refine mv_tabIn (q := 177) dX6_count_1 (by rw [hs10]; decide) (by rw [hs10]; decide) (by rw [hs10]; rfl) rfl ?_
    refine mv_aload_n 0 dX6_count_177 rfl rfl rfl ?_
    refine mv_getR fd_X6_0 lk_X6_10 dX6_count_178 rfl (fun v31 => ?_)
    refine mv_getI fd_X5_9 lk_X6_101 dX6_count_181 rfl (fun v32 => ?_)
    exact mv_iret dX6_count_184
  refine mv_ite (fun hs11 => ?_) (fun hs11 => ?_)
  · refine mv_tabIn (q := 185) dX6_count_1 (by rw [hs11]; decide) (by rw [hs11]; decide) (by rw [hs11]; rfl) rfl ?_
    refine mv_aload_n 0 dX6_count_185 rfl rfl rfl ?_
    refine mv_getR fd_X6_0 lk_X6_10 dX6_count_186 rfl (fun v33 => ?_)
    refine mv_getI fd_X5_10 lk_X6_206 dX6_count_189 rfl (fun v34 => ?_)
    exact mv_iret dX6_count_192
  refine mv_ite (fun hs12 => ?_) (fun hs12 => ?_)
  · refine mv_tabIn (q := 193) dX6_count_1 (by rw [hs12]; decide) (by rw [hs12]; decide) (by rw [hs12]; rfl) rfl ?_
    refine mv_aload_n 0 dX6_count_193 rfl rfl rfl ?_
    refine mv_getR fd_X6_0 lk_X6_10 dX6_count_194 rfl (fun v35 => ?_)
    refine mv_getI fd_X5_11 lk_X6_209 dX6_count_197 rfl (fun v36 => ?_)
    exact mv_iret dX6_count_200
  refine mv_ite (fun hs13 => ?_) (fun hs13 => ?_)
  · refine mv_tabIn (q := 201) dX6_count_1 (by rw [hs13]; decide) (by rw [hs13]; decide) (by rw [hs13]; rfl) rfl ?_
    refine mv_aload_n 0 dX6_count_201 rfl rfl rfl ?_
    refine mv_getR fd_X6_0 lk_X6_10 dX6_count_202 rfl (fun v37 => ?_)
    refine mv_getI fd_X5_6 lk_X6_75 dX6_count_205 rfl (fun v38 => ?_)
    exact mv_iret dX6_count_208
  refine mv_ite (fun hs14 => ?_) (fun hs14 => ?_)
  · refine mv_tabIn (q := 209) dX6_count_1 (by rw [hs14]; decide) (by rw [hs14]; decide) (by rw [hs14]; rfl) rfl ?_
    refine mv_aload_n 0 dX6_count_209 rfl rfl rfl ?_
    refine mv_getR fd_X6_0 lk_X6_10 dX6_count_210 rfl (fun v39 => ?_)
    refine mv_getI fd_X5_7 lk_X6_210 dX6_count_213 rfl (fun v40 => ?_)
    exact mv_iret dX6_count_216
  refine mv_ite (fun hs15 => ?_) (fun hs15 => ?_)
  · refine mv_tabIn (q := 217) dX6_count_1 (by rw [hs15]; decide) (by rw [hs15]; decide) (by rw [hs15]; rfl) rfl ?_
    refine mv_aload_n 0 dX6_count_217 rfl rfl rfl ?_
    refine mv_getR fd_X6_4 lk_X6_32 dX6_count_218 rfl (fun v41 => ?_)
    refine mv_getI fd_X4_1 lk_X6_108 dX6_count_221 rfl (fun v42 => ?_)
    exact mv_iret dX6_count_224
  refine mv_ite (fun hs16 => ?_) (fun hs16 => ?_)
  · refine mv_tabIn (q := 225) dX6_count_1 (by rw [hs16]; decide) (by rw [hs16]; decide) (by rw [hs16]; rfl) rfl ?_
    refine mv_aload_n 0 dX6_count_225 rfl rfl rfl ?_
    refine mv_getR fd_X6_3 lk_X6_25 dX6_count_226 rfl (fun v43 => ?_)
    refine mv_getI fd_X3_1 lk_X6_213 dX6_count_229 rfl (fun v44 => ?_)
    exact mv_iret dX6_count_232
  refine mv_tabOut (q := 233) dX6_count_1 (by have z0 := lv_neT hs0 (show ((0 : Int32)).toInt = 0 by decide); have z1 := lv_neT hs1 (show ((1 : Int32)).toInt = 1 by decide); have z2 := lv_neT hs2 (show ((2 : Int32)).toInt = 2 by decide); have z3 := lv_neT hs3 (show ((3 : Int32)).toInt = 3 by decide); have z4 := lv_neT hs4 (show ((4 : Int32)).toInt = 4 by decide); have z5 := lv_neT hs5 (show ((5 : Int32)).toInt = 5 by decide); have z6 := lv_neT hs6 (show ((6 : Int32)).toInt = 6 by decide); have z7 := lv_neT hs7 (show ((7 : Int32)).toInt = 7 by decide); have z8 := lv_neT hs8 (show ((8 : Int32)).toInt = 8 by decide); have z9 := lv_neT hs9 (show ((9 : Int32)).toInt = 9 by decide); have z10 := lv_neT hs10 (show ((10 : Int32)).toInt = 10 by decide); have z11 := lv_neT hs11 (show ((11 : Int32)).toInt = 11 by decide); have z12 := lv_neT hs12 (show ((12 : Int32)).toInt = 12 by decide); have z13 := lv_neT hs13 (show ((13 : Int32)).toInt = 13 by decide); have z14 := lv_neT hs14 (show ((14 : Int32)).toInt = 14 by decide); have z15 := lv_neT hs15 (show ((15 : Int32)).toInt = 15 by decide); have z16 := lv_neT hs16 (show ((16 : Int32)).toInt = 16 by decide); omega) rfl ?_
  refine mv_iconst (v := ((-1) : Int32)) dX6_count_233 (by decide) rfl ?_
  exact mv_iret dX6_count_234

def J_X6_where_22 (a0 : Nat) : mv_M Int32 :=
  mv_pu ((-1) : Int32)

set_option maxHeartbeats 4000000 in
set_option maxRecDepth 100000 in
theorem sJ_X6_where_22 (l : Launch) (N0 : Nat) (D : va_G) (dA : Nat → ClassId) (a0 : Nat) : mv_Sim l N0 D dA RX6 cX6_where 4 1 24 (some .int) false mv_rI 22 [(0, mv_vr N0 (some a0))] [] (J_X6_where_22 a0) := by
  unfold J_X6_where_22
  refine mv_iconst (v := ((-1) : Int32)) dX6_where_22 (by decide) rfl ?_
  exact mv_iret dX6_where_23

def J_X6_where_45 (a0 : Nat) (s0 : Int32) : mv_M Int32 :=
  mv_pu s0

set_option maxHeartbeats 4000000 in
set_option maxRecDepth 100000 in
theorem sJ_X6_where_45 (l : Launch) (N0 : Nat) (D : va_G) (dA : Nat → ClassId) (a0 : Nat) (s0 : Int32) : mv_Sim l N0 D dA RX6 cX6_where 4 1 24 (some .int) false mv_rI 45 [(0, mv_vr N0 (some a0))] [.int s0] (J_X6_where_45 a0 s0) := by
  unfold J_X6_where_45
  exact mv_iret dX6_where_45

def F_X6_where (a0 : Nat) (a1 : Int32) (a2 : Int32) : mv_M Int32 :=
  mv_bd (mv_gR 6 7 0 (some a0)) fun v1 =>
  mv_bd (mv_rc 5 12 v1) fun i3 => mv_bd (F_X5_hasCarrier i3 a1) fun v2 =>
  if v2 = 0 then
    J_X6_where_22 a0
  else
    if a2 < 0 then
      J_X6_where_22 a0
    else
      if a2 ≤ (9999 : Int32) then
        mv_bd (mv_gR 6 7 0 (some a0)) fun v4 =>
        mv_bd (mv_rc 5 12 v4) fun i6 => mv_bd (F_X5_townOf i6 a1 a2) fun v5 =>
        if v5 = ((-1) : Int32) then
          J_X6_where_45 a0 ((-4) : Int32)
        else
          J_X6_where_45 a0 v5
      else
        J_X6_where_22 a0

set_option maxHeartbeats 4000000 in
set_option maxRecDepth 100000 in
theorem c_X6_where (l : Launch) (N0 : Nat) (D : va_G) (dA : Nat → ClassId) (a0 : Nat) (a1 : Int32) (a2 : Int32) : mv_SimM l N0 D dA yX6_where cX6_where 4 (some .int) 1 24 mv_rI [.ref (N0 + a0), .int a1, .int a2] (F_X6_where a0 a1 a2) := by
  refine mv_SimM_of (L0 := [(0, mv_vr N0 (some a0)), (1, .int a1), (2, .int a2)]) false (by decide +kernel) (Nat.le_of_ble_eq_true rfl) rfl (List.forall_mem_cons.mpr ⟨mv_cat N0 (some a0), List.forall_mem_cons.mpr ⟨rfl, List.forall_mem_cons.mpr ⟨rfl, fun _ h => absurd h List.not_mem_nil⟩⟩⟩) (fun z => by cases z) ?_
  unfold F_X6_where
  show mv_Sim l N0 D dA RX6 cX6_where 4 1 24 (some .int) false mv_rI 0 _ _ _
  refine mv_aload_n 0 dX6_where_0 rfl rfl rfl ?_
  refine mv_getR fd_X6_0 lk_X6_10 dX6_where_1 rfl (fun v1 => ?_)
  refine mv_iload_n 1 dX6_where_4 rfl rfl rfl ?_
  refine mv_callVi (st := []) [.int a1] (fun i3 => c_X5_hasCarrier l N0 D dA i3 a1) (T := TX5) rfl (by decide) wc_X6_133 ⟨by decide, by decide⟩ rfl (mv_cs (Nat.le_of_ble_eq_true rfl) (fun _ h => absurd h List.not_mem_nil)) dX6_where_5 rfl (fun v2 => ?_)
  refine mv_if_eq (tgt := 22) dX6_where_8 rfl rfl ?_ ?_
  · refine mv_sub [0] rfl ?_
    exact sJ_X6_where_22 l N0 D dA a0
  · refine mv_iload_n 2 dX6_where_11 rfl rfl rfl ?_
    refine mv_if_lt (tgt := 22) dX6_where_12 rfl rfl ?_ ?_
    · refine mv_sub [0] rfl ?_
      exact sJ_X6_where_22 l N0 D dA a0
    · refine mv_iload_n 2 dX6_where_15 rfl rfl rfl ?_
      refine mv_sipush (v := (9999 : Int32)) dX6_where_16 (by decide) rfl ?_
      refine mv_icmp_le (tgt := 24) dX6_where_19 rfl rfl ?_ ?_
      · refine mv_aload_n 0 dX6_where_24 rfl rfl rfl ?_
        refine mv_getR fd_X6_0 lk_X6_10 dX6_where_25 rfl (fun v4 => ?_)
        refine mv_iload_n 1 dX6_where_28 rfl rfl rfl ?_
        refine mv_iload_n 2 dX6_where_29 rfl rfl rfl ?_
        refine mv_callVi (st := []) [.int a1, .int a2] (fun i6 => c_X5_townOf l N0 D dA i6 a1 a2) (T := TX5) rfl (by decide) wc_X6_136 ⟨by decide, by decide⟩ rfl (mv_cs (Nat.le_of_ble_eq_true rfl) (fun _ h => absurd h List.not_mem_nil)) dX6_where_30 rfl (fun v5 => ?_)
        refine mv_istore_n [0, 1, 2] no_X6 dX6_where_33 rfl (by decide) rfl rfl rfl ?_
        refine mv_iload_n 0 dX6_where_34 rfl rfl rfl ?_
        refine mv_iconst (v := ((-1) : Int32)) dX6_where_35 (by decide) rfl ?_
        refine mv_icmp_ne (tgt := 44) dX6_where_36 rfl rfl ?_ ?_
        · refine mv_iload_n 0 dX6_where_44 rfl rfl rfl ?_
          refine mv_sub [1] rfl ?_
          exact sJ_X6_where_45 l N0 D dA a0 v5
        · refine mv_bipush (v := ((-4) : Int32)) dX6_where_39 (by decide) rfl ?_
          refine mv_goto (q := 45) dX6_where_41 rfl ?_
          refine mv_sub [1] rfl ?_
          exact sJ_X6_where_45 l N0 D dA a0 ((-4) : Int32)
      · refine mv_sub [0] rfl ?_
        exact sJ_X6_where_22 l N0 D dA a0

def J_X6_append_12 (a0 : Nat) : mv_M Int32 :=
  mv_pu ((-1) : Int32)

set_option maxHeartbeats 4000000 in
set_option maxRecDepth 100000 in
theorem sJ_X6_append_12 (l : Launch) (N0 : Nat) (D : va_G) (dA : Nat → ClassId) (a0 : Nat) : mv_Sim l N0 D dA RX6 cX6_append 2 1 21 (some .int) false mv_rI 12 [(0, mv_vr N0 (some a0))] [] (J_X6_append_12 a0) := by
  unfold J_X6_append_12
  refine mv_iconst (v := ((-1) : Int32)) dX6_append_12 (by decide) rfl ?_
  exact mv_iret dX6_append_13

def F_X6_append (a0 : Nat) (a1 : Int32) : mv_M Int32 :=
  if a1 < (33 : Int32) then
    J_X6_append_12 a0
  else
    if a1 ≤ (126 : Int32) then
      mv_bd (mv_gR 6 7 4 (some a0)) fun v1 =>
      mv_bd (mv_gI 4 2 1 v1) fun v2 =>
      if v2 < (60 : Int32) then
        mv_bd (mv_gR 6 7 4 (some a0)) fun v3 =>
        mv_bd (mv_rc 4 2 v3) fun i4 => mv_bd (F_X4_add i4 a1) fun _ =>
        mv_bd (mv_gR 6 7 4 (some a0)) fun v5 =>
        mv_bd (mv_gI 4 2 1 v5) fun v6 =>
        mv_pu v6
      else
        mv_pu ((-3) : Int32)
    else
      J_X6_append_12 a0

set_option maxHeartbeats 4000000 in
set_option maxRecDepth 100000 in
theorem c_X6_append (l : Launch) (N0 : Nat) (D : va_G) (dA : Nat → ClassId) (a0 : Nat) (a1 : Int32) : mv_SimM l N0 D dA yX6_append cX6_append 2 (some .int) 1 21 mv_rI [.ref (N0 + a0), .int a1] (F_X6_append a0 a1) := by
  refine mv_SimM_of (L0 := [(0, mv_vr N0 (some a0)), (1, .int a1)]) false (by decide +kernel) (Nat.le_of_ble_eq_true rfl) rfl (List.forall_mem_cons.mpr ⟨mv_cat N0 (some a0), List.forall_mem_cons.mpr ⟨rfl, fun _ h => absurd h List.not_mem_nil⟩⟩) (fun z => by cases z) ?_
  unfold F_X6_append
  show mv_Sim l N0 D dA RX6 cX6_append 2 1 21 (some .int) false mv_rI 0 _ _ _
  refine mv_iload_n 1 dX6_append_0 rfl rfl rfl ?_
  refine mv_bipush (v := (33 : Int32)) dX6_append_1 (by decide) rfl ?_
  refine mv_icmp_lt (tgt := 12) dX6_append_3 rfl rfl ?_ ?_
  · refine mv_sub [0] rfl ?_
    exact sJ_X6_append_12 l N0 D dA a0
  · refine mv_iload_n 1 dX6_append_6 rfl rfl rfl ?_
    refine mv_bipush (v := (126 : Int32)) dX6_append_7 (by decide) rfl ?_
    refine mv_icmp_le (tgt := 14) dX6_append_9 rfl rfl ?_ ?_
    · refine mv_aload_n 0 dX6_append_14 rfl rfl rfl ?_
      refine mv_getR fd_X6_4 lk_X6_32 dX6_append_15 rfl (fun v1 => ?_)
      refine mv_getI fd_X4_1 lk_X6_108 dX6_append_18 rfl (fun v2 => ?_)
      refine mv_bipush (v := (60 : Int32)) dX6_append_21 (by decide) rfl ?_
      refine mv_icmp_lt (tgt := 29) dX6_append_23 rfl rfl ?_ ?_
      · refine mv_aload_n 0 dX6_append_29 rfl rfl rfl ?_
        refine mv_getR fd_X6_4 lk_X6_32 dX6_append_30 rfl (fun v3 => ?_)
        refine mv_iload_n 1 dX6_append_33 rfl rfl rfl ?_
        refine mv_callVv (st := []) [.int a1] (fun i4 => c_X4_add l N0 D dA i4 a1) (T := TX4) rfl (by decide) wc_X6_111 ⟨by decide, by decide⟩ rfl (mv_cs (Nat.le_of_ble_eq_true rfl) (fun _ h => absurd h List.not_mem_nil)) dX6_append_34 rfl ?_
        refine mv_aload_n 0 dX6_append_37 rfl rfl rfl ?_
        refine mv_getR fd_X6_4 lk_X6_32 dX6_append_38 rfl (fun v5 => ?_)
        refine mv_getI fd_X4_1 lk_X6_108 dX6_append_41 rfl (fun v6 => ?_)
        exact mv_iret dX6_append_44
      · refine mv_bipush (v := ((-3) : Int32)) dX6_append_26 (by decide) rfl ?_
        exact mv_iret dX6_append_28
    · refine mv_sub [0] rfl ?_
      exact sJ_X6_append_12 l N0 D dA a0

def F_X6_clear (a0 : Nat) : mv_M Int32 :=
  mv_bd (mv_gR 6 7 4 (some a0)) fun v1 =>
  mv_bd (mv_gI 4 2 1 v1) fun v2 =>
  mv_bd (mv_gR 6 7 4 (some a0)) fun v3 =>
  mv_bd (mv_sI 4 2 1 v3 (0 : Int32)) fun _ =>
  mv_pu v2

set_option maxHeartbeats 4000000 in
set_option maxRecDepth 100000 in
theorem c_X6_clear (l : Launch) (N0 : Nat) (D : va_G) (dA : Nat → ClassId) (a0 : Nat) : mv_SimM l N0 D dA yX6_clear cX6_clear 2 (some .int) 0 0 mv_rI [.ref (N0 + a0)] (F_X6_clear a0) := by
  refine mv_SimM_of (L0 := [(0, mv_vr N0 (some a0))]) false (by decide +kernel) (Nat.le_of_ble_eq_true rfl) rfl (List.forall_mem_cons.mpr ⟨mv_cat N0 (some a0), fun _ h => absurd h List.not_mem_nil⟩) (fun z => by cases z) ?_
  unfold F_X6_clear
  show mv_Sim l N0 D dA RX6 cX6_clear 2 0 0 (some .int) false mv_rI 0 _ _ _
  refine mv_aload_n 0 dX6_clear_0 rfl rfl rfl ?_
  refine mv_getR fd_X6_4 lk_X6_32 dX6_clear_1 rfl (fun v1 => ?_)
  refine mv_getI fd_X4_1 lk_X6_108 dX6_clear_4 rfl (fun v2 => ?_)
  refine mv_istore_n [0] no_X6 dX6_clear_7 rfl (by decide) rfl rfl rfl ?_
  refine mv_aload_n 1 dX6_clear_8 rfl rfl rfl ?_
  refine mv_getR fd_X6_4 lk_X6_32 dX6_clear_9 rfl (fun v3 => ?_)
  refine mv_iconst (v := (0 : Int32)) dX6_clear_12 (by decide) rfl ?_
  refine mv_putI fd_X4_1 rfl (tyX4_ok 1 (by decide)) lk_X6_108 dX6_clear_13 rfl ?_
  refine mv_iload_n 0 dX6_clear_16 rfl rfl rfl ?_
  exact mv_iret dX6_clear_17

def J_X6_fault_32 (a0 : Nat) (s0 : Int32) : mv_M Int32 :=
  mv_pu s0

set_option maxHeartbeats 4000000 in
set_option maxRecDepth 100000 in
theorem sJ_X6_fault_32 (l : Launch) (N0 : Nat) (D : va_G) (dA : Nat → ClassId) (a0 : Nat) (s0 : Int32) : mv_Sim l N0 D dA RX6 cX6_fault 2 3 64 (some .int) false mv_rI 32 [(0, mv_vr N0 (some a0))] [.int s0] (J_X6_fault_32 a0 s0) := by
  unfold J_X6_fault_32
  exact mv_iret dX6_fault_32

def J_X6_fault_11 (a0 : Nat) (x1 : Int32) : mv_M Int32 :=
  if x1 = 0 then
    mv_bd (mv_gR 6 7 4 (some a0)) fun v4 =>
    mv_bd (mv_rc 4 2 v4) fun i6 => mv_bd (F_X4_faultAsTours i6 ) fun v5 =>
    J_X6_fault_32 a0 v5
  else
    mv_bd (mv_gR 6 7 4 (some a0)) fun v1 =>
    mv_bd (mv_rc 4 2 v1) fun i3 => mv_bd (F_X4_faultAsLetters i3 ) fun v2 =>
    J_X6_fault_32 a0 v2

set_option maxHeartbeats 4000000 in
set_option maxRecDepth 100000 in
theorem sJ_X6_fault_11 (l : Launch) (N0 : Nat) (D : va_G) (dA : Nat → ClassId) (a0 : Nat) (x1 : Int32) : mv_Sim l N0 D dA RX6 cX6_fault 2 3 64 (some .int) false mv_rI 11 [(0, mv_vr N0 (some a0)), (1, .int x1)] [] (J_X6_fault_11 a0 x1) := by
  unfold J_X6_fault_11
  refine mv_iload_n 1 dX6_fault_11 rfl rfl rfl ?_
  refine mv_if_ne (tgt := 25) dX6_fault_12 rfl rfl ?_ ?_
  · refine mv_aload_n 0 dX6_fault_25 rfl rfl rfl ?_
    refine mv_getR fd_X6_4 lk_X6_32 dX6_fault_26 rfl (fun v1 => ?_)
    refine mv_callVi (st := []) [] (fun i3 => c_X4_faultAsLetters l N0 D dA i3 ) (T := TX4) rfl (by decide) wc_X6_118 ⟨by decide, by decide⟩ rfl (mv_cs (Nat.le_of_ble_eq_true rfl) (fun _ h => absurd h List.not_mem_nil)) dX6_fault_29 rfl (fun v2 => ?_)
    refine mv_sub [0] rfl ?_
    exact sJ_X6_fault_32 l N0 D dA a0 v2
  · refine mv_aload_n 0 dX6_fault_15 rfl rfl rfl ?_
    refine mv_getR fd_X6_4 lk_X6_32 dX6_fault_16 rfl (fun v4 => ?_)
    refine mv_callVi (st := []) [] (fun i6 => c_X4_faultAsTours l N0 D dA i6 ) (T := TX4) rfl (by decide) wc_X6_114 ⟨by decide, by decide⟩ rfl (mv_cs (Nat.le_of_ble_eq_true rfl) (fun _ h => absurd h List.not_mem_nil)) dX6_fault_19 rfl (fun v5 => ?_)
    refine mv_goto (q := 32) dX6_fault_22 rfl ?_
    refine mv_sub [0] rfl ?_
    exact sJ_X6_fault_32 l N0 D dA a0 v5

def F_X6_fault (a0 : Nat) (a1 : Int32) : mv_M Int32 :=
  if a1 = 0 then
    J_X6_fault_11 a0 a1
  else
    if a1 = (1 : Int32) then
      J_X6_fault_11 a0 a1
    else
      mv_pu ((-1) : Int32)

set_option maxHeartbeats 4000000 in
set_option maxRecDepth 100000 in
theorem c_X6_fault (l : Launch) (N0 : Nat) (D : va_G) (dA : Nat → ClassId) (a0 : Nat) (a1 : Int32) : mv_SimM l N0 D dA yX6_fault cX6_fault 2 (some .int) 3 64 mv_rI [.ref (N0 + a0), .int a1] (F_X6_fault a0 a1) := by
  refine mv_SimM_of (L0 := [(0, mv_vr N0 (some a0)), (1, .int a1)]) false (by decide +kernel) (Nat.le_of_ble_eq_true rfl) rfl (List.forall_mem_cons.mpr ⟨mv_cat N0 (some a0), List.forall_mem_cons.mpr ⟨rfl, fun _ h => absurd h List.not_mem_nil⟩⟩) (fun z => by cases z) ?_
  unfold F_X6_fault
  show mv_Sim l N0 D dA RX6 cX6_fault 2 3 64 (some .int) false mv_rI 0 _ _ _
  refine mv_iload_n 1 dX6_fault_0 rfl rfl rfl ?_
  refine mv_if_eq (tgt := 11) dX6_fault_1 rfl rfl ?_ ?_
  · refine mv_sub [0, 1] rfl ?_
    exact sJ_X6_fault_11 l N0 D dA a0 a1
  · refine mv_iload_n 1 dX6_fault_4 rfl rfl rfl ?_
    refine mv_iconst (v := (1 : Int32)) dX6_fault_5 (by decide) rfl ?_
    refine mv_icmp_eq (tgt := 11) dX6_fault_6 rfl rfl ?_ ?_
    · refine mv_sub [0, 1] rfl ?_
      exact sJ_X6_fault_11 l N0 D dA a0 a1
    · refine mv_iconst (v := ((-1) : Int32)) dX6_fault_9 (by decide) rfl ?_
      exact mv_iret dX6_fault_10

def Lp_X6_letters_53 (a0 : Nat) : Nat → Int32 → mv_M Int32
  | 0, _ => mv_fl
  | n + 1, x1 =>
    mv_bd (mv_gR 6 7 4 (some a0)) fun v1 =>
    mv_bd (mv_gI 4 2 1 v1) fun v2 =>
    if v2 ≤ (x1 + (2 : Int32)) then
      mv_bd (mv_gR 6 7 4 (some a0)) fun v3 =>
      mv_bd (mv_sI 4 2 1 v3 (0 : Int32)) fun _ =>
      mv_bd (mv_gR 6 7 0 (some a0)) fun v4 =>
      mv_bd (mv_gI 5 12 4 v4) fun v5 =>
      mv_pu v5
    else
      mv_bd (mv_gR 6 7 4 (some a0)) fun v6 =>
      mv_bd (mv_rc 4 2 v6) fun i8 => mv_bd (F_X4_signAt i8 x1) fun v7 =>
      mv_bd (mv_pu (v7 - (48 : Int32))) fun v9 =>
      mv_bd (mv_gR 6 7 4 (some a0)) fun v10 =>
      mv_bd (mv_rc 4 2 v10) fun i12 => mv_bd (F_X4_signAt i12 (x1 + (2 : Int32))) fun v11 =>
      mv_bd (mv_pu (v11 - (48 : Int32))) fun v13 =>
      mv_bd (mv_gR 6 7 0 (some a0)) fun v14 =>
      mv_bd (mv_gR 6 7 5 (some a0)) fun v15 =>
      mv_bd (mv_gR 6 7 0 (some a0)) fun v16 =>
      mv_bd (mv_gR 6 7 0 (some a0)) fun v17 =>
      mv_bd (mv_gI 5 12 5 v17) fun v18 =>
      mv_bd (mv_rc 2 4 v15) fun i20 => mv_bd (F_X2_ifLying i20 v16 v9 v13 v18) fun v19 =>
      mv_bd (mv_rc 5 12 v14) fun i21 => mv_bd (F_X5_addBundle i21 v9 v13 v19) fun _ =>
      Lp_X6_letters_53 a0 n (x1 + (4 : Int32))

set_option maxHeartbeats 4000000 in
set_option maxRecDepth 100000 in
theorem sLp_X6_letters_53 (l : Launch) (N0 : Nat) (D : va_G) (dA : Nat → ClassId) (a0 : Nat) : ∀ (n : Nat) (x1 : Int32), mv_Sim l N0 D dA RX6 cX6_letters 4 4 101 (some .int) false mv_rI 53 [(0, mv_vr N0 (some a0)), (1, .int x1)] [] (Lp_X6_letters_53 a0 n x1) := by
  intro n
  induction n with
  | zero => intro x1; rw [Lp_X6_letters_53]; exact mv_fl_sim
  | succ n ih =>
    intro x1
    rw [Lp_X6_letters_53]
    refine mv_iload_n 1 dX6_letters_53 rfl rfl rfl ?_
    refine mv_iconst (v := (2 : Int32)) dX6_letters_54 (by decide) rfl ?_
    refine mv_iadd dX6_letters_55 rfl ?_
    refine mv_aload_n 0 dX6_letters_56 rfl rfl rfl ?_
    refine mv_getR fd_X6_4 lk_X6_32 dX6_letters_57 rfl (fun v1 => ?_)
    refine mv_getI fd_X4_1 lk_X6_108 dX6_letters_60 rfl (fun v2 => ?_)
    refine mv_icmp_ge (tgt := 127) dX6_letters_63 rfl rfl ?_ ?_
    · refine mv_aload_n 0 dX6_letters_127 rfl rfl rfl ?_
      refine mv_getR fd_X6_4 lk_X6_32 dX6_letters_128 rfl (fun v3 => ?_)
      refine mv_iconst (v := (0 : Int32)) dX6_letters_131 (by decide) rfl ?_
      refine mv_putI fd_X4_1 rfl (tyX4_ok 1 (by decide)) lk_X6_108 dX6_letters_132 rfl ?_
      refine mv_aload_n 0 dX6_letters_135 rfl rfl rfl ?_
      refine mv_getR fd_X6_0 lk_X6_10 dX6_letters_136 rfl (fun v4 => ?_)
      refine mv_getI fd_X5_4 lk_X6_82 dX6_letters_139 rfl (fun v5 => ?_)
      exact mv_iret dX6_letters_142
    · refine mv_aload_n 0 dX6_letters_66 rfl rfl rfl ?_
      refine mv_getR fd_X6_4 lk_X6_32 dX6_letters_67 rfl (fun v6 => ?_)
      refine mv_iload_n 1 dX6_letters_70 rfl rfl rfl ?_
      refine mv_callVi (st := []) [.int x1] (fun i8 => c_X4_signAt l N0 D dA i8 x1) (T := TX4) rfl (by decide) wc_X6_130 ⟨by decide, by decide⟩ rfl (mv_cs (Nat.le_of_ble_eq_true rfl) (fun _ h => absurd h List.not_mem_nil)) dX6_letters_71 rfl (fun v7 => ?_)
      refine mv_bipush (v := (48 : Int32)) dX6_letters_74 (by decide) rfl ?_
      refine mv_isub dX6_letters_76 rfl ?_
      refine mv_let (fun v9 => ?_)
      refine mv_istore_n [0, 1] no_X6 dX6_letters_77 rfl (by decide) rfl rfl rfl ?_
      refine mv_aload_n 1 dX6_letters_78 rfl rfl rfl ?_
      refine mv_getR fd_X6_4 lk_X6_32 dX6_letters_79 rfl (fun v10 => ?_)
      refine mv_iload_n 2 dX6_letters_82 rfl rfl rfl ?_
      refine mv_iconst (v := (2 : Int32)) dX6_letters_83 (by decide) rfl ?_
      refine mv_iadd dX6_letters_84 rfl ?_
      refine mv_callVi (st := []) [.int (x1 + (2 : Int32))] (fun i12 => c_X4_signAt l N0 D dA i12 (x1 + (2 : Int32))) (T := TX4) rfl (by decide) wc_X6_130 ⟨by decide, by decide⟩ rfl (mv_cs (Nat.le_of_ble_eq_true rfl) (fun _ h => absurd h List.not_mem_nil)) dX6_letters_85 rfl (fun v11 => ?_)
      refine mv_bipush (v := (48 : Int32)) dX6_letters_88 (by decide) rfl ?_
      refine mv_isub dX6_letters_90 rfl ?_
      refine mv_let (fun v13 => ?_)
      refine mv_istore_n [0, 1, 2] no_X6 dX6_letters_91 rfl (by decide) rfl rfl rfl ?_
      refine mv_aload_n 2 dX6_letters_92 rfl rfl rfl ?_
      refine mv_getR fd_X6_0 lk_X6_10 dX6_letters_93 rfl (fun v14 => ?_)
      refine mv_iload_n 1 dX6_letters_96 rfl rfl rfl ?_
      refine mv_iload_n 0 dX6_letters_97 rfl rfl rfl ?_
      refine mv_aload_n 2 dX6_letters_98 rfl rfl rfl ?_
      refine mv_getR fd_X6_5 lk_X6_39 dX6_letters_99 rfl (fun v15 => ?_)
      refine mv_aload_n 2 dX6_letters_102 rfl rfl rfl ?_
      refine mv_getR fd_X6_0 lk_X6_10 dX6_letters_103 rfl (fun v16 => ?_)
      refine mv_iload_n 1 dX6_letters_106 rfl rfl rfl ?_
      refine mv_iload_n 0 dX6_letters_107 rfl rfl rfl ?_
      refine mv_aload_n 2 dX6_letters_108 rfl rfl rfl ?_
      refine mv_getR fd_X6_0 lk_X6_10 dX6_letters_109 rfl (fun v17 => ?_)
      refine mv_getI fd_X5_5 lk_X6_63 dX6_letters_112 rfl (fun v18 => ?_)
      refine mv_callVi (st := [.int v13, .int v9, mv_vr N0 v14]) [mv_vr N0 v16, .int v9, .int v13, .int v18] (fun i20 => c_X2_ifLying l N0 D dA i20 v16 v9 v13 v18) (T := TX2) rfl (by decide) wc_X6_85 ⟨by decide, by decide⟩ rfl (mv_cs (Nat.le_of_ble_eq_true rfl) (List.forall_mem_cons.mpr ⟨rfl, List.forall_mem_cons.mpr ⟨rfl, List.forall_mem_cons.mpr ⟨mv_cat N0 v14, fun _ h => absurd h List.not_mem_nil⟩⟩⟩)) dX6_letters_115 rfl (fun v19 => ?_)
      refine mv_callVv (st := []) [.int v9, .int v13, .int v19] (fun i21 => c_X5_addBundle l N0 D dA i21 v9 v13 v19) (T := TX5) rfl (by decide) wc_X6_89 ⟨by decide, by decide⟩ rfl (mv_cs (Nat.le_of_ble_eq_true rfl) (fun _ h => absurd h List.not_mem_nil)) dX6_letters_118 rfl ?_
      refine mv_iinc (y := (x1 + (4 : Int32))) 3 [0, 1, 2] no_X6 dX6_letters_121 rfl rfl (by decide) rfl rfl rfl ?_
      refine mv_goto (q := 53) dX6_letters_124 rfl ?_
      refine mv_sub [3, 0] rfl ?_
      exact ih (x1 + (4 : Int32))

def F_X6_letters (a0 : Nat) : mv_M Int32 :=
  mv_bd (mv_gR 6 7 4 (some a0)) fun v22 =>
  mv_bd (mv_rc 4 2 v22) fun i24 => mv_bd (F_X4_faultAsLetters i24 ) fun v23 =>
  if v23 = ((-4) : Int32) then
    mv_bd (mv_gR 6 7 0 (some a0)) fun v25 =>
    mv_bd (mv_gI 5 12 4 v25) fun v26 =>
    mv_bd (mv_gR 6 7 4 (some a0)) fun v27 =>
    mv_bd (mv_rc 4 2 v27) fun i29 => mv_bd (F_X4_parts i29 (44 : Int32)) fun v28 =>
    if (v26 + v28) ≤ (8 : Int32) then
      mv_bd (mv_gR 6 7 3 (some a0)) fun v30 =>
      mv_bd (mv_gR 6 7 0 (some a0)) fun v31 =>
      mv_bd (mv_rc 3 2 v30) fun i32 => mv_bd (F_X3_keep i32 v31) fun _ =>
      Lp_X6_letters_53 a0 mv_FU (0 : Int32)
    else
      mv_pu ((-3) : Int32)
  else
    mv_pu ((-2) : Int32)

set_option maxHeartbeats 4000000 in
set_option maxRecDepth 100000 in
theorem c_X6_letters (l : Launch) (N0 : Nat) (D : va_G) (dA : Nat → ClassId) (a0 : Nat) : mv_SimM l N0 D dA yX6_letters cX6_letters 4 (some .int) 4 101 mv_rI [.ref (N0 + a0)] (F_X6_letters a0) := by
  refine mv_SimM_of (L0 := [(0, mv_vr N0 (some a0))]) false (by decide +kernel) (Nat.le_of_ble_eq_true rfl) rfl (List.forall_mem_cons.mpr ⟨mv_cat N0 (some a0), fun _ h => absurd h List.not_mem_nil⟩) (fun z => by cases z) ?_
  unfold F_X6_letters
  show mv_Sim l N0 D dA RX6 cX6_letters 4 4 101 (some .int) false mv_rI 0 _ _ _
  refine mv_aload_n 0 dX6_letters_0 rfl rfl rfl ?_
  refine mv_getR fd_X6_4 lk_X6_32 dX6_letters_1 rfl (fun v22 => ?_)
  refine mv_callVi (st := []) [] (fun i24 => c_X4_faultAsLetters l N0 D dA i24 ) (T := TX4) rfl (by decide) wc_X6_118 ⟨by decide, by decide⟩ rfl (mv_cs (Nat.le_of_ble_eq_true rfl) (fun _ h => absurd h List.not_mem_nil)) dX6_letters_4 rfl (fun v23 => ?_)
  refine mv_bipush (v := ((-4) : Int32)) dX6_letters_7 (by decide) rfl ?_
  refine mv_icmp_eq (tgt := 15) dX6_letters_9 rfl rfl ?_ ?_
  · refine mv_aload_n 0 dX6_letters_15 rfl rfl rfl ?_
    refine mv_getR fd_X6_0 lk_X6_10 dX6_letters_16 rfl (fun v25 => ?_)
    refine mv_getI fd_X5_4 lk_X6_82 dX6_letters_19 rfl (fun v26 => ?_)
    refine mv_aload_n 0 dX6_letters_22 rfl rfl rfl ?_
    refine mv_getR fd_X6_4 lk_X6_32 dX6_letters_23 rfl (fun v27 => ?_)
    refine mv_bipush (v := (44 : Int32)) dX6_letters_26 (by decide) rfl ?_
    refine mv_callVi (st := [.int v26]) [.int (44 : Int32)] (fun i29 => c_X4_parts l N0 D dA i29 (44 : Int32)) (T := TX4) rfl (by decide) wc_X6_124 ⟨by decide, by decide⟩ rfl (mv_cs (Nat.le_of_ble_eq_true rfl) (List.forall_mem_cons.mpr ⟨rfl, fun _ h => absurd h List.not_mem_nil⟩)) dX6_letters_28 rfl (fun v28 => ?_)
    refine mv_iadd dX6_letters_31 rfl ?_
    refine mv_bipush (v := (8 : Int32)) dX6_letters_32 (by decide) rfl ?_
    refine mv_icmp_le (tgt := 40) dX6_letters_34 rfl rfl ?_ ?_
    · refine mv_aload_n 0 dX6_letters_40 rfl rfl rfl ?_
      refine mv_getR fd_X6_3 lk_X6_25 dX6_letters_41 rfl (fun v30 => ?_)
      refine mv_aload_n 0 dX6_letters_44 rfl rfl rfl ?_
      refine mv_getR fd_X6_0 lk_X6_10 dX6_letters_45 rfl (fun v31 => ?_)
      refine mv_callVv (st := []) [mv_vr N0 v31] (fun i32 => c_X3_keep l N0 D dA i32 v31) (T := TX3) rfl (by decide) wc_X6_51 ⟨by decide, by decide⟩ rfl (mv_cs (Nat.le_of_ble_eq_true rfl) (fun _ h => absurd h List.not_mem_nil)) dX6_letters_48 rfl ?_
      refine mv_iconst (v := (0 : Int32)) dX6_letters_51 (by decide) rfl ?_
      refine mv_istore_n [0] no_X6 dX6_letters_52 rfl (by decide) rfl rfl rfl ?_
      refine mv_sub [1, 0] rfl ?_
      exact sLp_X6_letters_53 l N0 D dA a0 mv_FU (0 : Int32)
    · refine mv_bipush (v := ((-3) : Int32)) dX6_letters_37 (by decide) rfl ?_
      exact mv_iret dX6_letters_39
  · refine mv_bipush (v := ((-2) : Int32)) dX6_letters_12 (by decide) rfl ?_
    exact mv_iret dX6_letters_14

def J_X6_addCarriersOfPad_86 (k10 : Option Nat → Int32 → mv_M Unit) (a0 : Nat) (x1 : Option Nat) (x2 : Int32) : mv_M Unit :=
  k10 x1 (x2 + (1 : Int32))

set_option maxHeartbeats 4000000 in
set_option maxRecDepth 100000 in
theorem sJ_X6_addCarriersOfPad_86 (l : Launch) (N0 : Nat) (D : va_G) (dA : Nat → ClassId) (a0 : Nat) (x1 : Option Nat) (x2 : Int32) (k10 : Option Nat → Int32 → mv_M Unit) (hk10 : ∀ (y1 : Option Nat) (y2 : Int32), mv_Sim l N0 D dA RX6 cX6_addCarriersOfPad 4 2 41 none false mv_rV 10 [(0, mv_vr N0 (some a0)), (1, mv_vr N0 y1), (2, .int y2)] [] (k10 y1 y2)) : mv_Sim l N0 D dA RX6 cX6_addCarriersOfPad 4 2 41 none false mv_rV 86 [(0, mv_vr N0 (some a0)), (1, mv_vr N0 x1), (2, .int x2)] [] (J_X6_addCarriersOfPad_86 k10 a0 x1 x2) := by
  unfold J_X6_addCarriersOfPad_86
  refine mv_iinc (y := (x2 + (1 : Int32))) 2 [0, 1] no_X6 dX6_addCarriersOfPad_86 rfl rfl (by decide) rfl rfl rfl ?_
  refine mv_goto (q := 10) dX6_addCarriersOfPad_89 rfl ?_
  refine mv_sub [1, 2, 0] rfl ?_
  exact hk10 x1 (x2 + (1 : Int32))

def J_X6_addCarriersOfPad_92 (a0 : Nat) : mv_M Unit :=
  mv_pu ()

set_option maxHeartbeats 4000000 in
set_option maxRecDepth 100000 in
theorem sJ_X6_addCarriersOfPad_92 (l : Launch) (N0 : Nat) (D : va_G) (dA : Nat → ClassId) (a0 : Nat) : mv_Sim l N0 D dA RX6 cX6_addCarriersOfPad 4 2 41 none false mv_rV 92 [(0, mv_vr N0 (some a0))] [] (J_X6_addCarriersOfPad_92 a0) := by
  unfold J_X6_addCarriersOfPad_92
  exact mv_vret dX6_addCarriersOfPad_92

def Lp_X6_addCarriersOfPad_10 (a0 : Nat) : Nat → Option Nat → Int32 → mv_M Unit
  | 0, _, _ => mv_fl
  | n + 1, x1, x2 =>
    mv_bd (mv_gR 6 7 4 (some a0)) fun v1 =>
    mv_bd (mv_gI 4 2 1 v1) fun v2 =>
    if v2 ≤ x2 then
      J_X6_addCarriersOfPad_92 a0
    else
      if x1 = none then
        J_X6_addCarriersOfPad_92 a0
      else
        mv_bd (mv_gR 6 7 4 (some a0)) fun v3 =>
        mv_bd (mv_rc 4 2 v3) fun i5 => mv_bd (F_X4_signAt i5 x2) fun v4 =>
        if v4 = (59 : Int32) then
          mv_bd (mv_gR 6 7 0 (some a0)) fun v10 =>
          mv_bd (mv_rc 5 12 v10) fun i12 => mv_bd (F_X5_addCarrier i12 ) fun v11 =>
          J_X6_addCarriersOfPad_86 (Lp_X6_addCarriersOfPad_10 a0 n) a0 v11 x2
        else
          if v4 = (42 : Int32) then
            mv_bd (mv_gR 6 7 4 (some a0)) fun v7 =>
            mv_bd (mv_rc 4 2 v7) fun i9 => mv_bd (F_X4_signAt i9 (x2 + (1 : Int32))) fun v8 =>
            mv_bd (mv_sI 1 6 2 x1 (v8 - (48 : Int32))) fun _ =>
            J_X6_addCarriersOfPad_86 (Lp_X6_addCarriersOfPad_10 a0 n) a0 x1 (x2 + (1 : Int32))
          else
            mv_bd (mv_rc 1 6 x1) fun i6 => mv_bd (F_X1_addTown i6 (v4 - (48 : Int32))) fun _ =>
            J_X6_addCarriersOfPad_86 (Lp_X6_addCarriersOfPad_10 a0 n) a0 x1 x2

set_option maxHeartbeats 4000000 in
set_option maxRecDepth 100000 in
theorem sLp_X6_addCarriersOfPad_10 (l : Launch) (N0 : Nat) (D : va_G) (dA : Nat → ClassId) (a0 : Nat) : ∀ (n : Nat) (x1 : Option Nat) (x2 : Int32), mv_Sim l N0 D dA RX6 cX6_addCarriersOfPad 4 2 41 none false mv_rV 10 [(0, mv_vr N0 (some a0)), (1, mv_vr N0 x1), (2, .int x2)] [] (Lp_X6_addCarriersOfPad_10 a0 n x1 x2) := by
  intro n
  induction n with
  | zero => intro x1 x2; rw [Lp_X6_addCarriersOfPad_10]; exact mv_fl_sim
  | succ n ih =>
    intro x1 x2
    rw [Lp_X6_addCarriersOfPad_10]
    refine mv_iload_n 2 dX6_addCarriersOfPad_10 rfl rfl rfl ?_
    refine mv_aload_n 0 dX6_addCarriersOfPad_11 rfl rfl rfl ?_
    refine mv_getR fd_X6_4 lk_X6_32 dX6_addCarriersOfPad_12 rfl (fun v1 => ?_)
    refine mv_getI fd_X4_1 lk_X6_108 dX6_addCarriersOfPad_15 rfl (fun v2 => ?_)
    refine mv_icmp_ge (tgt := 92) dX6_addCarriersOfPad_18 rfl rfl ?_ ?_
    · refine mv_sub [0] rfl ?_
      exact sJ_X6_addCarriersOfPad_92 l N0 D dA a0
    · refine mv_aload_n 1 dX6_addCarriersOfPad_21 rfl rfl rfl ?_
      refine mv_ifnull (tgt := 92) dX6_addCarriersOfPad_22 rfl rfl ?_ ?_
      · refine mv_sub [0] rfl ?_
        exact sJ_X6_addCarriersOfPad_92 l N0 D dA a0
      · refine mv_aload_n 0 dX6_addCarriersOfPad_25 rfl rfl rfl ?_
        refine mv_getR fd_X6_4 lk_X6_32 dX6_addCarriersOfPad_26 rfl (fun v3 => ?_)
        refine mv_iload_n 2 dX6_addCarriersOfPad_29 rfl rfl rfl ?_
        refine mv_callVi (st := []) [.int x2] (fun i5 => c_X4_signAt l N0 D dA i5 x2) (T := TX4) rfl (by decide) wc_X6_130 ⟨by decide, by decide⟩ rfl (mv_cs (Nat.le_of_ble_eq_true rfl) (fun _ h => absurd h List.not_mem_nil)) dX6_addCarriersOfPad_30 rfl (fun v4 => ?_)
        refine mv_istore_n [0, 1, 2] no_X6 dX6_addCarriersOfPad_33 rfl (by decide) rfl rfl rfl ?_
        refine mv_iload_n 0 dX6_addCarriersOfPad_34 rfl rfl rfl ?_
        refine mv_bipush (v := (59 : Int32)) dX6_addCarriersOfPad_35 (by decide) rfl ?_
        refine mv_icmp_ne (tgt := 51) dX6_addCarriersOfPad_37 rfl rfl ?_ ?_
        · refine mv_iload_n 0 dX6_addCarriersOfPad_51 rfl rfl rfl ?_
          refine mv_bipush (v := (42 : Int32)) dX6_addCarriersOfPad_52 (by decide) rfl ?_
          refine mv_icmp_ne (tgt := 78) dX6_addCarriersOfPad_54 rfl rfl ?_ ?_
          · refine mv_aload_n 2 dX6_addCarriersOfPad_78 rfl rfl rfl ?_
            refine mv_iload_n 0 dX6_addCarriersOfPad_79 rfl rfl rfl ?_
            refine mv_bipush (v := (48 : Int32)) dX6_addCarriersOfPad_80 (by decide) rfl ?_
            refine mv_isub dX6_addCarriersOfPad_82 rfl ?_
            refine mv_callVv (st := []) [.int (v4 - (48 : Int32))] (fun i6 => c_X1_addTown l N0 D dA i6 (v4 - (48 : Int32))) (T := TX1) rfl (by decide) wc_X6_240 ⟨by decide, by decide⟩ rfl (mv_cs (Nat.le_of_ble_eq_true rfl) (fun _ h => absurd h List.not_mem_nil)) dX6_addCarriersOfPad_83 rfl ?_
            refine mv_sub [1, 2, 3] rfl ?_
            exact sJ_X6_addCarriersOfPad_86 l N0 D dA a0 x1 x2 _ ih
          · refine mv_iinc (y := (x2 + (1 : Int32))) 3 [0, 1, 2] no_X6 dX6_addCarriersOfPad_57 rfl rfl (by decide) rfl rfl rfl ?_
            refine mv_aload_n 3 dX6_addCarriersOfPad_60 rfl rfl rfl ?_
            refine mv_aload_n 2 dX6_addCarriersOfPad_61 rfl rfl rfl ?_
            refine mv_getR fd_X6_4 lk_X6_32 dX6_addCarriersOfPad_62 rfl (fun v7 => ?_)
            refine mv_iload_n 0 dX6_addCarriersOfPad_65 rfl rfl rfl ?_
            refine mv_callVi (st := [mv_vr N0 x1]) [.int (x2 + (1 : Int32))] (fun i9 => c_X4_signAt l N0 D dA i9 (x2 + (1 : Int32))) (T := TX4) rfl (by decide) wc_X6_130 ⟨by decide, by decide⟩ rfl (mv_cs (Nat.le_of_ble_eq_true rfl) (List.forall_mem_cons.mpr ⟨mv_cat N0 x1, fun _ h => absurd h List.not_mem_nil⟩)) dX6_addCarriersOfPad_66 rfl (fun v8 => ?_)
            refine mv_bipush (v := (48 : Int32)) dX6_addCarriersOfPad_69 (by decide) rfl ?_
            refine mv_isub dX6_addCarriersOfPad_71 rfl ?_
            refine mv_putI fd_X1_2 rfl (tyX1_ok 2 (by decide)) lk_X6_72 dX6_addCarriersOfPad_72 rfl ?_
            refine mv_goto (q := 86) dX6_addCarriersOfPad_75 rfl ?_
            refine mv_sub [2, 3, 0] rfl ?_
            exact sJ_X6_addCarriersOfPad_86 l N0 D dA a0 x1 (x2 + (1 : Int32)) _ ih
        · refine mv_aload_n 1 dX6_addCarriersOfPad_40 rfl rfl rfl ?_
          refine mv_getR fd_X6_0 lk_X6_10 dX6_addCarriersOfPad_41 rfl (fun v10 => ?_)
          refine mv_callVr (st := []) [] (fun i12 => c_X5_addCarrier l N0 D dA i12 ) (T := TX5) rfl (by decide) wc_X6_236 ⟨by decide, by decide⟩ rfl (mv_cs (Nat.le_of_ble_eq_true rfl) (fun _ h => absurd h List.not_mem_nil)) dX6_addCarriersOfPad_44 rfl (fun v11 => ?_)
          refine mv_astore_n [0, 1, 3] no_X6 dX6_addCarriersOfPad_47 rfl (by decide) rfl rfl rfl ?_
          refine mv_goto (q := 86) dX6_addCarriersOfPad_48 rfl ?_
          refine mv_sub [2, 0, 3] rfl ?_
          exact sJ_X6_addCarriersOfPad_86 l N0 D dA a0 v11 x2 _ ih

def F_X6_addCarriersOfPad (a0 : Nat) : mv_M Unit :=
  mv_bd (mv_gR 6 7 0 (some a0)) fun v13 =>
  mv_bd (mv_rc 5 12 v13) fun i15 => mv_bd (F_X5_addCarrier i15 ) fun v14 =>
  Lp_X6_addCarriersOfPad_10 a0 mv_FU v14 (0 : Int32)

set_option maxHeartbeats 4000000 in
set_option maxRecDepth 100000 in
theorem c_X6_addCarriersOfPad (l : Launch) (N0 : Nat) (D : va_G) (dA : Nat → ClassId) (a0 : Nat) : mv_SimM l N0 D dA yX6_addCarriersOfPad cX6_addCarriersOfPad 4 none 2 41 mv_rV [.ref (N0 + a0)] (F_X6_addCarriersOfPad a0) := by
  refine mv_SimM_of (L0 := [(0, mv_vr N0 (some a0))]) false (by decide +kernel) (Nat.le_of_ble_eq_true rfl) rfl (List.forall_mem_cons.mpr ⟨mv_cat N0 (some a0), fun _ h => absurd h List.not_mem_nil⟩) (fun z => by cases z) ?_
  unfold F_X6_addCarriersOfPad
  show mv_Sim l N0 D dA RX6 cX6_addCarriersOfPad 4 2 41 none false mv_rV 0 _ _ _
  refine mv_aload_n 0 dX6_addCarriersOfPad_0 rfl rfl rfl ?_
  refine mv_getR fd_X6_0 lk_X6_10 dX6_addCarriersOfPad_1 rfl (fun v13 => ?_)
  refine mv_callVr (st := []) [] (fun i15 => c_X5_addCarrier l N0 D dA i15 ) (T := TX5) rfl (by decide) wc_X6_236 ⟨by decide, by decide⟩ rfl (mv_cs (Nat.le_of_ble_eq_true rfl) (fun _ h => absurd h List.not_mem_nil)) dX6_addCarriersOfPad_4 rfl (fun v14 => ?_)
  refine mv_astore_n [0] no_X6 dX6_addCarriersOfPad_7 rfl (by decide) rfl rfl rfl ?_
  refine mv_iconst (v := (0 : Int32)) dX6_addCarriersOfPad_8 (by decide) rfl ?_
  refine mv_istore_n [0, 1] no_X6 dX6_addCarriersOfPad_9 rfl (by decide) rfl rfl rfl ?_
  refine mv_sub [2, 1, 0] rfl ?_
  exact sLp_X6_addCarriersOfPad_10 l N0 D dA a0 mv_FU v14 (0 : Int32)

def F_X6_tours (a0 : Nat) : mv_M Int32 :=
  mv_bd (mv_gR 6 7 4 (some a0)) fun v1 =>
  mv_bd (mv_rc 4 2 v1) fun i3 => mv_bd (F_X4_faultAsTours i3 ) fun v2 =>
  if v2 = ((-4) : Int32) then
    mv_bd (mv_gR 6 7 0 (some a0)) fun v4 =>
    mv_bd (mv_gI 5 12 3 v4) fun v5 =>
    mv_bd (mv_gR 6 7 4 (some a0)) fun v6 =>
    mv_bd (mv_rc 4 2 v6) fun i8 => mv_bd (F_X4_parts i8 (59 : Int32)) fun v7 =>
    if (v5 + v7) ≤ (4 : Int32) then
      mv_bd (mv_gR 6 7 3 (some a0)) fun v9 =>
      mv_bd (mv_gR 6 7 0 (some a0)) fun v10 =>
      mv_bd (mv_rc 3 2 v9) fun i11 => mv_bd (F_X3_keep i11 v10) fun _ =>
      mv_bd (mv_rc 6 7 (some a0)) fun i12 => mv_bd (F_X6_addCarriersOfPad i12 ) fun _ =>
      mv_bd (mv_gR 6 7 4 (some a0)) fun v13 =>
      mv_bd (mv_sI 4 2 1 v13 (0 : Int32)) fun _ =>
      mv_bd (mv_gR 6 7 0 (some a0)) fun v14 =>
      mv_bd (mv_gI 5 12 3 v14) fun v15 =>
      mv_pu v15
    else
      mv_pu ((-3) : Int32)
  else
    mv_pu ((-2) : Int32)

set_option maxHeartbeats 4000000 in
set_option maxRecDepth 100000 in
theorem c_X6_tours (l : Launch) (N0 : Nat) (D : va_G) (dA : Nat → ClassId) (a0 : Nat) : mv_SimM l N0 D dA yX6_tours cX6_tours 1 (some .int) 4 87 mv_rI [.ref (N0 + a0)] (F_X6_tours a0) := by
  refine mv_SimM_of (L0 := [(0, mv_vr N0 (some a0))]) false (by decide +kernel) (Nat.le_of_ble_eq_true rfl) rfl (List.forall_mem_cons.mpr ⟨mv_cat N0 (some a0), fun _ h => absurd h List.not_mem_nil⟩) (fun z => by cases z) ?_
  unfold F_X6_tours
  show mv_Sim l N0 D dA RX6 cX6_tours 1 4 87 (some .int) false mv_rI 0 _ _ _
  refine mv_aload_n 0 dX6_tours_0 rfl rfl rfl ?_
  refine mv_getR fd_X6_4 lk_X6_32 dX6_tours_1 rfl (fun v1 => ?_)
  refine mv_callVi (st := []) [] (fun i3 => c_X4_faultAsTours l N0 D dA i3 ) (T := TX4) rfl (by decide) wc_X6_114 ⟨by decide, by decide⟩ rfl (mv_cs (Nat.le_of_ble_eq_true rfl) (fun _ h => absurd h List.not_mem_nil)) dX6_tours_4 rfl (fun v2 => ?_)
  refine mv_bipush (v := ((-4) : Int32)) dX6_tours_7 (by decide) rfl ?_
  refine mv_icmp_eq (tgt := 15) dX6_tours_9 rfl rfl ?_ ?_
  · refine mv_aload_n 0 dX6_tours_15 rfl rfl rfl ?_
    refine mv_getR fd_X6_0 lk_X6_10 dX6_tours_16 rfl (fun v4 => ?_)
    refine mv_getI fd_X5_3 lk_X6_121 dX6_tours_19 rfl (fun v5 => ?_)
    refine mv_aload_n 0 dX6_tours_22 rfl rfl rfl ?_
    refine mv_getR fd_X6_4 lk_X6_32 dX6_tours_23 rfl (fun v6 => ?_)
    refine mv_bipush (v := (59 : Int32)) dX6_tours_26 (by decide) rfl ?_
    refine mv_callVi (st := [.int v5]) [.int (59 : Int32)] (fun i8 => c_X4_parts l N0 D dA i8 (59 : Int32)) (T := TX4) rfl (by decide) wc_X6_124 ⟨by decide, by decide⟩ rfl (mv_cs (Nat.le_of_ble_eq_true rfl) (List.forall_mem_cons.mpr ⟨rfl, fun _ h => absurd h List.not_mem_nil⟩)) dX6_tours_28 rfl (fun v7 => ?_)
    refine mv_iadd dX6_tours_31 rfl ?_
    refine mv_iconst (v := (4 : Int32)) dX6_tours_32 (by decide) rfl ?_
    refine mv_icmp_le (tgt := 39) dX6_tours_33 rfl rfl ?_ ?_
    · refine mv_aload_n 0 dX6_tours_39 rfl rfl rfl ?_
      refine mv_getR fd_X6_3 lk_X6_25 dX6_tours_40 rfl (fun v9 => ?_)
      refine mv_aload_n 0 dX6_tours_43 rfl rfl rfl ?_
      refine mv_getR fd_X6_0 lk_X6_10 dX6_tours_44 rfl (fun v10 => ?_)
      refine mv_callVv (st := []) [mv_vr N0 v10] (fun i11 => c_X3_keep l N0 D dA i11 v10) (T := TX3) rfl (by decide) wc_X6_51 ⟨by decide, by decide⟩ rfl (mv_cs (Nat.le_of_ble_eq_true rfl) (fun _ h => absurd h List.not_mem_nil)) dX6_tours_47 rfl ?_
      refine mv_aload_n 0 dX6_tours_50 rfl rfl rfl ?_
      refine mv_callVv (st := []) [] (fun i12 => c_X6_addCarriersOfPad l N0 D dA i12 ) (T := TX6) rfl (by decide) wc_X6_127 ⟨by decide, by decide⟩ rfl (mv_cs (Nat.le_of_ble_eq_true rfl) (fun _ h => absurd h List.not_mem_nil)) dX6_tours_51 rfl ?_
      refine mv_aload_n 0 dX6_tours_54 rfl rfl rfl ?_
      refine mv_getR fd_X6_4 lk_X6_32 dX6_tours_55 rfl (fun v13 => ?_)
      refine mv_iconst (v := (0 : Int32)) dX6_tours_58 (by decide) rfl ?_
      refine mv_putI fd_X4_1 rfl (tyX4_ok 1 (by decide)) lk_X6_108 dX6_tours_59 rfl ?_
      refine mv_aload_n 0 dX6_tours_62 rfl rfl rfl ?_
      refine mv_getR fd_X6_0 lk_X6_10 dX6_tours_63 rfl (fun v14 => ?_)
      refine mv_getI fd_X5_3 lk_X6_121 dX6_tours_66 rfl (fun v15 => ?_)
      exact mv_iret dX6_tours_69
    · refine mv_bipush (v := ((-3) : Int32)) dX6_tours_36 (by decide) rfl ?_
      exact mv_iret dX6_tours_38
  · refine mv_bipush (v := ((-2) : Int32)) dX6_tours_12 (by decide) rfl ?_
    exact mv_iret dX6_tours_14

def F_X6_forget (a0 : Nat) (a1 : Int32) : mv_M Int32 :=
  mv_bd (mv_gR 6 7 0 (some a0)) fun v1 =>
  mv_bd (mv_rc 5 12 v1) fun i3 => mv_bd (F_X5_bundleAt i3 a1) fun v2 =>
  if v2 = none then
    mv_pu ((-1) : Int32)
  else
    mv_bd (mv_gR 6 7 3 (some a0)) fun v4 =>
    mv_bd (mv_gR 6 7 0 (some a0)) fun v5 =>
    mv_bd (mv_rc 3 2 v4) fun i6 => mv_bd (F_X3_keep i6 v5) fun _ =>
    mv_bd (mv_gR 6 7 0 (some a0)) fun v7 =>
    mv_bd (mv_rc 5 12 v7) fun i8 => mv_bd (F_X5_removeBundle i8 a1) fun _ =>
    mv_bd (mv_gR 6 7 0 (some a0)) fun v9 =>
    mv_bd (mv_gI 5 12 4 v9) fun v10 =>
    mv_pu v10

set_option maxHeartbeats 4000000 in
set_option maxRecDepth 100000 in
theorem c_X6_forget (l : Launch) (N0 : Nat) (D : va_G) (dA : Nat → ClassId) (a0 : Nat) (a1 : Int32) : mv_SimM l N0 D dA yX6_forget cX6_forget 2 (some .int) 4 87 mv_rI [.ref (N0 + a0), .int a1] (F_X6_forget a0 a1) := by
  refine mv_SimM_of (L0 := [(0, mv_vr N0 (some a0)), (1, .int a1)]) false (by decide +kernel) (Nat.le_of_ble_eq_true rfl) rfl (List.forall_mem_cons.mpr ⟨mv_cat N0 (some a0), List.forall_mem_cons.mpr ⟨rfl, fun _ h => absurd h List.not_mem_nil⟩⟩) (fun z => by cases z) ?_
  unfold F_X6_forget
  show mv_Sim l N0 D dA RX6 cX6_forget 2 4 87 (some .int) false mv_rI 0 _ _ _
  refine mv_aload_n 0 dX6_forget_0 rfl rfl rfl ?_
  refine mv_getR fd_X6_0 lk_X6_10 dX6_forget_1 rfl (fun v1 => ?_)
  refine mv_iload_n 1 dX6_forget_4 rfl rfl rfl ?_
  refine mv_callVr (st := []) [.int a1] (fun i3 => c_X5_bundleAt l N0 D dA i3 a1) (T := TX5) rfl (by decide) wc_X6_93 ⟨by decide, by decide⟩ rfl (mv_cs (Nat.le_of_ble_eq_true rfl) (fun _ h => absurd h List.not_mem_nil)) dX6_forget_5 rfl (fun v2 => ?_)
  refine mv_ifnonnull (tgt := 13) dX6_forget_8 rfl rfl ?_ ?_
  · refine mv_aload_n 0 dX6_forget_13 rfl rfl rfl ?_
    refine mv_getR fd_X6_3 lk_X6_25 dX6_forget_14 rfl (fun v4 => ?_)
    refine mv_aload_n 0 dX6_forget_17 rfl rfl rfl ?_
    refine mv_getR fd_X6_0 lk_X6_10 dX6_forget_18 rfl (fun v5 => ?_)
    refine mv_callVv (st := []) [mv_vr N0 v5] (fun i6 => c_X3_keep l N0 D dA i6 v5) (T := TX3) rfl (by decide) wc_X6_51 ⟨by decide, by decide⟩ rfl (mv_cs (Nat.le_of_ble_eq_true rfl) (fun _ h => absurd h List.not_mem_nil)) dX6_forget_21 rfl ?_
    refine mv_aload_n 0 dX6_forget_24 rfl rfl rfl ?_
    refine mv_getR fd_X6_0 lk_X6_10 dX6_forget_25 rfl (fun v7 => ?_)
    refine mv_iload_n 1 dX6_forget_28 rfl rfl rfl ?_
    refine mv_callVv (st := []) [.int a1] (fun i8 => c_X5_removeBundle l N0 D dA i8 a1) (T := TX5) rfl (by decide) wc_X6_97 ⟨by decide, by decide⟩ rfl (mv_cs (Nat.le_of_ble_eq_true rfl) (fun _ h => absurd h List.not_mem_nil)) dX6_forget_29 rfl ?_
    refine mv_aload_n 0 dX6_forget_32 rfl rfl rfl ?_
    refine mv_getR fd_X6_0 lk_X6_10 dX6_forget_33 rfl (fun v9 => ?_)
    refine mv_getI fd_X5_4 lk_X6_82 dX6_forget_36 rfl (fun v10 => ?_)
    exact mv_iret dX6_forget_39
  · refine mv_iconst (v := ((-1) : Int32)) dX6_forget_11 (by decide) rfl ?_
    exact mv_iret dX6_forget_12

def J_X6_ifPassed_20 (a0 : Nat) : mv_M Int32 :=
  mv_pu ((-1) : Int32)

set_option maxHeartbeats 4000000 in
set_option maxRecDepth 100000 in
theorem sJ_X6_ifPassed_20 (l : Launch) (N0 : Nat) (D : va_G) (dA : Nat → ClassId) (a0 : Nat) : mv_Sim l N0 D dA RX6 cX6_ifPassed 4 6 150 (some .int) false mv_rI 20 [(0, mv_vr N0 (some a0))] [] (J_X6_ifPassed_20 a0) := by
  unfold J_X6_ifPassed_20
  refine mv_iconst (v := ((-1) : Int32)) dX6_ifPassed_20 (by decide) rfl ?_
  exact mv_iret dX6_ifPassed_21

def J_X6_ifPassed_115 (a0 : Nat) (s0 : Int32) : mv_M Int32 :=
  mv_pu s0

set_option maxHeartbeats 4000000 in
set_option maxRecDepth 100000 in
theorem sJ_X6_ifPassed_115 (l : Launch) (N0 : Nat) (D : va_G) (dA : Nat → ClassId) (a0 : Nat) (s0 : Int32) : mv_Sim l N0 D dA RX6 cX6_ifPassed 4 6 150 (some .int) false mv_rI 115 [(0, mv_vr N0 (some a0))] [.int s0] (J_X6_ifPassed_115 a0 s0) := by
  unfold J_X6_ifPassed_115
  exact mv_iret dX6_ifPassed_115

def Lp_X6_ifPassed_35 (a0 : Nat) (x1 : Int32) (x2 : Int32) : Nat → Int32 → mv_M Int32
  | 0, _ => mv_fl
  | n + 1, x3 =>
    if x1 ≤ x3 then
      if x2 = 0 then
        mv_bd (mv_gR 6 7 1 (some a0)) fun v11 =>
        mv_bd (mv_gI 5 12 9 v11) fun v12 =>
        mv_bd (mv_gR 6 7 0 (some a0)) fun v13 =>
        mv_bd (mv_gI 5 12 9 v13) fun v14 =>
        mv_pu (v12 - v14)
      else
        if x2 = (1 : Int32) then
          mv_bd (mv_gR 6 7 1 (some a0)) fun v7 =>
          mv_bd (mv_gI 5 12 11 v7) fun v8 =>
          mv_bd (mv_gR 6 7 0 (some a0)) fun v9 =>
          mv_bd (mv_gI 5 12 11 v9) fun v10 =>
          J_X6_ifPassed_115 a0 (v8 - v10)
        else
          mv_bd (mv_gR 6 7 1 (some a0)) fun v1 =>
          mv_bd (mv_rc 5 12 v1) fun i3 => mv_bd (F_X5_brokenBundles i3 ) fun v2 =>
          mv_bd (mv_gR 6 7 0 (some a0)) fun v4 =>
          mv_bd (mv_rc 5 12 v4) fun i6 => mv_bd (F_X5_brokenBundles i6 ) fun v5 =>
          J_X6_ifPassed_115 a0 (v2 - v5)
    else
      mv_bd (mv_gR 6 7 1 (some a0)) fun v15 =>
      mv_bd (mv_gR 6 7 5 (some a0)) fun v16 =>
      mv_bd (mv_rc 5 12 v15) fun i17 => mv_bd (F_X5_passDay i17 v16) fun _ =>
      Lp_X6_ifPassed_35 a0 x1 x2 n (x3 + (1 : Int32))

set_option maxHeartbeats 4000000 in
set_option maxRecDepth 100000 in
theorem sLp_X6_ifPassed_35 (l : Launch) (N0 : Nat) (D : va_G) (dA : Nat → ClassId) (a0 : Nat) (x1 : Int32) (x2 : Int32) : ∀ (n : Nat) (x3 : Int32), mv_Sim l N0 D dA RX6 cX6_ifPassed 4 6 150 (some .int) false mv_rI 35 [(0, mv_vr N0 (some a0)), (1, .int x1), (2, .int x2), (3, .int x3)] [] (Lp_X6_ifPassed_35 a0 x1 x2 n x3) := by
  intro n
  induction n with
  | zero => intro x3; rw [Lp_X6_ifPassed_35]; exact mv_fl_sim
  | succ n ih =>
    intro x3
    rw [Lp_X6_ifPassed_35]
    refine mv_iload_n 3 dX6_ifPassed_35 rfl rfl rfl ?_
    refine mv_iload_n 1 dX6_ifPassed_36 rfl rfl rfl ?_
    refine mv_icmp_ge (tgt := 57) dX6_ifPassed_37 rfl rfl ?_ ?_
    · refine mv_iload_n 2 dX6_ifPassed_57 rfl rfl rfl ?_
      refine mv_if_ne (tgt := 77) dX6_ifPassed_58 rfl rfl ?_ ?_
      · refine mv_iload_n 2 dX6_ifPassed_77 rfl rfl rfl ?_
        refine mv_iconst (v := (1 : Int32)) dX6_ifPassed_78 (by decide) rfl ?_
        refine mv_icmp_ne (tgt := 100) dX6_ifPassed_79 rfl rfl ?_ ?_
        · refine mv_aload_n 0 dX6_ifPassed_100 rfl rfl rfl ?_
          refine mv_getR fd_X6_1 lk_X6_16 dX6_ifPassed_101 rfl (fun v1 => ?_)
          refine mv_callVi (st := []) [] (fun i3 => c_X5_brokenBundles l N0 D dA i3 ) (T := TX5) rfl (by decide) wc_X6_200 ⟨by decide, by decide⟩ rfl (mv_cs (Nat.le_of_ble_eq_true rfl) (fun _ h => absurd h List.not_mem_nil)) dX6_ifPassed_104 rfl (fun v2 => ?_)
          refine mv_aload_n 0 dX6_ifPassed_107 rfl rfl rfl ?_
          refine mv_getR fd_X6_0 lk_X6_10 dX6_ifPassed_108 rfl (fun v4 => ?_)
          refine mv_callVi (st := [.int v2]) [] (fun i6 => c_X5_brokenBundles l N0 D dA i6 ) (T := TX5) rfl (by decide) wc_X6_200 ⟨by decide, by decide⟩ rfl (mv_cs (Nat.le_of_ble_eq_true rfl) (List.forall_mem_cons.mpr ⟨rfl, fun _ h => absurd h List.not_mem_nil⟩)) dX6_ifPassed_111 rfl (fun v5 => ?_)
          refine mv_isub dX6_ifPassed_114 rfl ?_
          refine mv_sub [0] rfl ?_
          exact sJ_X6_ifPassed_115 l N0 D dA a0 (v2 - v5)
        · refine mv_aload_n 0 dX6_ifPassed_82 rfl rfl rfl ?_
          refine mv_getR fd_X6_1 lk_X6_16 dX6_ifPassed_83 rfl (fun v7 => ?_)
          refine mv_getI fd_X5_11 lk_X6_209 dX6_ifPassed_86 rfl (fun v8 => ?_)
          refine mv_aload_n 0 dX6_ifPassed_89 rfl rfl rfl ?_
          refine mv_getR fd_X6_0 lk_X6_10 dX6_ifPassed_90 rfl (fun v9 => ?_)
          refine mv_getI fd_X5_11 lk_X6_209 dX6_ifPassed_93 rfl (fun v10 => ?_)
          refine mv_isub dX6_ifPassed_96 rfl ?_
          refine mv_goto (q := 115) dX6_ifPassed_97 rfl ?_
          refine mv_sub [0] rfl ?_
          exact sJ_X6_ifPassed_115 l N0 D dA a0 (v8 - v10)
      · refine mv_aload_n 0 dX6_ifPassed_61 rfl rfl rfl ?_
        refine mv_getR fd_X6_1 lk_X6_16 dX6_ifPassed_62 rfl (fun v11 => ?_)
        refine mv_getI fd_X5_9 lk_X6_101 dX6_ifPassed_65 rfl (fun v12 => ?_)
        refine mv_aload_n 0 dX6_ifPassed_68 rfl rfl rfl ?_
        refine mv_getR fd_X6_0 lk_X6_10 dX6_ifPassed_69 rfl (fun v13 => ?_)
        refine mv_getI fd_X5_9 lk_X6_101 dX6_ifPassed_72 rfl (fun v14 => ?_)
        refine mv_isub dX6_ifPassed_75 rfl ?_
        exact mv_iret dX6_ifPassed_76
    · refine mv_aload_n 0 dX6_ifPassed_40 rfl rfl rfl ?_
      refine mv_getR fd_X6_1 lk_X6_16 dX6_ifPassed_41 rfl (fun v15 => ?_)
      refine mv_aload_n 0 dX6_ifPassed_44 rfl rfl rfl ?_
      refine mv_getR fd_X6_5 lk_X6_39 dX6_ifPassed_45 rfl (fun v16 => ?_)
      refine mv_callVv (st := []) [mv_vr N0 v16] (fun i17 => c_X5_passDay l N0 D dA i17 v16) (T := TX5) rfl (by decide) wc_X6_104 ⟨by decide, by decide⟩ rfl (mv_cs (Nat.le_of_ble_eq_true rfl) (fun _ h => absurd h List.not_mem_nil)) dX6_ifPassed_48 rfl ?_
      refine mv_iinc (y := (x3 + (1 : Int32))) 3 [0, 1, 2] no_X6 dX6_ifPassed_51 rfl rfl (by decide) rfl rfl rfl ?_
      refine mv_goto (q := 35) dX6_ifPassed_54 rfl ?_
      refine mv_sub [1, 2, 3, 0] rfl ?_
      exact ih (x3 + (1 : Int32))

def F_X6_ifPassed (a0 : Nat) (a1 : Int32) (a2 : Int32) : mv_M Int32 :=
  if a1 < (1 : Int32) then
    J_X6_ifPassed_20 a0
  else
    if (30 : Int32) < a1 then
      J_X6_ifPassed_20 a0
    else
      if a2 < 0 then
        J_X6_ifPassed_20 a0
      else
        if a2 ≤ (2 : Int32) then
          mv_bd (mv_gR 6 7 1 (some a0)) fun v18 =>
          mv_bd (mv_gR 6 7 0 (some a0)) fun v19 =>
          mv_bd (mv_rc 5 12 v18) fun i20 => mv_bd (F_X5_copyFrom i20 v19) fun _ =>
          Lp_X6_ifPassed_35 a0 a1 a2 mv_FU (0 : Int32)
        else
          J_X6_ifPassed_20 a0

set_option maxHeartbeats 4000000 in
set_option maxRecDepth 100000 in
theorem c_X6_ifPassed (l : Launch) (N0 : Nat) (D : va_G) (dA : Nat → ClassId) (a0 : Nat) (a1 : Int32) (a2 : Int32) : mv_SimM l N0 D dA yX6_ifPassed cX6_ifPassed 4 (some .int) 6 150 mv_rI [.ref (N0 + a0), .int a1, .int a2] (F_X6_ifPassed a0 a1 a2) := by
  refine mv_SimM_of (L0 := [(0, mv_vr N0 (some a0)), (1, .int a1), (2, .int a2)]) false (by decide +kernel) (Nat.le_of_ble_eq_true rfl) rfl (List.forall_mem_cons.mpr ⟨mv_cat N0 (some a0), List.forall_mem_cons.mpr ⟨rfl, List.forall_mem_cons.mpr ⟨rfl, fun _ h => absurd h List.not_mem_nil⟩⟩⟩) (fun z => by cases z) ?_
  unfold F_X6_ifPassed
  show mv_Sim l N0 D dA RX6 cX6_ifPassed 4 6 150 (some .int) false mv_rI 0 _ _ _
  refine mv_iload_n 1 dX6_ifPassed_0 rfl rfl rfl ?_
  refine mv_iconst (v := (1 : Int32)) dX6_ifPassed_1 (by decide) rfl ?_
  refine mv_icmp_lt (tgt := 20) dX6_ifPassed_2 rfl rfl ?_ ?_
  · refine mv_sub [0] rfl ?_
    exact sJ_X6_ifPassed_20 l N0 D dA a0
  · refine mv_iload_n 1 dX6_ifPassed_5 rfl rfl rfl ?_
    refine mv_bipush (v := (30 : Int32)) dX6_ifPassed_6 (by decide) rfl ?_
    refine mv_icmp_gt (tgt := 20) dX6_ifPassed_8 rfl rfl ?_ ?_
    · refine mv_sub [0] rfl ?_
      exact sJ_X6_ifPassed_20 l N0 D dA a0
    · refine mv_iload_n 2 dX6_ifPassed_11 rfl rfl rfl ?_
      refine mv_if_lt (tgt := 20) dX6_ifPassed_12 rfl rfl ?_ ?_
      · refine mv_sub [0] rfl ?_
        exact sJ_X6_ifPassed_20 l N0 D dA a0
      · refine mv_iload_n 2 dX6_ifPassed_15 rfl rfl rfl ?_
        refine mv_iconst (v := (2 : Int32)) dX6_ifPassed_16 (by decide) rfl ?_
        refine mv_icmp_le (tgt := 22) dX6_ifPassed_17 rfl rfl ?_ ?_
        · refine mv_aload_n 0 dX6_ifPassed_22 rfl rfl rfl ?_
          refine mv_getR fd_X6_1 lk_X6_16 dX6_ifPassed_23 rfl (fun v18 => ?_)
          refine mv_aload_n 0 dX6_ifPassed_26 rfl rfl rfl ?_
          refine mv_getR fd_X6_0 lk_X6_10 dX6_ifPassed_27 rfl (fun v19 => ?_)
          refine mv_callVv (st := []) [mv_vr N0 v19] (fun i20 => c_X5_copyFrom l N0 D dA i20 v19) (T := TX5) rfl (by decide) wc_X6_218 ⟨by decide, by decide⟩ rfl (mv_cs (Nat.le_of_ble_eq_true rfl) (fun _ h => absurd h List.not_mem_nil)) dX6_ifPassed_30 rfl ?_
          refine mv_iconst (v := (0 : Int32)) dX6_ifPassed_33 (by decide) rfl ?_
          refine mv_istore_n [0, 1, 2] no_X6 dX6_ifPassed_34 rfl (by decide) rfl rfl rfl ?_
          refine mv_sub [1, 2, 3, 0] rfl ?_
          exact sLp_X6_ifPassed_35 l N0 D dA a0 a1 a2 mv_FU (0 : Int32)
        · refine mv_sub [0] rfl ?_
          exact sJ_X6_ifPassed_20 l N0 D dA a0

def J_X6_areTwoTowns_30 (s0 : Int32) : mv_M Int32 :=
  mv_rz s0

set_option maxHeartbeats 4000000 in
set_option maxRecDepth 100000 in
theorem sJ_X6_areTwoTowns_30 (l : Launch) (N0 : Nat) (D : va_G) (dA : Nat → ClassId) (s0 : Int32) : mv_Sim l N0 D dA RX6 cX6_areTwoTowns 2 0 0 (some .boolean) false mv_rI 30 [] [.int s0] (J_X6_areTwoTowns_30 s0) := by
  unfold J_X6_areTwoTowns_30
  exact mv_zret dX6_areTwoTowns_30

def J_X6_areTwoTowns_29 : mv_M Int32 :=
  J_X6_areTwoTowns_30 (0 : Int32)

set_option maxHeartbeats 4000000 in
set_option maxRecDepth 100000 in
theorem sJ_X6_areTwoTowns_29 (l : Launch) (N0 : Nat) (D : va_G) (dA : Nat → ClassId) : mv_Sim l N0 D dA RX6 cX6_areTwoTowns 2 0 0 (some .boolean) false mv_rI 29 [] [] (J_X6_areTwoTowns_29) := by
  unfold J_X6_areTwoTowns_29
  refine mv_iconst (v := (0 : Int32)) dX6_areTwoTowns_29 (by decide) rfl ?_
  refine mv_sub [] rfl ?_
  exact sJ_X6_areTwoTowns_30 l N0 D dA (0 : Int32)

def F_X6_areTwoTowns (a0 : Int32) (a1 : Int32) : mv_M Int32 :=
  if a0 < 0 then
    J_X6_areTwoTowns_29
  else
    if (6 : Int32) ≤ a0 then
      J_X6_areTwoTowns_29
    else
      if a1 < 0 then
        J_X6_areTwoTowns_29
      else
        if (6 : Int32) ≤ a1 then
          J_X6_areTwoTowns_29
        else
          if a0 = a1 then
            J_X6_areTwoTowns_29
          else
            J_X6_areTwoTowns_30 (1 : Int32)

set_option maxHeartbeats 4000000 in
set_option maxRecDepth 100000 in
theorem c_X6_areTwoTowns (l : Launch) (N0 : Nat) (D : va_G) (dA : Nat → ClassId) (a0 : Int32) (a1 : Int32) : mv_SimM l N0 D dA yX6_areTwoTowns cX6_areTwoTowns 2 (some .boolean) 0 0 mv_rI [.int a0, .int a1] (F_X6_areTwoTowns a0 a1) := by
  refine mv_SimM_of (L0 := [(0, .int a0), (1, .int a1)]) false (by decide +kernel) (Nat.le_of_ble_eq_true rfl) rfl (List.forall_mem_cons.mpr ⟨rfl, List.forall_mem_cons.mpr ⟨rfl, fun _ h => absurd h List.not_mem_nil⟩⟩) (fun z => by cases z) ?_
  unfold F_X6_areTwoTowns
  show mv_Sim l N0 D dA RX6 cX6_areTwoTowns 2 0 0 (some .boolean) false mv_rI 0 _ _ _
  refine mv_iload_n 0 dX6_areTwoTowns_0 rfl rfl rfl ?_
  refine mv_if_lt (tgt := 29) dX6_areTwoTowns_1 rfl rfl ?_ ?_
  · refine mv_sub [] rfl ?_
    exact sJ_X6_areTwoTowns_29 l N0 D dA
  · refine mv_iload_n 0 dX6_areTwoTowns_4 rfl rfl rfl ?_
    refine mv_bipush (v := (6 : Int32)) dX6_areTwoTowns_5 (by decide) rfl ?_
    refine mv_icmp_ge (tgt := 29) dX6_areTwoTowns_7 rfl rfl ?_ ?_
    · refine mv_sub [] rfl ?_
      exact sJ_X6_areTwoTowns_29 l N0 D dA
    · refine mv_iload_n 1 dX6_areTwoTowns_10 rfl rfl rfl ?_
      refine mv_if_lt (tgt := 29) dX6_areTwoTowns_11 rfl rfl ?_ ?_
      · refine mv_sub [] rfl ?_
        exact sJ_X6_areTwoTowns_29 l N0 D dA
      · refine mv_iload_n 1 dX6_areTwoTowns_14 rfl rfl rfl ?_
        refine mv_bipush (v := (6 : Int32)) dX6_areTwoTowns_15 (by decide) rfl ?_
        refine mv_icmp_ge (tgt := 29) dX6_areTwoTowns_17 rfl rfl ?_ ?_
        · refine mv_sub [] rfl ?_
          exact sJ_X6_areTwoTowns_29 l N0 D dA
        · refine mv_iload_n 0 dX6_areTwoTowns_20 rfl rfl rfl ?_
          refine mv_iload_n 1 dX6_areTwoTowns_21 rfl rfl rfl ?_
          refine mv_icmp_eq (tgt := 29) dX6_areTwoTowns_22 rfl rfl ?_ ?_
          · refine mv_sub [] rfl ?_
            exact sJ_X6_areTwoTowns_29 l N0 D dA
          · refine mv_iconst (v := (1 : Int32)) dX6_areTwoTowns_25 (by decide) rfl ?_
            refine mv_goto (q := 30) dX6_areTwoTowns_26 rfl ?_
            refine mv_sub [] rfl ?_
            exact sJ_X6_areTwoTowns_30 l N0 D dA (1 : Int32)

def J_X6_ifPosted_18 (a0 : Nat) : mv_M Int32 :=
  mv_pu ((-1) : Int32)

set_option maxHeartbeats 4000000 in
set_option maxRecDepth 100000 in
theorem sJ_X6_ifPosted_18 (l : Launch) (N0 : Nat) (D : va_G) (dA : Nat → ClassId) (a0 : Nat) : mv_Sim l N0 D dA RX6 cX6_ifPosted 4 4 101 (some .int) false mv_rI 18 [(0, mv_vr N0 (some a0))] [] (J_X6_ifPosted_18 a0) := by
  unfold J_X6_ifPosted_18
  refine mv_iconst (v := ((-1) : Int32)) dX6_ifPosted_18 (by decide) rfl ?_
  exact mv_iret dX6_ifPosted_19

def F_X6_ifPosted (a0 : Nat) (a1 : Int32) (a2 : Int32) (a3 : Int32) : mv_M Int32 :=
  mv_bd (F_X6_areTwoTowns a1 a2) fun v1 =>
  if v1 = 0 then
    J_X6_ifPosted_18 a0
  else
    if a3 < 0 then
      J_X6_ifPosted_18 a0
    else
      if a3 ≤ (30 : Int32) then
        mv_bd (mv_gR 6 7 5 (some a0)) fun v2 =>
        mv_bd (mv_gR 6 7 0 (some a0)) fun v3 =>
        mv_bd (mv_gR 6 7 0 (some a0)) fun v4 =>
        mv_bd (mv_gI 5 12 5 v4) fun v5 =>
        mv_bd (mv_rc 2 4 v2) fun i7 => mv_bd (F_X2_ifLying i7 v3 a1 a2 (v5 + a3)) fun v6 =>
        mv_pu v6
      else
        J_X6_ifPosted_18 a0

set_option maxHeartbeats 4000000 in
set_option maxRecDepth 100000 in
theorem c_X6_ifPosted (l : Launch) (N0 : Nat) (D : va_G) (dA : Nat → ClassId) (a0 : Nat) (a1 : Int32) (a2 : Int32) (a3 : Int32) : mv_SimM l N0 D dA yX6_ifPosted cX6_ifPosted 4 (some .int) 4 101 mv_rI [.ref (N0 + a0), .int a1, .int a2, .int a3] (F_X6_ifPosted a0 a1 a2 a3) := by
  refine mv_SimM_of (L0 := [(0, mv_vr N0 (some a0)), (1, .int a1), (2, .int a2), (3, .int a3)]) false (by decide +kernel) (Nat.le_of_ble_eq_true rfl) rfl (List.forall_mem_cons.mpr ⟨mv_cat N0 (some a0), List.forall_mem_cons.mpr ⟨rfl, List.forall_mem_cons.mpr ⟨rfl, List.forall_mem_cons.mpr ⟨rfl, fun _ h => absurd h List.not_mem_nil⟩⟩⟩⟩) (fun z => by cases z) ?_
  unfold F_X6_ifPosted
  show mv_Sim l N0 D dA RX6 cX6_ifPosted 4 4 101 (some .int) false mv_rI 0 _ _ _
  refine mv_iload_n 1 dX6_ifPosted_0 rfl rfl rfl ?_
  refine mv_iload_n 2 dX6_ifPosted_1 rfl rfl rfl ?_
  refine mv_callSi (st := []) [.int a1, .int a2] (c_X6_areTwoTowns l N0 D dA a1 a2) wc_X6_78 ⟨by decide, by decide⟩ rfl (mv_cs (Nat.le_of_ble_eq_true rfl) (fun _ h => absurd h List.not_mem_nil)) dX6_ifPosted_2 rfl (fun v1 => ?_)
  refine mv_if_eq (tgt := 18) dX6_ifPosted_5 rfl rfl ?_ ?_
  · refine mv_sub [0] rfl ?_
    exact sJ_X6_ifPosted_18 l N0 D dA a0
  · refine mv_iload_n 3 dX6_ifPosted_8 rfl rfl rfl ?_
    refine mv_if_lt (tgt := 18) dX6_ifPosted_9 rfl rfl ?_ ?_
    · refine mv_sub [0] rfl ?_
      exact sJ_X6_ifPosted_18 l N0 D dA a0
    · refine mv_iload_n 3 dX6_ifPosted_12 rfl rfl rfl ?_
      refine mv_bipush (v := (30 : Int32)) dX6_ifPosted_13 (by decide) rfl ?_
      refine mv_icmp_le (tgt := 20) dX6_ifPosted_15 rfl rfl ?_ ?_
      · refine mv_aload_n 0 dX6_ifPosted_20 rfl rfl rfl ?_
        refine mv_getR fd_X6_5 lk_X6_39 dX6_ifPosted_21 rfl (fun v2 => ?_)
        refine mv_aload_n 0 dX6_ifPosted_24 rfl rfl rfl ?_
        refine mv_getR fd_X6_0 lk_X6_10 dX6_ifPosted_25 rfl (fun v3 => ?_)
        refine mv_iload_n 1 dX6_ifPosted_28 rfl rfl rfl ?_
        refine mv_iload_n 2 dX6_ifPosted_29 rfl rfl rfl ?_
        refine mv_aload_n 0 dX6_ifPosted_30 rfl rfl rfl ?_
        refine mv_getR fd_X6_0 lk_X6_10 dX6_ifPosted_31 rfl (fun v4 => ?_)
        refine mv_getI fd_X5_5 lk_X6_63 dX6_ifPosted_34 rfl (fun v5 => ?_)
        refine mv_iload_n 3 dX6_ifPosted_37 rfl rfl rfl ?_
        refine mv_iadd dX6_ifPosted_38 rfl ?_
        refine mv_callVi (st := []) [mv_vr N0 v3, .int a1, .int a2, .int (v5 + a3)] (fun i7 => c_X2_ifLying l N0 D dA i7 v3 a1 a2 (v5 + a3)) (T := TX2) rfl (by decide) wc_X6_85 ⟨by decide, by decide⟩ rfl (mv_cs (Nat.le_of_ble_eq_true rfl) (fun _ h => absurd h List.not_mem_nil)) dX6_ifPosted_39 rfl (fun v6 => ?_)
        exact mv_iret dX6_ifPosted_42
      · refine mv_sub [0] rfl ?_
        exact sJ_X6_ifPosted_18 l N0 D dA a0

def J_X6_ill_23 (a0 : Nat) : mv_M Int32 :=
  mv_pu ((-1) : Int32)

set_option maxHeartbeats 4000000 in
set_option maxRecDepth 100000 in
theorem sJ_X6_ill_23 (l : Launch) (N0 : Nat) (D : va_G) (dA : Nat → ClassId) (a0 : Nat) : mv_Sim l N0 D dA RX6 cX6_ill 4 4 87 (some .int) false mv_rI 23 [(0, mv_vr N0 (some a0))] [] (J_X6_ill_23 a0) := by
  unfold J_X6_ill_23
  refine mv_iconst (v := ((-1) : Int32)) dX6_ill_23 (by decide) rfl ?_
  exact mv_iret dX6_ill_24

def J_X6_ill_56 (a0 : Nat) (x3 : Option Nat) (s0 : Option Nat) (s1 : Int32) : mv_M Int32 :=
  mv_bd (mv_sI 1 6 3 s0 s1) fun _ =>
  mv_bd (mv_gI 1 6 3 x3) fun v1 =>
  mv_pu v1

set_option maxHeartbeats 4000000 in
set_option maxRecDepth 100000 in
theorem sJ_X6_ill_56 (l : Launch) (N0 : Nat) (D : va_G) (dA : Nat → ClassId) (a0 : Nat) (x3 : Option Nat) (s0 : Option Nat) (s1 : Int32) : mv_Sim l N0 D dA RX6 cX6_ill 4 4 87 (some .int) false mv_rI 56 [(0, mv_vr N0 (some a0)), (3, mv_vr N0 x3)] [.int s1, mv_vr N0 s0] (J_X6_ill_56 a0 x3 s0 s1) := by
  unfold J_X6_ill_56
  refine mv_putI fd_X1_3 rfl (tyX1_ok 3 (by decide)) lk_X6_67 dX6_ill_56 rfl ?_
  refine mv_aload_n 1 dX6_ill_59 rfl rfl rfl ?_
  refine mv_getI fd_X1_3 lk_X6_67 dX6_ill_60 rfl (fun v1 => ?_)
  exact mv_iret dX6_ill_63

def F_X6_ill (a0 : Nat) (a1 : Int32) (a2 : Int32) : mv_M Int32 :=
  mv_bd (mv_gR 6 7 0 (some a0)) fun v2 =>
  mv_bd (mv_rc 5 12 v2) fun i4 => mv_bd (F_X5_carrierAt i4 a1) fun v3 =>
  if v3 = none then
    J_X6_ill_23 a0
  else
    if a2 < 0 then
      J_X6_ill_23 a0
    else
      if a2 ≤ (30 : Int32) then
        mv_bd (mv_gR 6 7 3 (some a0)) fun v5 =>
        mv_bd (mv_gR 6 7 0 (some a0)) fun v6 =>
        mv_bd (mv_rc 3 2 v5) fun i7 => mv_bd (F_X3_keep i7 v6) fun _ =>
        if a2 = 0 then
          J_X6_ill_56 a0 v3 v3 (0 : Int32)
        else
          mv_bd (mv_gR 6 7 0 (some a0)) fun v8 =>
          mv_bd (mv_gI 5 12 5 v8) fun v9 =>
          J_X6_ill_56 a0 v3 v3 ((v9 + (1 : Int32)) + a2)
      else
        J_X6_ill_23 a0

set_option maxHeartbeats 4000000 in
set_option maxRecDepth 100000 in
theorem c_X6_ill (l : Launch) (N0 : Nat) (D : va_G) (dA : Nat → ClassId) (a0 : Nat) (a1 : Int32) (a2 : Int32) : mv_SimM l N0 D dA yX6_ill cX6_ill 4 (some .int) 4 87 mv_rI [.ref (N0 + a0), .int a1, .int a2] (F_X6_ill a0 a1 a2) := by
  refine mv_SimM_of (L0 := [(0, mv_vr N0 (some a0)), (1, .int a1), (2, .int a2)]) false (by decide +kernel) (Nat.le_of_ble_eq_true rfl) rfl (List.forall_mem_cons.mpr ⟨mv_cat N0 (some a0), List.forall_mem_cons.mpr ⟨rfl, List.forall_mem_cons.mpr ⟨rfl, fun _ h => absurd h List.not_mem_nil⟩⟩⟩) (fun z => by cases z) ?_
  unfold F_X6_ill
  show mv_Sim l N0 D dA RX6 cX6_ill 4 4 87 (some .int) false mv_rI 0 _ _ _
  refine mv_aload_n 0 dX6_ill_0 rfl rfl rfl ?_
  refine mv_getR fd_X6_0 lk_X6_10 dX6_ill_1 rfl (fun v2 => ?_)
  refine mv_iload_n 1 dX6_ill_4 rfl rfl rfl ?_
  refine mv_callVr (st := []) [.int a1] (fun i4 => c_X5_carrierAt l N0 D dA i4 a1) (T := TX5) rfl (by decide) wc_X6_59 ⟨by decide, by decide⟩ rfl (mv_cs (Nat.le_of_ble_eq_true rfl) (fun _ h => absurd h List.not_mem_nil)) dX6_ill_5 rfl (fun v3 => ?_)
  refine mv_astore_n [0, 1, 2] no_X6 dX6_ill_8 rfl (by decide) rfl rfl rfl ?_
  refine mv_aload_n 0 dX6_ill_9 rfl rfl rfl ?_
  refine mv_ifnull (tgt := 23) dX6_ill_10 rfl rfl ?_ ?_
  · refine mv_sub [1] rfl ?_
    exact sJ_X6_ill_23 l N0 D dA a0
  · refine mv_iload_n 3 dX6_ill_13 rfl rfl rfl ?_
    refine mv_if_lt (tgt := 23) dX6_ill_14 rfl rfl ?_ ?_
    · refine mv_sub [1] rfl ?_
      exact sJ_X6_ill_23 l N0 D dA a0
    · refine mv_iload_n 3 dX6_ill_17 rfl rfl rfl ?_
      refine mv_bipush (v := (30 : Int32)) dX6_ill_18 (by decide) rfl ?_
      refine mv_icmp_le (tgt := 25) dX6_ill_20 rfl rfl ?_ ?_
      · refine mv_aload_n 1 dX6_ill_25 rfl rfl rfl ?_
        refine mv_getR fd_X6_3 lk_X6_25 dX6_ill_26 rfl (fun v5 => ?_)
        refine mv_aload_n 1 dX6_ill_29 rfl rfl rfl ?_
        refine mv_getR fd_X6_0 lk_X6_10 dX6_ill_30 rfl (fun v6 => ?_)
        refine mv_callVv (st := []) [mv_vr N0 v6] (fun i7 => c_X3_keep l N0 D dA i7 v6) (T := TX3) rfl (by decide) wc_X6_51 ⟨by decide, by decide⟩ rfl (mv_cs (Nat.le_of_ble_eq_true rfl) (fun _ h => absurd h List.not_mem_nil)) dX6_ill_33 rfl ?_
        refine mv_aload_n 0 dX6_ill_36 rfl rfl rfl ?_
        refine mv_iload_n 3 dX6_ill_37 rfl rfl rfl ?_
        refine mv_if_ne (tgt := 45) dX6_ill_38 rfl rfl ?_ ?_
        · refine mv_aload_n 1 dX6_ill_45 rfl rfl rfl ?_
          refine mv_getR fd_X6_0 lk_X6_10 dX6_ill_46 rfl (fun v8 => ?_)
          refine mv_getI fd_X5_5 lk_X6_63 dX6_ill_49 rfl (fun v9 => ?_)
          refine mv_iconst (v := (1 : Int32)) dX6_ill_52 (by decide) rfl ?_
          refine mv_iadd dX6_ill_53 rfl ?_
          refine mv_iload_n 3 dX6_ill_54 rfl rfl rfl ?_
          refine mv_iadd dX6_ill_55 rfl ?_
          refine mv_sub [1, 0] rfl ?_
          exact sJ_X6_ill_56 l N0 D dA a0 v3 v3 ((v9 + (1 : Int32)) + a2)
        · refine mv_iconst (v := (0 : Int32)) dX6_ill_41 (by decide) rfl ?_
          refine mv_goto (q := 56) dX6_ill_42 rfl ?_
          refine mv_sub [1, 0] rfl ?_
          exact sJ_X6_ill_56 l N0 D dA a0 v3 v3 (0 : Int32)
      · refine mv_sub [1] rfl ?_
        exact sJ_X6_ill_23 l N0 D dA a0

def J_X6_load_11 (a0 : Nat) : mv_M Int32 :=
  mv_pu ((-1) : Int32)

set_option maxHeartbeats 4000000 in
set_option maxRecDepth 100000 in
theorem sJ_X6_load_11 (l : Launch) (N0 : Nat) (D : va_G) (dA : Nat → ClassId) (a0 : Nat) : mv_Sim l N0 D dA RX6 cX6_load 3 4 87 (some .int) false mv_rI 11 [(0, mv_vr N0 (some a0))] [] (J_X6_load_11 a0) := by
  unfold J_X6_load_11
  refine mv_iconst (v := ((-1) : Int32)) dX6_load_11 (by decide) rfl ?_
  exact mv_iret dX6_load_12

def F_X6_load (a0 : Nat) (a1 : Int32) : mv_M Int32 :=
  if a1 < (1 : Int32) then
    J_X6_load_11 a0
  else
    if a1 ≤ (8 : Int32) then
      mv_bd (mv_gR 6 7 0 (some a0)) fun v1 =>
      mv_bd (mv_gI 5 12 6 v1) fun v2 =>
      mv_bd (mv_gR 6 7 3 (some a0)) fun v3 =>
      mv_bd (mv_gR 6 7 0 (some a0)) fun v4 =>
      mv_bd (mv_rc 3 2 v3) fun i5 => mv_bd (F_X3_keep i5 v4) fun _ =>
      mv_bd (mv_gR 6 7 0 (some a0)) fun v6 =>
      mv_bd (mv_sI 5 12 6 v6 a1) fun _ =>
      mv_pu v2
    else
      J_X6_load_11 a0

set_option maxHeartbeats 4000000 in
set_option maxRecDepth 100000 in
theorem c_X6_load (l : Launch) (N0 : Nat) (D : va_G) (dA : Nat → ClassId) (a0 : Nat) (a1 : Int32) : mv_SimM l N0 D dA yX6_load cX6_load 3 (some .int) 4 87 mv_rI [.ref (N0 + a0), .int a1] (F_X6_load a0 a1) := by
  refine mv_SimM_of (L0 := [(0, mv_vr N0 (some a0)), (1, .int a1)]) false (by decide +kernel) (Nat.le_of_ble_eq_true rfl) rfl (List.forall_mem_cons.mpr ⟨mv_cat N0 (some a0), List.forall_mem_cons.mpr ⟨rfl, fun _ h => absurd h List.not_mem_nil⟩⟩) (fun z => by cases z) ?_
  unfold F_X6_load
  show mv_Sim l N0 D dA RX6 cX6_load 3 4 87 (some .int) false mv_rI 0 _ _ _
  refine mv_iload_n 1 dX6_load_0 rfl rfl rfl ?_
  refine mv_iconst (v := (1 : Int32)) dX6_load_1 (by decide) rfl ?_
  refine mv_icmp_lt (tgt := 11) dX6_load_2 rfl rfl ?_ ?_
  · refine mv_sub [0] rfl ?_
    exact sJ_X6_load_11 l N0 D dA a0
  · refine mv_iload_n 1 dX6_load_5 rfl rfl rfl ?_
    refine mv_bipush (v := (8 : Int32)) dX6_load_6 (by decide) rfl ?_
    refine mv_icmp_le (tgt := 13) dX6_load_8 rfl rfl ?_ ?_
    · refine mv_aload_n 0 dX6_load_13 rfl rfl rfl ?_
      refine mv_getR fd_X6_0 lk_X6_10 dX6_load_14 rfl (fun v1 => ?_)
      refine mv_getI fd_X5_6 lk_X6_75 dX6_load_17 rfl (fun v2 => ?_)
      refine mv_istore_n [0, 1] no_X6 dX6_load_20 rfl (by decide) rfl rfl rfl ?_
      refine mv_aload_n 1 dX6_load_21 rfl rfl rfl ?_
      refine mv_getR fd_X6_3 lk_X6_25 dX6_load_22 rfl (fun v3 => ?_)
      refine mv_aload_n 1 dX6_load_25 rfl rfl rfl ?_
      refine mv_getR fd_X6_0 lk_X6_10 dX6_load_26 rfl (fun v4 => ?_)
      refine mv_callVv (st := []) [mv_vr N0 v4] (fun i5 => c_X3_keep l N0 D dA i5 v4) (T := TX3) rfl (by decide) wc_X6_51 ⟨by decide, by decide⟩ rfl (mv_cs (Nat.le_of_ble_eq_true rfl) (fun _ h => absurd h List.not_mem_nil)) dX6_load_29 rfl ?_
      refine mv_aload_n 1 dX6_load_32 rfl rfl rfl ?_
      refine mv_getR fd_X6_0 lk_X6_10 dX6_load_33 rfl (fun v6 => ?_)
      refine mv_iload_n 2 dX6_load_36 rfl rfl rfl ?_
      refine mv_putI fd_X5_6 rfl (tyX5_ok 6 (by decide)) lk_X6_75 dX6_load_37 rfl ?_
      refine mv_iload_n 0 dX6_load_40 rfl rfl rfl ?_
      exact mv_iret dX6_load_41
    · refine mv_sub [0] rfl ?_
      exact sJ_X6_load_11 l N0 D dA a0

def J_X6_pass_11 (a0 : Nat) : mv_M Int32 :=
  mv_pu ((-1) : Int32)

set_option maxHeartbeats 4000000 in
set_option maxRecDepth 100000 in
theorem sJ_X6_pass_11 (l : Launch) (N0 : Nat) (D : va_G) (dA : Nat → ClassId) (a0 : Nat) : mv_Sim l N0 D dA RX6 cX6_pass 4 6 150 (some .int) false mv_rI 11 [(0, mv_vr N0 (some a0))] [] (J_X6_pass_11 a0) := by
  unfold J_X6_pass_11
  refine mv_iconst (v := ((-1) : Int32)) dX6_pass_11 (by decide) rfl ?_
  exact mv_iret dX6_pass_12

def Lp_X6_pass_34 (a0 : Nat) (x1 : Int32) (x2 : Int32) : Nat → Int32 → mv_M Int32
  | 0, _ => mv_fl
  | n + 1, x3 =>
    if x1 ≤ x3 then
      mv_bd (mv_gR 6 7 0 (some a0)) fun v1 =>
      mv_bd (mv_gI 5 12 9 v1) fun v2 =>
      mv_pu (v2 - x2)
    else
      mv_bd (mv_gR 6 7 0 (some a0)) fun v3 =>
      mv_bd (mv_gR 6 7 5 (some a0)) fun v4 =>
      mv_bd (mv_rc 5 12 v3) fun i5 => mv_bd (F_X5_passDay i5 v4) fun _ =>
      Lp_X6_pass_34 a0 x1 x2 n (x3 + (1 : Int32))

set_option maxHeartbeats 4000000 in
set_option maxRecDepth 100000 in
theorem sLp_X6_pass_34 (l : Launch) (N0 : Nat) (D : va_G) (dA : Nat → ClassId) (a0 : Nat) (x1 : Int32) (x2 : Int32) : ∀ (n : Nat) (x3 : Int32), mv_Sim l N0 D dA RX6 cX6_pass 4 6 150 (some .int) false mv_rI 34 [(0, mv_vr N0 (some a0)), (1, .int x1), (2, .int x2), (3, .int x3)] [] (Lp_X6_pass_34 a0 x1 x2 n x3) := by
  intro n
  induction n with
  | zero => intro x3; rw [Lp_X6_pass_34]; exact mv_fl_sim
  | succ n ih =>
    intro x3
    rw [Lp_X6_pass_34]
    refine mv_iload_n 3 dX6_pass_34 rfl rfl rfl ?_
    refine mv_iload_n 1 dX6_pass_35 rfl rfl rfl ?_
    refine mv_icmp_ge (tgt := 56) dX6_pass_36 rfl rfl ?_ ?_
    · refine mv_aload_n 0 dX6_pass_56 rfl rfl rfl ?_
      refine mv_getR fd_X6_0 lk_X6_10 dX6_pass_57 rfl (fun v1 => ?_)
      refine mv_getI fd_X5_9 lk_X6_101 dX6_pass_60 rfl (fun v2 => ?_)
      refine mv_iload_n 2 dX6_pass_63 rfl rfl rfl ?_
      refine mv_isub dX6_pass_64 rfl ?_
      exact mv_iret dX6_pass_65
    · refine mv_aload_n 0 dX6_pass_39 rfl rfl rfl ?_
      refine mv_getR fd_X6_0 lk_X6_10 dX6_pass_40 rfl (fun v3 => ?_)
      refine mv_aload_n 0 dX6_pass_43 rfl rfl rfl ?_
      refine mv_getR fd_X6_5 lk_X6_39 dX6_pass_44 rfl (fun v4 => ?_)
      refine mv_callVv (st := []) [mv_vr N0 v4] (fun i5 => c_X5_passDay l N0 D dA i5 v4) (T := TX5) rfl (by decide) wc_X6_104 ⟨by decide, by decide⟩ rfl (mv_cs (Nat.le_of_ble_eq_true rfl) (fun _ h => absurd h List.not_mem_nil)) dX6_pass_47 rfl ?_
      refine mv_iinc (y := (x3 + (1 : Int32))) 3 [0, 1, 2] no_X6 dX6_pass_50 rfl rfl (by decide) rfl rfl rfl ?_
      refine mv_goto (q := 34) dX6_pass_53 rfl ?_
      refine mv_sub [1, 2, 3, 0] rfl ?_
      exact ih (x3 + (1 : Int32))

def F_X6_pass (a0 : Nat) (a1 : Int32) : mv_M Int32 :=
  if a1 < (1 : Int32) then
    J_X6_pass_11 a0
  else
    if a1 ≤ (30 : Int32) then
      mv_bd (mv_gR 6 7 0 (some a0)) fun v6 =>
      mv_bd (mv_gI 5 12 9 v6) fun v7 =>
      mv_bd (mv_gR 6 7 3 (some a0)) fun v8 =>
      mv_bd (mv_gR 6 7 0 (some a0)) fun v9 =>
      mv_bd (mv_rc 3 2 v8) fun i10 => mv_bd (F_X3_keep i10 v9) fun _ =>
      Lp_X6_pass_34 a0 a1 v7 mv_FU (0 : Int32)
    else
      J_X6_pass_11 a0

set_option maxHeartbeats 4000000 in
set_option maxRecDepth 100000 in
theorem c_X6_pass (l : Launch) (N0 : Nat) (D : va_G) (dA : Nat → ClassId) (a0 : Nat) (a1 : Int32) : mv_SimM l N0 D dA yX6_pass cX6_pass 4 (some .int) 6 150 mv_rI [.ref (N0 + a0), .int a1] (F_X6_pass a0 a1) := by
  refine mv_SimM_of (L0 := [(0, mv_vr N0 (some a0)), (1, .int a1)]) false (by decide +kernel) (Nat.le_of_ble_eq_true rfl) rfl (List.forall_mem_cons.mpr ⟨mv_cat N0 (some a0), List.forall_mem_cons.mpr ⟨rfl, fun _ h => absurd h List.not_mem_nil⟩⟩) (fun z => by cases z) ?_
  unfold F_X6_pass
  show mv_Sim l N0 D dA RX6 cX6_pass 4 6 150 (some .int) false mv_rI 0 _ _ _
  refine mv_iload_n 1 dX6_pass_0 rfl rfl rfl ?_
  refine mv_iconst (v := (1 : Int32)) dX6_pass_1 (by decide) rfl ?_
  refine mv_icmp_lt (tgt := 11) dX6_pass_2 rfl rfl ?_ ?_
  · refine mv_sub [0] rfl ?_
    exact sJ_X6_pass_11 l N0 D dA a0
  · refine mv_iload_n 1 dX6_pass_5 rfl rfl rfl ?_
    refine mv_bipush (v := (30 : Int32)) dX6_pass_6 (by decide) rfl ?_
    refine mv_icmp_le (tgt := 13) dX6_pass_8 rfl rfl ?_ ?_
    · refine mv_aload_n 0 dX6_pass_13 rfl rfl rfl ?_
      refine mv_getR fd_X6_0 lk_X6_10 dX6_pass_14 rfl (fun v6 => ?_)
      refine mv_getI fd_X5_9 lk_X6_101 dX6_pass_17 rfl (fun v7 => ?_)
      refine mv_istore_n [0, 1] no_X6 dX6_pass_20 rfl (by decide) rfl rfl rfl ?_
      refine mv_aload_n 1 dX6_pass_21 rfl rfl rfl ?_
      refine mv_getR fd_X6_3 lk_X6_25 dX6_pass_22 rfl (fun v8 => ?_)
      refine mv_aload_n 1 dX6_pass_25 rfl rfl rfl ?_
      refine mv_getR fd_X6_0 lk_X6_10 dX6_pass_26 rfl (fun v9 => ?_)
      refine mv_callVv (st := []) [mv_vr N0 v9] (fun i10 => c_X3_keep l N0 D dA i10 v9) (T := TX3) rfl (by decide) wc_X6_51 ⟨by decide, by decide⟩ rfl (mv_cs (Nat.le_of_ble_eq_true rfl) (fun _ h => absurd h List.not_mem_nil)) dX6_pass_29 rfl ?_
      refine mv_iconst (v := (0 : Int32)) dX6_pass_32 (by decide) rfl ?_
      refine mv_istore_n [0, 1, 2] no_X6 dX6_pass_33 rfl (by decide) rfl rfl rfl ?_
      refine mv_sub [2, 3, 1, 0] rfl ?_
      exact sLp_X6_pass_34 l N0 D dA a0 a1 v7 mv_FU (0 : Int32)
    · refine mv_sub [0] rfl ?_
      exact sJ_X6_pass_11 l N0 D dA a0

def F_X6_post (a0 : Nat) (a1 : Int32) (a2 : Int32) : mv_M Int32 :=
  mv_bd (F_X6_areTwoTowns a1 a2) fun v1 =>
  if v1 = 0 then
    mv_pu ((-1) : Int32)
  else
    mv_bd (mv_gR 6 7 0 (some a0)) fun v2 =>
    mv_bd (mv_gI 5 12 4 v2) fun v3 =>
    if v3 < (8 : Int32) then
      mv_bd (mv_gR 6 7 3 (some a0)) fun v4 =>
      mv_bd (mv_gR 6 7 0 (some a0)) fun v5 =>
      mv_bd (mv_rc 3 2 v4) fun i6 => mv_bd (F_X3_keep i6 v5) fun _ =>
      mv_bd (mv_gR 6 7 5 (some a0)) fun v7 =>
      mv_bd (mv_gR 6 7 0 (some a0)) fun v8 =>
      mv_bd (mv_gR 6 7 0 (some a0)) fun v9 =>
      mv_bd (mv_gI 5 12 5 v9) fun v10 =>
      mv_bd (mv_rc 2 4 v7) fun i12 => mv_bd (F_X2_ifLying i12 v8 a1 a2 v10) fun v11 =>
      mv_bd (mv_gR 6 7 0 (some a0)) fun v13 =>
      mv_bd (mv_rc 5 12 v13) fun i14 => mv_bd (F_X5_addBundle i14 a1 a2 v11) fun _ =>
      mv_pu v11
    else
      mv_pu ((-3) : Int32)

set_option maxHeartbeats 4000000 in
set_option maxRecDepth 100000 in
theorem c_X6_post (l : Launch) (N0 : Nat) (D : va_G) (dA : Nat → ClassId) (a0 : Nat) (a1 : Int32) (a2 : Int32) : mv_SimM l N0 D dA yX6_post cX6_post 4 (some .int) 4 101 mv_rI [.ref (N0 + a0), .int a1, .int a2] (F_X6_post a0 a1 a2) := by
  refine mv_SimM_of (L0 := [(0, mv_vr N0 (some a0)), (1, .int a1), (2, .int a2)]) false (by decide +kernel) (Nat.le_of_ble_eq_true rfl) rfl (List.forall_mem_cons.mpr ⟨mv_cat N0 (some a0), List.forall_mem_cons.mpr ⟨rfl, List.forall_mem_cons.mpr ⟨rfl, fun _ h => absurd h List.not_mem_nil⟩⟩⟩) (fun z => by cases z) ?_
  unfold F_X6_post
  show mv_Sim l N0 D dA RX6 cX6_post 4 4 101 (some .int) false mv_rI 0 _ _ _
  refine mv_iload_n 1 dX6_post_0 rfl rfl rfl ?_
  refine mv_iload_n 2 dX6_post_1 rfl rfl rfl ?_
  refine mv_callSi (st := []) [.int a1, .int a2] (c_X6_areTwoTowns l N0 D dA a1 a2) wc_X6_78 ⟨by decide, by decide⟩ rfl (mv_cs (Nat.le_of_ble_eq_true rfl) (fun _ h => absurd h List.not_mem_nil)) dX6_post_2 rfl (fun v1 => ?_)
  refine mv_if_ne (tgt := 10) dX6_post_5 rfl rfl ?_ ?_
  · refine mv_aload_n 0 dX6_post_10 rfl rfl rfl ?_
    refine mv_getR fd_X6_0 lk_X6_10 dX6_post_11 rfl (fun v2 => ?_)
    refine mv_getI fd_X5_4 lk_X6_82 dX6_post_14 rfl (fun v3 => ?_)
    refine mv_bipush (v := (8 : Int32)) dX6_post_17 (by decide) rfl ?_
    refine mv_icmp_lt (tgt := 25) dX6_post_19 rfl rfl ?_ ?_
    · refine mv_aload_n 0 dX6_post_25 rfl rfl rfl ?_
      refine mv_getR fd_X6_3 lk_X6_25 dX6_post_26 rfl (fun v4 => ?_)
      refine mv_aload_n 0 dX6_post_29 rfl rfl rfl ?_
      refine mv_getR fd_X6_0 lk_X6_10 dX6_post_30 rfl (fun v5 => ?_)
      refine mv_callVv (st := []) [mv_vr N0 v5] (fun i6 => c_X3_keep l N0 D dA i6 v5) (T := TX3) rfl (by decide) wc_X6_51 ⟨by decide, by decide⟩ rfl (mv_cs (Nat.le_of_ble_eq_true rfl) (fun _ h => absurd h List.not_mem_nil)) dX6_post_33 rfl ?_
      refine mv_aload_n 0 dX6_post_36 rfl rfl rfl ?_
      refine mv_getR fd_X6_5 lk_X6_39 dX6_post_37 rfl (fun v7 => ?_)
      refine mv_aload_n 0 dX6_post_40 rfl rfl rfl ?_
      refine mv_getR fd_X6_0 lk_X6_10 dX6_post_41 rfl (fun v8 => ?_)
      refine mv_iload_n 1 dX6_post_44 rfl rfl rfl ?_
      refine mv_iload_n 2 dX6_post_45 rfl rfl rfl ?_
      refine mv_aload_n 0 dX6_post_46 rfl rfl rfl ?_
      refine mv_getR fd_X6_0 lk_X6_10 dX6_post_47 rfl (fun v9 => ?_)
      refine mv_getI fd_X5_5 lk_X6_63 dX6_post_50 rfl (fun v10 => ?_)
      refine mv_callVi (st := []) [mv_vr N0 v8, .int a1, .int a2, .int v10] (fun i12 => c_X2_ifLying l N0 D dA i12 v8 a1 a2 v10) (T := TX2) rfl (by decide) wc_X6_85 ⟨by decide, by decide⟩ rfl (mv_cs (Nat.le_of_ble_eq_true rfl) (fun _ h => absurd h List.not_mem_nil)) dX6_post_53 rfl (fun v11 => ?_)
      refine mv_istore_n [0, 1, 2] no_X6 dX6_post_56 rfl (by decide) rfl rfl rfl ?_
      refine mv_aload_n 1 dX6_post_57 rfl rfl rfl ?_
      refine mv_getR fd_X6_0 lk_X6_10 dX6_post_58 rfl (fun v13 => ?_)
      refine mv_iload_n 2 dX6_post_61 rfl rfl rfl ?_
      refine mv_iload_n 3 dX6_post_62 rfl rfl rfl ?_
      refine mv_iload_n 0 dX6_post_63 rfl rfl rfl ?_
      refine mv_callVv (st := []) [.int a1, .int a2, .int v11] (fun i14 => c_X5_addBundle l N0 D dA i14 a1 a2 v11) (T := TX5) rfl (by decide) wc_X6_89 ⟨by decide, by decide⟩ rfl (mv_cs (Nat.le_of_ble_eq_true rfl) (fun _ h => absurd h List.not_mem_nil)) dX6_post_64 rfl ?_
      refine mv_iload_n 0 dX6_post_67 rfl rfl rfl ?_
      exact mv_iret dX6_post_68
    · refine mv_bipush (v := ((-3) : Int32)) dX6_post_22 (by decide) rfl ?_
      exact mv_iret dX6_post_24
  · refine mv_iconst (v := ((-1) : Int32)) dX6_post_8 (by decide) rfl ?_
    exact mv_iret dX6_post_9

def J_X6_rough_23 (a0 : Nat) : mv_M Int32 :=
  mv_pu ((-1) : Int32)

set_option maxHeartbeats 4000000 in
set_option maxRecDepth 100000 in
theorem sJ_X6_rough_23 (l : Launch) (N0 : Nat) (D : va_G) (dA : Nat → ClassId) (a0 : Nat) : mv_Sim l N0 D dA RX6 cX6_rough 5 4 87 (some .int) false mv_rI 23 [(0, mv_vr N0 (some a0))] [] (J_X6_rough_23 a0) := by
  unfold J_X6_rough_23
  refine mv_iconst (v := ((-1) : Int32)) dX6_rough_23 (by decide) rfl ?_
  exact mv_iret dX6_rough_24

def F_X6_rough (a0 : Nat) (a1 : Int32) (a2 : Int32) : mv_M Int32 :=
  mv_bd (mv_gR 6 7 0 (some a0)) fun v1 =>
  mv_bd (mv_rc 5 12 v1) fun i3 => mv_bd (F_X5_carrierAt i3 a1) fun v2 =>
  if v2 = none then
    J_X6_rough_23 a0
  else
    if a2 < 0 then
      J_X6_rough_23 a0
    else
      if a2 ≤ (9 : Int32) then
        mv_bd (mv_gI 1 6 2 v2) fun v4 =>
        mv_bd (mv_gR 6 7 3 (some a0)) fun v5 =>
        mv_bd (mv_gR 6 7 0 (some a0)) fun v6 =>
        mv_bd (mv_rc 3 2 v5) fun i7 => mv_bd (F_X3_keep i7 v6) fun _ =>
        mv_bd (mv_sI 1 6 2 v2 a2) fun _ =>
        mv_pu v4
      else
        J_X6_rough_23 a0

set_option maxHeartbeats 4000000 in
set_option maxRecDepth 100000 in
theorem c_X6_rough (l : Launch) (N0 : Nat) (D : va_G) (dA : Nat → ClassId) (a0 : Nat) (a1 : Int32) (a2 : Int32) : mv_SimM l N0 D dA yX6_rough cX6_rough 5 (some .int) 4 87 mv_rI [.ref (N0 + a0), .int a1, .int a2] (F_X6_rough a0 a1 a2) := by
  refine mv_SimM_of (L0 := [(0, mv_vr N0 (some a0)), (1, .int a1), (2, .int a2)]) false (by decide +kernel) (Nat.le_of_ble_eq_true rfl) rfl (List.forall_mem_cons.mpr ⟨mv_cat N0 (some a0), List.forall_mem_cons.mpr ⟨rfl, List.forall_mem_cons.mpr ⟨rfl, fun _ h => absurd h List.not_mem_nil⟩⟩⟩) (fun z => by cases z) ?_
  unfold F_X6_rough
  show mv_Sim l N0 D dA RX6 cX6_rough 5 4 87 (some .int) false mv_rI 0 _ _ _
  refine mv_aload_n 0 dX6_rough_0 rfl rfl rfl ?_
  refine mv_getR fd_X6_0 lk_X6_10 dX6_rough_1 rfl (fun v1 => ?_)
  refine mv_iload_n 1 dX6_rough_4 rfl rfl rfl ?_
  refine mv_callVr (st := []) [.int a1] (fun i3 => c_X5_carrierAt l N0 D dA i3 a1) (T := TX5) rfl (by decide) wc_X6_59 ⟨by decide, by decide⟩ rfl (mv_cs (Nat.le_of_ble_eq_true rfl) (fun _ h => absurd h List.not_mem_nil)) dX6_rough_5 rfl (fun v2 => ?_)
  refine mv_astore_n [0, 1, 2] no_X6 dX6_rough_8 rfl (by decide) rfl rfl rfl ?_
  refine mv_aload_n 0 dX6_rough_9 rfl rfl rfl ?_
  refine mv_ifnull (tgt := 23) dX6_rough_10 rfl rfl ?_ ?_
  · refine mv_sub [1] rfl ?_
    exact sJ_X6_rough_23 l N0 D dA a0
  · refine mv_iload_n 3 dX6_rough_13 rfl rfl rfl ?_
    refine mv_if_lt (tgt := 23) dX6_rough_14 rfl rfl ?_ ?_
    · refine mv_sub [1] rfl ?_
      exact sJ_X6_rough_23 l N0 D dA a0
    · refine mv_iload_n 3 dX6_rough_17 rfl rfl rfl ?_
      refine mv_bipush (v := (9 : Int32)) dX6_rough_18 (by decide) rfl ?_
      refine mv_icmp_le (tgt := 25) dX6_rough_20 rfl rfl ?_ ?_
      · refine mv_aload_n 0 dX6_rough_25 rfl rfl rfl ?_
        refine mv_getI fd_X1_2 lk_X6_72 dX6_rough_26 rfl (fun v4 => ?_)
        refine mv_istore [0, 1, 2, 3] no_X6 dX6_rough_29 (by decide) rfl rfl rfl ?_
        refine mv_aload_n 2 dX6_rough_31 rfl rfl rfl ?_
        refine mv_getR fd_X6_3 lk_X6_25 dX6_rough_32 rfl (fun v5 => ?_)
        refine mv_aload_n 2 dX6_rough_35 rfl rfl rfl ?_
        refine mv_getR fd_X6_0 lk_X6_10 dX6_rough_36 rfl (fun v6 => ?_)
        refine mv_callVv (st := []) [mv_vr N0 v6] (fun i7 => c_X3_keep l N0 D dA i7 v6) (T := TX3) rfl (by decide) wc_X6_51 ⟨by decide, by decide⟩ rfl (mv_cs (Nat.le_of_ble_eq_true rfl) (fun _ h => absurd h List.not_mem_nil)) dX6_rough_39 rfl ?_
        refine mv_aload_n 1 dX6_rough_42 rfl rfl rfl ?_
        refine mv_iload_n 4 dX6_rough_43 rfl rfl rfl ?_
        refine mv_putI fd_X1_2 rfl (tyX1_ok 2 (by decide)) lk_X6_72 dX6_rough_44 rfl ?_
        refine mv_iload 0 dX6_rough_47 rfl rfl ?_
        exact mv_iret dX6_rough_49
      · refine mv_sub [1] rfl ?_
        exact sJ_X6_rough_23 l N0 D dA a0

def J_X6_isWeekday_15 (s0 : Int32) : mv_M Int32 :=
  mv_rz s0

set_option maxHeartbeats 4000000 in
set_option maxRecDepth 100000 in
theorem sJ_X6_isWeekday_15 (l : Launch) (N0 : Nat) (D : va_G) (dA : Nat → ClassId) (s0 : Int32) : mv_Sim l N0 D dA RX6 cX6_isWeekday 1 0 0 (some .boolean) false mv_rI 15 [] [.int s0] (J_X6_isWeekday_15 s0) := by
  unfold J_X6_isWeekday_15
  exact mv_zret dX6_isWeekday_15

def J_X6_isWeekday_14 : mv_M Int32 :=
  J_X6_isWeekday_15 (0 : Int32)

set_option maxHeartbeats 4000000 in
set_option maxRecDepth 100000 in
theorem sJ_X6_isWeekday_14 (l : Launch) (N0 : Nat) (D : va_G) (dA : Nat → ClassId) : mv_Sim l N0 D dA RX6 cX6_isWeekday 1 0 0 (some .boolean) false mv_rI 14 [] [] (J_X6_isWeekday_14) := by
  unfold J_X6_isWeekday_14
  refine mv_iconst (v := (0 : Int32)) dX6_isWeekday_14 (by decide) rfl ?_
  refine mv_sub [] rfl ?_
  exact sJ_X6_isWeekday_15 l N0 D dA (0 : Int32)

def F_X6_isWeekday (a0 : Int32) : mv_M Int32 :=
  if a0 < 0 then
    J_X6_isWeekday_14
  else
    if (7 : Int32) ≤ a0 then
      J_X6_isWeekday_14
    else
      J_X6_isWeekday_15 (1 : Int32)

set_option maxHeartbeats 4000000 in
set_option maxRecDepth 100000 in
theorem c_X6_isWeekday (l : Launch) (N0 : Nat) (D : va_G) (dA : Nat → ClassId) (a0 : Int32) : mv_SimM l N0 D dA yX6_isWeekday cX6_isWeekday 1 (some .boolean) 0 0 mv_rI [.int a0] (F_X6_isWeekday a0) := by
  refine mv_SimM_of (L0 := [(0, .int a0)]) false (by decide +kernel) (Nat.le_of_ble_eq_true rfl) rfl (List.forall_mem_cons.mpr ⟨rfl, fun _ h => absurd h List.not_mem_nil⟩) (fun z => by cases z) ?_
  unfold F_X6_isWeekday
  show mv_Sim l N0 D dA RX6 cX6_isWeekday 1 0 0 (some .boolean) false mv_rI 0 _ _ _
  refine mv_iload_n 0 dX6_isWeekday_0 rfl rfl rfl ?_
  refine mv_if_lt (tgt := 14) dX6_isWeekday_1 rfl rfl ?_ ?_
  · refine mv_sub [] rfl ?_
    exact sJ_X6_isWeekday_14 l N0 D dA
  · refine mv_iload_n 0 dX6_isWeekday_4 rfl rfl rfl ?_
    refine mv_bipush (v := (7 : Int32)) dX6_isWeekday_5 (by decide) rfl ?_
    refine mv_icmp_ge (tgt := 14) dX6_isWeekday_7 rfl rfl ?_ ?_
    · refine mv_sub [] rfl ?_
      exact sJ_X6_isWeekday_14 l N0 D dA
    · refine mv_iconst (v := (1 : Int32)) dX6_isWeekday_10 (by decide) rfl ?_
      refine mv_goto (q := 15) dX6_isWeekday_11 rfl ?_
      refine mv_sub [] rfl ?_
      exact sJ_X6_isWeekday_15 l N0 D dA (1 : Int32)

def J_X6_stall_17 (a0 : Nat) : mv_M Int32 :=
  mv_pu ((-1) : Int32)

set_option maxHeartbeats 4000000 in
set_option maxRecDepth 100000 in
theorem sJ_X6_stall_17 (l : Launch) (N0 : Nat) (D : va_G) (dA : Nat → ClassId) (a0 : Nat) : mv_Sim l N0 D dA RX6 cX6_stall 4 4 87 (some .int) false mv_rI 17 [(0, mv_vr N0 (some a0))] [] (J_X6_stall_17 a0) := by
  unfold J_X6_stall_17
  refine mv_iconst (v := ((-1) : Int32)) dX6_stall_17 (by decide) rfl ?_
  exact mv_iret dX6_stall_18

def F_X6_stall (a0 : Nat) (a1 : Int32) (a2 : Int32) : mv_M Int32 :=
  mv_bd (F_X6_isWeekday a1) fun v1 =>
  if v1 = 0 then
    J_X6_stall_17 a0
  else
    if a2 < 0 then
      J_X6_stall_17 a0
    else
      if a2 ≤ (6 : Int32) then
        mv_bd (mv_gR 6 7 0 (some a0)) fun v2 =>
        mv_bd (mv_rc 5 12 v2) fun i4 => mv_bd (F_X5_stallOn i4 a1) fun v3 =>
        mv_bd (mv_gR 6 7 3 (some a0)) fun v5 =>
        mv_bd (mv_gR 6 7 0 (some a0)) fun v6 =>
        mv_bd (mv_rc 3 2 v5) fun i7 => mv_bd (F_X3_keep i7 v6) fun _ =>
        mv_bd (mv_gR 6 7 0 (some a0)) fun v8 =>
        mv_bd (mv_rc 5 12 v8) fun i9 => mv_bd (F_X5_moveStall i9 a1 a2) fun _ =>
        mv_pu v3
      else
        J_X6_stall_17 a0

set_option maxHeartbeats 4000000 in
set_option maxRecDepth 100000 in
theorem c_X6_stall (l : Launch) (N0 : Nat) (D : va_G) (dA : Nat → ClassId) (a0 : Nat) (a1 : Int32) (a2 : Int32) : mv_SimM l N0 D dA yX6_stall cX6_stall 4 (some .int) 4 87 mv_rI [.ref (N0 + a0), .int a1, .int a2] (F_X6_stall a0 a1 a2) := by
  refine mv_SimM_of (L0 := [(0, mv_vr N0 (some a0)), (1, .int a1), (2, .int a2)]) false (by decide +kernel) (Nat.le_of_ble_eq_true rfl) rfl (List.forall_mem_cons.mpr ⟨mv_cat N0 (some a0), List.forall_mem_cons.mpr ⟨rfl, List.forall_mem_cons.mpr ⟨rfl, fun _ h => absurd h List.not_mem_nil⟩⟩⟩) (fun z => by cases z) ?_
  unfold F_X6_stall
  show mv_Sim l N0 D dA RX6 cX6_stall 4 4 87 (some .int) false mv_rI 0 _ _ _
  refine mv_iload_n 1 dX6_stall_0 rfl rfl rfl ?_
  refine mv_callSi (st := []) [.int a1] (c_X6_isWeekday l N0 D dA a1) wc_X6_43 ⟨by decide, by decide⟩ rfl (mv_cs (Nat.le_of_ble_eq_true rfl) (fun _ h => absurd h List.not_mem_nil)) dX6_stall_1 rfl (fun v1 => ?_)
  refine mv_if_eq (tgt := 17) dX6_stall_4 rfl rfl ?_ ?_
  · refine mv_sub [0] rfl ?_
    exact sJ_X6_stall_17 l N0 D dA a0
  · refine mv_iload_n 2 dX6_stall_7 rfl rfl rfl ?_
    refine mv_if_lt (tgt := 17) dX6_stall_8 rfl rfl ?_ ?_
    · refine mv_sub [0] rfl ?_
      exact sJ_X6_stall_17 l N0 D dA a0
    · refine mv_iload_n 2 dX6_stall_11 rfl rfl rfl ?_
      refine mv_bipush (v := (6 : Int32)) dX6_stall_12 (by decide) rfl ?_
      refine mv_icmp_le (tgt := 19) dX6_stall_14 rfl rfl ?_ ?_
      · refine mv_aload_n 0 dX6_stall_19 rfl rfl rfl ?_
        refine mv_getR fd_X6_0 lk_X6_10 dX6_stall_20 rfl (fun v2 => ?_)
        refine mv_iload_n 1 dX6_stall_23 rfl rfl rfl ?_
        refine mv_callVi (st := []) [.int a1] (fun i4 => c_X5_stallOn l N0 D dA i4 a1) (T := TX5) rfl (by decide) wc_X6_47 ⟨by decide, by decide⟩ rfl (mv_cs (Nat.le_of_ble_eq_true rfl) (fun _ h => absurd h List.not_mem_nil)) dX6_stall_24 rfl (fun v3 => ?_)
        refine mv_istore_n [0, 1, 2] no_X6 dX6_stall_27 rfl (by decide) rfl rfl rfl ?_
        refine mv_aload_n 1 dX6_stall_28 rfl rfl rfl ?_
        refine mv_getR fd_X6_3 lk_X6_25 dX6_stall_29 rfl (fun v5 => ?_)
        refine mv_aload_n 1 dX6_stall_32 rfl rfl rfl ?_
        refine mv_getR fd_X6_0 lk_X6_10 dX6_stall_33 rfl (fun v6 => ?_)
        refine mv_callVv (st := []) [mv_vr N0 v6] (fun i7 => c_X3_keep l N0 D dA i7 v6) (T := TX3) rfl (by decide) wc_X6_51 ⟨by decide, by decide⟩ rfl (mv_cs (Nat.le_of_ble_eq_true rfl) (fun _ h => absurd h List.not_mem_nil)) dX6_stall_36 rfl ?_
        refine mv_aload_n 1 dX6_stall_39 rfl rfl rfl ?_
        refine mv_getR fd_X6_0 lk_X6_10 dX6_stall_40 rfl (fun v8 => ?_)
        refine mv_iload_n 2 dX6_stall_43 rfl rfl rfl ?_
        refine mv_iload_n 3 dX6_stall_44 rfl rfl rfl ?_
        refine mv_callVv (st := []) [.int a1, .int a2] (fun i9 => c_X5_moveStall l N0 D dA i9 a1 a2) (T := TX5) rfl (by decide) wc_X6_55 ⟨by decide, by decide⟩ rfl (mv_cs (Nat.le_of_ble_eq_true rfl) (fun _ h => absurd h List.not_mem_nil)) dX6_stall_45 rfl ?_
        refine mv_iload_n 0 dX6_stall_48 rfl rfl rfl ?_
        exact mv_iret dX6_stall_49
      · refine mv_sub [0] rfl ?_
        exact sJ_X6_stall_17 l N0 D dA a0

def J_X6_arrival_22 (a0 : Nat) : mv_M Int32 :=
  mv_pu ((-1) : Int32)

set_option maxHeartbeats 4000000 in
set_option maxRecDepth 100000 in
theorem sJ_X6_arrival_22 (l : Launch) (N0 : Nat) (D : va_G) (dA : Nat → ClassId) (a0 : Nat) : mv_Sim l N0 D dA RX6 cX6_arrival 4 4 100 (some .int) false mv_rI 22 [(0, mv_vr N0 (some a0))] [] (J_X6_arrival_22 a0) := by
  unfold J_X6_arrival_22
  refine mv_iconst (v := ((-1) : Int32)) dX6_arrival_22 (by decide) rfl ?_
  exact mv_iret dX6_arrival_23

def J_X6_arrival_55 (a0 : Nat) (s0 : Int32) : mv_M Int32 :=
  mv_pu s0

set_option maxHeartbeats 4000000 in
set_option maxRecDepth 100000 in
theorem sJ_X6_arrival_55 (l : Launch) (N0 : Nat) (D : va_G) (dA : Nat → ClassId) (a0 : Nat) (s0 : Int32) : mv_Sim l N0 D dA RX6 cX6_arrival 4 4 100 (some .int) false mv_rI 55 [(0, mv_vr N0 (some a0))] [.int s0] (J_X6_arrival_55 a0 s0) := by
  unfold J_X6_arrival_55
  exact mv_iret dX6_arrival_55

def J_X6_arrival_24 (a0 : Nat) (x2 : Int32) (x3 : Option Nat) : mv_M Int32 :=
  if x2 = 0 then
    mv_bd (mv_gR 6 7 5 (some a0)) fun v5 =>
    mv_bd (mv_gR 6 7 0 (some a0)) fun v6 =>
    mv_bd (mv_rc 2 4 v5) fun i8 => mv_bd (F_X2_arrivalOf i8 v6 x3) fun v7 =>
    J_X6_arrival_55 a0 v7
  else
    mv_bd (mv_gR 6 7 5 (some a0)) fun v1 =>
    mv_bd (mv_gR 6 7 0 (some a0)) fun v2 =>
    mv_bd (mv_rc 2 4 v1) fun i4 => mv_bd (F_X2_arrivalByHands i4 v2 x3) fun v3 =>
    J_X6_arrival_55 a0 v3

set_option maxHeartbeats 4000000 in
set_option maxRecDepth 100000 in
theorem sJ_X6_arrival_24 (l : Launch) (N0 : Nat) (D : va_G) (dA : Nat → ClassId) (a0 : Nat) (x2 : Int32) (x3 : Option Nat) : mv_Sim l N0 D dA RX6 cX6_arrival 4 4 100 (some .int) false mv_rI 24 [(0, mv_vr N0 (some a0)), (2, .int x2), (3, mv_vr N0 x3)] [] (J_X6_arrival_24 a0 x2 x3) := by
  unfold J_X6_arrival_24
  refine mv_iload_n 1 dX6_arrival_24 rfl rfl rfl ?_
  refine mv_if_ne (tgt := 43) dX6_arrival_25 rfl rfl ?_ ?_
  · refine mv_aload_n 0 dX6_arrival_43 rfl rfl rfl ?_
    refine mv_getR fd_X6_5 lk_X6_39 dX6_arrival_44 rfl (fun v1 => ?_)
    refine mv_aload_n 0 dX6_arrival_47 rfl rfl rfl ?_
    refine mv_getR fd_X6_0 lk_X6_10 dX6_arrival_48 rfl (fun v2 => ?_)
    refine mv_aload_n 2 dX6_arrival_51 rfl rfl rfl ?_
    refine mv_callVi (st := []) [mv_vr N0 v2, mv_vr N0 x3] (fun i4 => c_X2_arrivalByHands l N0 D dA i4 v2 x3) (T := TX2) rfl (by decide) wc_X6_185 ⟨by decide, by decide⟩ rfl (mv_cs (Nat.le_of_ble_eq_true rfl) (fun _ h => absurd h List.not_mem_nil)) dX6_arrival_52 rfl (fun v3 => ?_)
    refine mv_sub [0] rfl ?_
    exact sJ_X6_arrival_55 l N0 D dA a0 v3
  · refine mv_aload_n 0 dX6_arrival_28 rfl rfl rfl ?_
    refine mv_getR fd_X6_5 lk_X6_39 dX6_arrival_29 rfl (fun v5 => ?_)
    refine mv_aload_n 0 dX6_arrival_32 rfl rfl rfl ?_
    refine mv_getR fd_X6_0 lk_X6_10 dX6_arrival_33 rfl (fun v6 => ?_)
    refine mv_aload_n 2 dX6_arrival_36 rfl rfl rfl ?_
    refine mv_callVi (st := []) [mv_vr N0 v6, mv_vr N0 x3] (fun i8 => c_X2_arrivalOf l N0 D dA i8 v6 x3) (T := TX2) rfl (by decide) wc_X6_181 ⟨by decide, by decide⟩ rfl (mv_cs (Nat.le_of_ble_eq_true rfl) (fun _ h => absurd h List.not_mem_nil)) dX6_arrival_37 rfl (fun v7 => ?_)
    refine mv_goto (q := 55) dX6_arrival_40 rfl ?_
    refine mv_sub [0] rfl ?_
    exact sJ_X6_arrival_55 l N0 D dA a0 v7

def F_X6_arrival (a0 : Nat) (a1 : Int32) (a2 : Int32) : mv_M Int32 :=
  mv_bd (mv_gR 6 7 0 (some a0)) fun v9 =>
  mv_bd (mv_rc 5 12 v9) fun i11 => mv_bd (F_X5_bundleAt i11 a1) fun v10 =>
  if v10 = none then
    J_X6_arrival_22 a0
  else
    if a2 = 0 then
      J_X6_arrival_24 a0 a2 v10
    else
      if a2 = (1 : Int32) then
        J_X6_arrival_24 a0 a2 v10
      else
        J_X6_arrival_22 a0

set_option maxHeartbeats 4000000 in
set_option maxRecDepth 100000 in
theorem c_X6_arrival (l : Launch) (N0 : Nat) (D : va_G) (dA : Nat → ClassId) (a0 : Nat) (a1 : Int32) (a2 : Int32) : mv_SimM l N0 D dA yX6_arrival cX6_arrival 4 (some .int) 4 100 mv_rI [.ref (N0 + a0), .int a1, .int a2] (F_X6_arrival a0 a1 a2) := by
  refine mv_SimM_of (L0 := [(0, mv_vr N0 (some a0)), (1, .int a1), (2, .int a2)]) false (by decide +kernel) (Nat.le_of_ble_eq_true rfl) rfl (List.forall_mem_cons.mpr ⟨mv_cat N0 (some a0), List.forall_mem_cons.mpr ⟨rfl, List.forall_mem_cons.mpr ⟨rfl, fun _ h => absurd h List.not_mem_nil⟩⟩⟩) (fun z => by cases z) ?_
  unfold F_X6_arrival
  show mv_Sim l N0 D dA RX6 cX6_arrival 4 4 100 (some .int) false mv_rI 0 _ _ _
  refine mv_aload_n 0 dX6_arrival_0 rfl rfl rfl ?_
  refine mv_getR fd_X6_0 lk_X6_10 dX6_arrival_1 rfl (fun v9 => ?_)
  refine mv_iload_n 1 dX6_arrival_4 rfl rfl rfl ?_
  refine mv_callVr (st := []) [.int a1] (fun i11 => c_X5_bundleAt l N0 D dA i11 a1) (T := TX5) rfl (by decide) wc_X6_93 ⟨by decide, by decide⟩ rfl (mv_cs (Nat.le_of_ble_eq_true rfl) (fun _ h => absurd h List.not_mem_nil)) dX6_arrival_5 rfl (fun v10 => ?_)
  refine mv_astore_n [0, 1, 2] no_X6 dX6_arrival_8 rfl (by decide) rfl rfl rfl ?_
  refine mv_aload_n 0 dX6_arrival_9 rfl rfl rfl ?_
  refine mv_ifnull (tgt := 22) dX6_arrival_10 rfl rfl ?_ ?_
  · refine mv_sub [1] rfl ?_
    exact sJ_X6_arrival_22 l N0 D dA a0
  · refine mv_iload_n 3 dX6_arrival_13 rfl rfl rfl ?_
    refine mv_if_eq (tgt := 24) dX6_arrival_14 rfl rfl ?_ ?_
    · refine mv_sub [1, 3, 0] rfl ?_
      exact sJ_X6_arrival_24 l N0 D dA a0 a2 v10
    · refine mv_iload_n 3 dX6_arrival_17 rfl rfl rfl ?_
      refine mv_iconst (v := (1 : Int32)) dX6_arrival_18 (by decide) rfl ?_
      refine mv_icmp_eq (tgt := 24) dX6_arrival_19 rfl rfl ?_ ?_
      · refine mv_sub [1, 3, 0] rfl ?_
        exact sJ_X6_arrival_24 l N0 D dA a0 a2 v10
      · refine mv_sub [1] rfl ?_
        exact sJ_X6_arrival_22 l N0 D dA a0

def J_X6_lateness_46 (k6 : Int32 → Int32 → Int32 → mv_M UInt64) (a0 : Nat) (x1 : Int32) (x2 : Int32) (x3 : Int32) : mv_M UInt64 :=
  k6 x1 x2 (x3 + (1 : Int32))

set_option maxHeartbeats 4000000 in
set_option maxRecDepth 100000 in
theorem sJ_X6_lateness_46 (l : Launch) (N0 : Nat) (D : va_G) (dA : Nat → ClassId) (a0 : Nat) (x1 : Int32) (x2 : Int32) (x3 : Int32) (k6 : Int32 → Int32 → Int32 → mv_M UInt64) (hk6 : ∀ (y1 : Int32) (y2 : Int32) (y3 : Int32), mv_Sim l N0 D dA RX6 cX6_lateness 5 5 122 (some .double) false mv_rD 6 [(0, mv_vr N0 (some a0)), (1, .int y1), (2, .int y2), (3, .int y3)] [] (k6 y1 y2 y3)) : mv_Sim l N0 D dA RX6 cX6_lateness 5 5 122 (some .double) false mv_rD 46 [(0, mv_vr N0 (some a0)), (1, .int x1), (2, .int x2), (3, .int x3)] [] (J_X6_lateness_46 k6 a0 x1 x2 x3) := by
  unfold J_X6_lateness_46
  refine mv_iinc (y := (x3 + (1 : Int32))) 3 [0, 1, 2] no_X6 dX6_lateness_46 rfl rfl (by decide) rfl rfl rfl ?_
  refine mv_goto (q := 6) dX6_lateness_49 rfl ?_
  refine mv_sub [1, 2, 3, 0] rfl ?_
  exact hk6 x1 x2 (x3 + (1 : Int32))

def J_X6_lateness_65 (a0 : Nat) (s0 : UInt64) : mv_M UInt64 :=
  mv_pu s0

set_option maxHeartbeats 4000000 in
set_option maxRecDepth 100000 in
theorem sJ_X6_lateness_65 (l : Launch) (N0 : Nat) (D : va_G) (dA : Nat → ClassId) (a0 : Nat) (s0 : UInt64) : mv_Sim l N0 D dA RX6 cX6_lateness 5 5 122 (some .double) false mv_rD 65 [(0, mv_vr N0 (some a0))] [.double s0] (J_X6_lateness_65 a0 s0) := by
  unfold J_X6_lateness_65
  exact mv_dret dX6_lateness_65

def Lp_X6_lateness_6 (a0 : Nat) : Nat → Int32 → Int32 → Int32 → mv_M UInt64
  | 0, _, _, _ => mv_fl
  | n + 1, x1, x2, x3 =>
    mv_bd (mv_gR 6 7 0 (some a0)) fun v1 =>
    mv_bd (mv_gI 5 12 4 v1) fun v2 =>
    if v2 ≤ x3 then
      if x2 = 0 then
        J_X6_lateness_65 a0 FP.dconst0
      else
        mv_bd (mv_dd (FP.i2d x1) (FP.i2d x2)) fun v3 =>
        J_X6_lateness_65 a0 v3
    else
      mv_bd (mv_gR 6 7 0 (some a0)) fun v4 =>
      mv_bd (mv_rc 5 12 v4) fun i6 => mv_bd (F_X5_bundleAt i6 x3) fun v5 =>
      mv_bd (mv_rc 6 7 (some a0)) fun i8 => mv_bd (F_X6_delayOf i8 v5) fun v7 =>
      if v7 = (2147483647 : Int32) then
        J_X6_lateness_46 (Lp_X6_lateness_6 a0 n) a0 x1 x2 x3
      else
        mv_bd (mv_pu (x1 + v7)) fun v9 =>
        J_X6_lateness_46 (Lp_X6_lateness_6 a0 n) a0 v9 (x2 + (1 : Int32)) x3

set_option maxHeartbeats 4000000 in
set_option maxRecDepth 100000 in
theorem sLp_X6_lateness_6 (l : Launch) (N0 : Nat) (D : va_G) (dA : Nat → ClassId) (a0 : Nat) : ∀ (n : Nat) (x1 : Int32) (x2 : Int32) (x3 : Int32), mv_Sim l N0 D dA RX6 cX6_lateness 5 5 122 (some .double) false mv_rD 6 [(0, mv_vr N0 (some a0)), (1, .int x1), (2, .int x2), (3, .int x3)] [] (Lp_X6_lateness_6 a0 n x1 x2 x3) := by
  intro n
  induction n with
  | zero => intro x1 x2 x3; rw [Lp_X6_lateness_6]; exact mv_fl_sim
  | succ n ih =>
    intro x1 x2 x3
    rw [Lp_X6_lateness_6]
    refine mv_iload_n 3 dX6_lateness_6 rfl rfl rfl ?_
    refine mv_aload_n 0 dX6_lateness_7 rfl rfl rfl ?_
    refine mv_getR fd_X6_0 lk_X6_10 dX6_lateness_8 rfl (fun v1 => ?_)
    refine mv_getI fd_X5_4 lk_X6_82 dX6_lateness_11 rfl (fun v2 => ?_)
    refine mv_icmp_ge (tgt := 52) dX6_lateness_14 rfl rfl ?_ ?_
    · refine mv_iload_n 2 dX6_lateness_52 rfl rfl rfl ?_
      refine mv_if_ne (tgt := 60) dX6_lateness_53 rfl rfl ?_ ?_
      · refine mv_iload_n 1 dX6_lateness_60 rfl rfl rfl ?_
        refine mv_i2d dX6_lateness_61 rfl ?_
        refine mv_iload_n 2 dX6_lateness_62 rfl rfl rfl ?_
        refine mv_i2d dX6_lateness_63 rfl ?_
        refine mv_ddiv dX6_lateness_64 rfl (fun v3 => ?_)
        refine mv_sub [0] rfl ?_
        exact sJ_X6_lateness_65 l N0 D dA a0 v3
      · refine mv_dconst0 dX6_lateness_56 rfl ?_
        refine mv_goto (q := 65) dX6_lateness_57 rfl ?_
        refine mv_sub [0] rfl ?_
        exact sJ_X6_lateness_65 l N0 D dA a0 FP.dconst0
    · refine mv_aload_n 0 dX6_lateness_17 rfl rfl rfl ?_
      refine mv_aload_n 0 dX6_lateness_18 rfl rfl rfl ?_
      refine mv_getR fd_X6_0 lk_X6_10 dX6_lateness_19 rfl (fun v4 => ?_)
      refine mv_iload_n 3 dX6_lateness_22 rfl rfl rfl ?_
      refine mv_callVr (st := [mv_vr N0 (some a0)]) [.int x3] (fun i6 => c_X5_bundleAt l N0 D dA i6 x3) (T := TX5) rfl (by decide) wc_X6_93 ⟨by decide, by decide⟩ rfl (mv_cs (Nat.le_of_ble_eq_true rfl) (List.forall_mem_cons.mpr ⟨mv_cat N0 (some a0), fun _ h => absurd h List.not_mem_nil⟩)) dX6_lateness_23 rfl (fun v5 => ?_)
      refine mv_callVi (st := []) [mv_vr N0 v5] (fun i8 => c_X6_delayOf l N0 D dA i8 v5) (T := TX6) rfl (by decide) wc_X6_214 ⟨by decide, by decide⟩ rfl (mv_cs (Nat.le_of_ble_eq_true rfl) (fun _ h => absurd h List.not_mem_nil)) dX6_lateness_26 rfl (fun v7 => ?_)
      refine mv_istore [0, 1, 2, 3] no_X6 dX6_lateness_29 (by decide) rfl rfl rfl ?_
      refine mv_iload 0 dX6_lateness_31 rfl rfl ?_
      refine mv_ldc (v := (2147483647 : Int32)) dX6_lateness_33 (mv_wA_of (mv_t2 (List.mem_of_getElem? (i := 130) rfl)) rfl) rfl ?_
      refine mv_icmp_eq (tgt := 46) dX6_lateness_35 rfl rfl ?_ ?_
      · refine mv_sub [1, 2, 3, 4] rfl ?_
        exact sJ_X6_lateness_46 l N0 D dA a0 x1 x2 x3 _ ih
      · refine mv_iload_n 2 dX6_lateness_38 rfl rfl rfl ?_
        refine mv_iload 0 dX6_lateness_39 rfl rfl ?_
        refine mv_iadd dX6_lateness_41 rfl ?_
        refine mv_let (fun v9 => ?_)
        refine mv_istore_n [0, 1, 3, 4] no_X6 dX6_lateness_42 rfl (by decide) rfl rfl rfl ?_
        refine mv_iinc (y := (x2 + (1 : Int32))) 3 [0, 1, 2, 4] no_X6 dX6_lateness_43 rfl rfl (by decide) rfl rfl rfl ?_
        refine mv_sub [3, 1, 0, 4] rfl ?_
        exact sJ_X6_lateness_46 l N0 D dA a0 v9 (x2 + (1 : Int32)) x3 _ ih

def F_X6_lateness (a0 : Nat) : mv_M UInt64 :=
  Lp_X6_lateness_6 a0 mv_FU (0 : Int32) (0 : Int32) (0 : Int32)

set_option maxHeartbeats 4000000 in
set_option maxRecDepth 100000 in
theorem c_X6_lateness (l : Launch) (N0 : Nat) (D : va_G) (dA : Nat → ClassId) (a0 : Nat) : mv_SimM l N0 D dA yX6_lateness cX6_lateness 5 (some .double) 5 122 mv_rD [.ref (N0 + a0)] (F_X6_lateness a0) := by
  refine mv_SimM_of (L0 := [(0, mv_vr N0 (some a0))]) false (by decide +kernel) (Nat.le_of_ble_eq_true rfl) rfl (List.forall_mem_cons.mpr ⟨mv_cat N0 (some a0), fun _ h => absurd h List.not_mem_nil⟩) (fun z => by cases z) ?_
  unfold F_X6_lateness
  show mv_Sim l N0 D dA RX6 cX6_lateness 5 5 122 (some .double) false mv_rD 0 _ _ _
  refine mv_iconst (v := (0 : Int32)) dX6_lateness_0 (by decide) rfl ?_
  refine mv_istore_n [0] no_X6 dX6_lateness_1 rfl (by decide) rfl rfl rfl ?_
  refine mv_iconst (v := (0 : Int32)) dX6_lateness_2 (by decide) rfl ?_
  refine mv_istore_n [0, 1] no_X6 dX6_lateness_3 rfl (by decide) rfl rfl rfl ?_
  refine mv_iconst (v := (0 : Int32)) dX6_lateness_4 (by decide) rfl ?_
  refine mv_istore_n [0, 1, 2] no_X6 dX6_lateness_5 rfl (by decide) rfl rfl rfl ?_
  refine mv_sub [3, 2, 1, 0] rfl ?_
  exact sLp_X6_lateness_6 l N0 D dA a0 mv_FU (0 : Int32) (0 : Int32) (0 : Int32)

def J_X6_bestDay_83 (k20 : Int32 → Int32 → Int32 → mv_M Int32) (a0 : Nat) (x1 : Int32) (x2 : Int32) (x3 : Int32) (x4 : Int32) (x5 : Int32) : mv_M Int32 :=
  k20 x3 x4 (x5 + (1 : Int32))

set_option maxHeartbeats 4000000 in
set_option maxRecDepth 100000 in
theorem sJ_X6_bestDay_83 (l : Launch) (N0 : Nat) (D : va_G) (dA : Nat → ClassId) (a0 : Nat) (x1 : Int32) (x2 : Int32) (x3 : Int32) (x4 : Int32) (x5 : Int32) (k20 : Int32 → Int32 → Int32 → mv_M Int32) (hk20 : ∀ (y3 : Int32) (y4 : Int32) (y5 : Int32), mv_Sim l N0 D dA RX6 cX6_bestDay 8 4 101 (some .int) false mv_rI 20 [(0, mv_vr N0 (some a0)), (1, .int x1), (2, .int x2), (3, .int y3), (4, .int y4), (5, .int y5)] [] (k20 y3 y4 y5)) : mv_Sim l N0 D dA RX6 cX6_bestDay 8 4 101 (some .int) false mv_rI 83 [(0, mv_vr N0 (some a0)), (1, .int x1), (2, .int x2), (3, .int x3), (4, .int x4), (5, .int x5)] [] (J_X6_bestDay_83 k20 a0 x1 x2 x3 x4 x5) := by
  unfold J_X6_bestDay_83
  refine mv_iinc (y := (x5 + (1 : Int32))) 5 [0, 1, 2, 3, 4] no_X6 dX6_bestDay_83 rfl rfl (by decide) rfl rfl rfl ?_
  refine mv_goto (q := 20) dX6_bestDay_86 rfl ?_
  refine mv_sub [1, 2, 3, 4, 5, 0] rfl ?_
  exact hk20 x3 x4 (x5 + (1 : Int32))

def Lp_X6_bestDay_20 (a0 : Nat) (x1 : Int32) (x2 : Int32) : Nat → Int32 → Int32 → Int32 → mv_M Int32
  | 0, _, _, _ => mv_fl
  | n + 1, x3, x4, x5 =>
    if (14 : Int32) ≤ x5 then
      mv_pu x3
    else
      mv_bd (mv_gR 6 7 0 (some a0)) fun v1 =>
      mv_bd (mv_gI 5 12 5 v1) fun v2 =>
      mv_bd (mv_pu (v2 + x5)) fun v3 =>
      mv_bd (mv_gR 6 7 5 (some a0)) fun v4 =>
      mv_bd (mv_gR 6 7 0 (some a0)) fun v5 =>
      mv_bd (mv_rc 2 4 v4) fun i7 => mv_bd (F_X2_ifLying i7 v5 x1 x2 v3) fun v6 =>
      if v6 = ((-4) : Int32) then
        J_X6_bestDay_83 (Lp_X6_bestDay_20 a0 x1 x2 n) a0 x1 x2 x3 x4 x5
      else
        if x4 ≤ (v6 - v3) then
          J_X6_bestDay_83 (Lp_X6_bestDay_20 a0 x1 x2 n) a0 x1 x2 x3 x4 x5
        else
          mv_bd (mv_pu (v6 - v3)) fun v8 =>
          J_X6_bestDay_83 (Lp_X6_bestDay_20 a0 x1 x2 n) a0 x1 x2 x5 v8 x5

set_option maxHeartbeats 4000000 in
set_option maxRecDepth 100000 in
theorem sLp_X6_bestDay_20 (l : Launch) (N0 : Nat) (D : va_G) (dA : Nat → ClassId) (a0 : Nat) (x1 : Int32) (x2 : Int32) : ∀ (n : Nat) (x3 : Int32) (x4 : Int32) (x5 : Int32), mv_Sim l N0 D dA RX6 cX6_bestDay 8 4 101 (some .int) false mv_rI 20 [(0, mv_vr N0 (some a0)), (1, .int x1), (2, .int x2), (3, .int x3), (4, .int x4), (5, .int x5)] [] (Lp_X6_bestDay_20 a0 x1 x2 n x3 x4 x5) := by
  intro n
  induction n with
  | zero => intro x3 x4 x5; rw [Lp_X6_bestDay_20]; exact mv_fl_sim
  | succ n ih =>
    intro x3 x4 x5
    rw [Lp_X6_bestDay_20]
    refine mv_iload 5 dX6_bestDay_20 rfl rfl ?_
    refine mv_bipush (v := (14 : Int32)) dX6_bestDay_22 (by decide) rfl ?_
    refine mv_icmp_ge (tgt := 89) dX6_bestDay_24 rfl rfl ?_ ?_
    · refine mv_iload_n 3 dX6_bestDay_89 rfl rfl rfl ?_
      exact mv_iret dX6_bestDay_90
    · refine mv_aload_n 0 dX6_bestDay_27 rfl rfl rfl ?_
      refine mv_getR fd_X6_0 lk_X6_10 dX6_bestDay_28 rfl (fun v1 => ?_)
      refine mv_getI fd_X5_5 lk_X6_63 dX6_bestDay_31 rfl (fun v2 => ?_)
      refine mv_iload 5 dX6_bestDay_34 rfl rfl ?_
      refine mv_iadd dX6_bestDay_36 rfl ?_
      refine mv_let (fun v3 => ?_)
      refine mv_istore [0, 1, 2, 3, 4, 5] no_X6 dX6_bestDay_37 (by decide) rfl rfl rfl ?_
      refine mv_aload_n 1 dX6_bestDay_39 rfl rfl rfl ?_
      refine mv_getR fd_X6_5 lk_X6_39 dX6_bestDay_40 rfl (fun v4 => ?_)
      refine mv_aload_n 1 dX6_bestDay_43 rfl rfl rfl ?_
      refine mv_getR fd_X6_0 lk_X6_10 dX6_bestDay_44 rfl (fun v5 => ?_)
      refine mv_iload_n 2 dX6_bestDay_47 rfl rfl rfl ?_
      refine mv_iload_n 3 dX6_bestDay_48 rfl rfl rfl ?_
      refine mv_iload 0 dX6_bestDay_49 rfl rfl ?_
      refine mv_callVi (st := []) [mv_vr N0 v5, .int x1, .int x2, .int v3] (fun i7 => c_X2_ifLying l N0 D dA i7 v5 x1 x2 v3) (T := TX2) rfl (by decide) wc_X6_85 ⟨by decide, by decide⟩ rfl (mv_cs (Nat.le_of_ble_eq_true rfl) (fun _ h => absurd h List.not_mem_nil)) dX6_bestDay_51 rfl (fun v6 => ?_)
      refine mv_istore [0, 1, 2, 3, 4, 5, 6] no_X6 dX6_bestDay_54 (by decide) rfl rfl rfl ?_
      refine mv_iload 0 dX6_bestDay_56 rfl rfl ?_
      refine mv_bipush (v := ((-4) : Int32)) dX6_bestDay_58 (by decide) rfl ?_
      refine mv_icmp_eq (tgt := 83) dX6_bestDay_60 rfl rfl ?_ ?_
      · refine mv_sub [2, 3, 4, 5, 6, 7] rfl ?_
        exact sJ_X6_bestDay_83 l N0 D dA a0 x1 x2 x3 x4 x5 _ ih
      · refine mv_iload 0 dX6_bestDay_63 rfl rfl ?_
        refine mv_iload 1 dX6_bestDay_65 rfl rfl ?_
        refine mv_isub dX6_bestDay_67 rfl ?_
        refine mv_iload 6 dX6_bestDay_68 rfl rfl ?_
        refine mv_icmp_ge (tgt := 83) dX6_bestDay_70 rfl rfl ?_ ?_
        · refine mv_sub [2, 3, 4, 5, 6, 7] rfl ?_
          exact sJ_X6_bestDay_83 l N0 D dA a0 x1 x2 x3 x4 x5 _ ih
        · refine mv_iload 0 dX6_bestDay_73 rfl rfl ?_
          refine mv_iload 1 dX6_bestDay_75 rfl rfl ?_
          refine mv_isub dX6_bestDay_77 rfl ?_
          refine mv_let (fun v8 => ?_)
          refine mv_istore [0, 1, 2, 3, 4, 5, 7] no_X6 dX6_bestDay_78 (by decide) rfl rfl rfl ?_
          refine mv_iload 7 dX6_bestDay_80 rfl rfl ?_
          refine mv_istore_n [0, 1, 2, 3, 4, 5, 7] no_X6 dX6_bestDay_82 rfl (by decide) rfl rfl rfl ?_
          refine mv_sub [4, 5, 6, 0, 1, 7] rfl ?_
          exact sJ_X6_bestDay_83 l N0 D dA a0 x1 x2 x5 v8 x5 _ ih

def F_X6_bestDay (a0 : Nat) (a1 : Int32) (a2 : Int32) : mv_M Int32 :=
  mv_bd (F_X6_areTwoTowns a1 a2) fun v9 =>
  if v9 = 0 then
    mv_pu ((-1) : Int32)
  else
    Lp_X6_bestDay_20 a0 a1 a2 mv_FU ((-4) : Int32) (2147483647 : Int32) (0 : Int32)

set_option maxHeartbeats 4000000 in
set_option maxRecDepth 100000 in
theorem c_X6_bestDay (l : Launch) (N0 : Nat) (D : va_G) (dA : Nat → ClassId) (a0 : Nat) (a1 : Int32) (a2 : Int32) : mv_SimM l N0 D dA yX6_bestDay cX6_bestDay 8 (some .int) 4 101 mv_rI [.ref (N0 + a0), .int a1, .int a2] (F_X6_bestDay a0 a1 a2) := by
  refine mv_SimM_of (L0 := [(0, mv_vr N0 (some a0)), (1, .int a1), (2, .int a2)]) false (by decide +kernel) (Nat.le_of_ble_eq_true rfl) rfl (List.forall_mem_cons.mpr ⟨mv_cat N0 (some a0), List.forall_mem_cons.mpr ⟨rfl, List.forall_mem_cons.mpr ⟨rfl, fun _ h => absurd h List.not_mem_nil⟩⟩⟩) (fun z => by cases z) ?_
  unfold F_X6_bestDay
  show mv_Sim l N0 D dA RX6 cX6_bestDay 8 4 101 (some .int) false mv_rI 0 _ _ _
  refine mv_iload_n 1 dX6_bestDay_0 rfl rfl rfl ?_
  refine mv_iload_n 2 dX6_bestDay_1 rfl rfl rfl ?_
  refine mv_callSi (st := []) [.int a1, .int a2] (c_X6_areTwoTowns l N0 D dA a1 a2) wc_X6_78 ⟨by decide, by decide⟩ rfl (mv_cs (Nat.le_of_ble_eq_true rfl) (fun _ h => absurd h List.not_mem_nil)) dX6_bestDay_2 rfl (fun v9 => ?_)
  refine mv_if_ne (tgt := 10) dX6_bestDay_5 rfl rfl ?_ ?_
  · refine mv_bipush (v := ((-4) : Int32)) dX6_bestDay_10 (by decide) rfl ?_
    refine mv_istore_n [0, 1, 2] no_X6 dX6_bestDay_12 rfl (by decide) rfl rfl rfl ?_
    refine mv_ldc (v := (2147483647 : Int32)) dX6_bestDay_13 (mv_wA_of (mv_t2 (List.mem_of_getElem? (i := 130) rfl)) rfl) rfl ?_
    refine mv_istore [0, 1, 2, 3] no_X6 dX6_bestDay_15 (by decide) rfl rfl rfl ?_
    refine mv_iconst (v := (0 : Int32)) dX6_bestDay_17 (by decide) rfl ?_
    refine mv_istore [0, 1, 2, 3, 4] no_X6 dX6_bestDay_18 (by decide) rfl rfl rfl ?_
    refine mv_sub [3, 4, 5, 2, 1, 0] rfl ?_
    exact sLp_X6_bestDay_20 l N0 D dA a0 a1 a2 mv_FU ((-4) : Int32) (2147483647 : Int32) (0 : Int32)
  · refine mv_iconst (v := ((-1) : Int32)) dX6_bestDay_8 (by decide) rfl ?_
    exact mv_iret dX6_bestDay_9

def J_X6_bestTown_105 (k30 : Int32 → Int32 → Int32 → Int32 → mv_M Int32) (a0 : Nat) (x1 : Int32) (x2 : Int32) (x3 : Int32) (x4 : Int32) (x5 : Int32) : mv_M Int32 :=
  k30 x2 x3 x4 (x5 + (1 : Int32))

set_option maxHeartbeats 4000000 in
set_option maxRecDepth 100000 in
theorem sJ_X6_bestTown_105 (l : Launch) (N0 : Nat) (D : va_G) (dA : Nat → ClassId) (a0 : Nat) (x1 : Int32) (x2 : Int32) (x3 : Int32) (x4 : Int32) (x5 : Int32) (k30 : Int32 → Int32 → Int32 → Int32 → mv_M Int32) (hk30 : ∀ (y2 : Int32) (y3 : Int32) (y4 : Int32) (y5 : Int32), mv_Sim l N0 D dA RX6 cX6_bestTown 8 5 124 (some .int) false mv_rI 30 [(0, mv_vr N0 (some a0)), (1, .int x1), (2, .int y2), (3, .int y3), (4, .int y4), (5, .int y5)] [] (k30 y2 y3 y4 y5)) : mv_Sim l N0 D dA RX6 cX6_bestTown 8 5 124 (some .int) false mv_rI 105 [(0, mv_vr N0 (some a0)), (1, .int x1), (2, .int x2), (3, .int x3), (4, .int x4), (5, .int x5)] [] (J_X6_bestTown_105 k30 a0 x1 x2 x3 x4 x5) := by
  unfold J_X6_bestTown_105
  refine mv_iinc (y := (x5 + (1 : Int32))) 5 [0, 1, 2, 3, 4] no_X6 dX6_bestTown_105 rfl rfl (by decide) rfl rfl rfl ?_
  refine mv_goto (q := 30) dX6_bestTown_108 rfl ?_
  refine mv_sub [1, 2, 3, 4, 5, 0] rfl ?_
  exact hk30 x2 x3 x4 (x5 + (1 : Int32))

def J_X6_bestTown_95 (k30 : Int32 → Int32 → Int32 → Int32 → mv_M Int32) (a0 : Nat) (x1 : Int32) (x5 : Int32) (x6 : Int32) (x7 : Int32) : mv_M Int32 :=
  J_X6_bestTown_105 k30 a0 x1 x5 x6 x7 x5

set_option maxHeartbeats 4000000 in
set_option maxRecDepth 100000 in
theorem sJ_X6_bestTown_95 (l : Launch) (N0 : Nat) (D : va_G) (dA : Nat → ClassId) (a0 : Nat) (x1 : Int32) (x5 : Int32) (x6 : Int32) (x7 : Int32) (k30 : Int32 → Int32 → Int32 → Int32 → mv_M Int32) (hk30 : ∀ (y2 : Int32) (y3 : Int32) (y4 : Int32) (y5 : Int32), mv_Sim l N0 D dA RX6 cX6_bestTown 8 5 124 (some .int) false mv_rI 30 [(0, mv_vr N0 (some a0)), (1, .int x1), (2, .int y2), (3, .int y3), (4, .int y4), (5, .int y5)] [] (k30 y2 y3 y4 y5)) : mv_Sim l N0 D dA RX6 cX6_bestTown 8 5 124 (some .int) false mv_rI 95 [(0, mv_vr N0 (some a0)), (1, .int x1), (5, .int x5), (6, .int x6), (7, .int x7)] [] (J_X6_bestTown_95 k30 a0 x1 x5 x6 x7) := by
  unfold J_X6_bestTown_95
  refine mv_iload 2 dX6_bestTown_95 rfl rfl ?_
  refine mv_istore_n [0, 1, 2, 3, 4] no_X6 dX6_bestTown_97 rfl (by decide) rfl rfl rfl ?_
  refine mv_iload 4 dX6_bestTown_98 rfl rfl ?_
  refine mv_istore_n [0, 1, 2, 3, 4, 5] no_X6 dX6_bestTown_100 rfl (by decide) rfl rfl rfl ?_
  refine mv_iload 6 dX6_bestTown_101 rfl rfl ?_
  refine mv_istore [0, 1, 2, 3, 4, 5, 6] no_X6 dX6_bestTown_103 (by decide) rfl rfl rfl ?_
  refine mv_sub [3, 4, 2, 1, 0, 5] rfl ?_
  exact sJ_X6_bestTown_105 l N0 D dA a0 x1 x5 x6 x7 x5 _ hk30

def Lp_X6_bestTown_30 (a0 : Nat) (x1 : Int32) : Nat → Int32 → Int32 → Int32 → Int32 → mv_M Int32
  | 0, _, _, _, _ => mv_fl
  | n + 1, x2, x3, x4, x5 =>
    if (6 : Int32) < x5 then
      mv_pu x2
    else
      mv_bd (mv_gR 6 7 1 (some a0)) fun v1 =>
      mv_bd (mv_rc 5 12 v1) fun i2 => mv_bd (F_X5_moveStall i2 x1 x5) fun _ =>
      mv_bd (mv_gR 6 7 5 (some a0)) fun v3 =>
      mv_bd (mv_gR 6 7 1 (some a0)) fun v4 =>
      mv_bd (mv_rc 2 4 v3) fun i5 => mv_bd (F_X2_addUpArrivals i5 v4) fun _ =>
      mv_bd (mv_gR 6 7 5 (some a0)) fun v6 =>
      mv_bd (mv_gI 2 4 2 v6) fun v7 =>
      mv_bd (mv_gR 6 7 5 (some a0)) fun v8 =>
      mv_bd (mv_gI 2 4 3 v8) fun v9 =>
      if x3 < v7 then
        J_X6_bestTown_95 (Lp_X6_bestTown_30 a0 x1 n) a0 x1 x5 v7 v9
      else
        if v7 = x3 then
          if x4 ≤ v9 then
            J_X6_bestTown_105 (Lp_X6_bestTown_30 a0 x1 n) a0 x1 x2 x3 x4 x5
          else
            J_X6_bestTown_95 (Lp_X6_bestTown_30 a0 x1 n) a0 x1 x5 v7 v9
        else
          J_X6_bestTown_105 (Lp_X6_bestTown_30 a0 x1 n) a0 x1 x2 x3 x4 x5

set_option maxHeartbeats 4000000 in
set_option maxRecDepth 100000 in
theorem sLp_X6_bestTown_30 (l : Launch) (N0 : Nat) (D : va_G) (dA : Nat → ClassId) (a0 : Nat) (x1 : Int32) : ∀ (n : Nat) (x2 : Int32) (x3 : Int32) (x4 : Int32) (x5 : Int32), mv_Sim l N0 D dA RX6 cX6_bestTown 8 5 124 (some .int) false mv_rI 30 [(0, mv_vr N0 (some a0)), (1, .int x1), (2, .int x2), (3, .int x3), (4, .int x4), (5, .int x5)] [] (Lp_X6_bestTown_30 a0 x1 n x2 x3 x4 x5) := by
  intro n
  induction n with
  | zero => intro x2 x3 x4 x5; rw [Lp_X6_bestTown_30]; exact mv_fl_sim
  | succ n ih =>
    intro x2 x3 x4 x5
    rw [Lp_X6_bestTown_30]
    refine mv_iload 5 dX6_bestTown_30 rfl rfl ?_
    refine mv_bipush (v := (6 : Int32)) dX6_bestTown_32 (by decide) rfl ?_
    refine mv_icmp_gt (tgt := 111) dX6_bestTown_34 rfl rfl ?_ ?_
    · refine mv_iload_n 2 dX6_bestTown_111 rfl rfl rfl ?_
      exact mv_iret dX6_bestTown_112
    · refine mv_aload_n 0 dX6_bestTown_37 rfl rfl rfl ?_
      refine mv_getR fd_X6_1 lk_X6_16 dX6_bestTown_38 rfl (fun v1 => ?_)
      refine mv_iload_n 1 dX6_bestTown_41 rfl rfl rfl ?_
      refine mv_iload 5 dX6_bestTown_42 rfl rfl ?_
      refine mv_callVv (st := []) [.int x1, .int x5] (fun i2 => c_X5_moveStall l N0 D dA i2 x1 x5) (T := TX5) rfl (by decide) wc_X6_55 ⟨by decide, by decide⟩ rfl (mv_cs (Nat.le_of_ble_eq_true rfl) (fun _ h => absurd h List.not_mem_nil)) dX6_bestTown_44 rfl ?_
      refine mv_aload_n 0 dX6_bestTown_47 rfl rfl rfl ?_
      refine mv_getR fd_X6_5 lk_X6_39 dX6_bestTown_48 rfl (fun v3 => ?_)
      refine mv_aload_n 0 dX6_bestTown_51 rfl rfl rfl ?_
      refine mv_getR fd_X6_1 lk_X6_16 dX6_bestTown_52 rfl (fun v4 => ?_)
      refine mv_callVv (st := []) [mv_vr N0 v4] (fun i5 => c_X2_addUpArrivals l N0 D dA i5 v4) (T := TX2) rfl (by decide) wc_X6_221 ⟨by decide, by decide⟩ rfl (mv_cs (Nat.le_of_ble_eq_true rfl) (fun _ h => absurd h List.not_mem_nil)) dX6_bestTown_55 rfl ?_
      refine mv_aload_n 0 dX6_bestTown_58 rfl rfl rfl ?_
      refine mv_getR fd_X6_5 lk_X6_39 dX6_bestTown_59 rfl (fun v6 => ?_)
      refine mv_getI fd_X2_2 lk_X6_224 dX6_bestTown_62 rfl (fun v7 => ?_)
      refine mv_istore [0, 1, 2, 3, 4, 5] no_X6 dX6_bestTown_65 (by decide) rfl rfl rfl ?_
      refine mv_aload_n 1 dX6_bestTown_67 rfl rfl rfl ?_
      refine mv_getR fd_X6_5 lk_X6_39 dX6_bestTown_68 rfl (fun v8 => ?_)
      refine mv_getI fd_X2_3 lk_X6_227 dX6_bestTown_71 rfl (fun v9 => ?_)
      refine mv_istore [0, 1, 2, 3, 4, 5, 6] no_X6 dX6_bestTown_74 (by decide) rfl rfl rfl ?_
      refine mv_iload 1 dX6_bestTown_76 rfl rfl ?_
      refine mv_iload_n 5 dX6_bestTown_78 rfl rfl rfl ?_
      refine mv_icmp_gt (tgt := 95) dX6_bestTown_79 rfl rfl ?_ ?_
      · refine mv_sub [2, 3, 7, 1, 0] rfl ?_
        exact sJ_X6_bestTown_95 l N0 D dA a0 x1 x5 v7 v9 _ ih
      · refine mv_iload 1 dX6_bestTown_82 rfl rfl ?_
        refine mv_iload_n 5 dX6_bestTown_84 rfl rfl rfl ?_
        refine mv_icmp_ne (tgt := 105) dX6_bestTown_85 rfl rfl ?_ ?_
        · refine mv_sub [2, 3, 4, 5, 6, 7] rfl ?_
          exact sJ_X6_bestTown_105 l N0 D dA a0 x1 x2 x3 x4 x5 _ ih
        · refine mv_iload 0 dX6_bestTown_88 rfl rfl ?_
          refine mv_iload 6 dX6_bestTown_90 rfl rfl ?_
          refine mv_icmp_ge (tgt := 105) dX6_bestTown_92 rfl rfl ?_ ?_
          · refine mv_sub [2, 3, 4, 5, 6, 7] rfl ?_
            exact sJ_X6_bestTown_105 l N0 D dA a0 x1 x2 x3 x4 x5 _ ih
          · refine mv_sub [2, 3, 7, 1, 0] rfl ?_
            exact sJ_X6_bestTown_95 l N0 D dA a0 x1 x5 v7 v9 _ ih

def F_X6_bestTown (a0 : Nat) (a1 : Int32) : mv_M Int32 :=
  mv_bd (F_X6_isWeekday a1) fun v10 =>
  if v10 = 0 then
    mv_pu ((-1) : Int32)
  else
    mv_bd (mv_gR 6 7 1 (some a0)) fun v11 =>
    mv_bd (mv_gR 6 7 0 (some a0)) fun v12 =>
    mv_bd (mv_rc 5 12 v11) fun i13 => mv_bd (F_X5_copyFrom i13 v12) fun _ =>
    Lp_X6_bestTown_30 a0 a1 mv_FU (0 : Int32) ((-1) : Int32) (0 : Int32) (0 : Int32)

set_option maxHeartbeats 4000000 in
set_option maxRecDepth 100000 in
theorem c_X6_bestTown (l : Launch) (N0 : Nat) (D : va_G) (dA : Nat → ClassId) (a0 : Nat) (a1 : Int32) : mv_SimM l N0 D dA yX6_bestTown cX6_bestTown 8 (some .int) 5 124 mv_rI [.ref (N0 + a0), .int a1] (F_X6_bestTown a0 a1) := by
  refine mv_SimM_of (L0 := [(0, mv_vr N0 (some a0)), (1, .int a1)]) false (by decide +kernel) (Nat.le_of_ble_eq_true rfl) rfl (List.forall_mem_cons.mpr ⟨mv_cat N0 (some a0), List.forall_mem_cons.mpr ⟨rfl, fun _ h => absurd h List.not_mem_nil⟩⟩) (fun z => by cases z) ?_
  unfold F_X6_bestTown
  show mv_Sim l N0 D dA RX6 cX6_bestTown 8 5 124 (some .int) false mv_rI 0 _ _ _
  refine mv_iload_n 1 dX6_bestTown_0 rfl rfl rfl ?_
  refine mv_callSi (st := []) [.int a1] (c_X6_isWeekday l N0 D dA a1) wc_X6_43 ⟨by decide, by decide⟩ rfl (mv_cs (Nat.le_of_ble_eq_true rfl) (fun _ h => absurd h List.not_mem_nil)) dX6_bestTown_1 rfl (fun v10 => ?_)
  refine mv_if_ne (tgt := 9) dX6_bestTown_4 rfl rfl ?_ ?_
  · refine mv_aload_n 0 dX6_bestTown_9 rfl rfl rfl ?_
    refine mv_getR fd_X6_1 lk_X6_16 dX6_bestTown_10 rfl (fun v11 => ?_)
    refine mv_aload_n 0 dX6_bestTown_13 rfl rfl rfl ?_
    refine mv_getR fd_X6_0 lk_X6_10 dX6_bestTown_14 rfl (fun v12 => ?_)
    refine mv_callVv (st := []) [mv_vr N0 v12] (fun i13 => c_X5_copyFrom l N0 D dA i13 v12) (T := TX5) rfl (by decide) wc_X6_218 ⟨by decide, by decide⟩ rfl (mv_cs (Nat.le_of_ble_eq_true rfl) (fun _ h => absurd h List.not_mem_nil)) dX6_bestTown_17 rfl ?_
    refine mv_iconst (v := (0 : Int32)) dX6_bestTown_20 (by decide) rfl ?_
    refine mv_istore_n [0, 1] no_X6 dX6_bestTown_21 rfl (by decide) rfl rfl rfl ?_
    refine mv_iconst (v := ((-1) : Int32)) dX6_bestTown_22 (by decide) rfl ?_
    refine mv_istore_n [0, 1, 2] no_X6 dX6_bestTown_23 rfl (by decide) rfl rfl rfl ?_
    refine mv_iconst (v := (0 : Int32)) dX6_bestTown_24 (by decide) rfl ?_
    refine mv_istore [0, 1, 2, 3] no_X6 dX6_bestTown_25 (by decide) rfl rfl rfl ?_
    refine mv_iconst (v := (0 : Int32)) dX6_bestTown_27 (by decide) rfl ?_
    refine mv_istore [0, 1, 2, 3, 4] no_X6 dX6_bestTown_28 (by decide) rfl rfl rfl ?_
    refine mv_sub [4, 5, 3, 2, 1, 0] rfl ?_
    exact sLp_X6_bestTown_30 l N0 D dA a0 a1 mv_FU (0 : Int32) ((-1) : Int32) (0 : Int32) (0 : Int32)
  · refine mv_iconst (v := ((-1) : Int32)) dX6_bestTown_7 (by decide) rfl ?_
    exact mv_iret dX6_bestTown_8

def J_X6_meeting_27 (a0 : Nat) : mv_M Int32 :=
  mv_pu ((-1) : Int32)

set_option maxHeartbeats 4000000 in
set_option maxRecDepth 100000 in
theorem sJ_X6_meeting_27 (l : Launch) (N0 : Nat) (D : va_G) (dA : Nat → ClassId) (a0 : Nat) : mv_Sim l N0 D dA RX6 cX6_meeting 8 1 24 (some .int) false mv_rI 27 [(0, mv_vr N0 (some a0))] [] (J_X6_meeting_27 a0) := by
  unfold J_X6_meeting_27
  refine mv_iconst (v := ((-1) : Int32)) dX6_meeting_27 (by decide) rfl ?_
  exact mv_iret dX6_meeting_28

def J_X6_meeting_114 (a0 : Nat) (x5 : Int32) : mv_M Int32 :=
  mv_pu x5

set_option maxHeartbeats 4000000 in
set_option maxRecDepth 100000 in
theorem sJ_X6_meeting_114 (l : Launch) (N0 : Nat) (D : va_G) (dA : Nat → ClassId) (a0 : Nat) (x5 : Int32) : mv_Sim l N0 D dA RX6 cX6_meeting 8 1 24 (some .int) false mv_rI 114 [(0, mv_vr N0 (some a0)), (5, .int x5)] [] (J_X6_meeting_114 a0 x5) := by
  unfold J_X6_meeting_114
  refine mv_iload 1 dX6_meeting_114 rfl rfl ?_
  exact mv_iret dX6_meeting_116

def J_X6_meeting_117 (k32 : Int32 → mv_M Int32) (a0 : Nat) (x1 : Int32) (x2 : Int32) (x3 : Int32) (x4 : Int32) : mv_M Int32 :=
  k32 (x4 + (1 : Int32))

set_option maxHeartbeats 4000000 in
set_option maxRecDepth 100000 in
theorem sJ_X6_meeting_117 (l : Launch) (N0 : Nat) (D : va_G) (dA : Nat → ClassId) (a0 : Nat) (x1 : Int32) (x2 : Int32) (x3 : Int32) (x4 : Int32) (k32 : Int32 → mv_M Int32) (hk32 : ∀ (y4 : Int32), mv_Sim l N0 D dA RX6 cX6_meeting 8 1 24 (some .int) false mv_rI 32 [(0, mv_vr N0 (some a0)), (1, .int x1), (2, .int x2), (3, .int x3), (4, .int y4)] [] (k32 y4)) : mv_Sim l N0 D dA RX6 cX6_meeting 8 1 24 (some .int) false mv_rI 117 [(0, mv_vr N0 (some a0)), (1, .int x1), (2, .int x2), (3, .int x3), (4, .int x4)] [] (J_X6_meeting_117 k32 a0 x1 x2 x3 x4) := by
  unfold J_X6_meeting_117
  refine mv_iinc (y := (x4 + (1 : Int32))) 4 [0, 1, 2, 3] no_X6 dX6_meeting_117 rfl rfl (by decide) rfl rfl rfl ?_
  refine mv_goto (q := 32) dX6_meeting_120 rfl ?_
  refine mv_sub [1, 2, 3, 4, 0] rfl ?_
  exact hk32 (x4 + (1 : Int32))

def J_X6_meeting_89 (k32 : Int32 → mv_M Int32) (a0 : Nat) (x1 : Int32) (x2 : Int32) (x3 : Int32) (x4 : Int32) (x5 : Int32) (x6 : Int32) (s0 : Int32) : mv_M Int32 :=
  if s0 = 0 then
    J_X6_meeting_117 k32 a0 x1 x2 x3 x4
  else
    if x3 = 0 then
      J_X6_meeting_114 a0 x5
    else
      mv_bd (mv_gR 6 7 0 (some a0)) fun v1 =>
      mv_bd (mv_rc 5 12 v1) fun i3 => mv_bd (F_X5_stallOn i3 x5) fun v2 =>
      if x6 = v2 then
        J_X6_meeting_114 a0 x5
      else
        J_X6_meeting_117 k32 a0 x1 x2 x3 x4

set_option maxHeartbeats 4000000 in
set_option maxRecDepth 100000 in
theorem sJ_X6_meeting_89 (l : Launch) (N0 : Nat) (D : va_G) (dA : Nat → ClassId) (a0 : Nat) (x1 : Int32) (x2 : Int32) (x3 : Int32) (x4 : Int32) (x5 : Int32) (x6 : Int32) (s0 : Int32) (k32 : Int32 → mv_M Int32) (hk32 : ∀ (y4 : Int32), mv_Sim l N0 D dA RX6 cX6_meeting 8 1 24 (some .int) false mv_rI 32 [(0, mv_vr N0 (some a0)), (1, .int x1), (2, .int x2), (3, .int x3), (4, .int y4)] [] (k32 y4)) : mv_Sim l N0 D dA RX6 cX6_meeting 8 1 24 (some .int) false mv_rI 89 [(0, mv_vr N0 (some a0)), (1, .int x1), (2, .int x2), (3, .int x3), (4, .int x4), (5, .int x5), (6, .int x6)] [.int s0] (J_X6_meeting_89 k32 a0 x1 x2 x3 x4 x5 x6 s0) := by
  unfold J_X6_meeting_89
  refine mv_istore [0, 1, 2, 3, 4, 5, 6] no_X6 dX6_meeting_89 (by decide) rfl rfl rfl ?_
  refine mv_iload 0 dX6_meeting_91 rfl rfl ?_
  refine mv_if_eq (tgt := 117) dX6_meeting_93 rfl rfl ?_ ?_
  · refine mv_sub [1, 2, 3, 4, 5] rfl ?_
    exact sJ_X6_meeting_117 l N0 D dA a0 x1 x2 x3 x4 _ hk32
  · refine mv_iload_n 4 dX6_meeting_96 rfl rfl rfl ?_
    refine mv_if_eq (tgt := 114) dX6_meeting_97 rfl rfl ?_ ?_
    · refine mv_sub [1, 6] rfl ?_
      exact sJ_X6_meeting_114 l N0 D dA a0 x5
    · refine mv_iload 7 dX6_meeting_100 rfl rfl ?_
      refine mv_aload_n 1 dX6_meeting_102 rfl rfl rfl ?_
      refine mv_getR fd_X6_0 lk_X6_10 dX6_meeting_103 rfl (fun v1 => ?_)
      refine mv_iload 6 dX6_meeting_106 rfl rfl ?_
      refine mv_callVi (st := [.int x6]) [.int x5] (fun i3 => c_X5_stallOn l N0 D dA i3 x5) (T := TX5) rfl (by decide) wc_X6_47 ⟨by decide, by decide⟩ rfl (mv_cs (Nat.le_of_ble_eq_true rfl) (List.forall_mem_cons.mpr ⟨rfl, fun _ h => absurd h List.not_mem_nil⟩)) dX6_meeting_108 rfl (fun v2 => ?_)
      refine mv_icmp_ne (tgt := 117) dX6_meeting_111 rfl rfl ?_ ?_
      · refine mv_sub [1, 2, 3, 4, 5] rfl ?_
        exact sJ_X6_meeting_117 l N0 D dA a0 x1 x2 x3 x4 _ hk32
      · refine mv_sub [1, 6] rfl ?_
        exact sJ_X6_meeting_114 l N0 D dA a0 x5

def J_X6_meeting_88 (k32 : Int32 → mv_M Int32) (a0 : Nat) (x1 : Int32) (x2 : Int32) (x3 : Int32) (x4 : Int32) (x5 : Int32) (x6 : Int32) : mv_M Int32 :=
  J_X6_meeting_89 k32 a0 x1 x2 x3 x4 x5 x6 (0 : Int32)

set_option maxHeartbeats 4000000 in
set_option maxRecDepth 100000 in
theorem sJ_X6_meeting_88 (l : Launch) (N0 : Nat) (D : va_G) (dA : Nat → ClassId) (a0 : Nat) (x1 : Int32) (x2 : Int32) (x3 : Int32) (x4 : Int32) (x5 : Int32) (x6 : Int32) (k32 : Int32 → mv_M Int32) (hk32 : ∀ (y4 : Int32), mv_Sim l N0 D dA RX6 cX6_meeting 8 1 24 (some .int) false mv_rI 32 [(0, mv_vr N0 (some a0)), (1, .int x1), (2, .int x2), (3, .int x3), (4, .int y4)] [] (k32 y4)) : mv_Sim l N0 D dA RX6 cX6_meeting 8 1 24 (some .int) false mv_rI 88 [(0, mv_vr N0 (some a0)), (1, .int x1), (2, .int x2), (3, .int x3), (4, .int x4), (5, .int x5), (6, .int x6)] [] (J_X6_meeting_88 k32 a0 x1 x2 x3 x4 x5 x6) := by
  unfold J_X6_meeting_88
  refine mv_iconst (v := (0 : Int32)) dX6_meeting_88 (by decide) rfl ?_
  refine mv_sub [0, 1, 2, 3, 4, 5, 6] rfl ?_
  exact sJ_X6_meeting_89 l N0 D dA a0 x1 x2 x3 x4 x5 x6 (0 : Int32) _ hk32

def Lp_X6_meeting_32 (a0 : Nat) (x1 : Int32) (x2 : Int32) (x3 : Int32) : Nat → Int32 → mv_M Int32
  | 0, _ => mv_fl
  | n + 1, x4 =>
    if (30 : Int32) < x4 then
      mv_pu ((-4) : Int32)
    else
      mv_bd (mv_gR 6 7 0 (some a0)) fun v4 =>
      mv_bd (mv_gI 5 12 5 v4) fun v5 =>
      mv_bd (mv_pu (v5 + x4)) fun v6 =>
      mv_bd (mv_gR 6 7 0 (some a0)) fun v7 =>
      mv_bd (mv_rc 5 12 v7) fun i9 => mv_bd (F_X5_townOf i9 x1 v6) fun v8 =>
      if v8 = ((-1) : Int32) then
        J_X6_meeting_88 (Lp_X6_meeting_32 a0 x1 x2 x3 n) a0 x1 x2 x3 x4 v6 v8
      else
        mv_bd (mv_gR 6 7 0 (some a0)) fun v10 =>
        mv_bd (mv_rc 5 12 v10) fun i12 => mv_bd (F_X5_townOf i12 x2 v6) fun v11 =>
        if v8 = v11 then
          J_X6_meeting_89 (Lp_X6_meeting_32 a0 x1 x2 x3 n) a0 x1 x2 x3 x4 v6 v8 (1 : Int32)
        else
          J_X6_meeting_88 (Lp_X6_meeting_32 a0 x1 x2 x3 n) a0 x1 x2 x3 x4 v6 v8

set_option maxHeartbeats 4000000 in
set_option maxRecDepth 100000 in
theorem sLp_X6_meeting_32 (l : Launch) (N0 : Nat) (D : va_G) (dA : Nat → ClassId) (a0 : Nat) (x1 : Int32) (x2 : Int32) (x3 : Int32) : ∀ (n : Nat) (x4 : Int32), mv_Sim l N0 D dA RX6 cX6_meeting 8 1 24 (some .int) false mv_rI 32 [(0, mv_vr N0 (some a0)), (1, .int x1), (2, .int x2), (3, .int x3), (4, .int x4)] [] (Lp_X6_meeting_32 a0 x1 x2 x3 n x4) := by
  intro n
  induction n with
  | zero => intro x4; rw [Lp_X6_meeting_32]; exact mv_fl_sim
  | succ n ih =>
    intro x4
    rw [Lp_X6_meeting_32]
    refine mv_iload 4 dX6_meeting_32 rfl rfl ?_
    refine mv_bipush (v := (30 : Int32)) dX6_meeting_34 (by decide) rfl ?_
    refine mv_icmp_gt (tgt := 123) dX6_meeting_36 rfl rfl ?_ ?_
    · refine mv_bipush (v := ((-4) : Int32)) dX6_meeting_123 (by decide) rfl ?_
      exact mv_iret dX6_meeting_125
    · refine mv_aload_n 0 dX6_meeting_39 rfl rfl rfl ?_
      refine mv_getR fd_X6_0 lk_X6_10 dX6_meeting_40 rfl (fun v4 => ?_)
      refine mv_getI fd_X5_5 lk_X6_63 dX6_meeting_43 rfl (fun v5 => ?_)
      refine mv_iload 4 dX6_meeting_46 rfl rfl ?_
      refine mv_iadd dX6_meeting_48 rfl ?_
      refine mv_let (fun v6 => ?_)
      refine mv_istore [0, 1, 2, 3, 4] no_X6 dX6_meeting_49 (by decide) rfl rfl rfl ?_
      refine mv_aload_n 1 dX6_meeting_51 rfl rfl rfl ?_
      refine mv_getR fd_X6_0 lk_X6_10 dX6_meeting_52 rfl (fun v7 => ?_)
      refine mv_iload_n 2 dX6_meeting_55 rfl rfl rfl ?_
      refine mv_iload 0 dX6_meeting_56 rfl rfl ?_
      refine mv_callVi (st := []) [.int x1, .int v6] (fun i9 => c_X5_townOf l N0 D dA i9 x1 v6) (T := TX5) rfl (by decide) wc_X6_136 ⟨by decide, by decide⟩ rfl (mv_cs (Nat.le_of_ble_eq_true rfl) (fun _ h => absurd h List.not_mem_nil)) dX6_meeting_58 rfl (fun v8 => ?_)
      refine mv_istore [0, 1, 2, 3, 4, 5] no_X6 dX6_meeting_61 (by decide) rfl rfl rfl ?_
      refine mv_iload 0 dX6_meeting_63 rfl rfl ?_
      refine mv_iconst (v := ((-1) : Int32)) dX6_meeting_65 (by decide) rfl ?_
      refine mv_icmp_eq (tgt := 88) dX6_meeting_66 rfl rfl ?_ ?_
      · refine mv_sub [2, 3, 4, 5, 6, 1, 0] rfl ?_
        exact sJ_X6_meeting_88 l N0 D dA a0 x1 x2 x3 x4 v6 v8 _ ih
      · refine mv_iload 0 dX6_meeting_69 rfl rfl ?_
        refine mv_aload_n 2 dX6_meeting_71 rfl rfl rfl ?_
        refine mv_getR fd_X6_0 lk_X6_10 dX6_meeting_72 rfl (fun v10 => ?_)
        refine mv_iload_n 4 dX6_meeting_75 rfl rfl rfl ?_
        refine mv_iload 1 dX6_meeting_76 rfl rfl ?_
        refine mv_callVi (st := [.int v8]) [.int x2, .int v6] (fun i12 => c_X5_townOf l N0 D dA i12 x2 v6) (T := TX5) rfl (by decide) wc_X6_136 ⟨by decide, by decide⟩ rfl (mv_cs (Nat.le_of_ble_eq_true rfl) (List.forall_mem_cons.mpr ⟨rfl, fun _ h => absurd h List.not_mem_nil⟩)) dX6_meeting_78 rfl (fun v11 => ?_)
        refine mv_icmp_ne (tgt := 88) dX6_meeting_81 rfl rfl ?_ ?_
        · refine mv_sub [2, 3, 4, 5, 6, 1, 0] rfl ?_
          exact sJ_X6_meeting_88 l N0 D dA a0 x1 x2 x3 x4 v6 v8 _ ih
        · refine mv_iconst (v := (1 : Int32)) dX6_meeting_84 (by decide) rfl ?_
          refine mv_goto (q := 89) dX6_meeting_85 rfl ?_
          refine mv_sub [2, 3, 4, 5, 6, 1, 0] rfl ?_
          exact sJ_X6_meeting_89 l N0 D dA a0 x1 x2 x3 x4 v6 v8 (1 : Int32) _ ih

def F_X6_meeting (a0 : Nat) (a1 : Int32) (a2 : Int32) (a3 : Int32) : mv_M Int32 :=
  mv_bd (mv_gR 6 7 0 (some a0)) fun v13 =>
  mv_bd (mv_rc 5 12 v13) fun i15 => mv_bd (F_X5_hasCarrier i15 a1) fun v14 =>
  if v14 = 0 then
    J_X6_meeting_27 a0
  else
    mv_bd (mv_gR 6 7 0 (some a0)) fun v16 =>
    mv_bd (mv_rc 5 12 v16) fun i18 => mv_bd (F_X5_hasCarrier i18 a2) fun v17 =>
    if v17 = 0 then
      J_X6_meeting_27 a0
    else
      if a1 = a2 then
        J_X6_meeting_27 a0
      else
        Lp_X6_meeting_32 a0 a1 a2 a3 mv_FU (1 : Int32)

set_option maxHeartbeats 4000000 in
set_option maxRecDepth 100000 in
theorem c_X6_meeting (l : Launch) (N0 : Nat) (D : va_G) (dA : Nat → ClassId) (a0 : Nat) (a1 : Int32) (a2 : Int32) (a3 : Int32) : mv_SimM l N0 D dA yX6_meeting cX6_meeting 8 (some .int) 1 24 mv_rI [.ref (N0 + a0), .int a1, .int a2, .int a3] (F_X6_meeting a0 a1 a2 a3) := by
  refine mv_SimM_of (L0 := [(0, mv_vr N0 (some a0)), (1, .int a1), (2, .int a2), (3, .int a3)]) false (by decide +kernel) (Nat.le_of_ble_eq_true rfl) rfl (List.forall_mem_cons.mpr ⟨mv_cat N0 (some a0), List.forall_mem_cons.mpr ⟨rfl, List.forall_mem_cons.mpr ⟨rfl, List.forall_mem_cons.mpr ⟨rfl, fun _ h => absurd h List.not_mem_nil⟩⟩⟩⟩) (fun z => by cases z) ?_
  unfold F_X6_meeting
  show mv_Sim l N0 D dA RX6 cX6_meeting 8 1 24 (some .int) false mv_rI 0 _ _ _
  refine mv_aload_n 0 dX6_meeting_0 rfl rfl rfl ?_
  refine mv_getR fd_X6_0 lk_X6_10 dX6_meeting_1 rfl (fun v13 => ?_)
  refine mv_iload_n 1 dX6_meeting_4 rfl rfl rfl ?_
  refine mv_callVi (st := []) [.int a1] (fun i15 => c_X5_hasCarrier l N0 D dA i15 a1) (T := TX5) rfl (by decide) wc_X6_133 ⟨by decide, by decide⟩ rfl (mv_cs (Nat.le_of_ble_eq_true rfl) (fun _ h => absurd h List.not_mem_nil)) dX6_meeting_5 rfl (fun v14 => ?_)
  refine mv_if_eq (tgt := 27) dX6_meeting_8 rfl rfl ?_ ?_
  · refine mv_sub [0] rfl ?_
    exact sJ_X6_meeting_27 l N0 D dA a0
  · refine mv_aload_n 0 dX6_meeting_11 rfl rfl rfl ?_
    refine mv_getR fd_X6_0 lk_X6_10 dX6_meeting_12 rfl (fun v16 => ?_)
    refine mv_iload_n 2 dX6_meeting_15 rfl rfl rfl ?_
    refine mv_callVi (st := []) [.int a2] (fun i18 => c_X5_hasCarrier l N0 D dA i18 a2) (T := TX5) rfl (by decide) wc_X6_133 ⟨by decide, by decide⟩ rfl (mv_cs (Nat.le_of_ble_eq_true rfl) (fun _ h => absurd h List.not_mem_nil)) dX6_meeting_16 rfl (fun v17 => ?_)
    refine mv_if_eq (tgt := 27) dX6_meeting_19 rfl rfl ?_ ?_
    · refine mv_sub [0] rfl ?_
      exact sJ_X6_meeting_27 l N0 D dA a0
    · refine mv_iload_n 1 dX6_meeting_22 rfl rfl rfl ?_
      refine mv_iload_n 2 dX6_meeting_23 rfl rfl rfl ?_
      refine mv_icmp_ne (tgt := 29) dX6_meeting_24 rfl rfl ?_ ?_
      · refine mv_iconst (v := (1 : Int32)) dX6_meeting_29 (by decide) rfl ?_
        refine mv_istore [0, 1, 2, 3] no_X6 dX6_meeting_30 (by decide) rfl rfl rfl ?_
        refine mv_sub [1, 2, 3, 4, 0] rfl ?_
        exact sLp_X6_meeting_32 l N0 D dA a0 a1 a2 a3 mv_FU (1 : Int32)
      · refine mv_sub [0] rfl ?_
        exact sJ_X6_meeting_27 l N0 D dA a0

def F_X6_init (a0 : Nat) : mv_M Unit :=
  mv_bd (mv_nw 5 12) fun v1 =>
  mv_bd (mv_rc 5 12 v1) fun i2 => mv_bd (F_X5_init i2 ) fun _ =>
  mv_bd (mv_sR 6 7 0 (some a0) v1) fun _ =>
  mv_bd (mv_nw 5 12) fun v3 =>
  mv_bd (mv_rc 5 12 v3) fun i4 => mv_bd (F_X5_init i4 ) fun _ =>
  mv_bd (mv_sR 6 7 1 (some a0) v3) fun _ =>
  mv_bd (mv_nw 5 12) fun v5 =>
  mv_bd (mv_rc 5 12 v5) fun i6 => mv_bd (F_X5_init i6 ) fun _ =>
  mv_bd (mv_sR 6 7 2 (some a0) v5) fun _ =>
  mv_bd (mv_nw 3 2) fun v7 =>
  mv_bd (mv_rc 3 2 v7) fun i8 => mv_bd (F_X3_init i8 ) fun _ =>
  mv_bd (mv_sR 6 7 3 (some a0) v7) fun _ =>
  mv_bd (mv_nw 4 2) fun v9 =>
  mv_bd (mv_rc 4 2 v9) fun i10 => mv_bd (F_X4_init i10 ) fun _ =>
  mv_bd (mv_sR 6 7 4 (some a0) v9) fun _ =>
  mv_bd (mv_nw 2 4) fun v11 =>
  mv_bd (mv_rc 2 4 v11) fun i12 => mv_bd (F_X2_init i12 ) fun _ =>
  mv_bd (mv_sR 6 7 5 (some a0) v11) fun _ =>
  mv_pu ()

set_option maxHeartbeats 4000000 in
set_option maxRecDepth 100000 in
theorem c_X6_init (l : Launch) (N0 : Nat) (D : va_G) (dA : Nat → ClassId) (a0 : Nat) : mv_SimM l N0 D dA yX6_init cX6_init 1 none 4 74 mv_rV [.ref (N0 + a0)] (F_X6_init a0) := by
  refine mv_SimM_of (L0 := [(0, mv_vr N0 (some a0))]) true (by decide +kernel) (Nat.le_of_ble_eq_true rfl) rfl (List.forall_mem_cons.mpr ⟨mv_cat N0 (some a0), fun _ h => absurd h List.not_mem_nil⟩) (fun _ => rfl) ?_
  unfold F_X6_init
  show mv_Sim l N0 D dA RX6 cX6_init 1 4 74 none true mv_rV 0 _ _ _
  refine mv_aload_n 0 dX6_init_0 rfl rfl rfl ?_
  refine mv_objInit dX6_init_1 wo_X6 ⟨by decide, by decide⟩ rfl ?_
  refine mv_aload_n 0 dX6_init_4 rfl rfl rfl ?_
  refine mv_new (T := TX5) (ty := tyX5) rfl (by decide) uw_X5 tyX5_ok df_X5 ⟨mv_wA_of (mv_t1 (List.mem_of_getElem? (i := 18) rfl)) rfl, wn_X5⟩ dX6_init_5 rfl (fun v1 => ?_)
  refine mv_dup dX6_init_8 (mv_cat N0 v1) rfl ?_
  refine mv_callI (st := [mv_vr N0 v1, mv_vr N0 (some a0)]) [] (fun i2 => c_X5_init l N0 D dA i2 ) wc_X6_9 ⟨by decide, by decide⟩ rfl (mv_cs (Nat.le_of_ble_eq_true rfl) (List.forall_mem_cons.mpr ⟨mv_cat N0 v1, List.forall_mem_cons.mpr ⟨mv_cat N0 (some a0), fun _ h => absurd h List.not_mem_nil⟩⟩)) dX6_init_9 rfl ?_
  refine mv_putR (t := tyX6 0) fd_X6_0 rfl (tyX6_ok 0 (by decide)) (Or.inl ⟨_, rfl⟩) rfl rfl (mv_wA_of (mv_t1 (List.mem_of_getElem? (i := 212) rfl)) rfl) dX6_init_12 rfl ?_
  refine mv_aload_n 0 dX6_init_15 rfl rfl rfl ?_
  refine mv_new (T := TX5) (ty := tyX5) rfl (by decide) uw_X5 tyX5_ok df_X5 ⟨mv_wA_of (mv_t1 (List.mem_of_getElem? (i := 18) rfl)) rfl, wn_X5⟩ dX6_init_16 rfl (fun v3 => ?_)
  refine mv_dup dX6_init_19 (mv_cat N0 v3) rfl ?_
  refine mv_callI (st := [mv_vr N0 v3, mv_vr N0 (some a0)]) [] (fun i4 => c_X5_init l N0 D dA i4 ) wc_X6_9 ⟨by decide, by decide⟩ rfl (mv_cs (Nat.le_of_ble_eq_true rfl) (List.forall_mem_cons.mpr ⟨mv_cat N0 v3, List.forall_mem_cons.mpr ⟨mv_cat N0 (some a0), fun _ h => absurd h List.not_mem_nil⟩⟩)) dX6_init_20 rfl ?_
  refine mv_putR (t := tyX6 1) fd_X6_1 rfl (tyX6_ok 1 (by decide)) (Or.inl ⟨_, rfl⟩) rfl rfl (mv_wA_of (mv_t1 (List.mem_of_getElem? (i := 213) rfl)) rfl) dX6_init_23 rfl ?_
  refine mv_aload_n 0 dX6_init_26 rfl rfl rfl ?_
  refine mv_new (T := TX5) (ty := tyX5) rfl (by decide) uw_X5 tyX5_ok df_X5 ⟨mv_wA_of (mv_t1 (List.mem_of_getElem? (i := 18) rfl)) rfl, wn_X5⟩ dX6_init_27 rfl (fun v5 => ?_)
  refine mv_dup dX6_init_30 (mv_cat N0 v5) rfl ?_
  refine mv_callI (st := [mv_vr N0 v5, mv_vr N0 (some a0)]) [] (fun i6 => c_X5_init l N0 D dA i6 ) wc_X6_9 ⟨by decide, by decide⟩ rfl (mv_cs (Nat.le_of_ble_eq_true rfl) (List.forall_mem_cons.mpr ⟨mv_cat N0 v5, List.forall_mem_cons.mpr ⟨mv_cat N0 (some a0), fun _ h => absurd h List.not_mem_nil⟩⟩)) dX6_init_31 rfl ?_
  refine mv_putR (t := tyX6 2) fd_X6_2 rfl (tyX6_ok 2 (by decide)) (Or.inl ⟨_, rfl⟩) rfl rfl (mv_wA_of (mv_t1 (List.mem_of_getElem? (i := 214) rfl)) rfl) dX6_init_34 rfl ?_
  refine mv_aload_n 0 dX6_init_37 rfl rfl rfl ?_
  refine mv_new (T := TX3) (ty := tyX3) rfl (by decide) uw_X3 tyX3_ok df_X3 ⟨mv_wA_of (mv_t1 (List.mem_of_getElem? (i := 160) rfl)) rfl, wn_X3⟩ dX6_init_38 rfl (fun v7 => ?_)
  refine mv_dup dX6_init_41 (mv_cat N0 v7) rfl ?_
  refine mv_callI (st := [mv_vr N0 v7, mv_vr N0 (some a0)]) [] (fun i8 => c_X3_init l N0 D dA i8 ) wc_X6_24 ⟨by decide, by decide⟩ rfl (mv_cs (Nat.le_of_ble_eq_true rfl) (List.forall_mem_cons.mpr ⟨mv_cat N0 v7, List.forall_mem_cons.mpr ⟨mv_cat N0 (some a0), fun _ h => absurd h List.not_mem_nil⟩⟩)) dX6_init_42 rfl ?_
  refine mv_putR (t := tyX6 3) fd_X6_3 rfl (tyX6_ok 3 (by decide)) (Or.inl ⟨_, rfl⟩) rfl rfl (mv_wA_of (mv_t1 (List.mem_of_getElem? (i := 215) rfl)) rfl) dX6_init_45 rfl ?_
  refine mv_aload_n 0 dX6_init_48 rfl rfl rfl ?_
  refine mv_new (T := TX4) (ty := tyX4) rfl (by decide) uw_X4 tyX4_ok df_X4 ⟨mv_wA_of (mv_t1 (List.mem_of_getElem? (i := 177) rfl)) rfl, wn_X4⟩ dX6_init_49 rfl (fun v9 => ?_)
  refine mv_dup dX6_init_52 (mv_cat N0 v9) rfl ?_
  refine mv_callI (st := [mv_vr N0 v9, mv_vr N0 (some a0)]) [] (fun i10 => c_X4_init l N0 D dA i10 ) wc_X6_31 ⟨by decide, by decide⟩ rfl (mv_cs (Nat.le_of_ble_eq_true rfl) (List.forall_mem_cons.mpr ⟨mv_cat N0 v9, List.forall_mem_cons.mpr ⟨mv_cat N0 (some a0), fun _ h => absurd h List.not_mem_nil⟩⟩)) dX6_init_53 rfl ?_
  refine mv_putR (t := tyX6 4) fd_X6_4 rfl (tyX6_ok 4 (by decide)) (Or.inl ⟨_, rfl⟩) rfl rfl (mv_wA_of (mv_t1 (List.mem_of_getElem? (i := 216) rfl)) rfl) dX6_init_56 rfl ?_
  refine mv_aload_n 0 dX6_init_59 rfl rfl rfl ?_
  refine mv_new (T := TX2) (ty := tyX2) rfl (by decide) uw_X2 tyX2_ok df_X2 ⟨mv_wA_of (mv_t1 (List.mem_of_getElem? (i := 191) rfl)) rfl, wn_X2⟩ dX6_init_60 rfl (fun v11 => ?_)
  refine mv_dup dX6_init_63 (mv_cat N0 v11) rfl ?_
  refine mv_callI (st := [mv_vr N0 v11, mv_vr N0 (some a0)]) [] (fun i12 => c_X2_init l N0 D dA i12 ) wc_X6_38 ⟨by decide, by decide⟩ rfl (mv_cs (Nat.le_of_ble_eq_true rfl) (List.forall_mem_cons.mpr ⟨mv_cat N0 v11, List.forall_mem_cons.mpr ⟨mv_cat N0 (some a0), fun _ h => absurd h List.not_mem_nil⟩⟩)) dX6_init_64 rfl ?_
  refine mv_putR (t := tyX6 5) fd_X6_5 rfl (tyX6_ok 5 (by decide)) (Or.inl ⟨_, rfl⟩) rfl rfl (mv_wA_of (mv_t1 (List.mem_of_getElem? (i := 217) rfl)) rfl) dX6_init_67 rfl ?_
  exact mv_vret dX6_init_70

def F_X6_restore (a0 : Nat) : mv_M Int32 :=
  mv_bd (mv_gI 6 7 6 (some a0)) fun v1 =>
  if v1 = 0 then
    mv_pu ((-2) : Int32)
  else
    mv_bd (mv_gR 6 7 3 (some a0)) fun v2 =>
    mv_bd (mv_gR 6 7 0 (some a0)) fun v3 =>
    mv_bd (mv_rc 3 2 v2) fun i4 => mv_bd (F_X3_keep i4 v3) fun _ =>
    mv_bd (mv_gR 6 7 0 (some a0)) fun v5 =>
    mv_bd (mv_gR 6 7 2 (some a0)) fun v6 =>
    mv_bd (mv_rc 5 12 v5) fun i7 => mv_bd (F_X5_copyFrom i7 v6) fun _ =>
    mv_bd (mv_gR 6 7 0 (some a0)) fun v8 =>
    mv_bd (mv_gI 5 12 5 v8) fun v9 =>
    mv_pu v9

set_option maxHeartbeats 4000000 in
set_option maxRecDepth 100000 in
theorem c_X6_restore (l : Launch) (N0 : Nat) (D : va_G) (dA : Nat → ClassId) (a0 : Nat) : mv_SimM l N0 D dA yX6_restore cX6_restore 1 (some .int) 4 87 mv_rI [.ref (N0 + a0)] (F_X6_restore a0) := by
  refine mv_SimM_of (L0 := [(0, mv_vr N0 (some a0))]) false (by decide +kernel) (Nat.le_of_ble_eq_true rfl) rfl (List.forall_mem_cons.mpr ⟨mv_cat N0 (some a0), fun _ h => absurd h List.not_mem_nil⟩) (fun z => by cases z) ?_
  unfold F_X6_restore
  show mv_Sim l N0 D dA RX6 cX6_restore 1 4 87 (some .int) false mv_rI 0 _ _ _
  refine mv_aload_n 0 dX6_restore_0 rfl rfl rfl ?_
  refine mv_getI fd_X6_6 lk_X6_233 dX6_restore_1 rfl (fun v1 => ?_)
  refine mv_if_ne (tgt := 10) dX6_restore_4 rfl rfl ?_ ?_
  · refine mv_aload_n 0 dX6_restore_10 rfl rfl rfl ?_
    refine mv_getR fd_X6_3 lk_X6_25 dX6_restore_11 rfl (fun v2 => ?_)
    refine mv_aload_n 0 dX6_restore_14 rfl rfl rfl ?_
    refine mv_getR fd_X6_0 lk_X6_10 dX6_restore_15 rfl (fun v3 => ?_)
    refine mv_callVv (st := []) [mv_vr N0 v3] (fun i4 => c_X3_keep l N0 D dA i4 v3) (T := TX3) rfl (by decide) wc_X6_51 ⟨by decide, by decide⟩ rfl (mv_cs (Nat.le_of_ble_eq_true rfl) (fun _ h => absurd h List.not_mem_nil)) dX6_restore_18 rfl ?_
    refine mv_aload_n 0 dX6_restore_21 rfl rfl rfl ?_
    refine mv_getR fd_X6_0 lk_X6_10 dX6_restore_22 rfl (fun v5 => ?_)
    refine mv_aload_n 0 dX6_restore_25 rfl rfl rfl ?_
    refine mv_getR fd_X6_2 lk_X6_19 dX6_restore_26 rfl (fun v6 => ?_)
    refine mv_callVv (st := []) [mv_vr N0 v6] (fun i7 => c_X5_copyFrom l N0 D dA i7 v6) (T := TX5) rfl (by decide) wc_X6_218 ⟨by decide, by decide⟩ rfl (mv_cs (Nat.le_of_ble_eq_true rfl) (fun _ h => absurd h List.not_mem_nil)) dX6_restore_29 rfl ?_
    refine mv_aload_n 0 dX6_restore_32 rfl rfl rfl ?_
    refine mv_getR fd_X6_0 lk_X6_10 dX6_restore_33 rfl (fun v8 => ?_)
    refine mv_getI fd_X5_5 lk_X6_63 dX6_restore_36 rfl (fun v9 => ?_)
    exact mv_iret dX6_restore_39
  · refine mv_bipush (v := ((-2) : Int32)) dX6_restore_7 (by decide) rfl ?_
    exact mv_iret dX6_restore_9

def F_X6_save (a0 : Nat) : mv_M Int32 :=
  mv_bd (mv_gR 6 7 2 (some a0)) fun v1 =>
  mv_bd (mv_gR 6 7 0 (some a0)) fun v2 =>
  mv_bd (mv_rc 5 12 v1) fun i3 => mv_bd (F_X5_copyFrom i3 v2) fun _ =>
  mv_bd (mv_sZ 6 7 6 (some a0) (1 : Int32)) fun _ =>
  mv_bd (mv_gR 6 7 0 (some a0)) fun v4 =>
  mv_bd (mv_gI 5 12 5 v4) fun v5 =>
  mv_pu v5

set_option maxHeartbeats 4000000 in
set_option maxRecDepth 100000 in
theorem c_X6_save (l : Launch) (N0 : Nat) (D : va_G) (dA : Nat → ClassId) (a0 : Nat) : mv_SimM l N0 D dA yX6_save cX6_save 1 (some .int) 3 65 mv_rI [.ref (N0 + a0)] (F_X6_save a0) := by
  refine mv_SimM_of (L0 := [(0, mv_vr N0 (some a0))]) false (by decide +kernel) (Nat.le_of_ble_eq_true rfl) rfl (List.forall_mem_cons.mpr ⟨mv_cat N0 (some a0), fun _ h => absurd h List.not_mem_nil⟩) (fun z => by cases z) ?_
  unfold F_X6_save
  show mv_Sim l N0 D dA RX6 cX6_save 1 3 65 (some .int) false mv_rI 0 _ _ _
  refine mv_aload_n 0 dX6_save_0 rfl rfl rfl ?_
  refine mv_getR fd_X6_2 lk_X6_19 dX6_save_1 rfl (fun v1 => ?_)
  refine mv_aload_n 0 dX6_save_4 rfl rfl rfl ?_
  refine mv_getR fd_X6_0 lk_X6_10 dX6_save_5 rfl (fun v2 => ?_)
  refine mv_callVv (st := []) [mv_vr N0 v2] (fun i3 => c_X5_copyFrom l N0 D dA i3 v2) (T := TX5) rfl (by decide) wc_X6_218 ⟨by decide, by decide⟩ rfl (mv_cs (Nat.le_of_ble_eq_true rfl) (fun _ h => absurd h List.not_mem_nil)) dX6_save_8 rfl ?_
  refine mv_aload_n 0 dX6_save_11 rfl rfl rfl ?_
  refine mv_iconst (v := (1 : Int32)) dX6_save_12 (by decide) rfl ?_
  refine mv_putZ fd_X6_6 rfl (tyX6_ok 6 (by decide)) lk_X6_233 dX6_save_13 rfl ?_
  refine mv_aload_n 0 dX6_save_16 rfl rfl rfl ?_
  refine mv_getR fd_X6_0 lk_X6_10 dX6_save_17 rfl (fun v4 => ?_)
  refine mv_getI fd_X5_5 lk_X6_63 dX6_save_20 rfl (fun v5 => ?_)
  exact mv_iret dX6_save_23

def F_X6_undo (a0 : Nat) : mv_M Int32 :=
  mv_bd (mv_gR 6 7 3 (some a0)) fun v1 =>
  mv_bd (mv_gI 3 2 1 v1) fun v2 =>
  if v2 = 0 then
    mv_pu ((-2) : Int32)
  else
    mv_bd (mv_gR 6 7 3 (some a0)) fun v3 =>
    mv_bd (mv_gR 6 7 0 (some a0)) fun v4 =>
    mv_bd (mv_rc 3 2 v3) fun i5 => mv_bd (F_X3_takeBack i5 v4) fun _ =>
    mv_bd (mv_gR 6 7 3 (some a0)) fun v6 =>
    mv_bd (mv_gI 3 2 1 v6) fun v7 =>
    mv_pu v7

set_option maxHeartbeats 4000000 in
set_option maxRecDepth 100000 in
theorem c_X6_undo (l : Launch) (N0 : Nat) (D : va_G) (dA : Nat → ClassId) (a0 : Nat) : mv_SimM l N0 D dA yX6_undo cX6_undo 1 (some .int) 4 87 mv_rI [.ref (N0 + a0)] (F_X6_undo a0) := by
  refine mv_SimM_of (L0 := [(0, mv_vr N0 (some a0))]) false (by decide +kernel) (Nat.le_of_ble_eq_true rfl) rfl (List.forall_mem_cons.mpr ⟨mv_cat N0 (some a0), fun _ h => absurd h List.not_mem_nil⟩) (fun z => by cases z) ?_
  unfold F_X6_undo
  show mv_Sim l N0 D dA RX6 cX6_undo 1 4 87 (some .int) false mv_rI 0 _ _ _
  refine mv_aload_n 0 dX6_undo_0 rfl rfl rfl ?_
  refine mv_getR fd_X6_3 lk_X6_25 dX6_undo_1 rfl (fun v1 => ?_)
  refine mv_getI fd_X3_1 lk_X6_213 dX6_undo_4 rfl (fun v2 => ?_)
  refine mv_if_ne (tgt := 13) dX6_undo_7 rfl rfl ?_ ?_
  · refine mv_aload_n 0 dX6_undo_13 rfl rfl rfl ?_
    refine mv_getR fd_X6_3 lk_X6_25 dX6_undo_14 rfl (fun v3 => ?_)
    refine mv_aload_n 0 dX6_undo_17 rfl rfl rfl ?_
    refine mv_getR fd_X6_0 lk_X6_10 dX6_undo_18 rfl (fun v4 => ?_)
    refine mv_callVv (st := []) [mv_vr N0 v4] (fun i5 => c_X3_takeBack l N0 D dA i5 v4) (T := TX3) rfl (by decide) wc_X6_230 ⟨by decide, by decide⟩ rfl (mv_cs (Nat.le_of_ble_eq_true rfl) (fun _ h => absurd h List.not_mem_nil)) dX6_undo_21 rfl ?_
    refine mv_aload_n 0 dX6_undo_24 rfl rfl rfl ?_
    refine mv_getR fd_X6_3 lk_X6_25 dX6_undo_25 rfl (fun v6 => ?_)
    refine mv_getI fd_X3_1 lk_X6_213 dX6_undo_28 rfl (fun v7 => ?_)
    exact mv_iret dX6_undo_31
  · refine mv_bipush (v := ((-2) : Int32)) dX6_undo_10 (by decide) rfl ?_
    exact mv_iret dX6_undo_12

end
