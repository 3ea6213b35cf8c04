section
def J_X5_bundleAt_41 (a0 : Nat) (s0 : Option Nat) : mv_M (Option Nat) :=
  mv_pu s0

set_option maxHeartbeats 4000000 in
set_option maxRecDepth 100000 in
theorem sJ_X5_bundleAt_41 (l : Launch) (N0 : Nat) (D : va_G) (dA : Nat → ClassId) (a0 : Nat) (s0 : Option Nat) : mv_Sim l N0 D dA RX5 cX5_bundleAt 3 0 0 (some (.object "MovedStalls$Bundle")) false (mv_rR N0) 41 [(0, mv_vr N0 (some a0))] [mv_vr N0 s0] (J_X5_bundleAt_41 a0 s0) := by
  unfold J_X5_bundleAt_41
  exact mv_aret dX5_bundleAt_41

def J_X5_bundleAt_26 (a0 : Nat) (x1 : Int32) (s0 : Int32) : mv_M (Option Nat) :=
  if s0 = 0 then
    J_X5_bundleAt_41 a0 none
  else
    mv_bd (mv_gR 5 12 2 (some a0)) fun v1 =>
    mv_bd (mv_aR 3 v1 x1) fun v2 =>
    J_X5_bundleAt_41 a0 v2

set_option maxHeartbeats 4000000 in
set_option maxRecDepth 100000 in
theorem sJ_X5_bundleAt_26 (l : Launch) (N0 : Nat) (D : va_G) (dA : Nat → ClassId) (a0 : Nat) (x1 : Int32) (s0 : Int32) : mv_Sim l N0 D dA RX5 cX5_bundleAt 3 0 0 (some (.object "MovedStalls$Bundle")) false (mv_rR N0) 26 [(0, mv_vr N0 (some a0)), (1, .int x1)] [.int s0] (J_X5_bundleAt_26 a0 x1 s0) := by
  unfold J_X5_bundleAt_26
  refine mv_istore_n [0, 1] no_X5 dX5_bundleAt_26 rfl (by decide) rfl rfl rfl ?_
  refine mv_iload_n 0 dX5_bundleAt_27 rfl rfl rfl ?_
  refine mv_if_eq (tgt := 40) dX5_bundleAt_28 rfl rfl ?_ ?_
  · refine mv_null dX5_bundleAt_40 rfl ?_
    refine mv_sub [1] rfl ?_
    exact sJ_X5_bundleAt_41 l N0 D dA a0 none
  · refine mv_aload_n 1 dX5_bundleAt_31 rfl rfl rfl ?_
    refine mv_getR fd_X5_2 lk_X5_23 dX5_bundleAt_32 rfl (fun v1 => ?_)
    refine mv_iload_n 2 dX5_bundleAt_35 rfl rfl rfl ?_
    refine mv_aald (E := RX0) (fun _ => rfl) (by decide) dX5_bundleAt_36 rfl (fun v2 => ?_)
    refine mv_goto (q := 41) dX5_bundleAt_37 rfl ?_
    refine mv_sub [1] rfl ?_
    exact sJ_X5_bundleAt_41 l N0 D dA a0 v2

def J_X5_bundleAt_25 (a0 : Nat) (x1 : Int32) : mv_M (Option Nat) :=
  J_X5_bundleAt_26 a0 x1 (0 : Int32)

set_option maxHeartbeats 4000000 in
set_option maxRecDepth 100000 in
theorem sJ_X5_bundleAt_25 (l : Launch) (N0 : Nat) (D : va_G) (dA : Nat → ClassId) (a0 : Nat) (x1 : Int32) : mv_Sim l N0 D dA RX5 cX5_bundleAt 3 0 0 (some (.object "MovedStalls$Bundle")) false (mv_rR N0) 25 [(0, mv_vr N0 (some a0)), (1, .int x1)] [] (J_X5_bundleAt_25 a0 x1) := by
  unfold J_X5_bundleAt_25
  refine mv_iconst (v := (0 : Int32)) dX5_bundleAt_25 (by decide) rfl ?_
  refine mv_sub [0, 1] rfl ?_
  exact sJ_X5_bundleAt_26 l N0 D dA a0 x1 (0 : Int32)

def F_X5_bundleAt (a0 : Nat) (a1 : Int32) : mv_M (Option Nat) :=
  if a1 < 0 then
    J_X5_bundleAt_25 a0 a1
  else
    mv_bd (mv_gI 5 12 4 (some a0)) fun v3 =>
    if v3 ≤ a1 then
      J_X5_bundleAt_25 a0 a1
    else
      mv_bd (mv_gR 5 12 2 (some a0)) fun v4 =>
      mv_bd (mv_aL v4) fun v5 =>
      if v5 ≤ a1 then
        J_X5_bundleAt_25 a0 a1
      else
        J_X5_bundleAt_26 a0 a1 (1 : Int32)

set_option maxHeartbeats 4000000 in
set_option maxRecDepth 100000 in
theorem c_X5_bundleAt (l : Launch) (N0 : Nat) (D : va_G) (dA : Nat → ClassId) (a0 : Nat) (a1 : Int32) : mv_SimM l N0 D dA yX5_bundleAt cX5_bundleAt 3 (some (.object "MovedStalls$Bundle")) 0 0 (mv_rR N0) [.ref (N0 + a0), .int a1] (F_X5_bundleAt a0 a1) := by
  refine mv_SimM_of (L0 := [(0, mv_vr N0 (some a0)), (1, .int a1)]) false (by decide +kernel) (Nat.le_of_ble_eq_true rfl) rfl (List.forall_mem_cons.mpr ⟨mv_cat N0 (some a0), List.forall_mem_cons.mpr ⟨rfl, fun _ h => absurd h List.not_mem_nil⟩⟩) (fun z => by cases z) ?_
  unfold F_X5_bundleAt
  show mv_Sim l N0 D dA RX5 cX5_bundleAt 3 0 0 (some (.object "MovedStalls$Bundle")) false (mv_rR N0) 0 _ _ _
  refine mv_iload_n 1 dX5_bundleAt_0 rfl rfl rfl ?_
  refine mv_if_lt (tgt := 25) dX5_bundleAt_1 rfl rfl ?_ ?_
  · refine mv_sub [0, 1] rfl ?_
    exact sJ_X5_bundleAt_25 l N0 D dA a0 a1
  · refine mv_iload_n 1 dX5_bundleAt_4 rfl rfl rfl ?_
    refine mv_aload_n 0 dX5_bundleAt_5 rfl rfl rfl ?_
    refine mv_getI fd_X5_4 lk_X5_39 dX5_bundleAt_6 rfl (fun v3 => ?_)
    refine mv_icmp_ge (tgt := 25) dX5_bundleAt_9 rfl rfl ?_ ?_
    · refine mv_sub [0, 1] rfl ?_
      exact sJ_X5_bundleAt_25 l N0 D dA a0 a1
    · refine mv_iload_n 1 dX5_bundleAt_12 rfl rfl rfl ?_
      refine mv_aload_n 0 dX5_bundleAt_13 rfl rfl rfl ?_
      refine mv_getR fd_X5_2 lk_X5_23 dX5_bundleAt_14 rfl (fun v4 => ?_)
      refine mv_alen dX5_bundleAt_17 rfl (fun v5 => ?_)
      refine mv_icmp_ge (tgt := 25) dX5_bundleAt_18 rfl rfl ?_ ?_
      · refine mv_sub [0, 1] rfl ?_
        exact sJ_X5_bundleAt_25 l N0 D dA a0 a1
      · refine mv_iconst (v := (1 : Int32)) dX5_bundleAt_21 (by decide) rfl ?_
        refine mv_goto (q := 26) dX5_bundleAt_22 rfl ?_
        refine mv_sub [0, 1] rfl ?_
        exact sJ_X5_bundleAt_26 l N0 D dA a0 a1 (1 : Int32)

def J_X2_ifStaying_47 (a0 : Nat) (s0 : Int32) : mv_M Int32 :=
  mv_pu s0

set_option maxHeartbeats 4000000 in
set_option maxRecDepth 100000 in
theorem sJ_X2_ifStaying_47 (l : Launch) (N0 : Nat) (D : va_G) (dA : Nat → ClassId) (a0 : Nat) (s0 : Int32) : mv_Sim l N0 D dA RX2 cX2_ifStaying 2 0 0 (some .int) false mv_rI 47 [(0, mv_vr N0 (some a0))] [.int s0] (J_X2_ifStaying_47 a0 s0) := by
  unfold J_X2_ifStaying_47
  exact mv_iret dX2_ifStaying_47

def J_X2_ifStaying_45 (a0 : Nat) : mv_M Int32 :=
  J_X2_ifStaying_47 a0 (2147483647 : Int32)

set_option maxHeartbeats 4000000 in
set_option maxRecDepth 100000 in
theorem sJ_X2_ifStaying_45 (l : Launch) (N0 : Nat) (D : va_G) (dA : Nat → ClassId) (a0 : Nat) : mv_Sim l N0 D dA RX2 cX2_ifStaying 2 0 0 (some .int) false mv_rI 45 [(0, mv_vr N0 (some a0))] [] (J_X2_ifStaying_45 a0) := by
  unfold J_X2_ifStaying_45
  refine mv_ldc (v := (2147483647 : Int32)) dX2_ifStaying_45 (mv_wA_of (mv_t2 (List.mem_of_getElem? (i := 139) rfl)) rfl) rfl ?_
  refine mv_sub [0] rfl ?_
  exact sJ_X2_ifStaying_47 l N0 D dA a0 (2147483647 : Int32)

def F_X2_ifStaying (a0 : Nat) (a1 : Option Nat) : mv_M Int32 :=
  mv_bd (mv_gI 0 8 2 a1) fun v1 =>
  if v1 = ((-4) : Int32) then
    mv_bd (mv_gI 2 4 1 (some a0)) fun v9 =>
    mv_pu v9
  else
    mv_bd (mv_gI 0 8 2 a1) fun v2 =>
    if v2 < 0 then
      J_X2_ifStaying_45 a0
    else
      mv_bd (mv_gI 0 8 2 a1) fun v3 =>
      mv_bd (mv_gR 2 4 0 (some a0)) fun v4 =>
      mv_bd (mv_aL v4) fun v5 =>
      if v5 ≤ v3 then
        J_X2_ifStaying_45 a0
      else
        mv_bd (mv_gR 2 4 0 (some a0)) fun v6 =>
        mv_bd (mv_gI 0 8 2 a1) fun v7 =>
        mv_bd (mv_aI v6 v7) fun v8 =>
        J_X2_ifStaying_47 a0 v8

set_option maxHeartbeats 4000000 in
set_option maxRecDepth 100000 in
theorem c_X2_ifStaying (l : Launch) (N0 : Nat) (D : va_G) (dA : Nat → ClassId) (a0 : Nat) (a1 : Option Nat) : mv_SimM l N0 D dA yX2_ifStaying cX2_ifStaying 2 (some .int) 0 0 mv_rI [.ref (N0 + a0), mv_vr N0 a1] (F_X2_ifStaying a0 a1) := by
  refine mv_SimM_of (L0 := [(0, mv_vr N0 (some a0)), (1, mv_vr N0 a1)]) false (by decide +kernel) (by cases a1 <;> exact Nat.le_of_ble_eq_true rfl) (by cases a1 <;> rfl) (List.forall_mem_cons.mpr ⟨mv_cat N0 (some a0), List.forall_mem_cons.mpr ⟨mv_cat N0 a1, fun _ h => absurd h List.not_mem_nil⟩⟩) (fun z => by cases z) ?_
  unfold F_X2_ifStaying
  show mv_Sim l N0 D dA RX2 cX2_ifStaying 2 0 0 (some .int) false mv_rI 0 _ _ _
  refine mv_aload_n 1 dX2_ifStaying_0 rfl rfl rfl ?_
  refine mv_getI fd_X0_2 lk_X2_61 dX2_ifStaying_1 rfl (fun v1 => ?_)
  refine mv_bipush (v := ((-4) : Int32)) dX2_ifStaying_4 (by decide) rfl ?_
  refine mv_icmp_ne (tgt := 14) dX2_ifStaying_6 rfl rfl ?_ ?_
  · refine mv_aload_n 1 dX2_ifStaying_14 rfl rfl rfl ?_
    refine mv_getI fd_X0_2 lk_X2_61 dX2_ifStaying_15 rfl (fun v2 => ?_)
    refine mv_if_lt (tgt := 45) dX2_ifStaying_18 rfl rfl ?_ ?_
    · refine mv_sub [0] rfl ?_
      exact sJ_X2_ifStaying_45 l N0 D dA a0
    · refine mv_aload_n 1 dX2_ifStaying_21 rfl rfl rfl ?_
      refine mv_getI fd_X0_2 lk_X2_61 dX2_ifStaying_22 rfl (fun v3 => ?_)
      refine mv_aload_n 0 dX2_ifStaying_25 rfl rfl rfl ?_
      refine mv_getR fd_X2_0 lk_X2_9 dX2_ifStaying_26 rfl (fun v4 => ?_)
      refine mv_alen dX2_ifStaying_29 rfl (fun v5 => ?_)
      refine mv_icmp_ge (tgt := 45) dX2_ifStaying_30 rfl rfl ?_ ?_
      · refine mv_sub [0] rfl ?_
        exact sJ_X2_ifStaying_45 l N0 D dA a0
      · refine mv_aload_n 0 dX2_ifStaying_33 rfl rfl rfl ?_
        refine mv_getR fd_X2_0 lk_X2_9 dX2_ifStaying_34 rfl (fun v6 => ?_)
        refine mv_aload_n 1 dX2_ifStaying_37 rfl rfl rfl ?_
        refine mv_getI fd_X0_2 lk_X2_61 dX2_ifStaying_38 rfl (fun v7 => ?_)
        refine mv_iald dX2_ifStaying_41 rfl (fun v8 => ?_)
        refine mv_goto (q := 47) dX2_ifStaying_42 rfl ?_
        refine mv_sub [0] rfl ?_
        exact sJ_X2_ifStaying_47 l N0 D dA a0 v8
  · refine mv_aload_n 0 dX2_ifStaying_9 rfl rfl rfl ?_
    refine mv_getI fd_X2_1 lk_X2_19 dX2_ifStaying_10 rfl (fun v9 => ?_)
    exact mv_iret dX2_ifStaying_13

def J_X5_stallOn_29 (a0 : Nat) (s0 : Int32) : mv_M Int32 :=
  mv_pu s0

set_option maxHeartbeats 4000000 in
set_option maxRecDepth 100000 in
theorem sJ_X5_stallOn_29 (l : Launch) (N0 : Nat) (D : va_G) (dA : Nat → ClassId) (a0 : Nat) (s0 : Int32) : mv_Sim l N0 D dA RX5 cX5_stallOn 3 0 0 (some .int) false mv_rI 29 [(0, mv_vr N0 (some a0))] [.int s0] (J_X5_stallOn_29 a0 s0) := by
  unfold J_X5_stallOn_29
  exact mv_iret dX5_stallOn_29

def J_X5_stallOn_27 (a0 : Nat) : mv_M Int32 :=
  J_X5_stallOn_29 a0 (6 : Int32)

set_option maxHeartbeats 4000000 in
set_option maxRecDepth 100000 in
theorem sJ_X5_stallOn_27 (l : Launch) (N0 : Nat) (D : va_G) (dA : Nat → ClassId) (a0 : Nat) : mv_Sim l N0 D dA RX5 cX5_stallOn 3 0 0 (some .int) false mv_rI 27 [(0, mv_vr N0 (some a0))] [] (J_X5_stallOn_27 a0) := by
  unfold J_X5_stallOn_27
  refine mv_bipush (v := (6 : Int32)) dX5_stallOn_27 (by decide) rfl ?_
  refine mv_sub [0] rfl ?_
  exact sJ_X5_stallOn_29 l N0 D dA a0 (6 : Int32)

def F_X5_stallOn (a0 : Nat) (a1 : Int32) : mv_M Int32 :=
  mv_bd (mv_rm a1 (7 : Int32)) fun v1 =>
  if v1 < 0 then
    J_X5_stallOn_27 a0
  else
    mv_bd (mv_gR 5 12 0 (some a0)) fun v2 =>
    mv_bd (mv_aL v2) fun v3 =>
    if v3 ≤ v1 then
      J_X5_stallOn_27 a0
    else
      mv_bd (mv_gR 5 12 0 (some a0)) fun v4 =>
      mv_bd (mv_aI v4 v1) fun v5 =>
      J_X5_stallOn_29 a0 v5

set_option maxHeartbeats 4000000 in
set_option maxRecDepth 100000 in
theorem c_X5_stallOn (l : Launch) (N0 : Nat) (D : va_G) (dA : Nat → ClassId) (a0 : Nat) (a1 : Int32) : mv_SimM l N0 D dA yX5_stallOn cX5_stallOn 3 (some .int) 0 0 mv_rI [.ref (N0 + a0), .int a1] (F_X5_stallOn a0 a1) := by
  refine mv_SimM_of (L0 := [(0, mv_vr N0 (some a0)), (1, .int a1)]) false (by decide +kernel) (Nat.le_of_ble_eq_true rfl) rfl (List.forall_mem_cons.mpr ⟨mv_cat N0 (some a0), List.forall_mem_cons.mpr ⟨rfl, fun _ h => absurd h List.not_mem_nil⟩⟩) (fun z => by cases z) ?_
  unfold F_X5_stallOn
  show mv_Sim l N0 D dA RX5 cX5_stallOn 3 0 0 (some .int) false mv_rI 0 _ _ _
  refine mv_iload_n 1 dX5_stallOn_0 rfl rfl rfl ?_
  refine mv_bipush (v := (7 : Int32)) dX5_stallOn_1 (by decide) rfl ?_
  refine mv_irem dX5_stallOn_3 rfl (fun v1 => ?_)
  refine mv_istore_n [0, 1] no_X5 dX5_stallOn_4 rfl (by decide) rfl rfl rfl ?_
  refine mv_iload_n 0 dX5_stallOn_5 rfl rfl rfl ?_
  refine mv_if_lt (tgt := 27) dX5_stallOn_6 rfl rfl ?_ ?_
  · refine mv_sub [1] rfl ?_
    exact sJ_X5_stallOn_27 l N0 D dA a0
  · refine mv_iload_n 0 dX5_stallOn_9 rfl rfl rfl ?_
    refine mv_aload_n 1 dX5_stallOn_10 rfl rfl rfl ?_
    refine mv_getR fd_X5_0 lk_X5_9 dX5_stallOn_11 rfl (fun v2 => ?_)
    refine mv_alen dX5_stallOn_14 rfl (fun v3 => ?_)
    refine mv_icmp_ge (tgt := 27) dX5_stallOn_15 rfl rfl ?_ ?_
    · refine mv_sub [1] rfl ?_
      exact sJ_X5_stallOn_27 l N0 D dA a0
    · refine mv_aload_n 1 dX5_stallOn_18 rfl rfl rfl ?_
      refine mv_getR fd_X5_0 lk_X5_9 dX5_stallOn_19 rfl (fun v4 => ?_)
      refine mv_iload_n 0 dX5_stallOn_22 rfl rfl rfl ?_
      refine mv_iald dX5_stallOn_23 rfl (fun v5 => ?_)
      refine mv_goto (q := 29) dX5_stallOn_24 rfl ?_
      refine mv_sub [1] rfl ?_
      exact sJ_X5_stallOn_29 l N0 D dA a0 v5

def J_X5_townOf_21 (a0 : Nat) : mv_M Int32 :=
  mv_pu ((-1) : Int32)

set_option maxHeartbeats 4000000 in
set_option maxRecDepth 100000 in
theorem sJ_X5_townOf_21 (l : Launch) (N0 : Nat) (D : va_G) (dA : Nat → ClassId) (a0 : Nat) : mv_Sim l N0 D dA RX5 cX5_townOf 5 0 0 (some .int) false mv_rI 21 [(0, mv_vr N0 (some a0))] [] (J_X5_townOf_21 a0) := by
  unfold J_X5_townOf_21
  refine mv_iconst (v := ((-1) : Int32)) dX5_townOf_21 (by decide) rfl ?_
  exact mv_iret dX5_townOf_22

def J_X5_townOf_54 (a0 : Nat) : mv_M Int32 :=
  mv_pu ((-1) : Int32)

set_option maxHeartbeats 4000000 in
set_option maxRecDepth 100000 in
theorem sJ_X5_townOf_54 (l : Launch) (N0 : Nat) (D : va_G) (dA : Nat → ClassId) (a0 : Nat) : mv_Sim l N0 D dA RX5 cX5_townOf 5 0 0 (some .int) false mv_rI 54 [(0, mv_vr N0 (some a0))] [] (J_X5_townOf_54 a0) := by
  unfold J_X5_townOf_54
  refine mv_iconst (v := ((-1) : Int32)) dX5_townOf_54 (by decide) rfl ?_
  exact mv_iret dX5_townOf_55

def J_X5_townOf_85 (a0 : Nat) (s0 : Int32) : mv_M Int32 :=
  mv_pu s0

set_option maxHeartbeats 4000000 in
set_option maxRecDepth 100000 in
theorem sJ_X5_townOf_85 (l : Launch) (N0 : Nat) (D : va_G) (dA : Nat → ClassId) (a0 : Nat) (s0 : Int32) : mv_Sim l N0 D dA RX5 cX5_townOf 5 0 0 (some .int) false mv_rI 85 [(0, mv_vr N0 (some a0))] [.int s0] (J_X5_townOf_85 a0 s0) := by
  unfold J_X5_townOf_85
  exact mv_iret dX5_townOf_85

def F_X5_townOf (a0 : Nat) (a1 : Int32) (a2 : Int32) : mv_M Int32 :=
  if a1 < 0 then
    J_X5_townOf_21 a0
  else
    mv_bd (mv_gI 5 12 3 (some a0)) fun v1 =>
    if v1 ≤ a1 then
      J_X5_townOf_21 a0
    else
      mv_bd (mv_gR 5 12 1 (some a0)) fun v2 =>
      mv_bd (mv_aL v2) fun v3 =>
      if a1 < v3 then
        mv_bd (mv_gR 5 12 1 (some a0)) fun v4 =>
        mv_bd (mv_aR 2 v4 a1) fun v5 =>
        if v5 = none then
          J_X5_townOf_54 a0
        else
          mv_bd (mv_gI 1 6 1 v5) fun v6 =>
          if v6 < (1 : Int32) then
            J_X5_townOf_54 a0
          else
            if a2 < 0 then
              J_X5_townOf_54 a0
            else
              mv_bd (mv_gI 1 6 3 v5) fun v7 =>
              if v7 ≤ a2 then
                mv_bd (mv_gI 1 6 1 v5) fun v8 =>
                mv_bd (mv_rm a2 v8) fun v9 =>
                mv_bd (mv_gR 1 6 0 v5) fun v10 =>
                mv_bd (mv_aL v10) fun v11 =>
                if v11 ≤ v9 then
                  J_X5_townOf_85 a0 ((-1) : Int32)
                else
                  mv_bd (mv_gR 1 6 0 v5) fun v12 =>
                  mv_bd (mv_aI v12 v9) fun v13 =>
                  J_X5_townOf_85 a0 v13
              else
                J_X5_townOf_54 a0
      else
        J_X5_townOf_21 a0

set_option maxHeartbeats 4000000 in
set_option maxRecDepth 100000 in
theorem c_X5_townOf (l : Launch) (N0 : Nat) (D : va_G) (dA : Nat → ClassId) (a0 : Nat) (a1 : Int32) (a2 : Int32) : mv_SimM l N0 D dA yX5_townOf cX5_townOf 5 (some .int) 0 0 mv_rI [.ref (N0 + a0), .int a1, .int a2] (F_X5_townOf a0 a1 a2) := by
  refine mv_SimM_of (L0 := [(0, mv_vr N0 (some a0)), (1, .int a1), (2, .int a2)]) false (by decide +kernel) (Nat.le_of_ble_eq_true rfl) rfl (List.forall_mem_cons.mpr ⟨mv_cat N0 (some a0), List.forall_mem_cons.mpr ⟨rfl, List.forall_mem_cons.mpr ⟨rfl, fun _ h => absurd h List.not_mem_nil⟩⟩⟩) (fun z => by cases z) ?_
  unfold F_X5_townOf
  show mv_Sim l N0 D dA RX5 cX5_townOf 5 0 0 (some .int) false mv_rI 0 _ _ _
  refine mv_iload_n 1 dX5_townOf_0 rfl rfl rfl ?_
  refine mv_if_lt (tgt := 21) dX5_townOf_1 rfl rfl ?_ ?_
  · refine mv_sub [0] rfl ?_
    exact sJ_X5_townOf_21 l N0 D dA a0
  · refine mv_iload_n 1 dX5_townOf_4 rfl rfl rfl ?_
    refine mv_aload_n 0 dX5_townOf_5 rfl rfl rfl ?_
    refine mv_getI fd_X5_3 lk_X5_36 dX5_townOf_6 rfl (fun v1 => ?_)
    refine mv_icmp_ge (tgt := 21) dX5_townOf_9 rfl rfl ?_ ?_
    · refine mv_sub [0] rfl ?_
      exact sJ_X5_townOf_21 l N0 D dA a0
    · refine mv_iload_n 1 dX5_townOf_12 rfl rfl rfl ?_
      refine mv_aload_n 0 dX5_townOf_13 rfl rfl rfl ?_
      refine mv_getR fd_X5_1 lk_X5_17 dX5_townOf_14 rfl (fun v2 => ?_)
      refine mv_alen dX5_townOf_17 rfl (fun v3 => ?_)
      refine mv_icmp_lt (tgt := 23) dX5_townOf_18 rfl rfl ?_ ?_
      · refine mv_aload_n 0 dX5_townOf_23 rfl rfl rfl ?_
        refine mv_getR fd_X5_1 lk_X5_17 dX5_townOf_24 rfl (fun v4 => ?_)
        refine mv_iload_n 1 dX5_townOf_27 rfl rfl rfl ?_
        refine mv_aald (E := RX1) (fun _ => rfl) (by decide) dX5_townOf_28 rfl (fun v5 => ?_)
        refine mv_astore_n [0, 1, 2] no_X5 dX5_townOf_29 rfl (by decide) rfl rfl rfl ?_
        refine mv_aload_n 0 dX5_townOf_30 rfl rfl rfl ?_
        refine mv_ifnull (tgt := 54) dX5_townOf_31 rfl rfl ?_ ?_
        · refine mv_sub [1] rfl ?_
          exact sJ_X5_townOf_54 l N0 D dA a0
        · refine mv_aload_n 0 dX5_townOf_34 rfl rfl rfl ?_
          refine mv_getI fd_X1_1 lk_X5_86 dX5_townOf_35 rfl (fun v6 => ?_)
          refine mv_iconst (v := (1 : Int32)) dX5_townOf_38 (by decide) rfl ?_
          refine mv_icmp_lt (tgt := 54) dX5_townOf_39 rfl rfl ?_ ?_
          · refine mv_sub [1] rfl ?_
            exact sJ_X5_townOf_54 l N0 D dA a0
          · refine mv_iload_n 3 dX5_townOf_42 rfl rfl rfl ?_
            refine mv_if_lt (tgt := 54) dX5_townOf_43 rfl rfl ?_ ?_
            · refine mv_sub [1] rfl ?_
              exact sJ_X5_townOf_54 l N0 D dA a0
            · refine mv_iload_n 3 dX5_townOf_46 rfl rfl rfl ?_
              refine mv_aload_n 0 dX5_townOf_47 rfl rfl rfl ?_
              refine mv_getI fd_X1_3 lk_X5_89 dX5_townOf_48 rfl (fun v7 => ?_)
              refine mv_icmp_ge (tgt := 56) dX5_townOf_51 rfl rfl ?_ ?_
              · refine mv_iload_n 3 dX5_townOf_56 rfl rfl rfl ?_
                refine mv_aload_n 0 dX5_townOf_57 rfl rfl rfl ?_
                refine mv_getI fd_X1_1 lk_X5_86 dX5_townOf_58 rfl (fun v8 => ?_)
                refine mv_irem dX5_townOf_61 rfl (fun v9 => ?_)
                refine mv_istore [0, 1, 2, 3] no_X5 dX5_townOf_62 (by decide) rfl rfl rfl ?_
                refine mv_iload 0 dX5_townOf_64 rfl rfl ?_
                refine mv_aload_n 1 dX5_townOf_66 rfl rfl rfl ?_
                refine mv_getR fd_X1_0 lk_X5_92 dX5_townOf_67 rfl (fun v10 => ?_)
                refine mv_alen dX5_townOf_70 rfl (fun v11 => ?_)
                refine mv_icmp_ge (tgt := 84) dX5_townOf_71 rfl rfl ?_ ?_
                · refine mv_iconst (v := ((-1) : Int32)) dX5_townOf_84 (by decide) rfl ?_
                  refine mv_sub [2] rfl ?_
                  exact sJ_X5_townOf_85 l N0 D dA a0 ((-1) : Int32)
                · refine mv_aload_n 1 dX5_townOf_74 rfl rfl rfl ?_
                  refine mv_getR fd_X1_0 lk_X5_92 dX5_townOf_75 rfl (fun v12 => ?_)
                  refine mv_iload 0 dX5_townOf_78 rfl rfl ?_
                  refine mv_iald dX5_townOf_80 rfl (fun v13 => ?_)
                  refine mv_goto (q := 85) dX5_townOf_81 rfl ?_
                  refine mv_sub [2] rfl ?_
                  exact sJ_X5_townOf_85 l N0 D dA a0 v13
              · refine mv_sub [1] rfl ?_
                exact sJ_X5_townOf_54 l N0 D dA a0
      · refine mv_sub [0] rfl ?_
        exact sJ_X5_townOf_21 l N0 D dA a0

def J_X2_stepBack_80 (k15 : Int32 → Int32 → mv_M Unit) (a0 : Nat) (x1 : Option Nat) (x2 : Int32) (x3 : Int32) (x4 : Int32) (x5 : Int32) (x6 : Int32) (x7 : Int32) : mv_M Unit :=
  k15 x6 (x7 + (1 : Int32))

set_option maxHeartbeats 4000000 in
set_option maxRecDepth 100000 in
theorem sJ_X2_stepBack_80 (l : Launch) (N0 : Nat) (D : va_G) (dA : Nat → ClassId) (a0 : Nat) (x1 : Option Nat) (x2 : Int32) (x3 : Int32) (x4 : Int32) (x5 : Int32) (x6 : Int32) (x7 : Int32) (k15 : Int32 → Int32 → mv_M Unit) (hk15 : ∀ (y6 : Int32) (y7 : Int32), mv_Sim l N0 D dA RX2 cX2_stepBack 9 1 24 none false mv_rV 15 [(0, mv_vr N0 (some a0)), (1, mv_vr N0 x1), (2, .int x2), (3, .int x3), (4, .int x4), (5, .int x5), (6, .int y6), (7, .int y7)] [] (k15 y6 y7)) : mv_Sim l N0 D dA RX2 cX2_stepBack 9 1 24 none false mv_rV 80 [(0, mv_vr N0 (some a0)), (1, mv_vr N0 x1), (2, .int x2), (3, .int x3), (4, .int x4), (5, .int x5), (6, .int x6), (7, .int x7)] [] (J_X2_stepBack_80 k15 a0 x1 x2 x3 x4 x5 x6 x7) := by
  unfold J_X2_stepBack_80
  refine mv_iinc (y := (x7 + (1 : Int32))) 7 [0, 1, 2, 3, 4, 5, 6] no_X2 dX2_stepBack_80 rfl rfl (by decide) rfl rfl rfl ?_
  refine mv_goto (q := 15) dX2_stepBack_83 rfl ?_
  refine mv_sub [1, 2, 3, 4, 5, 6, 7, 0] rfl ?_
  exact hk15 x6 (x7 + (1 : Int32))

def J_X2_stepBack_56 (k15 : Int32 → Int32 → mv_M Unit) (a0 : Nat) (x1 : Option Nat) (x2 : Int32) (x3 : Int32) (x4 : Int32) (x5 : Int32) (x6 : Int32) (x7 : Int32) (x8 : Int32) : mv_M Unit :=
  if x8 = x2 then
    mv_bd (mv_gI 2 4 1 (some a0)) fun v1 =>
    mv_bd (mv_gR 2 4 0 (some a0)) fun v2 =>
    mv_bd (mv_aI v2 x7) fun v3 =>
    mv_bd (F_J9_min_7cf53 v1 v3) fun v4 =>
    mv_bd (mv_sI 2 4 1 (some a0) v4) fun _ =>
    J_X2_stepBack_80 k15 a0 x1 x2 x3 x4 x5 x6 x7
  else
    J_X2_stepBack_80 k15 a0 x1 x2 x3 x4 x5 x6 x7

set_option maxHeartbeats 4000000 in
set_option maxRecDepth 100000 in
theorem sJ_X2_stepBack_56 (l : Launch) (N0 : Nat) (D : va_G) (dA : Nat → ClassId) (a0 : Nat) (x1 : Option Nat) (x2 : Int32) (x3 : Int32) (x4 : Int32) (x5 : Int32) (x6 : Int32) (x7 : Int32) (x8 : Int32) (k15 : Int32 → Int32 → mv_M Unit) (hk15 : ∀ (y6 : Int32) (y7 : Int32), mv_Sim l N0 D dA RX2 cX2_stepBack 9 1 24 none false mv_rV 15 [(0, mv_vr N0 (some a0)), (1, mv_vr N0 x1), (2, .int x2), (3, .int x3), (4, .int x4), (5, .int x5), (6, .int y6), (7, .int y7)] [] (k15 y6 y7)) : mv_Sim l N0 D dA RX2 cX2_stepBack 9 1 24 none false mv_rV 56 [(0, mv_vr N0 (some a0)), (1, mv_vr N0 x1), (2, .int x2), (3, .int x3), (4, .int x4), (5, .int x5), (6, .int x6), (7, .int x7), (8, .int x8)] [] (J_X2_stepBack_56 k15 a0 x1 x2 x3 x4 x5 x6 x7 x8) := by
  unfold J_X2_stepBack_56
  refine mv_iload 8 dX2_stepBack_56 rfl rfl ?_
  refine mv_iload_n 2 dX2_stepBack_58 rfl rfl rfl ?_
  refine mv_icmp_ne (tgt := 80) dX2_stepBack_59 rfl rfl ?_ ?_
  · refine mv_sub [0, 1, 2, 3, 4, 5, 6, 7] rfl ?_
    exact sJ_X2_stepBack_80 l N0 D dA a0 x1 x2 x3 x4 x5 x6 x7 _ hk15
  · refine mv_aload_n 0 dX2_stepBack_62 rfl rfl rfl ?_
    refine mv_aload_n 0 dX2_stepBack_63 rfl rfl rfl ?_
    refine mv_getI fd_X2_1 lk_X2_19 dX2_stepBack_64 rfl (fun v1 => ?_)
    refine mv_aload_n 0 dX2_stepBack_67 rfl rfl rfl ?_
    refine mv_getR fd_X2_0 lk_X2_9 dX2_stepBack_68 rfl (fun v2 => ?_)
    refine mv_iload 7 dX2_stepBack_71 rfl rfl ?_
    refine mv_iald dX2_stepBack_73 rfl (fun v3 => ?_)
    refine mv_callSi (st := [mv_vr N0 (some a0)]) [.int v1, .int v3] (c_J9_min_7cf53 l N0 D dA v1 v3) wc_X2_81 ⟨by decide, by decide⟩ rfl (mv_cs (Nat.le_of_ble_eq_true rfl) (List.forall_mem_cons.mpr ⟨mv_cat N0 (some a0), fun _ h => absurd h List.not_mem_nil⟩)) dX2_stepBack_74 rfl (fun v4 => ?_)
    refine mv_putI fd_X2_1 rfl (tyX2_ok 1 (by decide)) lk_X2_19 dX2_stepBack_77 rfl ?_
    refine mv_sub [0, 1, 2, 3, 4, 5, 6, 7] rfl ?_
    exact sJ_X2_stepBack_80 l N0 D dA a0 x1 x2 x3 x4 x5 x6 x7 _ hk15

def J_X2_stepBack_143 (k89 : Int32 → mv_M Unit) (a0 : Nat) (x1 : Option Nat) (x3 : Int32) (x4 : Int32) (x5 : Int32) (x6 : Int32) (x7 : Int32) : mv_M Unit :=
  k89 (x7 + (1 : Int32))

set_option maxHeartbeats 4000000 in
set_option maxRecDepth 100000 in
theorem sJ_X2_stepBack_143 (l : Launch) (N0 : Nat) (D : va_G) (dA : Nat → ClassId) (a0 : Nat) (x1 : Option Nat) (x3 : Int32) (x4 : Int32) (x5 : Int32) (x6 : Int32) (x7 : Int32) (k89 : Int32 → mv_M Unit) (hk89 : ∀ (y7 : Int32), mv_Sim l N0 D dA RX2 cX2_stepBack 9 1 24 none false mv_rV 89 [(0, mv_vr N0 (some a0)), (1, mv_vr N0 x1), (3, .int x3), (4, .int x4), (5, .int x5), (6, .int x6), (7, .int y7)] [] (k89 y7)) : mv_Sim l N0 D dA RX2 cX2_stepBack 9 1 24 none false mv_rV 143 [(0, mv_vr N0 (some a0)), (1, mv_vr N0 x1), (3, .int x3), (4, .int x4), (5, .int x5), (6, .int x6), (7, .int x7)] [] (J_X2_stepBack_143 k89 a0 x1 x3 x4 x5 x6 x7) := by
  unfold J_X2_stepBack_143
  refine mv_iinc (y := (x7 + (1 : Int32))) 6 [0, 1, 2, 3, 4, 5] no_X2 dX2_stepBack_143 rfl rfl (by decide) rfl rfl rfl ?_
  refine mv_goto (q := 89) dX2_stepBack_146 rfl ?_
  refine mv_sub [1, 2, 3, 4, 5, 6, 0] rfl ?_
  exact hk89 (x7 + (1 : Int32))

def Lp_X2_stepBack_89 (a0 : Nat) (x1 : Option Nat) (x3 : Int32) (x4 : Int32) (x5 : Int32) (x6 : Int32) : Nat → Int32 → mv_M Unit
  | 0, _ => mv_fl
  | n + 1, x7 =>
    mv_bd (mv_gR 2 4 0 (some a0)) fun v5 =>
    mv_bd (mv_aL v5) fun v6 =>
    if v6 ≤ x7 then
      mv_pu ()
    else
      mv_bd (mv_rc 5 12 x1) fun i8 => mv_bd (F_X5_townOf i8 x7 x4) fun v7 =>
      if v7 = x3 then
        mv_bd (mv_gR 2 4 0 (some a0)) fun v10 =>
        mv_bd (mv_aS v10 x7 x4) fun _ =>
        J_X2_stepBack_143 (Lp_X2_stepBack_89 a0 x1 x3 x4 x5 x6 n) a0 x1 x3 x4 x5 x6 x7
      else
        if v7 = x5 then
          mv_bd (mv_gR 2 4 0 (some a0)) fun v9 =>
          mv_bd (mv_aS v9 x7 x6) fun _ =>
          J_X2_stepBack_143 (Lp_X2_stepBack_89 a0 x1 x3 x4 x5 x6 n) a0 x1 x3 x4 x5 x6 x7
        else
          J_X2_stepBack_143 (Lp_X2_stepBack_89 a0 x1 x3 x4 x5 x6 n) a0 x1 x3 x4 x5 x6 x7

set_option maxHeartbeats 4000000 in
set_option maxRecDepth 100000 in
theorem sLp_X2_stepBack_89 (l : Launch) (N0 : Nat) (D : va_G) (dA : Nat → ClassId) (a0 : Nat) (x1 : Option Nat) (x3 : Int32) (x4 : Int32) (x5 : Int32) (x6 : Int32) : ∀ (n : Nat) (x7 : Int32), mv_Sim l N0 D dA RX2 cX2_stepBack 9 1 24 none false mv_rV 89 [(0, mv_vr N0 (some a0)), (1, mv_vr N0 x1), (3, .int x3), (4, .int x4), (5, .int x5), (6, .int x6), (7, .int x7)] [] (Lp_X2_stepBack_89 a0 x1 x3 x4 x5 x6 n x7) := by
  intro n
  induction n with
  | zero => intro x7; rw [Lp_X2_stepBack_89]; exact mv_fl_sim
  | succ n ih =>
    intro x7
    rw [Lp_X2_stepBack_89]
    refine mv_iload 6 dX2_stepBack_89 rfl rfl ?_
    refine mv_aload_n 0 dX2_stepBack_91 rfl rfl rfl ?_
    refine mv_getR fd_X2_0 lk_X2_9 dX2_stepBack_92 rfl (fun v5 => ?_)
    refine mv_alen dX2_stepBack_95 rfl (fun v6 => ?_)
    refine mv_icmp_ge (tgt := 149) dX2_stepBack_96 rfl rfl ?_ ?_
    · exact mv_vret dX2_stepBack_149
    · refine mv_aload_n 1 dX2_stepBack_99 rfl rfl rfl ?_
      refine mv_iload 6 dX2_stepBack_100 rfl rfl ?_
      refine mv_iload 3 dX2_stepBack_102 rfl rfl ?_
      refine mv_callVi (st := []) [.int x7, .int x4] (fun i8 => c_X5_townOf l N0 D dA i8 x7 x4) (T := TX5) rfl (by decide) wc_X2_77 ⟨by decide, by decide⟩ rfl (mv_cs (Nat.le_of_ble_eq_true rfl) (fun _ h => absurd h List.not_mem_nil)) dX2_stepBack_104 rfl (fun v7 => ?_)
      refine mv_istore [0, 1, 2, 3, 4, 5, 6] no_X2 dX2_stepBack_107 (by decide) rfl rfl rfl ?_
      refine mv_iload 0 dX2_stepBack_109 rfl rfl ?_
      refine mv_iload_n 3 dX2_stepBack_111 rfl rfl rfl ?_
      refine mv_icmp_ne (tgt := 127) dX2_stepBack_112 rfl rfl ?_ ?_
      · refine mv_iload 0 dX2_stepBack_127 rfl rfl ?_
        refine mv_iload 5 dX2_stepBack_129 rfl rfl ?_
        refine mv_icmp_ne (tgt := 143) dX2_stepBack_131 rfl rfl ?_ ?_
        · refine mv_sub [1, 2, 3, 4, 5, 6, 7] rfl ?_
          exact sJ_X2_stepBack_143 l N0 D dA a0 x1 x3 x4 x5 x6 x7 _ ih
        · refine mv_aload_n 1 dX2_stepBack_134 rfl rfl rfl ?_
          refine mv_getR fd_X2_0 lk_X2_9 dX2_stepBack_135 rfl (fun v9 => ?_)
          refine mv_iload 7 dX2_stepBack_138 rfl rfl ?_
          refine mv_iload 6 dX2_stepBack_140 rfl rfl ?_
          refine mv_iast dX2_stepBack_142 rfl ?_
          refine mv_sub [1, 2, 3, 4, 5, 6, 7] rfl ?_
          exact sJ_X2_stepBack_143 l N0 D dA a0 x1 x3 x4 x5 x6 x7 _ ih
      · refine mv_aload_n 1 dX2_stepBack_115 rfl rfl rfl ?_
        refine mv_getR fd_X2_0 lk_X2_9 dX2_stepBack_116 rfl (fun v10 => ?_)
        refine mv_iload 7 dX2_stepBack_119 rfl rfl ?_
        refine mv_iload 4 dX2_stepBack_121 rfl rfl ?_
        refine mv_iast dX2_stepBack_123 rfl ?_
        refine mv_goto (q := 143) dX2_stepBack_124 rfl ?_
        refine mv_sub [1, 2, 3, 4, 5, 6, 7] rfl ?_
        exact sJ_X2_stepBack_143 l N0 D dA a0 x1 x3 x4 x5 x6 x7 _ ih

def Lp_X2_stepBack_15 (a0 : Nat) (x1 : Option Nat) (x2 : Int32) (x3 : Int32) (x4 : Int32) (x5 : Int32) : Nat → Int32 → Int32 → mv_M Unit
  | 0, _, _ => mv_fl
  | n + 1, x6, x7 =>
    mv_bd (mv_gR 2 4 0 (some a0)) fun v11 =>
    mv_bd (mv_aL v11) fun v12 =>
    if v12 ≤ x7 then
      Lp_X2_stepBack_89 a0 x1 x3 x4 x5 x6 mv_FU (0 : Int32)
    else
      mv_bd (mv_rc 5 12 x1) fun i14 => mv_bd (F_X5_townOf i14 x7 x4) fun v13 =>
      if v13 = x5 then
        mv_bd (mv_gR 2 4 0 (some a0)) fun v15 =>
        mv_bd (mv_aI v15 x7) fun v16 =>
        mv_bd (F_J9_min_7cf53 x6 v16) fun v17 =>
        J_X2_stepBack_56 (Lp_X2_stepBack_15 a0 x1 x2 x3 x4 x5 n) a0 x1 x2 x3 x4 x5 v17 x7 v13
      else
        J_X2_stepBack_56 (Lp_X2_stepBack_15 a0 x1 x2 x3 x4 x5 n) a0 x1 x2 x3 x4 x5 x6 x7 v13

set_option maxHeartbeats 4000000 in
set_option maxRecDepth 100000 in
theorem sLp_X2_stepBack_15 (l : Launch) (N0 : Nat) (D : va_G) (dA : Nat → ClassId) (a0 : Nat) (x1 : Option Nat) (x2 : Int32) (x3 : Int32) (x4 : Int32) (x5 : Int32) : ∀ (n : Nat) (x6 : Int32) (x7 : Int32), mv_Sim l N0 D dA RX2 cX2_stepBack 9 1 24 none false mv_rV 15 [(0, mv_vr N0 (some a0)), (1, mv_vr N0 x1), (2, .int x2), (3, .int x3), (4, .int x4), (5, .int x5), (6, .int x6), (7, .int x7)] [] (Lp_X2_stepBack_15 a0 x1 x2 x3 x4 x5 n x6 x7) := by
  intro n
  induction n with
  | zero => intro x6 x7; rw [Lp_X2_stepBack_15]; exact mv_fl_sim
  | succ n ih =>
    intro x6 x7
    rw [Lp_X2_stepBack_15]
    refine mv_iload 7 dX2_stepBack_15 rfl rfl ?_
    refine mv_aload_n 0 dX2_stepBack_17 rfl rfl rfl ?_
    refine mv_getR fd_X2_0 lk_X2_9 dX2_stepBack_18 rfl (fun v11 => ?_)
    refine mv_alen dX2_stepBack_21 rfl (fun v12 => ?_)
    refine mv_icmp_ge (tgt := 86) dX2_stepBack_22 rfl rfl ?_ ?_
    · refine mv_iconst (v := (0 : Int32)) dX2_stepBack_86 (by decide) rfl ?_
      refine mv_istore [0, 1, 2, 3, 4, 5, 6] no_X2 dX2_stepBack_87 (by decide) rfl rfl rfl ?_
      refine mv_sub [1, 2, 4, 5, 6, 7, 0] rfl ?_
      exact sLp_X2_stepBack_89 l N0 D dA a0 x1 x3 x4 x5 x6 mv_FU (0 : Int32)
    · refine mv_aload_n 1 dX2_stepBack_25 rfl rfl rfl ?_
      refine mv_iload 7 dX2_stepBack_26 rfl rfl ?_
      refine mv_iload 4 dX2_stepBack_28 rfl rfl ?_
      refine mv_callVi (st := []) [.int x7, .int x4] (fun i14 => c_X5_townOf l N0 D dA i14 x7 x4) (T := TX5) rfl (by decide) wc_X2_77 ⟨by decide, by decide⟩ rfl (mv_cs (Nat.le_of_ble_eq_true rfl) (fun _ h => absurd h List.not_mem_nil)) dX2_stepBack_30 rfl (fun v13 => ?_)
      refine mv_istore [0, 1, 2, 3, 4, 5, 6, 7] no_X2 dX2_stepBack_33 (by decide) rfl rfl rfl ?_
      refine mv_iload 0 dX2_stepBack_35 rfl rfl ?_
      refine mv_iload 6 dX2_stepBack_37 rfl rfl ?_
      refine mv_icmp_ne (tgt := 56) dX2_stepBack_39 rfl rfl ?_ ?_
      · refine mv_sub [1, 2, 3, 4, 5, 6, 7, 8, 0] rfl ?_
        exact sJ_X2_stepBack_56 l N0 D dA a0 x1 x2 x3 x4 x5 x6 x7 v13 _ ih
      · refine mv_iload 7 dX2_stepBack_42 rfl rfl ?_
        refine mv_aload_n 1 dX2_stepBack_44 rfl rfl rfl ?_
        refine mv_getR fd_X2_0 lk_X2_9 dX2_stepBack_45 rfl (fun v15 => ?_)
        refine mv_iload 8 dX2_stepBack_48 rfl rfl ?_
        refine mv_iald dX2_stepBack_50 rfl (fun v16 => ?_)
        refine mv_callSi (st := []) [.int x6, .int v16] (c_J9_min_7cf53 l N0 D dA x6 v16) wc_X2_81 ⟨by decide, by decide⟩ rfl (mv_cs (Nat.le_of_ble_eq_true rfl) (fun _ h => absurd h List.not_mem_nil)) dX2_stepBack_51 rfl (fun v17 => ?_)
        refine mv_istore [0, 1, 2, 3, 4, 5, 6, 8] no_X2 dX2_stepBack_54 (by decide) rfl rfl rfl ?_
        refine mv_sub [2, 3, 4, 5, 6, 7, 0, 8, 1] rfl ?_
        exact sJ_X2_stepBack_56 l N0 D dA a0 x1 x2 x3 x4 x5 v17 x7 v13 _ ih

def F_X2_stepBack (a0 : Nat) (a1 : Option Nat) (a2 : Int32) (a3 : Int32) (a4 : Int32) : mv_M Unit :=
  mv_bd (mv_rc 5 12 a1) fun i19 => mv_bd (F_X5_stallOn i19 a4) fun v18 =>
  Lp_X2_stepBack_15 a0 a1 a2 a3 a4 v18 mv_FU (2147483647 : Int32) (0 : Int32)

set_option maxHeartbeats 4000000 in
set_option maxRecDepth 100000 in
theorem c_X2_stepBack (l : Launch) (N0 : Nat) (D : va_G) (dA : Nat → ClassId) (a0 : Nat) (a1 : Option Nat) (a2 : Int32) (a3 : Int32) (a4 : Int32) : mv_SimM l N0 D dA yX2_stepBack cX2_stepBack 9 none 1 24 mv_rV [.ref (N0 + a0), mv_vr N0 a1, .int a2, .int a3, .int a4] (F_X2_stepBack a0 a1 a2 a3 a4) := by
  refine mv_SimM_of (L0 := [(0, mv_vr N0 (some a0)), (1, mv_vr N0 a1), (2, .int a2), (3, .int a3), (4, .int a4)]) false (by decide +kernel) (by cases a1 <;> exact Nat.le_of_ble_eq_true rfl) (by cases a1 <;> rfl) (List.forall_mem_cons.mpr ⟨mv_cat N0 (some a0), List.forall_mem_cons.mpr ⟨mv_cat N0 a1, List.forall_mem_cons.mpr ⟨rfl, List.forall_mem_cons.mpr ⟨rfl, List.forall_mem_cons.mpr ⟨rfl, fun _ h => absurd h List.not_mem_nil⟩⟩⟩⟩⟩) (fun z => by cases z) ?_
  unfold F_X2_stepBack
  show mv_Sim l N0 D dA RX2 cX2_stepBack 9 1 24 none false mv_rV 0 _ _ _
  refine mv_aload_n 1 dX2_stepBack_0 rfl rfl rfl ?_
  refine mv_iload 4 dX2_stepBack_1 rfl rfl ?_
  refine mv_callVi (st := []) [.int a4] (fun i19 => c_X5_stallOn l N0 D dA i19 a4) (T := TX5) rfl (by decide) wc_X2_73 ⟨by decide, by decide⟩ rfl (mv_cs (Nat.le_of_ble_eq_true rfl) (fun _ h => absurd h List.not_mem_nil)) dX2_stepBack_3 rfl (fun v18 => ?_)
  refine mv_istore [0, 1, 2, 3, 4] no_X2 dX2_stepBack_6 (by decide) rfl rfl rfl ?_
  refine mv_ldc (v := (2147483647 : Int32)) dX2_stepBack_8 (mv_wA_of (mv_t2 (List.mem_of_getElem? (i := 139) rfl)) rfl) rfl ?_
  refine mv_istore [0, 1, 2, 3, 4, 5] no_X2 dX2_stepBack_10 (by decide) rfl rfl rfl ?_
  refine mv_iconst (v := (0 : Int32)) dX2_stepBack_12 (by decide) rfl ?_
  refine mv_istore [0, 1, 2, 3, 4, 5, 6] no_X2 dX2_stepBack_13 (by decide) rfl rfl rfl ?_
  refine mv_sub [3, 4, 5, 6, 7, 2, 1, 0] rfl ?_
  exact sLp_X2_stepBack_15 l N0 D dA a0 a1 a2 a3 a4 v18 mv_FU (2147483647 : Int32) (0 : Int32)

def Lp_X2_lookBack_19 (a0 : Nat) (x1 : Option Nat) (x2 : Int32) (x3 : Int32) (x4 : Int32) : Nat → Int32 → mv_M Unit
  | 0, _ => mv_fl
  | n + 1, x5 =>
    if x5 < (1 : Int32) then
      mv_pu ()
    else
      mv_bd (mv_rc 2 4 (some a0)) fun i1 => mv_bd (F_X2_stepBack i1 x1 x2 x3 (x4 + x5)) fun _ =>
      Lp_X2_lookBack_19 a0 x1 x2 x3 x4 n (x5 + ((-1) : Int32))

set_option maxHeartbeats 4000000 in
set_option maxRecDepth 100000 in
theorem sLp_X2_lookBack_19 (l : Launch) (N0 : Nat) (D : va_G) (dA : Nat → ClassId) (a0 : Nat) (x1 : Option Nat) (x2 : Int32) (x3 : Int32) (x4 : Int32) : ∀ (n : Nat) (x5 : Int32), mv_Sim l N0 D dA RX2 cX2_lookBack 6 2 52 none false mv_rV 19 [(0, mv_vr N0 (some a0)), (1, mv_vr N0 x1), (2, .int x2), (3, .int x3), (4, .int x4), (5, .int x5)] [] (Lp_X2_lookBack_19 a0 x1 x2 x3 x4 n x5) := by
  intro n
  induction n with
  | zero => intro x5; rw [Lp_X2_lookBack_19]; exact mv_fl_sim
  | succ n ih =>
    intro x5
    rw [Lp_X2_lookBack_19]
    refine mv_iload 5 dX2_lookBack_19 rfl rfl ?_
    refine mv_iconst (v := (1 : Int32)) dX2_lookBack_21 (by decide) rfl ?_
    refine mv_icmp_lt (tgt := 43) dX2_lookBack_22 rfl rfl ?_ ?_
    · exact mv_vret dX2_lookBack_43
    · refine mv_aload_n 0 dX2_lookBack_25 rfl rfl rfl ?_
      refine mv_aload_n 1 dX2_lookBack_26 rfl rfl rfl ?_
      refine mv_iload_n 2 dX2_lookBack_27 rfl rfl rfl ?_
      refine mv_iload_n 3 dX2_lookBack_28 rfl rfl rfl ?_
      refine mv_iload 4 dX2_lookBack_29 rfl rfl ?_
      refine mv_iload 5 dX2_lookBack_31 rfl rfl ?_
      refine mv_iadd dX2_lookBack_33 rfl ?_
      refine mv_callVv (st := []) [mv_vr N0 x1, .int x2, .int x3, .int (x4 + x5)] (fun i1 => c_X2_stepBack l N0 D dA i1 x1 x2 x3 (x4 + x5)) (T := TX2) rfl (by decide) wc_X2_70 ⟨by decide, by decide⟩ rfl (mv_cs (Nat.le_of_ble_eq_true rfl) (fun _ h => absurd h List.not_mem_nil)) dX2_lookBack_34 rfl ?_
      refine mv_iinc (y := (x5 + ((-1) : Int32))) 5 [0, 1, 2, 3, 4] no_X2 dX2_lookBack_37 rfl rfl (by decide) rfl rfl rfl ?_
      refine mv_goto (q := 19) dX2_lookBack_40 rfl ?_
      refine mv_sub [1, 2, 3, 4, 5, 0] rfl ?_
      exact ih (x5 + ((-1) : Int32))

def F_X2_lookBack (a0 : Nat) (a1 : Option Nat) (a2 : Int32) (a3 : Int32) (a4 : Int32) : mv_M Unit :=
  mv_bd (mv_gR 2 4 0 (some a0)) fun v2 =>
  mv_bd (F_J7_fill_53178 v2 (2147483647 : Int32)) fun _ =>
  mv_bd (mv_sI 2 4 1 (some a0) (2147483647 : Int32)) fun _ =>
  Lp_X2_lookBack_19 a0 a1 a2 a3 a4 mv_FU (30 : Int32)

set_option maxHeartbeats 4000000 in
set_option maxRecDepth 100000 in
theorem c_X2_lookBack (l : Launch) (N0 : Nat) (D : va_G) (dA : Nat → ClassId) (a0 : Nat) (a1 : Option Nat) (a2 : Int32) (a3 : Int32) (a4 : Int32) : mv_SimM l N0 D dA yX2_lookBack cX2_lookBack 6 none 2 52 mv_rV [.ref (N0 + a0), mv_vr N0 a1, .int a2, .int a3, .int a4] (F_X2_lookBack a0 a1 a2 a3 a4) := by
  refine mv_SimM_of (L0 := [(0, mv_vr N0 (some a0)), (1, mv_vr N0 a1), (2, .int a2), (3, .int a3), (4, .int a4)]) false (by decide +kernel) (by cases a1 <;> exact Nat.le_of_ble_eq_true rfl) (by cases a1 <;> rfl) (List.forall_mem_cons.mpr ⟨mv_cat N0 (some a0), List.forall_mem_cons.mpr ⟨mv_cat N0 a1, List.forall_mem_cons.mpr ⟨rfl, List.forall_mem_cons.mpr ⟨rfl, List.forall_mem_cons.mpr ⟨rfl, fun _ h => absurd h List.not_mem_nil⟩⟩⟩⟩⟩) (fun z => by cases z) ?_
  unfold F_X2_lookBack
  show mv_Sim l N0 D dA RX2 cX2_lookBack 6 2 52 none false mv_rV 0 _ _ _
  refine mv_aload_n 0 dX2_lookBack_0 rfl rfl rfl ?_
  refine mv_getR fd_X2_0 lk_X2_9 dX2_lookBack_1 rfl (fun v2 => ?_)
  refine mv_ldc (v := (2147483647 : Int32)) dX2_lookBack_4 (mv_wA_of (mv_t2 (List.mem_of_getElem? (i := 139) rfl)) rfl) rfl ?_
  refine mv_callSv (st := []) [mv_vr N0 v2, .int (2147483647 : Int32)] (c_J7_fill_53178 l N0 D dA v2 (2147483647 : Int32)) wc_X2_64 ⟨by decide, by decide⟩ rfl (mv_cs (Nat.le_of_ble_eq_true rfl) (fun _ h => absurd h List.not_mem_nil)) dX2_lookBack_6 rfl ?_
  refine mv_aload_n 0 dX2_lookBack_9 rfl rfl rfl ?_
  refine mv_ldc (v := (2147483647 : Int32)) dX2_lookBack_10 (mv_wA_of (mv_t2 (List.mem_of_getElem? (i := 139) rfl)) rfl) rfl ?_
  refine mv_putI fd_X2_1 rfl (tyX2_ok 1 (by decide)) lk_X2_19 dX2_lookBack_12 rfl ?_
  refine mv_bipush (v := (30 : Int32)) dX2_lookBack_15 (by decide) rfl ?_
  refine mv_istore [0, 1, 2, 3, 4] no_X2 dX2_lookBack_17 (by decide) rfl rfl rfl ?_
  refine mv_sub [1, 2, 3, 4, 5, 0] rfl ?_
  exact sLp_X2_lookBack_19 l N0 D dA a0 a1 a2 a3 a4 mv_FU (30 : Int32)

def J_X2_arrivalOf_49 (a0 : Nat) (s0 : Int32) : mv_M Int32 :=
  mv_pu s0

set_option maxHeartbeats 4000000 in
set_option maxRecDepth 100000 in
theorem sJ_X2_arrivalOf_49 (l : Launch) (N0 : Nat) (D : va_G) (dA : Nat → ClassId) (a0 : Nat) (s0 : Int32) : mv_Sim l N0 D dA RX2 cX2_arrivalOf 4 3 77 (some .int) false mv_rI 49 [(0, mv_vr N0 (some a0))] [.int s0] (J_X2_arrivalOf_49 a0 s0) := by
  unfold J_X2_arrivalOf_49
  exact mv_iret dX2_arrivalOf_49

def F_X2_arrivalOf (a0 : Nat) (a1 : Option Nat) (a2 : Option Nat) : mv_M Int32 :=
  mv_bd (mv_gI 0 8 3 a2) fun v1 =>
  if v1 = ((-4) : Int32) then
    mv_bd (mv_gI 0 8 1 a2) fun v2 =>
    mv_bd (mv_gI 0 8 0 a2) fun v3 =>
    mv_bd (mv_gI 5 12 5 a1) fun v4 =>
    mv_bd (mv_rc 2 4 (some a0)) fun i5 => mv_bd (F_X2_lookBack i5 a1 v2 v3 v4) fun _ =>
    mv_bd (mv_rc 2 4 (some a0)) fun i7 => mv_bd (F_X2_ifStaying i7 a2) fun v6 =>
    if v6 = (2147483647 : Int32) then
      J_X2_arrivalOf_49 a0 ((-4) : Int32)
    else
      J_X2_arrivalOf_49 a0 v6
  else
    mv_bd (mv_gI 0 8 3 a2) fun v8 =>
    mv_pu v8

set_option maxHeartbeats 4000000 in
set_option maxRecDepth 100000 in
theorem c_X2_arrivalOf (l : Launch) (N0 : Nat) (D : va_G) (dA : Nat → ClassId) (a0 : Nat) (a1 : Option Nat) (a2 : Option Nat) : mv_SimM l N0 D dA yX2_arrivalOf cX2_arrivalOf 4 (some .int) 3 77 mv_rI [.ref (N0 + a0), mv_vr N0 a1, mv_vr N0 a2] (F_X2_arrivalOf a0 a1 a2) := by
  refine mv_SimM_of (L0 := [(0, mv_vr N0 (some a0)), (1, mv_vr N0 a1), (2, mv_vr N0 a2)]) false (by decide +kernel) (by cases a1 <;> cases a2 <;> exact Nat.le_of_ble_eq_true rfl) (by cases a1 <;> cases a2 <;> rfl) (List.forall_mem_cons.mpr ⟨mv_cat N0 (some a0), List.forall_mem_cons.mpr ⟨mv_cat N0 a1, List.forall_mem_cons.mpr ⟨mv_cat N0 a2, fun _ h => absurd h List.not_mem_nil⟩⟩⟩) (fun z => by cases z) ?_
  unfold F_X2_arrivalOf
  show mv_Sim l N0 D dA RX2 cX2_arrivalOf 4 3 77 (some .int) false mv_rI 0 _ _ _
  refine mv_aload_n 2 dX2_arrivalOf_0 rfl rfl rfl ?_
  refine mv_getI fd_X0_3 lk_X2_24 dX2_arrivalOf_1 rfl (fun v1 => ?_)
  refine mv_bipush (v := ((-4) : Int32)) dX2_arrivalOf_4 (by decide) rfl ?_
  refine mv_icmp_eq (tgt := 14) dX2_arrivalOf_6 rfl rfl ?_ ?_
  · refine mv_aload_n 0 dX2_arrivalOf_14 rfl rfl rfl ?_
    refine mv_aload_n 1 dX2_arrivalOf_15 rfl rfl rfl ?_
    refine mv_aload_n 2 dX2_arrivalOf_16 rfl rfl rfl ?_
    refine mv_getI fd_X0_1 lk_X2_29 dX2_arrivalOf_17 rfl (fun v2 => ?_)
    refine mv_aload_n 2 dX2_arrivalOf_20 rfl rfl rfl ?_
    refine mv_getI fd_X0_0 lk_X2_32 dX2_arrivalOf_21 rfl (fun v3 => ?_)
    refine mv_aload_n 1 dX2_arrivalOf_24 rfl rfl rfl ?_
    refine mv_getI fd_X5_5 lk_X2_35 dX2_arrivalOf_25 rfl (fun v4 => ?_)
    refine mv_callVv (st := []) [mv_vr N0 a1, .int v2, .int v3, .int v4] (fun i5 => c_X2_lookBack l N0 D dA i5 a1 v2 v3 v4) (T := TX2) rfl (by decide) wc_X2_15 ⟨by decide, by decide⟩ rfl (mv_cs (Nat.le_of_ble_eq_true rfl) (fun _ h => absurd h List.not_mem_nil)) dX2_arrivalOf_28 rfl ?_
    refine mv_aload_n 0 dX2_arrivalOf_31 rfl rfl rfl ?_
    refine mv_aload_n 2 dX2_arrivalOf_32 rfl rfl rfl ?_
    refine mv_callVi (st := []) [mv_vr N0 a2] (fun i7 => c_X2_ifStaying l N0 D dA i7 a2) (T := TX2) rfl (by decide) wc_X2_40 ⟨by decide, by decide⟩ rfl (mv_cs (Nat.le_of_ble_eq_true rfl) (fun _ h => absurd h List.not_mem_nil)) dX2_arrivalOf_33 rfl (fun v6 => ?_)
    refine mv_istore_n [0, 1, 2] no_X2 dX2_arrivalOf_36 rfl (by decide) rfl rfl rfl ?_
    refine mv_iload_n 0 dX2_arrivalOf_37 rfl rfl rfl ?_
    refine mv_ldc (v := (2147483647 : Int32)) dX2_arrivalOf_38 (mv_wA_of (mv_t2 (List.mem_of_getElem? (i := 139) rfl)) rfl) rfl ?_
    refine mv_icmp_ne (tgt := 48) dX2_arrivalOf_40 rfl rfl ?_ ?_
    · refine mv_iload_n 0 dX2_arrivalOf_48 rfl rfl rfl ?_
      refine mv_sub [1] rfl ?_
      exact sJ_X2_arrivalOf_49 l N0 D dA a0 v6
    · refine mv_bipush (v := ((-4) : Int32)) dX2_arrivalOf_43 (by decide) rfl ?_
      refine mv_goto (q := 49) dX2_arrivalOf_45 rfl ?_
      refine mv_sub [1] rfl ?_
      exact sJ_X2_arrivalOf_49 l N0 D dA a0 ((-4) : Int32)
  · refine mv_aload_n 2 dX2_arrivalOf_9 rfl rfl rfl ?_
    refine mv_getI fd_X0_3 lk_X2_24 dX2_arrivalOf_10 rfl (fun v8 => ?_)
    exact mv_iret dX2_arrivalOf_13

def J_X5_bundlesWith_36 (k4 : Int32 → Int32 → mv_M Int32) (a0 : Nat) (x1 : Int32) (x2 : Int32) (x3 : Int32) : mv_M Int32 :=
  k4 x2 (x3 + (1 : Int32))

set_option maxHeartbeats 4000000 in
set_option maxRecDepth 100000 in
theorem sJ_X5_bundlesWith_36 (l : Launch) (N0 : Nat) (D : va_G) (dA : Nat → ClassId) (a0 : Nat) (x1 : Int32) (x2 : Int32) (x3 : Int32) (k4 : Int32 → Int32 → mv_M Int32) (hk4 : ∀ (y2 : Int32) (y3 : Int32), mv_Sim l N0 D dA RX5 cX5_bundlesWith 5 1 22 (some .int) false mv_rI 4 [(0, mv_vr N0 (some a0)), (1, .int x1), (2, .int y2), (3, .int y3)] [] (k4 y2 y3)) : mv_Sim l N0 D dA RX5 cX5_bundlesWith 5 1 22 (some .int) false mv_rI 36 [(0, mv_vr N0 (some a0)), (1, .int x1), (2, .int x2), (3, .int x3)] [] (J_X5_bundlesWith_36 k4 a0 x1 x2 x3) := by
  unfold J_X5_bundlesWith_36
  refine mv_iinc (y := (x3 + (1 : Int32))) 3 [0, 1, 2] no_X5 dX5_bundlesWith_36 rfl rfl (by decide) rfl rfl rfl ?_
  refine mv_goto (q := 4) dX5_bundlesWith_39 rfl ?_
  refine mv_sub [1, 2, 3, 0] rfl ?_
  exact hk4 x2 (x3 + (1 : Int32))

def Lp_X5_bundlesWith_4 (a0 : Nat) (x1 : Int32) : Nat → Int32 → Int32 → mv_M Int32
  | 0, _, _ => mv_fl
  | n + 1, x2, x3 =>
    mv_bd (mv_gI 5 12 4 (some a0)) fun v1 =>
    if v1 ≤ x3 then
      mv_pu x2
    else
      mv_bd (mv_rc 5 12 (some a0)) fun i3 => mv_bd (F_X5_bundleAt i3 x3) fun v2 =>
      if v2 = none then
        J_X5_bundlesWith_36 (Lp_X5_bundlesWith_4 a0 x1 n) a0 x1 x2 x3
      else
        mv_bd (mv_gI 0 8 2 v2) fun v4 =>
        if v4 = x1 then
          J_X5_bundlesWith_36 (Lp_X5_bundlesWith_4 a0 x1 n) a0 x1 (x2 + (1 : Int32)) x3
        else
          J_X5_bundlesWith_36 (Lp_X5_bundlesWith_4 a0 x1 n) a0 x1 x2 x3

set_option maxHeartbeats 4000000 in
set_option maxRecDepth 100000 in
theorem sLp_X5_bundlesWith_4 (l : Launch) (N0 : Nat) (D : va_G) (dA : Nat → ClassId) (a0 : Nat) (x1 : Int32) : ∀ (n : Nat) (x2 : Int32) (x3 : Int32), mv_Sim l N0 D dA RX5 cX5_bundlesWith 5 1 22 (some .int) false mv_rI 4 [(0, mv_vr N0 (some a0)), (1, .int x1), (2, .int x2), (3, .int x3)] [] (Lp_X5_bundlesWith_4 a0 x1 n x2 x3) := by
  intro n
  induction n with
  | zero => intro x2 x3; rw [Lp_X5_bundlesWith_4]; exact mv_fl_sim
  | succ n ih =>
    intro x2 x3
    rw [Lp_X5_bundlesWith_4]
    refine mv_iload_n 3 dX5_bundlesWith_4 rfl rfl rfl ?_
    refine mv_aload_n 0 dX5_bundlesWith_5 rfl rfl rfl ?_
    refine mv_getI fd_X5_4 lk_X5_39 dX5_bundlesWith_6 rfl (fun v1 => ?_)
    refine mv_icmp_ge (tgt := 42) dX5_bundlesWith_9 rfl rfl ?_ ?_
    · refine mv_iload_n 2 dX5_bundlesWith_42 rfl rfl rfl ?_
      exact mv_iret dX5_bundlesWith_43
    · refine mv_aload_n 0 dX5_bundlesWith_12 rfl rfl rfl ?_
      refine mv_iload_n 3 dX5_bundlesWith_13 rfl rfl rfl ?_
      refine mv_callVr (st := []) [.int x3] (fun i3 => c_X5_bundleAt l N0 D dA i3 x3) (T := TX5) rfl (by decide) wc_X5_50 ⟨by decide, by decide⟩ rfl (mv_cs (Nat.le_of_ble_eq_true rfl) (fun _ h => absurd h List.not_mem_nil)) dX5_bundlesWith_14 rfl (fun v2 => ?_)
      refine mv_astore [0, 1, 2, 3] no_X5 dX5_bundlesWith_17 (by decide) rfl rfl rfl ?_
      refine mv_aload 0 dX5_bundlesWith_19 rfl rfl ?_
      refine mv_ifnull (tgt := 36) dX5_bundlesWith_21 rfl rfl ?_ ?_
      · refine mv_sub [1, 2, 3, 4] rfl ?_
        exact sJ_X5_bundlesWith_36 l N0 D dA a0 x1 x2 x3 _ ih
      · refine mv_aload 0 dX5_bundlesWith_24 rfl rfl ?_
        refine mv_getI fd_X0_2 lk_X5_99 dX5_bundlesWith_26 rfl (fun v4 => ?_)
        refine mv_iload_n 2 dX5_bundlesWith_29 rfl rfl rfl ?_
        refine mv_icmp_ne (tgt := 36) dX5_bundlesWith_30 rfl rfl ?_ ?_
        · refine mv_sub [1, 2, 3, 4] rfl ?_
          exact sJ_X5_bundlesWith_36 l N0 D dA a0 x1 x2 x3 _ ih
        · refine mv_iinc (y := (x2 + (1 : Int32))) 3 [0, 1, 2, 4] no_X5 dX5_bundlesWith_33 rfl rfl (by decide) rfl rfl rfl ?_
          refine mv_sub [2, 3, 0, 4] rfl ?_
          exact sJ_X5_bundlesWith_36 l N0 D dA a0 x1 (x2 + (1 : Int32)) x3 _ ih

def F_X5_bundlesWith (a0 : Nat) (a1 : Int32) : mv_M Int32 :=
  Lp_X5_bundlesWith_4 a0 a1 mv_FU (0 : Int32) (0 : Int32)

set_option maxHeartbeats 4000000 in
set_option maxRecDepth 100000 in
theorem c_X5_bundlesWith (l : Launch) (N0 : Nat) (D : va_G) (dA : Nat → ClassId) (a0 : Nat) (a1 : Int32) : mv_SimM l N0 D dA yX5_bundlesWith cX5_bundlesWith 5 (some .int) 1 22 mv_rI [.ref (N0 + a0), .int a1] (F_X5_bundlesWith a0 a1) := by
  refine mv_SimM_of (L0 := [(0, mv_vr N0 (some a0)), (1, .int a1)]) false (by decide +kernel) (Nat.le_of_ble_eq_true rfl) rfl (List.forall_mem_cons.mpr ⟨mv_cat N0 (some a0), List.forall_mem_cons.mpr ⟨rfl, fun _ h => absurd h List.not_mem_nil⟩⟩) (fun z => by cases z) ?_
  unfold F_X5_bundlesWith
  show mv_Sim l N0 D dA RX5 cX5_bundlesWith 5 1 22 (some .int) false mv_rI 0 _ _ _
  refine mv_iconst (v := (0 : Int32)) dX5_bundlesWith_0 (by decide) rfl ?_
  refine mv_istore_n [0, 1] no_X5 dX5_bundlesWith_1 rfl (by decide) rfl rfl rfl ?_
  refine mv_iconst (v := (0 : Int32)) dX5_bundlesWith_2 (by decide) rfl ?_
  refine mv_istore_n [0, 1, 2] no_X5 dX5_bundlesWith_3 rfl (by decide) rfl rfl rfl ?_
  refine mv_sub [2, 3, 1, 0] rfl ?_
  exact sLp_X5_bundlesWith_4 l N0 D dA a0 a1 mv_FU (0 : Int32) (0 : Int32)

def J_X5_carrierAt_41 (a0 : Nat) (s0 : Option Nat) : mv_M (Option Nat) :=
  mv_pu s0

set_option maxHeartbeats 4000000 in
set_option maxRecDepth 100000 in
theorem sJ_X5_carrierAt_41 (l : Launch) (N0 : Nat) (D : va_G) (dA : Nat → ClassId) (a0 : Nat) (s0 : Option Nat) : mv_Sim l N0 D dA RX5 cX5_carrierAt 3 0 0 (some (.object "MovedStalls$Carrier")) false (mv_rR N0) 41 [(0, mv_vr N0 (some a0))] [mv_vr N0 s0] (J_X5_carrierAt_41 a0 s0) := by
  unfold J_X5_carrierAt_41
  exact mv_aret dX5_carrierAt_41

def J_X5_carrierAt_26 (a0 : Nat) (x1 : Int32) (s0 : Int32) : mv_M (Option Nat) :=
  if s0 = 0 then
    J_X5_carrierAt_41 a0 none
  else
    mv_bd (mv_gR 5 12 1 (some a0)) fun v1 =>
    mv_bd (mv_aR 2 v1 x1) fun v2 =>
    J_X5_carrierAt_41 a0 v2

set_option maxHeartbeats 4000000 in
set_option maxRecDepth 100000 in
theorem sJ_X5_carrierAt_26 (l : Launch) (N0 : Nat) (D : va_G) (dA : Nat → ClassId) (a0 : Nat) (x1 : Int32) (s0 : Int32) : mv_Sim l N0 D dA RX5 cX5_carrierAt 3 0 0 (some (.object "MovedStalls$Carrier")) false (mv_rR N0) 26 [(0, mv_vr N0 (some a0)), (1, .int x1)] [.int s0] (J_X5_carrierAt_26 a0 x1 s0) := by
  unfold J_X5_carrierAt_26
  refine mv_istore_n [0, 1] no_X5 dX5_carrierAt_26 rfl (by decide) rfl rfl rfl ?_
  refine mv_iload_n 0 dX5_carrierAt_27 rfl rfl rfl ?_
  refine mv_if_eq (tgt := 40) dX5_carrierAt_28 rfl rfl ?_ ?_
  · refine mv_null dX5_carrierAt_40 rfl ?_
    refine mv_sub [1] rfl ?_
    exact sJ_X5_carrierAt_41 l N0 D dA a0 none
  · refine mv_aload_n 1 dX5_carrierAt_31 rfl rfl rfl ?_
    refine mv_getR fd_X5_1 lk_X5_17 dX5_carrierAt_32 rfl (fun v1 => ?_)
    refine mv_iload_n 2 dX5_carrierAt_35 rfl rfl rfl ?_
    refine mv_aald (E := RX1) (fun _ => rfl) (by decide) dX5_carrierAt_36 rfl (fun v2 => ?_)
    refine mv_goto (q := 41) dX5_carrierAt_37 rfl ?_
    refine mv_sub [1] rfl ?_
    exact sJ_X5_carrierAt_41 l N0 D dA a0 v2

def J_X5_carrierAt_25 (a0 : Nat) (x1 : Int32) : mv_M (Option Nat) :=
  J_X5_carrierAt_26 a0 x1 (0 : Int32)

set_option maxHeartbeats 4000000 in
set_option maxRecDepth 100000 in
theorem sJ_X5_carrierAt_25 (l : Launch) (N0 : Nat) (D : va_G) (dA : Nat → ClassId) (a0 : Nat) (x1 : Int32) : mv_Sim l N0 D dA RX5 cX5_carrierAt 3 0 0 (some (.object "MovedStalls$Carrier")) false (mv_rR N0) 25 [(0, mv_vr N0 (some a0)), (1, .int x1)] [] (J_X5_carrierAt_25 a0 x1) := by
  unfold J_X5_carrierAt_25
  refine mv_iconst (v := (0 : Int32)) dX5_carrierAt_25 (by decide) rfl ?_
  refine mv_sub [0, 1] rfl ?_
  exact sJ_X5_carrierAt_26 l N0 D dA a0 x1 (0 : Int32)

def F_X5_carrierAt (a0 : Nat) (a1 : Int32) : mv_M (Option Nat) :=
  if a1 < 0 then
    J_X5_carrierAt_25 a0 a1
  else
    mv_bd (mv_gI 5 12 3 (some a0)) fun v3 =>
    if v3 ≤ a1 then
      J_X5_carrierAt_25 a0 a1
    else
      mv_bd (mv_gR 5 12 1 (some a0)) fun v4 =>
      mv_bd (mv_aL v4) fun v5 =>
      if v5 ≤ a1 then
        J_X5_carrierAt_25 a0 a1
      else
        J_X5_carrierAt_26 a0 a1 (1 : Int32)

set_option maxHeartbeats 4000000 in
set_option maxRecDepth 100000 in
theorem c_X5_carrierAt (l : Launch) (N0 : Nat) (D : va_G) (dA : Nat → ClassId) (a0 : Nat) (a1 : Int32) : mv_SimM l N0 D dA yX5_carrierAt cX5_carrierAt 3 (some (.object "MovedStalls$Carrier")) 0 0 (mv_rR N0) [.ref (N0 + a0), .int a1] (F_X5_carrierAt a0 a1) := by
  refine mv_SimM_of (L0 := [(0, mv_vr N0 (some a0)), (1, .int a1)]) false (by decide +kernel) (Nat.le_of_ble_eq_true rfl) rfl (List.forall_mem_cons.mpr ⟨mv_cat N0 (some a0), List.forall_mem_cons.mpr ⟨rfl, fun _ h => absurd h List.not_mem_nil⟩⟩) (fun z => by cases z) ?_
  unfold F_X5_carrierAt
  show mv_Sim l N0 D dA RX5 cX5_carrierAt 3 0 0 (some (.object "MovedStalls$Carrier")) false (mv_rR N0) 0 _ _ _
  refine mv_iload_n 1 dX5_carrierAt_0 rfl rfl rfl ?_
  refine mv_if_lt (tgt := 25) dX5_carrierAt_1 rfl rfl ?_ ?_
  · refine mv_sub [0, 1] rfl ?_
    exact sJ_X5_carrierAt_25 l N0 D dA a0 a1
  · refine mv_iload_n 1 dX5_carrierAt_4 rfl rfl rfl ?_
    refine mv_aload_n 0 dX5_carrierAt_5 rfl rfl rfl ?_
    refine mv_getI fd_X5_3 lk_X5_36 dX5_carrierAt_6 rfl (fun v3 => ?_)
    refine mv_icmp_ge (tgt := 25) dX5_carrierAt_9 rfl rfl ?_ ?_
    · refine mv_sub [0, 1] rfl ?_
      exact sJ_X5_carrierAt_25 l N0 D dA a0 a1
    · refine mv_iload_n 1 dX5_carrierAt_12 rfl rfl rfl ?_
      refine mv_aload_n 0 dX5_carrierAt_13 rfl rfl rfl ?_
      refine mv_getR fd_X5_1 lk_X5_17 dX5_carrierAt_14 rfl (fun v4 => ?_)
      refine mv_alen dX5_carrierAt_17 rfl (fun v5 => ?_)
      refine mv_icmp_ge (tgt := 25) dX5_carrierAt_18 rfl rfl ?_ ?_
      · refine mv_sub [0, 1] rfl ?_
        exact sJ_X5_carrierAt_25 l N0 D dA a0 a1
      · refine mv_iconst (v := (1 : Int32)) dX5_carrierAt_21 (by decide) rfl ?_
        refine mv_goto (q := 26) dX5_carrierAt_22 rfl ?_
        refine mv_sub [0, 1] rfl ?_
        exact sJ_X5_carrierAt_26 l N0 D dA a0 a1 (1 : Int32)

def J_X5_isFull_17 (a0 : Nat) (s0 : Int32) : mv_M Int32 :=
  mv_rz s0

set_option maxHeartbeats 4000000 in
set_option maxRecDepth 100000 in
theorem sJ_X5_isFull_17 (l : Launch) (N0 : Nat) (D : va_G) (dA : Nat → ClassId) (a0 : Nat) (s0 : Int32) : mv_Sim l N0 D dA RX5 cX5_isFull 2 2 46 (some .boolean) false mv_rI 17 [(0, mv_vr N0 (some a0))] [.int s0] (J_X5_isFull_17 a0 s0) := by
  unfold J_X5_isFull_17
  exact mv_zret dX5_isFull_17

def F_X5_isFull (a0 : Nat) (a1 : Int32) : mv_M Int32 :=
  mv_bd (mv_rc 5 12 (some a0)) fun i2 => mv_bd (F_X5_bundlesWith i2 a1) fun v1 =>
  mv_bd (mv_gI 5 12 6 (some a0)) fun v3 =>
  if v1 < v3 then
    J_X5_isFull_17 a0 (0 : Int32)
  else
    J_X5_isFull_17 a0 (1 : Int32)

set_option maxHeartbeats 4000000 in
set_option maxRecDepth 100000 in
theorem c_X5_isFull (l : Launch) (N0 : Nat) (D : va_G) (dA : Nat → ClassId) (a0 : Nat) (a1 : Int32) : mv_SimM l N0 D dA yX5_isFull cX5_isFull 2 (some .boolean) 2 46 mv_rI [.ref (N0 + a0), .int a1] (F_X5_isFull a0 a1) := by
  refine mv_SimM_of (L0 := [(0, mv_vr N0 (some a0)), (1, .int a1)]) false (by decide +kernel) (Nat.le_of_ble_eq_true rfl) rfl (List.forall_mem_cons.mpr ⟨mv_cat N0 (some a0), List.forall_mem_cons.mpr ⟨rfl, fun _ h => absurd h List.not_mem_nil⟩⟩) (fun z => by cases z) ?_
  unfold F_X5_isFull
  show mv_Sim l N0 D dA RX5 cX5_isFull 2 2 46 (some .boolean) false mv_rI 0 _ _ _
  refine mv_aload_n 0 dX5_isFull_0 rfl rfl rfl ?_
  refine mv_iload_n 1 dX5_isFull_1 rfl rfl rfl ?_
  refine mv_callVi (st := []) [.int a1] (fun i2 => c_X5_bundlesWith l N0 D dA i2 a1) (T := TX5) rfl (by decide) wc_X5_102 ⟨by decide, by decide⟩ rfl (mv_cs (Nat.le_of_ble_eq_true rfl) (fun _ h => absurd h List.not_mem_nil)) dX5_isFull_2 rfl (fun v1 => ?_)
  refine mv_aload_n 0 dX5_isFull_5 rfl rfl rfl ?_
  refine mv_getI fd_X5_6 lk_X5_27 dX5_isFull_6 rfl (fun v3 => ?_)
  refine mv_icmp_lt (tgt := 16) dX5_isFull_9 rfl rfl ?_ ?_
  · refine mv_iconst (v := (0 : Int32)) dX5_isFull_16 (by decide) rfl ?_
    refine mv_sub [0] rfl ?_
    exact sJ_X5_isFull_17 l N0 D dA a0 (0 : Int32)
  · refine mv_iconst (v := (1 : Int32)) dX5_isFull_12 (by decide) rfl ?_
    refine mv_goto (q := 17) dX5_isFull_13 rfl ?_
    refine mv_sub [0] rfl ?_
    exact sJ_X5_isFull_17 l N0 D dA a0 (1 : Int32)

def J_X5_arrivedBundles_34 (k4 : Int32 → Int32 → mv_M Int32) (a0 : Nat) (x1 : Int32) (x2 : Int32) : mv_M Int32 :=
  k4 x1 (x2 + (1 : Int32))

set_option maxHeartbeats 4000000 in
set_option maxRecDepth 100000 in
theorem sJ_X5_arrivedBundles_34 (l : Launch) (N0 : Nat) (D : va_G) (dA : Nat → ClassId) (a0 : Nat) (x1 : Int32) (x2 : Int32) (k4 : Int32 → Int32 → mv_M Int32) (hk4 : ∀ (y1 : Int32) (y2 : Int32), mv_Sim l N0 D dA RX5 cX5_arrivedBundles 4 1 22 (some .int) false mv_rI 4 [(0, mv_vr N0 (some a0)), (1, .int y1), (2, .int y2)] [] (k4 y1 y2)) : mv_Sim l N0 D dA RX5 cX5_arrivedBundles 4 1 22 (some .int) false mv_rI 34 [(0, mv_vr N0 (some a0)), (1, .int x1), (2, .int x2)] [] (J_X5_arrivedBundles_34 k4 a0 x1 x2) := by
  unfold J_X5_arrivedBundles_34
  refine mv_iinc (y := (x2 + (1 : Int32))) 2 [0, 1] no_X5 dX5_arrivedBundles_34 rfl rfl (by decide) rfl rfl rfl ?_
  refine mv_goto (q := 4) dX5_arrivedBundles_37 rfl ?_
  refine mv_sub [1, 2, 0] rfl ?_
  exact hk4 x1 (x2 + (1 : Int32))

def Lp_X5_arrivedBundles_4 (a0 : Nat) : Nat → Int32 → Int32 → mv_M Int32
  | 0, _, _ => mv_fl
  | n + 1, x1, x2 =>
    mv_bd (mv_gI 5 12 4 (some a0)) fun v1 =>
    if v1 ≤ x2 then
      mv_pu x1
    else
      mv_bd (mv_rc 5 12 (some a0)) fun i3 => mv_bd (F_X5_bundleAt i3 x2) fun v2 =>
      if v2 = none then
        J_X5_arrivedBundles_34 (Lp_X5_arrivedBundles_4 a0 n) a0 x1 x2
      else
        mv_bd (mv_gI 0 8 3 v2) fun v4 =>
        if v4 = ((-4) : Int32) then
          J_X5_arrivedBundles_34 (Lp_X5_arrivedBundles_4 a0 n) a0 x1 x2
        else
          J_X5_arrivedBundles_34 (Lp_X5_arrivedBundles_4 a0 n) a0 (x1 + (1 : Int32)) x2

set_option maxHeartbeats 4000000 in
set_option maxRecDepth 100000 in
theorem sLp_X5_arrivedBundles_4 (l : Launch) (N0 : Nat) (D : va_G) (dA : Nat → ClassId) (a0 : Nat) : ∀ (n : Nat) (x1 : Int32) (x2 : Int32), mv_Sim l N0 D dA RX5 cX5_arrivedBundles 4 1 22 (some .int) false mv_rI 4 [(0, mv_vr N0 (some a0)), (1, .int x1), (2, .int x2)] [] (Lp_X5_arrivedBundles_4 a0 n x1 x2) := by
  intro n
  induction n with
  | zero => intro x1 x2; rw [Lp_X5_arrivedBundles_4]; exact mv_fl_sim
  | succ n ih =>
    intro x1 x2
    rw [Lp_X5_arrivedBundles_4]
    refine mv_iload_n 2 dX5_arrivedBundles_4 rfl rfl rfl ?_
    refine mv_aload_n 0 dX5_arrivedBundles_5 rfl rfl rfl ?_
    refine mv_getI fd_X5_4 lk_X5_39 dX5_arrivedBundles_6 rfl (fun v1 => ?_)
    refine mv_icmp_ge (tgt := 40) dX5_arrivedBundles_9 rfl rfl ?_ ?_
    · refine mv_iload_n 1 dX5_arrivedBundles_40 rfl rfl rfl ?_
      exact mv_iret dX5_arrivedBundles_41
    · refine mv_aload_n 0 dX5_arrivedBundles_12 rfl rfl rfl ?_
      refine mv_iload_n 2 dX5_arrivedBundles_13 rfl rfl rfl ?_
      refine mv_callVr (st := []) [.int x2] (fun i3 => c_X5_bundleAt l N0 D dA i3 x2) (T := TX5) rfl (by decide) wc_X5_50 ⟨by decide, by decide⟩ rfl (mv_cs (Nat.le_of_ble_eq_true rfl) (fun _ h => absurd h List.not_mem_nil)) dX5_arrivedBundles_14 rfl (fun v2 => ?_)
      refine mv_astore_n [0, 1, 2] no_X5 dX5_arrivedBundles_17 rfl (by decide) rfl rfl rfl ?_
      refine mv_aload_n 0 dX5_arrivedBundles_18 rfl rfl rfl ?_
      refine mv_ifnull (tgt := 34) dX5_arrivedBundles_19 rfl rfl ?_ ?_
      · refine mv_sub [1, 2, 3] rfl ?_
        exact sJ_X5_arrivedBundles_34 l N0 D dA a0 x1 x2 _ ih
      · refine mv_aload_n 0 dX5_arrivedBundles_22 rfl rfl rfl ?_
        refine mv_getI fd_X0_3 lk_X5_109 dX5_arrivedBundles_23 rfl (fun v4 => ?_)
        refine mv_bipush (v := ((-4) : Int32)) dX5_arrivedBundles_26 (by decide) rfl ?_
        refine mv_icmp_eq (tgt := 34) dX5_arrivedBundles_28 rfl rfl ?_ ?_
        · refine mv_sub [1, 2, 3] rfl ?_
          exact sJ_X5_arrivedBundles_34 l N0 D dA a0 x1 x2 _ ih
        · refine mv_iinc (y := (x1 + (1 : Int32))) 2 [0, 1, 3] no_X5 dX5_arrivedBundles_31 rfl rfl (by decide) rfl rfl rfl ?_
          refine mv_sub [2, 0, 3] rfl ?_
          exact sJ_X5_arrivedBundles_34 l N0 D dA a0 (x1 + (1 : Int32)) x2 _ ih

def F_X5_arrivedBundles (a0 : Nat) : mv_M Int32 :=
  Lp_X5_arrivedBundles_4 a0 mv_FU (0 : Int32) (0 : Int32)

set_option maxHeartbeats 4000000 in
set_option maxRecDepth 100000 in
theorem c_X5_arrivedBundles (l : Launch) (N0 : Nat) (D : va_G) (dA : Nat → ClassId) (a0 : Nat) : mv_SimM l N0 D dA yX5_arrivedBundles cX5_arrivedBundles 4 (some .int) 1 22 mv_rI [.ref (N0 + a0)] (F_X5_arrivedBundles a0) := by
  refine mv_SimM_of (L0 := [(0, mv_vr N0 (some a0))]) false (by decide +kernel) (Nat.le_of_ble_eq_true rfl) rfl (List.forall_mem_cons.mpr ⟨mv_cat N0 (some a0), fun _ h => absurd h List.not_mem_nil⟩) (fun z => by cases z) ?_
  unfold F_X5_arrivedBundles
  show mv_Sim l N0 D dA RX5 cX5_arrivedBundles 4 1 22 (some .int) false mv_rI 0 _ _ _
  refine mv_iconst (v := (0 : Int32)) dX5_arrivedBundles_0 (by decide) rfl ?_
  refine mv_istore_n [0] no_X5 dX5_arrivedBundles_1 rfl (by decide) rfl rfl rfl ?_
  refine mv_iconst (v := (0 : Int32)) dX5_arrivedBundles_2 (by decide) rfl ?_
  refine mv_istore_n [0, 1] no_X5 dX5_arrivedBundles_3 rfl (by decide) rfl rfl rfl ?_
  refine mv_sub [2, 1, 0] rfl ?_
  exact sLp_X5_arrivedBundles_4 l N0 D dA a0 mv_FU (0 : Int32) (0 : Int32)

def J_X5_brokenBundles_32 (k4 : Int32 → Int32 → mv_M Int32) (a0 : Nat) (x1 : Int32) (x2 : Int32) : mv_M Int32 :=
  k4 x1 (x2 + (1 : Int32))

set_option maxHeartbeats 4000000 in
set_option maxRecDepth 100000 in
theorem sJ_X5_brokenBundles_32 (l : Launch) (N0 : Nat) (D : va_G) (dA : Nat → ClassId) (a0 : Nat) (x1 : Int32) (x2 : Int32) (k4 : Int32 → Int32 → mv_M Int32) (hk4 : ∀ (y1 : Int32) (y2 : Int32), mv_Sim l N0 D dA RX5 cX5_brokenBundles 4 1 22 (some .int) false mv_rI 4 [(0, mv_vr N0 (some a0)), (1, .int y1), (2, .int y2)] [] (k4 y1 y2)) : mv_Sim l N0 D dA RX5 cX5_brokenBundles 4 1 22 (some .int) false mv_rI 32 [(0, mv_vr N0 (some a0)), (1, .int x1), (2, .int x2)] [] (J_X5_brokenBundles_32 k4 a0 x1 x2) := by
  unfold J_X5_brokenBundles_32
  refine mv_iinc (y := (x2 + (1 : Int32))) 2 [0, 1] no_X5 dX5_brokenBundles_32 rfl rfl (by decide) rfl rfl rfl ?_
  refine mv_goto (q := 4) dX5_brokenBundles_35 rfl ?_
  refine mv_sub [1, 2, 0] rfl ?_
  exact hk4 x1 (x2 + (1 : Int32))

def Lp_X5_brokenBundles_4 (a0 : Nat) : Nat → Int32 → Int32 → mv_M Int32
  | 0, _, _ => mv_fl
  | n + 1, x1, x2 =>
    mv_bd (mv_gI 5 12 4 (some a0)) fun v1 =>
    if v1 ≤ x2 then
      mv_pu x1
    else
      mv_bd (mv_rc 5 12 (some a0)) fun i3 => mv_bd (F_X5_bundleAt i3 x2) fun v2 =>
      if v2 = none then
        J_X5_brokenBundles_32 (Lp_X5_brokenBundles_4 a0 n) a0 x1 x2
      else
        mv_bd (mv_gI 0 8 5 v2) fun v4 =>
        if v4 = 0 then
          J_X5_brokenBundles_32 (Lp_X5_brokenBundles_4 a0 n) a0 x1 x2
        else
          J_X5_brokenBundles_32 (Lp_X5_brokenBundles_4 a0 n) a0 (x1 + (1 : Int32)) x2

set_option maxHeartbeats 4000000 in
set_option maxRecDepth 100000 in
theorem sLp_X5_brokenBundles_4 (l : Launch) (N0 : Nat) (D : va_G) (dA : Nat → ClassId) (a0 : Nat) : ∀ (n : Nat) (x1 : Int32) (x2 : Int32), mv_Sim l N0 D dA RX5 cX5_brokenBundles 4 1 22 (some .int) false mv_rI 4 [(0, mv_vr N0 (some a0)), (1, .int x1), (2, .int x2)] [] (Lp_X5_brokenBundles_4 a0 n x1 x2) := by
  intro n
  induction n with
  | zero => intro x1 x2; rw [Lp_X5_brokenBundles_4]; exact mv_fl_sim
  | succ n ih =>
    intro x1 x2
    rw [Lp_X5_brokenBundles_4]
    refine mv_iload_n 2 dX5_brokenBundles_4 rfl rfl rfl ?_
    refine mv_aload_n 0 dX5_brokenBundles_5 rfl rfl rfl ?_
    refine mv_getI fd_X5_4 lk_X5_39 dX5_brokenBundles_6 rfl (fun v1 => ?_)
    refine mv_icmp_ge (tgt := 38) dX5_brokenBundles_9 rfl rfl ?_ ?_
    · refine mv_iload_n 1 dX5_brokenBundles_38 rfl rfl rfl ?_
      exact mv_iret dX5_brokenBundles_39
    · refine mv_aload_n 0 dX5_brokenBundles_12 rfl rfl rfl ?_
      refine mv_iload_n 2 dX5_brokenBundles_13 rfl rfl rfl ?_
      refine mv_callVr (st := []) [.int x2] (fun i3 => c_X5_bundleAt l N0 D dA i3 x2) (T := TX5) rfl (by decide) wc_X5_50 ⟨by decide, by decide⟩ rfl (mv_cs (Nat.le_of_ble_eq_true rfl) (fun _ h => absurd h List.not_mem_nil)) dX5_brokenBundles_14 rfl (fun v2 => ?_)
      refine mv_astore_n [0, 1, 2] no_X5 dX5_brokenBundles_17 rfl (by decide) rfl rfl rfl ?_
      refine mv_aload_n 0 dX5_brokenBundles_18 rfl rfl rfl ?_
      refine mv_ifnull (tgt := 32) dX5_brokenBundles_19 rfl rfl ?_ ?_
      · refine mv_sub [1, 2, 3] rfl ?_
        exact sJ_X5_brokenBundles_32 l N0 D dA a0 x1 x2 _ ih
      · refine mv_aload_n 0 dX5_brokenBundles_22 rfl rfl rfl ?_
        refine mv_getI fd_X0_5 lk_X5_112 dX5_brokenBundles_23 rfl (fun v4 => ?_)
        refine mv_if_eq (tgt := 32) dX5_brokenBundles_26 rfl rfl ?_ ?_
        · refine mv_sub [1, 2, 3] rfl ?_
          exact sJ_X5_brokenBundles_32 l N0 D dA a0 x1 x2 _ ih
        · refine mv_iinc (y := (x1 + (1 : Int32))) 2 [0, 1, 3] no_X5 dX5_brokenBundles_29 rfl rfl (by decide) rfl rfl rfl ?_
          refine mv_sub [2, 0, 3] rfl ?_
          exact sJ_X5_brokenBundles_32 l N0 D dA a0 (x1 + (1 : Int32)) x2 _ ih

def F_X5_brokenBundles (a0 : Nat) : mv_M Int32 :=
  Lp_X5_brokenBundles_4 a0 mv_FU (0 : Int32) (0 : Int32)

set_option maxHeartbeats 4000000 in
set_option maxRecDepth 100000 in
theorem c_X5_brokenBundles (l : Launch) (N0 : Nat) (D : va_G) (dA : Nat → ClassId) (a0 : Nat) : mv_SimM l N0 D dA yX5_brokenBundles cX5_brokenBundles 4 (some .int) 1 22 mv_rI [.ref (N0 + a0)] (F_X5_brokenBundles a0) := by
  refine mv_SimM_of (L0 := [(0, mv_vr N0 (some a0))]) false (by decide +kernel) (Nat.le_of_ble_eq_true rfl) rfl (List.forall_mem_cons.mpr ⟨mv_cat N0 (some a0), fun _ h => absurd h List.not_mem_nil⟩) (fun z => by cases z) ?_
  unfold F_X5_brokenBundles
  show mv_Sim l N0 D dA RX5 cX5_brokenBundles 4 1 22 (some .int) false mv_rI 0 _ _ _
  refine mv_iconst (v := (0 : Int32)) dX5_brokenBundles_0 (by decide) rfl ?_
  refine mv_istore_n [0] no_X5 dX5_brokenBundles_1 rfl (by decide) rfl rfl rfl ?_
  refine mv_iconst (v := (0 : Int32)) dX5_brokenBundles_2 (by decide) rfl ?_
  refine mv_istore_n [0, 1] no_X5 dX5_brokenBundles_3 rfl (by decide) rfl rfl rfl ?_
  refine mv_sub [2, 1, 0] rfl ?_
  exact sLp_X5_brokenBundles_4 l N0 D dA a0 mv_FU (0 : Int32) (0 : Int32)

def J_X5_illToday_28 (k4 : Int32 → Int32 → mv_M Int32) (a0 : Nat) (x1 : Int32) (x2 : Int32) : mv_M Int32 :=
  k4 x1 (x2 + (1 : Int32))

set_option maxHeartbeats 4000000 in
set_option maxRecDepth 100000 in
theorem sJ_X5_illToday_28 (l : Launch) (N0 : Nat) (D : va_G) (dA : Nat → ClassId) (a0 : Nat) (x1 : Int32) (x2 : Int32) (k4 : Int32 → Int32 → mv_M Int32) (hk4 : ∀ (y1 : Int32) (y2 : Int32), mv_Sim l N0 D dA RX5 cX5_illToday 3 1 24 (some .int) false mv_rI 4 [(0, mv_vr N0 (some a0)), (1, .int y1), (2, .int y2)] [] (k4 y1 y2)) : mv_Sim l N0 D dA RX5 cX5_illToday 3 1 24 (some .int) false mv_rI 28 [(0, mv_vr N0 (some a0)), (1, .int x1), (2, .int x2)] [] (J_X5_illToday_28 k4 a0 x1 x2) := by
  unfold J_X5_illToday_28
  refine mv_iinc (y := (x2 + (1 : Int32))) 2 [0, 1] no_X5 dX5_illToday_28 rfl rfl (by decide) rfl rfl rfl ?_
  refine mv_goto (q := 4) dX5_illToday_31 rfl ?_
  refine mv_sub [1, 2, 0] rfl ?_
  exact hk4 x1 (x2 + (1 : Int32))

def Lp_X5_illToday_4 (a0 : Nat) : Nat → Int32 → Int32 → mv_M Int32
  | 0, _, _ => mv_fl
  | n + 1, x1, x2 =>
    mv_bd (mv_gI 5 12 3 (some a0)) fun v1 =>
    if v1 ≤ x2 then
      mv_pu x1
    else
      mv_bd (mv_gI 5 12 5 (some a0)) fun v2 =>
      mv_bd (mv_rc 5 12 (some a0)) fun i4 => mv_bd (F_X5_townOf i4 x2 v2) fun v3 =>
      if v3 = ((-1) : Int32) then
        J_X5_illToday_28 (Lp_X5_illToday_4 a0 n) a0 (x1 + (1 : Int32)) x2
      else
        J_X5_illToday_28 (Lp_X5_illToday_4 a0 n) a0 x1 x2

set_option maxHeartbeats 4000000 in
set_option maxRecDepth 100000 in
theorem sLp_X5_illToday_4 (l : Launch) (N0 : Nat) (D : va_G) (dA : Nat → ClassId) (a0 : Nat) : ∀ (n : Nat) (x1 : Int32) (x2 : Int32), mv_Sim l N0 D dA RX5 cX5_illToday 3 1 24 (some .int) false mv_rI 4 [(0, mv_vr N0 (some a0)), (1, .int x1), (2, .int x2)] [] (Lp_X5_illToday_4 a0 n x1 x2) := by
  intro n
  induction n with
  | zero => intro x1 x2; rw [Lp_X5_illToday_4]; exact mv_fl_sim
  | succ n ih =>
    intro x1 x2
    rw [Lp_X5_illToday_4]
    refine mv_iload_n 2 dX5_illToday_4 rfl rfl rfl ?_
    refine mv_aload_n 0 dX5_illToday_5 rfl rfl rfl ?_
    refine mv_getI fd_X5_3 lk_X5_36 dX5_illToday_6 rfl (fun v1 => ?_)
    refine mv_icmp_ge (tgt := 34) dX5_illToday_9 rfl rfl ?_ ?_
    · refine mv_iload_n 1 dX5_illToday_34 rfl rfl rfl ?_
      exact mv_iret dX5_illToday_35
    · refine mv_aload_n 0 dX5_illToday_12 rfl rfl rfl ?_
      refine mv_iload_n 2 dX5_illToday_13 rfl rfl rfl ?_
      refine mv_aload_n 0 dX5_illToday_14 rfl rfl rfl ?_
      refine mv_getI fd_X5_5 lk_X5_58 dX5_illToday_15 rfl (fun v2 => ?_)
      refine mv_callVi (st := []) [.int x2, .int v2] (fun i4 => c_X5_townOf l N0 D dA i4 x2 v2) (T := TX5) rfl (by decide) wc_X5_95 ⟨by decide, by decide⟩ rfl (mv_cs (Nat.le_of_ble_eq_true rfl) (fun _ h => absurd h List.not_mem_nil)) dX5_illToday_18 rfl (fun v3 => ?_)
      refine mv_iconst (v := ((-1) : Int32)) dX5_illToday_21 (by decide) rfl ?_
      refine mv_icmp_ne (tgt := 28) dX5_illToday_22 rfl rfl ?_ ?_
      · refine mv_sub [0, 1, 2] rfl ?_
        exact sJ_X5_illToday_28 l N0 D dA a0 x1 x2 _ ih
      · refine mv_iinc (y := (x1 + (1 : Int32))) 1 [0, 2] no_X5 dX5_illToday_25 rfl rfl (by decide) rfl rfl rfl ?_
        refine mv_sub [1, 0, 2] rfl ?_
        exact sJ_X5_illToday_28 l N0 D dA a0 (x1 + (1 : Int32)) x2 _ ih

def F_X5_illToday (a0 : Nat) : mv_M Int32 :=
  Lp_X5_illToday_4 a0 mv_FU (0 : Int32) (0 : Int32)

set_option maxHeartbeats 4000000 in
set_option maxRecDepth 100000 in
theorem c_X5_illToday (l : Launch) (N0 : Nat) (D : va_G) (dA : Nat → ClassId) (a0 : Nat) : mv_SimM l N0 D dA yX5_illToday cX5_illToday 3 (some .int) 1 24 mv_rI [.ref (N0 + a0)] (F_X5_illToday a0) := by
  refine mv_SimM_of (L0 := [(0, mv_vr N0 (some a0))]) false (by decide +kernel) (Nat.le_of_ble_eq_true rfl) rfl (List.forall_mem_cons.mpr ⟨mv_cat N0 (some a0), fun _ h => absurd h List.not_mem_nil⟩) (fun z => by cases z) ?_
  unfold F_X5_illToday
  show mv_Sim l N0 D dA RX5 cX5_illToday 3 1 24 (some .int) false mv_rI 0 _ _ _
  refine mv_iconst (v := (0 : Int32)) dX5_illToday_0 (by decide) rfl ?_
  refine mv_istore_n [0] no_X5 dX5_illToday_1 rfl (by decide) rfl rfl rfl ?_
  refine mv_iconst (v := (0 : Int32)) dX5_illToday_2 (by decide) rfl ?_
  refine mv_istore_n [0, 1] no_X5 dX5_illToday_3 rfl (by decide) rfl rfl rfl ?_
  refine mv_sub [2, 1, 0] rfl ?_
  exact sLp_X5_illToday_4 l N0 D dA a0 mv_FU (0 : Int32) (0 : Int32)

def J_X5_lyingBundles_34 (k4 : Int32 → Int32 → mv_M Int32) (a0 : Nat) (x1 : Int32) (x2 : Int32) : mv_M Int32 :=
  k4 x1 (x2 + (1 : Int32))

set_option maxHeartbeats 4000000 in
set_option maxRecDepth 100000 in
theorem sJ_X5_lyingBundles_34 (l : Launch) (N0 : Nat) (D : va_G) (dA : Nat → ClassId) (a0 : Nat) (x1 : Int32) (x2 : Int32) (k4 : Int32 → Int32 → mv_M Int32) (hk4 : ∀ (y1 : Int32) (y2 : Int32), mv_Sim l N0 D dA RX5 cX5_lyingBundles 4 1 22 (some .int) false mv_rI 4 [(0, mv_vr N0 (some a0)), (1, .int y1), (2, .int y2)] [] (k4 y1 y2)) : mv_Sim l N0 D dA RX5 cX5_lyingBundles 4 1 22 (some .int) false mv_rI 34 [(0, mv_vr N0 (some a0)), (1, .int x1), (2, .int x2)] [] (J_X5_lyingBundles_34 k4 a0 x1 x2) := by
  unfold J_X5_lyingBundles_34
  refine mv_iinc (y := (x2 + (1 : Int32))) 2 [0, 1] no_X5 dX5_lyingBundles_34 rfl rfl (by decide) rfl rfl rfl ?_
  refine mv_goto (q := 4) dX5_lyingBundles_37 rfl ?_
  refine mv_sub [1, 2, 0] rfl ?_
  exact hk4 x1 (x2 + (1 : Int32))

def Lp_X5_lyingBundles_4 (a0 : Nat) : Nat → Int32 → Int32 → mv_M Int32
  | 0, _, _ => mv_fl
  | n + 1, x1, x2 =>
    mv_bd (mv_gI 5 12 4 (some a0)) fun v1 =>
    if v1 ≤ x2 then
      mv_pu x1
    else
      mv_bd (mv_rc 5 12 (some a0)) fun i3 => mv_bd (F_X5_bundleAt i3 x2) fun v2 =>
      if v2 = none then
        J_X5_lyingBundles_34 (Lp_X5_lyingBundles_4 a0 n) a0 x1 x2
      else
        mv_bd (mv_gI 0 8 1 v2) fun v4 =>
        if v4 = ((-4) : Int32) then
          J_X5_lyingBundles_34 (Lp_X5_lyingBundles_4 a0 n) a0 x1 x2
        else
          J_X5_lyingBundles_34 (Lp_X5_lyingBundles_4 a0 n) a0 (x1 + (1 : Int32)) x2

set_option maxHeartbeats 4000000 in
set_option maxRecDepth 100000 in
theorem sLp_X5_lyingBundles_4 (l : Launch) (N0 : Nat) (D : va_G) (dA : Nat → ClassId) (a0 : Nat) : ∀ (n : Nat) (x1 : Int32) (x2 : Int32), mv_Sim l N0 D dA RX5 cX5_lyingBundles 4 1 22 (some .int) false mv_rI 4 [(0, mv_vr N0 (some a0)), (1, .int x1), (2, .int x2)] [] (Lp_X5_lyingBundles_4 a0 n x1 x2) := by
  intro n
  induction n with
  | zero => intro x1 x2; rw [Lp_X5_lyingBundles_4]; exact mv_fl_sim
  | succ n ih =>
    intro x1 x2
    rw [Lp_X5_lyingBundles_4]
    refine mv_iload_n 2 dX5_lyingBundles_4 rfl rfl rfl ?_
    refine mv_aload_n 0 dX5_lyingBundles_5 rfl rfl rfl ?_
    refine mv_getI fd_X5_4 lk_X5_39 dX5_lyingBundles_6 rfl (fun v1 => ?_)
    refine mv_icmp_ge (tgt := 40) dX5_lyingBundles_9 rfl rfl ?_ ?_
    · refine mv_iload_n 1 dX5_lyingBundles_40 rfl rfl rfl ?_
      exact mv_iret dX5_lyingBundles_41
    · refine mv_aload_n 0 dX5_lyingBundles_12 rfl rfl rfl ?_
      refine mv_iload_n 2 dX5_lyingBundles_13 rfl rfl rfl ?_
      refine mv_callVr (st := []) [.int x2] (fun i3 => c_X5_bundleAt l N0 D dA i3 x2) (T := TX5) rfl (by decide) wc_X5_50 ⟨by decide, by decide⟩ rfl (mv_cs (Nat.le_of_ble_eq_true rfl) (fun _ h => absurd h List.not_mem_nil)) dX5_lyingBundles_14 rfl (fun v2 => ?_)
      refine mv_astore_n [0, 1, 2] no_X5 dX5_lyingBundles_17 rfl (by decide) rfl rfl rfl ?_
      refine mv_aload_n 0 dX5_lyingBundles_18 rfl rfl rfl ?_
      refine mv_ifnull (tgt := 34) dX5_lyingBundles_19 rfl rfl ?_ ?_
      · refine mv_sub [1, 2, 3] rfl ?_
        exact sJ_X5_lyingBundles_34 l N0 D dA a0 x1 x2 _ ih
      · refine mv_aload_n 0 dX5_lyingBundles_22 rfl rfl rfl ?_
        refine mv_getI fd_X0_1 lk_X5_106 dX5_lyingBundles_23 rfl (fun v4 => ?_)
        refine mv_bipush (v := ((-4) : Int32)) dX5_lyingBundles_26 (by decide) rfl ?_
        refine mv_icmp_eq (tgt := 34) dX5_lyingBundles_28 rfl rfl ?_ ?_
        · refine mv_sub [1, 2, 3] rfl ?_
          exact sJ_X5_lyingBundles_34 l N0 D dA a0 x1 x2 _ ih
        · refine mv_iinc (y := (x1 + (1 : Int32))) 2 [0, 1, 3] no_X5 dX5_lyingBundles_31 rfl rfl (by decide) rfl rfl rfl ?_
          refine mv_sub [2, 0, 3] rfl ?_
          exact sJ_X5_lyingBundles_34 l N0 D dA a0 (x1 + (1 : Int32)) x2 _ ih

def F_X5_lyingBundles (a0 : Nat) : mv_M Int32 :=
  Lp_X5_lyingBundles_4 a0 mv_FU (0 : Int32) (0 : Int32)

set_option maxHeartbeats 4000000 in
set_option maxRecDepth 100000 in
theorem c_X5_lyingBundles (l : Launch) (N0 : Nat) (D : va_G) (dA : Nat → ClassId) (a0 : Nat) : mv_SimM l N0 D dA yX5_lyingBundles cX5_lyingBundles 4 (some .int) 1 22 mv_rI [.ref (N0 + a0)] (F_X5_lyingBundles a0) := by
  refine mv_SimM_of (L0 := [(0, mv_vr N0 (some a0))]) false (by decide +kernel) (Nat.le_of_ble_eq_true rfl) rfl (List.forall_mem_cons.mpr ⟨mv_cat N0 (some a0), fun _ h => absurd h List.not_mem_nil⟩) (fun z => by cases z) ?_
  unfold F_X5_lyingBundles
  show mv_Sim l N0 D dA RX5 cX5_lyingBundles 4 1 22 (some .int) false mv_rI 0 _ _ _
  refine mv_iconst (v := (0 : Int32)) dX5_lyingBundles_0 (by decide) rfl ?_
  refine mv_istore_n [0] no_X5 dX5_lyingBundles_1 rfl (by decide) rfl rfl rfl ?_
  refine mv_iconst (v := (0 : Int32)) dX5_lyingBundles_2 (by decide) rfl ?_
  refine mv_istore_n [0, 1] no_X5 dX5_lyingBundles_3 rfl (by decide) rfl rfl rfl ?_
  refine mv_sub [2, 1, 0] rfl ?_
  exact sLp_X5_lyingBundles_4 l N0 D dA a0 mv_FU (0 : Int32) (0 : Int32)

def J_X5_hasCarrier_17 (a0 : Nat) (s0 : Int32) : mv_M Int32 :=
  mv_rz s0

set_option maxHeartbeats 4000000 in
set_option maxRecDepth 100000 in
theorem sJ_X5_hasCarrier_17 (l : Launch) (N0 : Nat) (D : va_G) (dA : Nat → ClassId) (a0 : Nat) (s0 : Int32) : mv_Sim l N0 D dA RX5 cX5_hasCarrier 2 0 0 (some .boolean) false mv_rI 17 [(0, mv_vr N0 (some a0))] [.int s0] (J_X5_hasCarrier_17 a0 s0) := by
  unfold J_X5_hasCarrier_17
  exact mv_zret dX5_hasCarrier_17

def J_X5_hasCarrier_16 (a0 : Nat) : mv_M Int32 :=
  J_X5_hasCarrier_17 a0 (0 : Int32)

set_option maxHeartbeats 4000000 in
set_option maxRecDepth 100000 in
theorem sJ_X5_hasCarrier_16 (l : Launch) (N0 : Nat) (D : va_G) (dA : Nat → ClassId) (a0 : Nat) : mv_Sim l N0 D dA RX5 cX5_hasCarrier 2 0 0 (some .boolean) false mv_rI 16 [(0, mv_vr N0 (some a0))] [] (J_X5_hasCarrier_16 a0) := by
  unfold J_X5_hasCarrier_16
  refine mv_iconst (v := (0 : Int32)) dX5_hasCarrier_16 (by decide) rfl ?_
  refine mv_sub [0] rfl ?_
  exact sJ_X5_hasCarrier_17 l N0 D dA a0 (0 : Int32)

def F_X5_hasCarrier (a0 : Nat) (a1 : Int32) : mv_M Int32 :=
  if a1 < 0 then
    J_X5_hasCarrier_16 a0
  else
    mv_bd (mv_gI 5 12 3 (some a0)) fun v1 =>
    if v1 ≤ a1 then
      J_X5_hasCarrier_16 a0
    else
      J_X5_hasCarrier_17 a0 (1 : Int32)

set_option maxHeartbeats 4000000 in
set_option maxRecDepth 100000 in
theorem c_X5_hasCarrier (l : Launch) (N0 : Nat) (D : va_G) (dA : Nat → ClassId) (a0 : Nat) (a1 : Int32) : mv_SimM l N0 D dA yX5_hasCarrier cX5_hasCarrier 2 (some .boolean) 0 0 mv_rI [.ref (N0 + a0), .int a1] (F_X5_hasCarrier a0 a1) := by
  refine mv_SimM_of (L0 := [(0, mv_vr N0 (some a0)), (1, .int a1)]) false (by decide +kernel) (Nat.le_of_ble_eq_true rfl) rfl (List.forall_mem_cons.mpr ⟨mv_cat N0 (some a0), List.forall_mem_cons.mpr ⟨rfl, fun _ h => absurd h List.not_mem_nil⟩⟩) (fun z => by cases z) ?_
  unfold F_X5_hasCarrier
  show mv_Sim l N0 D dA RX5 cX5_hasCarrier 2 0 0 (some .boolean) false mv_rI 0 _ _ _
  refine mv_iload_n 1 dX5_hasCarrier_0 rfl rfl rfl ?_
  refine mv_if_lt (tgt := 16) dX5_hasCarrier_1 rfl rfl ?_ ?_
  · refine mv_sub [0] rfl ?_
    exact sJ_X5_hasCarrier_16 l N0 D dA a0
  · refine mv_iload_n 1 dX5_hasCarrier_4 rfl rfl rfl ?_
    refine mv_aload_n 0 dX5_hasCarrier_5 rfl rfl rfl ?_
    refine mv_getI fd_X5_3 lk_X5_36 dX5_hasCarrier_6 rfl (fun v1 => ?_)
    refine mv_icmp_ge (tgt := 16) dX5_hasCarrier_9 rfl rfl ?_ ?_
    · refine mv_sub [0] rfl ?_
      exact sJ_X5_hasCarrier_16 l N0 D dA a0
    · refine mv_iconst (v := (1 : Int32)) dX5_hasCarrier_12 (by decide) rfl ?_
      refine mv_goto (q := 17) dX5_hasCarrier_13 rfl ?_
      refine mv_sub [0] rfl ?_
      exact sJ_X5_hasCarrier_17 l N0 D dA a0 (1 : Int32)

def J_X2_ifLying_27 (a0 : Nat) (s0 : Int32) : mv_M Int32 :=
  mv_pu s0

set_option maxHeartbeats 4000000 in
set_option maxRecDepth 100000 in
theorem sJ_X2_ifLying_27 (l : Launch) (N0 : Nat) (D : va_G) (dA : Nat → ClassId) (a0 : Nat) (s0 : Int32) : mv_Sim l N0 D dA RX2 cX2_ifLying 5 3 77 (some .int) false mv_rI 27 [(0, mv_vr N0 (some a0))] [.int s0] (J_X2_ifLying_27 a0 s0) := by
  unfold J_X2_ifLying_27
  exact mv_iret dX2_ifLying_27

def F_X2_ifLying (a0 : Nat) (a1 : Option Nat) (a2 : Int32) (a3 : Int32) (a4 : Int32) : mv_M Int32 :=
  mv_bd (mv_rc 2 4 (some a0)) fun i1 => mv_bd (F_X2_lookBack i1 a1 a2 a3 a4) fun _ =>
  mv_bd (mv_gI 2 4 1 (some a0)) fun v2 =>
  if v2 = (2147483647 : Int32) then
    J_X2_ifLying_27 a0 ((-4) : Int32)
  else
    mv_bd (mv_gI 2 4 1 (some a0)) fun v3 =>
    J_X2_ifLying_27 a0 v3

set_option maxHeartbeats 4000000 in
set_option maxRecDepth 100000 in
theorem c_X2_ifLying (l : Launch) (N0 : Nat) (D : va_G) (dA : Nat → ClassId) (a0 : Nat) (a1 : Option Nat) (a2 : Int32) (a3 : Int32) (a4 : Int32) : mv_SimM l N0 D dA yX2_ifLying cX2_ifLying 5 (some .int) 3 77 mv_rI [.ref (N0 + a0), mv_vr N0 a1, .int a2, .int a3, .int a4] (F_X2_ifLying a0 a1 a2 a3 a4) := by
  refine mv_SimM_of (L0 := [(0, mv_vr N0 (some a0)), (1, mv_vr N0 a1), (2, .int a2), (3, .int a3), (4, .int a4)]) false (by decide +kernel) (by cases a1 <;> exact Nat.le_of_ble_eq_true rfl) (by cases a1 <;> rfl) (List.forall_mem_cons.mpr ⟨mv_cat N0 (some a0), List.forall_mem_cons.mpr ⟨mv_cat N0 a1, List.forall_mem_cons.mpr ⟨rfl, List.forall_mem_cons.mpr ⟨rfl, List.forall_mem_cons.mpr ⟨rfl, fun _ h => absurd h List.not_mem_nil⟩⟩⟩⟩⟩) (fun z => by cases z) ?_
  unfold F_X2_ifLying
  show mv_Sim l N0 D dA RX2 cX2_ifLying 5 3 77 (some .int) false mv_rI 0 _ _ _
  refine mv_aload_n 0 dX2_ifLying_0 rfl rfl rfl ?_
  refine mv_aload_n 1 dX2_ifLying_1 rfl rfl rfl ?_
  refine mv_iload_n 2 dX2_ifLying_2 rfl rfl rfl ?_
  refine mv_iload_n 3 dX2_ifLying_3 rfl rfl rfl ?_
  refine mv_iload 4 dX2_ifLying_4 rfl rfl ?_
  refine mv_callVv (st := []) [mv_vr N0 a1, .int a2, .int a3, .int a4] (fun i1 => c_X2_lookBack l N0 D dA i1 a1 a2 a3 a4) (T := TX2) rfl (by decide) wc_X2_15 ⟨by decide, by decide⟩ rfl (mv_cs (Nat.le_of_ble_eq_true rfl) (fun _ h => absurd h List.not_mem_nil)) dX2_ifLying_6 rfl ?_
  refine mv_aload_n 0 dX2_ifLying_9 rfl rfl rfl ?_
  refine mv_getI fd_X2_1 lk_X2_19 dX2_ifLying_10 rfl (fun v2 => ?_)
  refine mv_ldc (v := (2147483647 : Int32)) dX2_ifLying_13 (mv_wA_of (mv_t2 (List.mem_of_getElem? (i := 139) rfl)) rfl) rfl ?_
  refine mv_icmp_ne (tgt := 23) dX2_ifLying_15 rfl rfl ?_ ?_
  · refine mv_aload_n 0 dX2_ifLying_23 rfl rfl rfl ?_
    refine mv_getI fd_X2_1 lk_X2_19 dX2_ifLying_24 rfl (fun v3 => ?_)
    refine mv_sub [0] rfl ?_
    exact sJ_X2_ifLying_27 l N0 D dA a0 v3
  · refine mv_bipush (v := ((-4) : Int32)) dX2_ifLying_18 (by decide) rfl ?_
    refine mv_goto (q := 27) dX2_ifLying_20 rfl ?_
    refine mv_sub [0] rfl ?_
    exact sJ_X2_ifLying_27 l N0 D dA a0 ((-4) : Int32)

def J_X3_stateAt_23 (a0 : Nat) (s0 : Option Nat) : mv_M (Option Nat) :=
  mv_pu s0

set_option maxHeartbeats 4000000 in
set_option maxRecDepth 100000 in
theorem sJ_X3_stateAt_23 (l : Launch) (N0 : Nat) (D : va_G) (dA : Nat → ClassId) (a0 : Nat) (s0 : Option Nat) : mv_Sim l N0 D dA RX3 cX3_stateAt 2 0 0 (some (.object "MovedStalls$Roads")) false (mv_rR N0) 23 [(0, mv_vr N0 (some a0))] [mv_vr N0 s0] (J_X3_stateAt_23 a0 s0) := by
  unfold J_X3_stateAt_23
  exact mv_aret dX3_stateAt_23

def J_X3_stateAt_22 (a0 : Nat) : mv_M (Option Nat) :=
  J_X3_stateAt_23 a0 none

set_option maxHeartbeats 4000000 in
set_option maxRecDepth 100000 in
theorem sJ_X3_stateAt_22 (l : Launch) (N0 : Nat) (D : va_G) (dA : Nat → ClassId) (a0 : Nat) : mv_Sim l N0 D dA RX3 cX3_stateAt 2 0 0 (some (.object "MovedStalls$Roads")) false (mv_rR N0) 22 [(0, mv_vr N0 (some a0))] [] (J_X3_stateAt_22 a0) := by
  unfold J_X3_stateAt_22
  refine mv_null dX3_stateAt_22 rfl ?_
  refine mv_sub [0] rfl ?_
  exact sJ_X3_stateAt_23 l N0 D dA a0 none

def F_X3_stateAt (a0 : Nat) (a1 : Int32) : mv_M (Option Nat) :=
  if a1 < 0 then
    J_X3_stateAt_22 a0
  else
    mv_bd (mv_gR 3 2 0 (some a0)) fun v1 =>
    mv_bd (mv_aL v1) fun v2 =>
    if v2 ≤ a1 then
      J_X3_stateAt_22 a0
    else
      mv_bd (mv_gR 3 2 0 (some a0)) fun v3 =>
      mv_bd (mv_aR 1 v3 a1) fun v4 =>
      J_X3_stateAt_23 a0 v4

set_option maxHeartbeats 4000000 in
set_option maxRecDepth 100000 in
theorem c_X3_stateAt (l : Launch) (N0 : Nat) (D : va_G) (dA : Nat → ClassId) (a0 : Nat) (a1 : Int32) : mv_SimM l N0 D dA yX3_stateAt cX3_stateAt 2 (some (.object "MovedStalls$Roads")) 0 0 (mv_rR N0) [.ref (N0 + a0), .int a1] (F_X3_stateAt a0 a1) := by
  refine mv_SimM_of (L0 := [(0, mv_vr N0 (some a0)), (1, .int a1)]) false (by decide +kernel) (Nat.le_of_ble_eq_true rfl) rfl (List.forall_mem_cons.mpr ⟨mv_cat N0 (some a0), List.forall_mem_cons.mpr ⟨rfl, fun _ h => absurd h List.not_mem_nil⟩⟩) (fun z => by cases z) ?_
  unfold F_X3_stateAt
  show mv_Sim l N0 D dA RX3 cX3_stateAt 2 0 0 (some (.object "MovedStalls$Roads")) false (mv_rR N0) 0 _ _ _
  refine mv_iload_n 1 dX3_stateAt_0 rfl rfl rfl ?_
  refine mv_if_lt (tgt := 22) dX3_stateAt_1 rfl rfl ?_ ?_
  · refine mv_sub [0] rfl ?_
    exact sJ_X3_stateAt_22 l N0 D dA a0
  · refine mv_iload_n 1 dX3_stateAt_4 rfl rfl rfl ?_
    refine mv_aload_n 0 dX3_stateAt_5 rfl rfl rfl ?_
    refine mv_getR fd_X3_0 lk_X3_11 dX3_stateAt_6 rfl (fun v1 => ?_)
    refine mv_alen dX3_stateAt_9 rfl (fun v2 => ?_)
    refine mv_icmp_ge (tgt := 22) dX3_stateAt_10 rfl rfl ?_ ?_
    · refine mv_sub [0] rfl ?_
      exact sJ_X3_stateAt_22 l N0 D dA a0
    · refine mv_aload_n 0 dX3_stateAt_13 rfl rfl rfl ?_
      refine mv_getR fd_X3_0 lk_X3_11 dX3_stateAt_14 rfl (fun v3 => ?_)
      refine mv_iload_n 1 dX3_stateAt_17 rfl rfl rfl ?_
      refine mv_aald (E := RX5) (fun _ => rfl) (by decide) dX3_stateAt_18 rfl (fun v4 => ?_)
      refine mv_goto (q := 23) dX3_stateAt_19 rfl ?_
      refine mv_sub [0] rfl ?_
      exact sJ_X3_stateAt_23 l N0 D dA a0 v4

def J_X3_dropOldest_61 (a0 : Nat) (x2 : Int32) : mv_M Unit :=
  mv_bd (mv_sI 3 2 1 (some a0) x2) fun _ =>
  mv_pu ()

set_option maxHeartbeats 4000000 in
set_option maxRecDepth 100000 in
theorem sJ_X3_dropOldest_61 (l : Launch) (N0 : Nat) (D : va_G) (dA : Nat → ClassId) (a0 : Nat) (x2 : Int32) : mv_Sim l N0 D dA RX3 cX3_dropOldest 4 1 21 none false mv_rV 61 [(0, mv_vr N0 (some a0)), (2, .int x2)] [] (J_X3_dropOldest_61 a0 x2) := by
  unfold J_X3_dropOldest_61
  refine mv_aload_n 0 dX3_dropOldest_61 rfl rfl rfl ?_
  refine mv_iload_n 1 dX3_dropOldest_62 rfl rfl rfl ?_
  refine mv_putI fd_X3_1 rfl (tyX3_ok 1 (by decide)) lk_X3_18 dX3_dropOldest_63 rfl ?_
  exact mv_vret dX3_dropOldest_66

def Lp_X3_dropOldest_10 (a0 : Nat) (x1 : Option Nat) : Nat → Int32 → Int32 → mv_M Unit
  | 0, _, _ => mv_fl
  | n + 1, x2, x3 =>
    mv_bd (mv_gR 3 2 0 (some a0)) fun v1 =>
    mv_bd (mv_aL v1) fun v2 =>
    if v2 ≤ (x3 + (1 : Int32)) then
      mv_bd (mv_gR 3 2 0 (some a0)) fun v3 =>
      mv_bd (mv_aL v3) fun v4 =>
      if v4 ≤ x2 then
        J_X3_dropOldest_61 a0 x2
      else
        mv_bd (mv_gR 3 2 0 (some a0)) fun v5 =>
        mv_bd (mv_aT 1 5 12 v5 x2 x1) fun _ =>
        J_X3_dropOldest_61 a0 x2
    else
      mv_bd (mv_gR 3 2 0 (some a0)) fun v6 =>
      mv_bd (mv_gR 3 2 0 (some a0)) fun v7 =>
      mv_bd (mv_aR 1 v7 (x3 + (1 : Int32))) fun v8 =>
      mv_bd (mv_aT 1 5 12 v6 x3 v8) fun _ =>
      mv_bd (mv_pu (x3 + (1 : Int32))) fun v9 =>
      Lp_X3_dropOldest_10 a0 x1 n v9 (x3 + (1 : Int32))

set_option maxHeartbeats 4000000 in
set_option maxRecDepth 100000 in
theorem sLp_X3_dropOldest_10 (l : Launch) (N0 : Nat) (D : va_G) (dA : Nat → ClassId) (a0 : Nat) (x1 : Option Nat) : ∀ (n : Nat) (x2 : Int32) (x3 : Int32), mv_Sim l N0 D dA RX3 cX3_dropOldest 4 1 21 none false mv_rV 10 [(0, mv_vr N0 (some a0)), (1, mv_vr N0 x1), (2, .int x2), (3, .int x3)] [] (Lp_X3_dropOldest_10 a0 x1 n x2 x3) := by
  intro n
  induction n with
  | zero => intro x2 x3; rw [Lp_X3_dropOldest_10]; exact mv_fl_sim
  | succ n ih =>
    intro x2 x3
    rw [Lp_X3_dropOldest_10]
    refine mv_iload_n 3 dX3_dropOldest_10 rfl rfl rfl ?_
    refine mv_iconst (v := (1 : Int32)) dX3_dropOldest_11 (by decide) rfl ?_
    refine mv_iadd dX3_dropOldest_12 rfl ?_
    refine mv_aload_n 0 dX3_dropOldest_13 rfl rfl rfl ?_
    refine mv_getR fd_X3_0 lk_X3_11 dX3_dropOldest_14 rfl (fun v1 => ?_)
    refine mv_alen dX3_dropOldest_17 rfl (fun v2 => ?_)
    refine mv_icmp_ge (tgt := 45) dX3_dropOldest_18 rfl rfl ?_ ?_
    · refine mv_iload_n 2 dX3_dropOldest_45 rfl rfl rfl ?_
      refine mv_aload_n 0 dX3_dropOldest_46 rfl rfl rfl ?_
      refine mv_getR fd_X3_0 lk_X3_11 dX3_dropOldest_47 rfl (fun v3 => ?_)
      refine mv_alen dX3_dropOldest_50 rfl (fun v4 => ?_)
      refine mv_icmp_ge (tgt := 61) dX3_dropOldest_51 rfl rfl ?_ ?_
      · refine mv_sub [0, 2] rfl ?_
        exact sJ_X3_dropOldest_61 l N0 D dA a0 x2
      · refine mv_aload_n 0 dX3_dropOldest_54 rfl rfl rfl ?_
        refine mv_getR fd_X3_0 lk_X3_11 dX3_dropOldest_55 rfl (fun v5 => ?_)
        refine mv_iload_n 2 dX3_dropOldest_58 rfl rfl rfl ?_
        refine mv_aload_n 1 dX3_dropOldest_59 rfl rfl rfl ?_
        refine mv_aast (C := RX5) (T := TX5) (fun _ => rfl) (by decide) rfl (by decide) dX3_dropOldest_60 rfl ?_
        refine mv_sub [0, 2] rfl ?_
        exact sJ_X3_dropOldest_61 l N0 D dA a0 x2
    · refine mv_aload_n 0 dX3_dropOldest_21 rfl rfl rfl ?_
      refine mv_getR fd_X3_0 lk_X3_11 dX3_dropOldest_22 rfl (fun v6 => ?_)
      refine mv_iload_n 3 dX3_dropOldest_25 rfl rfl rfl ?_
      refine mv_aload_n 0 dX3_dropOldest_26 rfl rfl rfl ?_
      refine mv_getR fd_X3_0 lk_X3_11 dX3_dropOldest_27 rfl (fun v7 => ?_)
      refine mv_iload_n 3 dX3_dropOldest_30 rfl rfl rfl ?_
      refine mv_iconst (v := (1 : Int32)) dX3_dropOldest_31 (by decide) rfl ?_
      refine mv_iadd dX3_dropOldest_32 rfl ?_
      refine mv_aald (E := RX5) (fun _ => rfl) (by decide) dX3_dropOldest_33 rfl (fun v8 => ?_)
      refine mv_aast (C := RX5) (T := TX5) (fun _ => rfl) (by decide) rfl (by decide) dX3_dropOldest_34 rfl ?_
      refine mv_iload_n 3 dX3_dropOldest_35 rfl rfl rfl ?_
      refine mv_iconst (v := (1 : Int32)) dX3_dropOldest_36 (by decide) rfl ?_
      refine mv_iadd dX3_dropOldest_37 rfl ?_
      refine mv_let (fun v9 => ?_)
      refine mv_istore_n [0, 1, 3] no_X3 dX3_dropOldest_38 rfl (by decide) rfl rfl rfl ?_
      refine mv_iinc (y := (x3 + (1 : Int32))) 3 [0, 1, 2] no_X3 dX3_dropOldest_39 rfl rfl (by decide) rfl rfl rfl ?_
      refine mv_goto (q := 10) dX3_dropOldest_42 rfl ?_
      refine mv_sub [2, 3, 1, 0] rfl ?_
      exact ih v9 (x3 + (1 : Int32))

def F_X3_dropOldest (a0 : Nat) : mv_M Unit :=
  mv_bd (mv_rc 3 2 (some a0)) fun i11 => mv_bd (F_X3_stateAt i11 (0 : Int32)) fun v10 =>
  Lp_X3_dropOldest_10 a0 v10 mv_FU (0 : Int32) (0 : Int32)

set_option maxHeartbeats 4000000 in
set_option maxRecDepth 100000 in
theorem c_X3_dropOldest (l : Launch) (N0 : Nat) (D : va_G) (dA : Nat → ClassId) (a0 : Nat) : mv_SimM l N0 D dA yX3_dropOldest cX3_dropOldest 4 none 1 21 mv_rV [.ref (N0 + a0)] (F_X3_dropOldest a0) := by
  refine mv_SimM_of (L0 := [(0, mv_vr N0 (some a0))]) false (by decide +kernel) (Nat.le_of_ble_eq_true rfl) rfl (List.forall_mem_cons.mpr ⟨mv_cat N0 (some a0), fun _ h => absurd h List.not_mem_nil⟩) (fun z => by cases z) ?_
  unfold F_X3_dropOldest
  show mv_Sim l N0 D dA RX3 cX3_dropOldest 4 1 21 none false mv_rV 0 _ _ _
  refine mv_aload_n 0 dX3_dropOldest_0 rfl rfl rfl ?_
  refine mv_iconst (v := (0 : Int32)) dX3_dropOldest_1 (by decide) rfl ?_
  refine mv_callVr (st := []) [.int (0 : Int32)] (fun i11 => c_X3_stateAt l N0 D dA i11 (0 : Int32)) (T := TX3) rfl (by decide) wc_X3_25 ⟨by decide, by decide⟩ rfl (mv_cs (Nat.le_of_ble_eq_true rfl) (fun _ h => absurd h List.not_mem_nil)) dX3_dropOldest_2 rfl (fun v10 => ?_)
  refine mv_astore_n [0] no_X3 dX3_dropOldest_5 rfl (by decide) rfl rfl rfl ?_
  refine mv_iconst (v := (0 : Int32)) dX3_dropOldest_6 (by decide) rfl ?_
  refine mv_istore_n [0, 1] no_X3 dX3_dropOldest_7 rfl (by decide) rfl rfl rfl ?_
  refine mv_iconst (v := (0 : Int32)) dX3_dropOldest_8 (by decide) rfl ?_
  refine mv_istore_n [0, 1, 2] no_X3 dX3_dropOldest_9 rfl (by decide) rfl rfl rfl ?_
  refine mv_sub [3, 2, 1, 0] rfl ?_
  exact sLp_X3_dropOldest_10 l N0 D dA a0 v10 mv_FU (0 : Int32) (0 : Int32)

def J_X5_copyBundle_13 : mv_M Unit :=
  mv_pu ()

set_option maxHeartbeats 4000000 in
set_option maxRecDepth 100000 in
theorem sJ_X5_copyBundle_13 (l : Launch) (N0 : Nat) (D : va_G) (dA : Nat → ClassId) : mv_Sim l N0 D dA RX5 cX5_copyBundle 2 1 21 none false mv_rV 13 [] [] (J_X5_copyBundle_13) := by
  unfold J_X5_copyBundle_13
  exact mv_vret dX5_copyBundle_13

def F_X5_copyBundle (a0 : Option Nat) (a1 : Option Nat) : mv_M Unit :=
  if a0 = none then
    J_X5_copyBundle_13
  else
    if a1 = none then
      J_X5_copyBundle_13
    else
      mv_bd (mv_rc 0 8 a0) fun i1 => mv_bd (F_X0_copyFrom i1 a1) fun _ =>
      J_X5_copyBundle_13

set_option maxHeartbeats 4000000 in
set_option maxRecDepth 100000 in
theorem c_X5_copyBundle (l : Launch) (N0 : Nat) (D : va_G) (dA : Nat → ClassId) (a0 : Option Nat) (a1 : Option Nat) : mv_SimM l N0 D dA yX5_copyBundle cX5_copyBundle 2 none 1 21 mv_rV [mv_vr N0 a0, mv_vr N0 a1] (F_X5_copyBundle a0 a1) := by
  refine mv_SimM_of (L0 := [(0, mv_vr N0 a0), (1, mv_vr N0 a1)]) false (by decide +kernel) (by cases a0 <;> cases a1 <;> exact Nat.le_of_ble_eq_true rfl) (by cases a0 <;> cases a1 <;> rfl) (List.forall_mem_cons.mpr ⟨mv_cat N0 a0, List.forall_mem_cons.mpr ⟨mv_cat N0 a1, fun _ h => absurd h List.not_mem_nil⟩⟩) (fun z => by cases z) ?_
  unfold F_X5_copyBundle
  show mv_Sim l N0 D dA RX5 cX5_copyBundle 2 1 21 none false mv_rV 0 _ _ _
  refine mv_aload_n 0 dX5_copyBundle_0 rfl rfl rfl ?_
  refine mv_ifnull (tgt := 13) dX5_copyBundle_1 rfl rfl ?_ ?_
  · refine mv_sub [] rfl ?_
    exact sJ_X5_copyBundle_13 l N0 D dA
  · refine mv_aload_n 1 dX5_copyBundle_4 rfl rfl rfl ?_
    refine mv_ifnull (tgt := 13) dX5_copyBundle_5 rfl rfl ?_ ?_
    · refine mv_sub [] rfl ?_
      exact sJ_X5_copyBundle_13 l N0 D dA
    · refine mv_aload_n 0 dX5_copyBundle_8 rfl rfl rfl ?_
      refine mv_aload_n 1 dX5_copyBundle_9 rfl rfl rfl ?_
      refine mv_callVv (st := []) [mv_vr N0 a1] (fun i1 => c_X0_copyFrom l N0 D dA i1 a1) (T := TX0) rfl (by decide) wc_X5_77 ⟨by decide, by decide⟩ rfl (mv_cs (Nat.le_of_ble_eq_true rfl) (fun _ h => absurd h List.not_mem_nil)) dX5_copyBundle_10 rfl ?_
      refine mv_sub [] rfl ?_
      exact sJ_X5_copyBundle_13 l N0 D dA

def J_X5_copyCarrier_13 : mv_M Unit :=
  mv_pu ()

set_option maxHeartbeats 4000000 in
set_option maxRecDepth 100000 in
theorem sJ_X5_copyCarrier_13 (l : Launch) (N0 : Nat) (D : va_G) (dA : Nat → ClassId) : mv_Sim l N0 D dA RX5 cX5_copyCarrier 2 1 22 none false mv_rV 13 [] [] (J_X5_copyCarrier_13) := by
  unfold J_X5_copyCarrier_13
  exact mv_vret dX5_copyCarrier_13

def F_X5_copyCarrier (a0 : Option Nat) (a1 : Option Nat) : mv_M Unit :=
  if a0 = none then
    J_X5_copyCarrier_13
  else
    if a1 = none then
      J_X5_copyCarrier_13
    else
      mv_bd (mv_rc 1 6 a0) fun i1 => mv_bd (F_X1_copyFrom i1 a1) fun _ =>
      J_X5_copyCarrier_13

set_option maxHeartbeats 4000000 in
set_option maxRecDepth 100000 in
theorem c_X5_copyCarrier (l : Launch) (N0 : Nat) (D : va_G) (dA : Nat → ClassId) (a0 : Option Nat) (a1 : Option Nat) : mv_SimM l N0 D dA yX5_copyCarrier cX5_copyCarrier 2 none 1 22 mv_rV [mv_vr N0 a0, mv_vr N0 a1] (F_X5_copyCarrier a0 a1) := by
  refine mv_SimM_of (L0 := [(0, mv_vr N0 a0), (1, mv_vr N0 a1)]) false (by decide +kernel) (by cases a0 <;> cases a1 <;> exact Nat.le_of_ble_eq_true rfl) (by cases a0 <;> cases a1 <;> rfl) (List.forall_mem_cons.mpr ⟨mv_cat N0 a0, List.forall_mem_cons.mpr ⟨mv_cat N0 a1, fun _ h => absurd h List.not_mem_nil⟩⟩) (fun z => by cases z) ?_
  unfold F_X5_copyCarrier
  show mv_Sim l N0 D dA RX5 cX5_copyCarrier 2 1 22 none false mv_rV 0 _ _ _
  refine mv_aload_n 0 dX5_copyCarrier_0 rfl rfl rfl ?_
  refine mv_ifnull (tgt := 13) dX5_copyCarrier_1 rfl rfl ?_ ?_
  · refine mv_sub [] rfl ?_
    exact sJ_X5_copyCarrier_13 l N0 D dA
  · refine mv_aload_n 1 dX5_copyCarrier_4 rfl rfl rfl ?_
    refine mv_ifnull (tgt := 13) dX5_copyCarrier_5 rfl rfl ?_ ?_
    · refine mv_sub [] rfl ?_
      exact sJ_X5_copyCarrier_13 l N0 D dA
    · refine mv_aload_n 0 dX5_copyCarrier_8 rfl rfl rfl ?_
      refine mv_aload_n 1 dX5_copyCarrier_9 rfl rfl rfl ?_
      refine mv_callVv (st := []) [mv_vr N0 a1] (fun i1 => c_X1_copyFrom l N0 D dA i1 a1) (T := TX1) rfl (by decide) wc_X5_73 ⟨by decide, by decide⟩ rfl (mv_cs (Nat.le_of_ble_eq_true rfl) (fun _ h => absurd h List.not_mem_nil)) dX5_copyCarrier_10 rfl ?_
      refine mv_sub [] rfl ?_
      exact sJ_X5_copyCarrier_13 l N0 D dA

def Lp_X5_copyFrom_85 (a0 : Nat) (x1 : Option Nat) : Nat → Int32 → mv_M Unit
  | 0, _ => mv_fl
  | n + 1, x2 =>
    mv_bd (mv_gI 5 12 4 (some a0)) fun v1 =>
    if v1 ≤ x2 then
      mv_bd (mv_gI 5 12 5 x1) fun v2 =>
      mv_bd (mv_sI 5 12 5 (some a0) v2) fun _ =>
      mv_bd (mv_gI 5 12 6 x1) fun v3 =>
      mv_bd (mv_sI 5 12 6 (some a0) v3) fun _ =>
      mv_bd (mv_gI 5 12 7 x1) fun v4 =>
      mv_bd (mv_sI 5 12 7 (some a0) v4) fun _ =>
      mv_bd (mv_gI 5 12 8 x1) fun v5 =>
      mv_bd (mv_sI 5 12 8 (some a0) v5) fun _ =>
      mv_bd (mv_gI 5 12 9 x1) fun v6 =>
      mv_bd (mv_sI 5 12 9 (some a0) v6) fun _ =>
      mv_bd (mv_gI 5 12 10 x1) fun v7 =>
      mv_bd (mv_sI 5 12 10 (some a0) v7) fun _ =>
      mv_bd (mv_gI 5 12 11 x1) fun v8 =>
      mv_bd (mv_sI 5 12 11 (some a0) v8) fun _ =>
      mv_pu ()
    else
      mv_bd (mv_rc 5 12 (some a0)) fun i10 => mv_bd (F_X5_bundleAt i10 x2) fun v9 =>
      mv_bd (mv_rc 5 12 x1) fun i12 => mv_bd (F_X5_bundleAt i12 x2) fun v11 =>
      mv_bd (F_X5_copyBundle v9 v11) fun _ =>
      Lp_X5_copyFrom_85 a0 x1 n (x2 + (1 : Int32))

set_option maxHeartbeats 4000000 in
set_option maxRecDepth 100000 in
theorem sLp_X5_copyFrom_85 (l : Launch) (N0 : Nat) (D : va_G) (dA : Nat → ClassId) (a0 : Nat) (x1 : Option Nat) : ∀ (n : Nat) (x2 : Int32), mv_Sim l N0 D dA RX5 cX5_copyFrom 3 2 43 none false mv_rV 85 [(0, mv_vr N0 (some a0)), (1, mv_vr N0 x1), (2, .int x2)] [] (Lp_X5_copyFrom_85 a0 x1 n x2) := by
  intro n
  induction n with
  | zero => intro x2; rw [Lp_X5_copyFrom_85]; exact mv_fl_sim
  | succ n ih =>
    intro x2
    rw [Lp_X5_copyFrom_85]
    refine mv_iload_n 2 dX5_copyFrom_85 rfl rfl rfl ?_
    refine mv_aload_n 0 dX5_copyFrom_86 rfl rfl rfl ?_
    refine mv_getI fd_X5_4 lk_X5_39 dX5_copyFrom_87 rfl (fun v1 => ?_)
    refine mv_icmp_ge (tgt := 112) dX5_copyFrom_90 rfl rfl ?_ ?_
    · refine mv_aload_n 0 dX5_copyFrom_112 rfl rfl rfl ?_
      refine mv_aload_n 1 dX5_copyFrom_113 rfl rfl rfl ?_
      refine mv_getI fd_X5_5 lk_X5_58 dX5_copyFrom_114 rfl (fun v2 => ?_)
      refine mv_putI fd_X5_5 rfl (tyX5_ok 5 (by decide)) lk_X5_58 dX5_copyFrom_117 rfl ?_
      refine mv_aload_n 0 dX5_copyFrom_120 rfl rfl rfl ?_
      refine mv_aload_n 1 dX5_copyFrom_121 rfl rfl rfl ?_
      refine mv_getI fd_X5_6 lk_X5_27 dX5_copyFrom_122 rfl (fun v3 => ?_)
      refine mv_putI fd_X5_6 rfl (tyX5_ok 6 (by decide)) lk_X5_27 dX5_copyFrom_125 rfl ?_
      refine mv_aload_n 0 dX5_copyFrom_128 rfl rfl rfl ?_
      refine mv_aload_n 1 dX5_copyFrom_129 rfl rfl rfl ?_
      refine mv_getI fd_X5_7 lk_X5_31 dX5_copyFrom_130 rfl (fun v4 => ?_)
      refine mv_putI fd_X5_7 rfl (tyX5_ok 7 (by decide)) lk_X5_31 dX5_copyFrom_133 rfl ?_
      refine mv_aload_n 0 dX5_copyFrom_136 rfl rfl rfl ?_
      refine mv_aload_n 1 dX5_copyFrom_137 rfl rfl rfl ?_
      refine mv_getI fd_X5_8 lk_X5_61 dX5_copyFrom_138 rfl (fun v5 => ?_)
      refine mv_putI fd_X5_8 rfl (tyX5_ok 8 (by decide)) lk_X5_61 dX5_copyFrom_141 rfl ?_
      refine mv_aload_n 0 dX5_copyFrom_144 rfl rfl rfl ?_
      refine mv_aload_n 1 dX5_copyFrom_145 rfl rfl rfl ?_
      refine mv_getI fd_X5_9 lk_X5_64 dX5_copyFrom_146 rfl (fun v6 => ?_)
      refine mv_putI fd_X5_9 rfl (tyX5_ok 9 (by decide)) lk_X5_64 dX5_copyFrom_149 rfl ?_
      refine mv_aload_n 0 dX5_copyFrom_152 rfl rfl rfl ?_
      refine mv_aload_n 1 dX5_copyFrom_153 rfl rfl rfl ?_
      refine mv_getI fd_X5_10 lk_X5_67 dX5_copyFrom_154 rfl (fun v7 => ?_)
      refine mv_putI fd_X5_10 rfl (tyX5_ok 10 (by decide)) lk_X5_67 dX5_copyFrom_157 rfl ?_
      refine mv_aload_n 0 dX5_copyFrom_160 rfl rfl rfl ?_
      refine mv_aload_n 1 dX5_copyFrom_161 rfl rfl rfl ?_
      refine mv_getI fd_X5_11 lk_X5_70 dX5_copyFrom_162 rfl (fun v8 => ?_)
      refine mv_putI fd_X5_11 rfl (tyX5_ok 11 (by decide)) lk_X5_70 dX5_copyFrom_165 rfl ?_
      exact mv_vret dX5_copyFrom_168
    · refine mv_aload_n 0 dX5_copyFrom_93 rfl rfl rfl ?_
      refine mv_iload_n 2 dX5_copyFrom_94 rfl rfl rfl ?_
      refine mv_callVr (st := []) [.int x2] (fun i10 => c_X5_bundleAt l N0 D dA i10 x2) (T := TX5) rfl (by decide) wc_X5_50 ⟨by decide, by decide⟩ rfl (mv_cs (Nat.le_of_ble_eq_true rfl) (fun _ h => absurd h List.not_mem_nil)) dX5_copyFrom_95 rfl (fun v9 => ?_)
      refine mv_aload_n 1 dX5_copyFrom_98 rfl rfl rfl ?_
      refine mv_iload_n 2 dX5_copyFrom_99 rfl rfl rfl ?_
      refine mv_callVr (st := [mv_vr N0 v9]) [.int x2] (fun i12 => c_X5_bundleAt l N0 D dA i12 x2) (T := TX5) rfl (by decide) wc_X5_50 ⟨by decide, by decide⟩ rfl (mv_cs (Nat.le_of_ble_eq_true rfl) (List.forall_mem_cons.mpr ⟨mv_cat N0 v9, fun _ h => absurd h List.not_mem_nil⟩)) dX5_copyFrom_100 rfl (fun v11 => ?_)
      refine mv_callSv (st := []) [mv_vr N0 v9, mv_vr N0 v11] (c_X5_copyBundle l N0 D dA v9 v11) wc_X5_54 ⟨by decide, by decide⟩ rfl (mv_cs (Nat.le_of_ble_eq_true rfl) (fun _ h => absurd h List.not_mem_nil)) dX5_copyFrom_103 rfl ?_
      refine mv_iinc (y := (x2 + (1 : Int32))) 2 [0, 1] no_X5 dX5_copyFrom_106 rfl rfl (by decide) rfl rfl rfl ?_
      refine mv_goto (q := 85) dX5_copyFrom_109 rfl ?_
      refine mv_sub [1, 2, 0] rfl ?_
      exact ih (x2 + (1 : Int32))

def Lp_X5_copyFrom_56 (a0 : Nat) (x1 : Option Nat) : Nat → Int32 → mv_M Unit
  | 0, _ => mv_fl
  | n + 1, x2 =>
    mv_bd (mv_gI 5 12 3 (some a0)) fun v13 =>
    if v13 ≤ x2 then
      Lp_X5_copyFrom_85 a0 x1 mv_FU (0 : Int32)
    else
      mv_bd (mv_rc 5 12 (some a0)) fun i15 => mv_bd (F_X5_carrierAt i15 x2) fun v14 =>
      mv_bd (mv_rc 5 12 x1) fun i17 => mv_bd (F_X5_carrierAt i17 x2) fun v16 =>
      mv_bd (F_X5_copyCarrier v14 v16) fun _ =>
      Lp_X5_copyFrom_56 a0 x1 n (x2 + (1 : Int32))

set_option maxHeartbeats 4000000 in
set_option maxRecDepth 100000 in
theorem sLp_X5_copyFrom_56 (l : Launch) (N0 : Nat) (D : va_G) (dA : Nat → ClassId) (a0 : Nat) (x1 : Option Nat) : ∀ (n : Nat) (x2 : Int32), mv_Sim l N0 D dA RX5 cX5_copyFrom 3 2 43 none false mv_rV 56 [(0, mv_vr N0 (some a0)), (1, mv_vr N0 x1), (2, .int x2)] [] (Lp_X5_copyFrom_56 a0 x1 n x2) := by
  intro n
  induction n with
  | zero => intro x2; rw [Lp_X5_copyFrom_56]; exact mv_fl_sim
  | succ n ih =>
    intro x2
    rw [Lp_X5_copyFrom_56]
    refine mv_iload_n 2 dX5_copyFrom_56 rfl rfl rfl ?_
    refine mv_aload_n 0 dX5_copyFrom_57 rfl rfl rfl ?_
    refine mv_getI fd_X5_3 lk_X5_36 dX5_copyFrom_58 rfl (fun v13 => ?_)
    refine mv_icmp_ge (tgt := 83) dX5_copyFrom_61 rfl rfl ?_ ?_
    · refine mv_iconst (v := (0 : Int32)) dX5_copyFrom_83 (by decide) rfl ?_
      refine mv_istore_n [0, 1] no_X5 dX5_copyFrom_84 rfl (by decide) rfl rfl rfl ?_
      refine mv_sub [1, 2, 0] rfl ?_
      exact sLp_X5_copyFrom_85 l N0 D dA a0 x1 mv_FU (0 : Int32)
    · refine mv_aload_n 0 dX5_copyFrom_64 rfl rfl rfl ?_
      refine mv_iload_n 2 dX5_copyFrom_65 rfl rfl rfl ?_
      refine mv_callVr (st := []) [.int x2] (fun i15 => c_X5_carrierAt l N0 D dA i15 x2) (T := TX5) rfl (by decide) wc_X5_42 ⟨by decide, by decide⟩ rfl (mv_cs (Nat.le_of_ble_eq_true rfl) (fun _ h => absurd h List.not_mem_nil)) dX5_copyFrom_66 rfl (fun v14 => ?_)
      refine mv_aload_n 1 dX5_copyFrom_69 rfl rfl rfl ?_
      refine mv_iload_n 2 dX5_copyFrom_70 rfl rfl rfl ?_
      refine mv_callVr (st := [mv_vr N0 v14]) [.int x2] (fun i17 => c_X5_carrierAt l N0 D dA i17 x2) (T := TX5) rfl (by decide) wc_X5_42 ⟨by decide, by decide⟩ rfl (mv_cs (Nat.le_of_ble_eq_true rfl) (List.forall_mem_cons.mpr ⟨mv_cat N0 v14, fun _ h => absurd h List.not_mem_nil⟩)) dX5_copyFrom_71 rfl (fun v16 => ?_)
      refine mv_callSv (st := []) [mv_vr N0 v14, mv_vr N0 v16] (c_X5_copyCarrier l N0 D dA v14 v16) wc_X5_46 ⟨by decide, by decide⟩ rfl (mv_cs (Nat.le_of_ble_eq_true rfl) (fun _ h => absurd h List.not_mem_nil)) dX5_copyFrom_74 rfl ?_
      refine mv_iinc (y := (x2 + (1 : Int32))) 2 [0, 1] no_X5 dX5_copyFrom_77 rfl rfl (by decide) rfl rfl rfl ?_
      refine mv_goto (q := 56) dX5_copyFrom_80 rfl ?_
      refine mv_sub [1, 2, 0] rfl ?_
      exact ih (x2 + (1 : Int32))

def J_X5_copyFrom_38 (a0 : Nat) (x1 : Option Nat) : mv_M Unit :=
  mv_bd (mv_gI 5 12 3 x1) fun v18 =>
  mv_bd (mv_sI 5 12 3 (some a0) v18) fun _ =>
  mv_bd (mv_gI 5 12 4 x1) fun v19 =>
  mv_bd (mv_sI 5 12 4 (some a0) v19) fun _ =>
  Lp_X5_copyFrom_56 a0 x1 mv_FU (0 : Int32)

set_option maxHeartbeats 4000000 in
set_option maxRecDepth 100000 in
theorem sJ_X5_copyFrom_38 (l : Launch) (N0 : Nat) (D : va_G) (dA : Nat → ClassId) (a0 : Nat) (x1 : Option Nat) : mv_Sim l N0 D dA RX5 cX5_copyFrom 3 2 43 none false mv_rV 38 [(0, mv_vr N0 (some a0)), (1, mv_vr N0 x1)] [] (J_X5_copyFrom_38 a0 x1) := by
  unfold J_X5_copyFrom_38
  refine mv_aload_n 0 dX5_copyFrom_38 rfl rfl rfl ?_
  refine mv_aload_n 1 dX5_copyFrom_39 rfl rfl rfl ?_
  refine mv_getI fd_X5_3 lk_X5_36 dX5_copyFrom_40 rfl (fun v18 => ?_)
  refine mv_putI fd_X5_3 rfl (tyX5_ok 3 (by decide)) lk_X5_36 dX5_copyFrom_43 rfl ?_
  refine mv_aload_n 0 dX5_copyFrom_46 rfl rfl rfl ?_
  refine mv_aload_n 1 dX5_copyFrom_47 rfl rfl rfl ?_
  refine mv_getI fd_X5_4 lk_X5_39 dX5_copyFrom_48 rfl (fun v19 => ?_)
  refine mv_putI fd_X5_4 rfl (tyX5_ok 4 (by decide)) lk_X5_39 dX5_copyFrom_51 rfl ?_
  refine mv_iconst (v := (0 : Int32)) dX5_copyFrom_54 (by decide) rfl ?_
  refine mv_istore_n [0, 1] no_X5 dX5_copyFrom_55 rfl (by decide) rfl rfl rfl ?_
  refine mv_sub [1, 2, 0] rfl ?_
  exact sLp_X5_copyFrom_56 l N0 D dA a0 x1 mv_FU (0 : Int32)

def Lp_X5_copyFrom_2 (a0 : Nat) (x1 : Option Nat) : Nat → Int32 → mv_M Unit
  | 0, _ => mv_fl
  | n + 1, x2 =>
    mv_bd (mv_gR 5 12 0 (some a0)) fun v20 =>
    mv_bd (mv_aL v20) fun v21 =>
    if v21 ≤ x2 then
      J_X5_copyFrom_38 a0 x1
    else
      mv_bd (mv_gR 5 12 0 x1) fun v22 =>
      mv_bd (mv_aL v22) fun v23 =>
      if v23 ≤ x2 then
        J_X5_copyFrom_38 a0 x1
      else
        mv_bd (mv_gR 5 12 0 (some a0)) fun v24 =>
        mv_bd (mv_gR 5 12 0 x1) fun v25 =>
        mv_bd (mv_aI v25 x2) fun v26 =>
        mv_bd (mv_aS v24 x2 v26) fun _ =>
        Lp_X5_copyFrom_2 a0 x1 n (x2 + (1 : Int32))

set_option maxHeartbeats 4000000 in
set_option maxRecDepth 100000 in
theorem sLp_X5_copyFrom_2 (l : Launch) (N0 : Nat) (D : va_G) (dA : Nat → ClassId) (a0 : Nat) (x1 : Option Nat) : ∀ (n : Nat) (x2 : Int32), mv_Sim l N0 D dA RX5 cX5_copyFrom 3 2 43 none false mv_rV 2 [(0, mv_vr N0 (some a0)), (1, mv_vr N0 x1), (2, .int x2)] [] (Lp_X5_copyFrom_2 a0 x1 n x2) := by
  intro n
  induction n with
  | zero => intro x2; rw [Lp_X5_copyFrom_2]; exact mv_fl_sim
  | succ n ih =>
    intro x2
    rw [Lp_X5_copyFrom_2]
    refine mv_iload_n 2 dX5_copyFrom_2 rfl rfl rfl ?_
    refine mv_aload_n 0 dX5_copyFrom_3 rfl rfl rfl ?_
    refine mv_getR fd_X5_0 lk_X5_9 dX5_copyFrom_4 rfl (fun v20 => ?_)
    refine mv_alen dX5_copyFrom_7 rfl (fun v21 => ?_)
    refine mv_icmp_ge (tgt := 38) dX5_copyFrom_8 rfl rfl ?_ ?_
    · refine mv_sub [0, 1] rfl ?_
      exact sJ_X5_copyFrom_38 l N0 D dA a0 x1
    · refine mv_iload_n 2 dX5_copyFrom_11 rfl rfl rfl ?_
      refine mv_aload_n 1 dX5_copyFrom_12 rfl rfl rfl ?_
      refine mv_getR fd_X5_0 lk_X5_9 dX5_copyFrom_13 rfl (fun v22 => ?_)
      refine mv_alen dX5_copyFrom_16 rfl (fun v23 => ?_)
      refine mv_icmp_ge (tgt := 38) dX5_copyFrom_17 rfl rfl ?_ ?_
      · refine mv_sub [0, 1] rfl ?_
        exact sJ_X5_copyFrom_38 l N0 D dA a0 x1
      · refine mv_aload_n 0 dX5_copyFrom_20 rfl rfl rfl ?_
        refine mv_getR fd_X5_0 lk_X5_9 dX5_copyFrom_21 rfl (fun v24 => ?_)
        refine mv_iload_n 2 dX5_copyFrom_24 rfl rfl rfl ?_
        refine mv_aload_n 1 dX5_copyFrom_25 rfl rfl rfl ?_
        refine mv_getR fd_X5_0 lk_X5_9 dX5_copyFrom_26 rfl (fun v25 => ?_)
        refine mv_iload_n 2 dX5_copyFrom_29 rfl rfl rfl ?_
        refine mv_iald dX5_copyFrom_30 rfl (fun v26 => ?_)
        refine mv_iast dX5_copyFrom_31 rfl ?_
        refine mv_iinc (y := (x2 + (1 : Int32))) 2 [0, 1] no_X5 dX5_copyFrom_32 rfl rfl (by decide) rfl rfl rfl ?_
        refine mv_goto (q := 2) dX5_copyFrom_35 rfl ?_
        refine mv_sub [1, 2, 0] rfl ?_
        exact ih (x2 + (1 : Int32))

def F_X5_copyFrom (a0 : Nat) (a1 : Option Nat) : mv_M Unit :=
  Lp_X5_copyFrom_2 a0 a1 mv_FU (0 : Int32)

set_option maxHeartbeats 4000000 in
set_option maxRecDepth 100000 in
theorem c_X5_copyFrom (l : Launch) (N0 : Nat) (D : va_G) (dA : Nat → ClassId) (a0 : Nat) (a1 : Option Nat) : mv_SimM l N0 D dA yX5_copyFrom cX5_copyFrom 3 none 2 43 mv_rV [.ref (N0 + a0), mv_vr N0 a1] (F_X5_copyFrom a0 a1) := by
  refine mv_SimM_of (L0 := [(0, mv_vr N0 (some a0)), (1, mv_vr N0 a1)]) false (by decide +kernel) (by cases a1 <;> exact Nat.le_of_ble_eq_true rfl) (by cases a1 <;> rfl) (List.forall_mem_cons.mpr ⟨mv_cat N0 (some a0), List.forall_mem_cons.mpr ⟨mv_cat N0 a1, fun _ h => absurd h List.not_mem_nil⟩⟩) (fun z => by cases z) ?_
  unfold F_X5_copyFrom
  show mv_Sim l N0 D dA RX5 cX5_copyFrom 3 2 43 none false mv_rV 0 _ _ _
  refine mv_iconst (v := (0 : Int32)) dX5_copyFrom_0 (by decide) rfl ?_
  refine mv_istore_n [0, 1] no_X5 dX5_copyFrom_1 rfl (by decide) rfl rfl rfl ?_
  refine mv_sub [1, 2, 0] rfl ?_
  exact sLp_X5_copyFrom_2 l N0 D dA a0 a1 mv_FU (0 : Int32)

def J_X3_keep_44 (a0 : Nat) : mv_M Unit :=
  mv_pu ()

set_option maxHeartbeats 4000000 in
set_option maxRecDepth 100000 in
theorem sJ_X3_keep_44 (l : Launch) (N0 : Nat) (D : va_G) (dA : Nat → ClassId) (a0 : Nat) : mv_Sim l N0 D dA RX3 cX3_keep 3 3 65 none false mv_rV 44 [(0, mv_vr N0 (some a0))] [] (J_X3_keep_44 a0) := by
  unfold J_X3_keep_44
  exact mv_vret dX3_keep_44

def J_X3_keep_16 (a0 : Nat) (x1 : Option Nat) : mv_M Unit :=
  mv_bd (mv_gI 3 2 1 (some a0)) fun v1 =>
  mv_bd (mv_rc 3 2 (some a0)) fun i3 => mv_bd (F_X3_stateAt i3 v1) fun v2 =>
  if v2 = none then
    J_X3_keep_44 a0
  else
    mv_bd (mv_rc 5 12 v2) fun i4 => mv_bd (F_X5_copyFrom i4 x1) fun _ =>
    mv_bd (mv_gI 3 2 1 (some a0)) fun v5 =>
    mv_bd (mv_sI 3 2 1 (some a0) (v5 + (1 : Int32))) fun _ =>
    J_X3_keep_44 a0

set_option maxHeartbeats 4000000 in
set_option maxRecDepth 100000 in
theorem sJ_X3_keep_16 (l : Launch) (N0 : Nat) (D : va_G) (dA : Nat → ClassId) (a0 : Nat) (x1 : Option Nat) : mv_Sim l N0 D dA RX3 cX3_keep 3 3 65 none false mv_rV 16 [(0, mv_vr N0 (some a0)), (1, mv_vr N0 x1)] [] (J_X3_keep_16 a0 x1) := by
  unfold J_X3_keep_16
  refine mv_aload_n 0 dX3_keep_16 rfl rfl rfl ?_
  refine mv_aload_n 0 dX3_keep_17 rfl rfl rfl ?_
  refine mv_getI fd_X3_1 lk_X3_18 dX3_keep_18 rfl (fun v1 => ?_)
  refine mv_callVr (st := []) [.int v1] (fun i3 => c_X3_stateAt l N0 D dA i3 v1) (T := TX3) rfl (by decide) wc_X3_25 ⟨by decide, by decide⟩ rfl (mv_cs (Nat.le_of_ble_eq_true rfl) (fun _ h => absurd h List.not_mem_nil)) dX3_keep_21 rfl (fun v2 => ?_)
  refine mv_astore_n [0, 1] no_X3 dX3_keep_24 rfl (by decide) rfl rfl rfl ?_
  refine mv_aload_n 0 dX3_keep_25 rfl rfl rfl ?_
  refine mv_ifnull (tgt := 44) dX3_keep_26 rfl rfl ?_ ?_
  · refine mv_sub [1] rfl ?_
    exact sJ_X3_keep_44 l N0 D dA a0
  · refine mv_aload_n 0 dX3_keep_29 rfl rfl rfl ?_
    refine mv_aload_n 2 dX3_keep_30 rfl rfl rfl ?_
    refine mv_callVv (st := []) [mv_vr N0 x1] (fun i4 => c_X5_copyFrom l N0 D dA i4 x1) (T := TX5) rfl (by decide) wc_X3_29 ⟨by decide, by decide⟩ rfl (mv_cs (Nat.le_of_ble_eq_true rfl) (fun _ h => absurd h List.not_mem_nil)) dX3_keep_31 rfl ?_
    refine mv_aload_n 1 dX3_keep_34 rfl rfl rfl ?_
    refine mv_dup dX3_keep_35 (mv_cat N0 (some a0)) rfl ?_
    refine mv_getI fd_X3_1 lk_X3_18 dX3_keep_36 rfl (fun v5 => ?_)
    refine mv_iconst (v := (1 : Int32)) dX3_keep_39 (by decide) rfl ?_
    refine mv_iadd dX3_keep_40 rfl ?_
    refine mv_putI fd_X3_1 rfl (tyX3_ok 1 (by decide)) lk_X3_18 dX3_keep_41 rfl ?_
    refine mv_sub [1] rfl ?_
    exact sJ_X3_keep_44 l N0 D dA a0

def F_X3_keep (a0 : Nat) (a1 : Option Nat) : mv_M Unit :=
  mv_bd (mv_gI 3 2 1 (some a0)) fun v6 =>
  mv_bd (mv_gR 3 2 0 (some a0)) fun v7 =>
  mv_bd (mv_aL v7) fun v8 =>
  if v6 < v8 then
    J_X3_keep_16 a0 a1
  else
    mv_bd (mv_rc 3 2 (some a0)) fun i9 => mv_bd (F_X3_dropOldest i9 ) fun _ =>
    J_X3_keep_16 a0 a1

set_option maxHeartbeats 4000000 in
set_option maxRecDepth 100000 in
theorem c_X3_keep (l : Launch) (N0 : Nat) (D : va_G) (dA : Nat → ClassId) (a0 : Nat) (a1 : Option Nat) : mv_SimM l N0 D dA yX3_keep cX3_keep 3 none 3 65 mv_rV [.ref (N0 + a0), mv_vr N0 a1] (F_X3_keep a0 a1) := by
  refine mv_SimM_of (L0 := [(0, mv_vr N0 (some a0)), (1, mv_vr N0 a1)]) false (by decide +kernel) (by cases a1 <;> exact Nat.le_of_ble_eq_true rfl) (by cases a1 <;> rfl) (List.forall_mem_cons.mpr ⟨mv_cat N0 (some a0), List.forall_mem_cons.mpr ⟨mv_cat N0 a1, fun _ h => absurd h List.not_mem_nil⟩⟩) (fun z => by cases z) ?_
  unfold F_X3_keep
  show mv_Sim l N0 D dA RX3 cX3_keep 3 3 65 none false mv_rV 0 _ _ _
  refine mv_aload_n 0 dX3_keep_0 rfl rfl rfl ?_
  refine mv_getI fd_X3_1 lk_X3_18 dX3_keep_1 rfl (fun v6 => ?_)
  refine mv_aload_n 0 dX3_keep_4 rfl rfl rfl ?_
  refine mv_getR fd_X3_0 lk_X3_11 dX3_keep_5 rfl (fun v7 => ?_)
  refine mv_alen dX3_keep_8 rfl (fun v8 => ?_)
  refine mv_icmp_lt (tgt := 16) dX3_keep_9 rfl rfl ?_ ?_
  · refine mv_sub [0, 1] rfl ?_
    exact sJ_X3_keep_16 l N0 D dA a0 a1
  · refine mv_aload_n 0 dX3_keep_12 rfl rfl rfl ?_
    refine mv_callVv (st := []) [] (fun i9 => c_X3_dropOldest l N0 D dA i9 ) (T := TX3) rfl (by decide) wc_X3_22 ⟨by decide, by decide⟩ rfl (mv_cs (Nat.le_of_ble_eq_true rfl) (fun _ h => absurd h List.not_mem_nil)) dX3_keep_13 rfl ?_
    refine mv_sub [0, 1] rfl ?_
    exact sJ_X3_keep_16 l N0 D dA a0 a1

def J_X5_addBundle_19 (a0 : Nat) : mv_M Unit :=
  mv_pu ()

set_option maxHeartbeats 4000000 in
set_option maxRecDepth 100000 in
theorem sJ_X5_addBundle_19 (l : Launch) (N0 : Nat) (D : va_G) (dA : Nat → ClassId) (a0 : Nat) : mv_Sim l N0 D dA RX5 cX5_addBundle 5 1 24 none false mv_rV 19 [(0, mv_vr N0 (some a0))] [] (J_X5_addBundle_19 a0) := by
  unfold J_X5_addBundle_19
  exact mv_vret dX5_addBundle_19

def J_X5_addBundle_68 (a0 : Nat) : mv_M Unit :=
  mv_pu ()

set_option maxHeartbeats 4000000 in
set_option maxRecDepth 100000 in
theorem sJ_X5_addBundle_68 (l : Launch) (N0 : Nat) (D : va_G) (dA : Nat → ClassId) (a0 : Nat) : mv_Sim l N0 D dA RX5 cX5_addBundle 5 1 24 none false mv_rV 68 [(0, mv_vr N0 (some a0))] [] (J_X5_addBundle_68 a0) := by
  unfold J_X5_addBundle_68
  exact mv_vret dX5_addBundle_68

def F_X5_addBundle (a0 : Nat) (a1 : Int32) (a2 : Int32) (a3 : Int32) : mv_M Unit :=
  mv_bd (mv_gI 5 12 4 (some a0)) fun v1 =>
  if v1 < 0 then
    J_X5_addBundle_19 a0
  else
    mv_bd (mv_gI 5 12 4 (some a0)) fun v2 =>
    mv_bd (mv_gR 5 12 2 (some a0)) fun v3 =>
    mv_bd (mv_aL v3) fun v4 =>
    if v2 < v4 then
      mv_bd (mv_gR 5 12 2 (some a0)) fun v5 =>
      mv_bd (mv_gI 5 12 4 (some a0)) fun v6 =>
      mv_bd (mv_aR 3 v5 v6) fun v7 =>
      if v7 = none then
        J_X5_addBundle_68 a0
      else
        mv_bd (mv_gI 5 12 5 (some a0)) fun v8 =>
        mv_bd (mv_rc 0 8 v7) fun i9 => mv_bd (F_X0_begin i9 a1 a2 a3 v8) fun _ =>
        mv_bd (mv_gI 5 12 4 (some a0)) fun v10 =>
        mv_bd (mv_sI 5 12 4 (some a0) (v10 + (1 : Int32))) fun _ =>
        mv_bd (mv_gI 5 12 8 (some a0)) fun v11 =>
        mv_bd (mv_sI 5 12 8 (some a0) (v11 + (1 : Int32))) fun _ =>
        J_X5_addBundle_68 a0
    else
      J_X5_addBundle_19 a0

set_option maxHeartbeats 4000000 in
set_option maxRecDepth 100000 in
theorem c_X5_addBundle (l : Launch) (N0 : Nat) (D : va_G) (dA : Nat → ClassId) (a0 : Nat) (a1 : Int32) (a2 : Int32) (a3 : Int32) : mv_SimM l N0 D dA yX5_addBundle cX5_addBundle 5 none 1 24 mv_rV [.ref (N0 + a0), .int a1, .int a2, .int a3] (F_X5_addBundle a0 a1 a2 a3) := by
  refine mv_SimM_of (L0 := [(0, mv_vr N0 (some a0)), (1, .int a1), (2, .int a2), (3, .int a3)]) false (by decide +kernel) (Nat.le_of_ble_eq_true rfl) rfl (List.forall_mem_cons.mpr ⟨mv_cat N0 (some a0), List.forall_mem_cons.mpr ⟨rfl, List.forall_mem_cons.mpr ⟨rfl, List.forall_mem_cons.mpr ⟨rfl, fun _ h => absurd h List.not_mem_nil⟩⟩⟩⟩) (fun z => by cases z) ?_
  unfold F_X5_addBundle
  show mv_Sim l N0 D dA RX5 cX5_addBundle 5 1 24 none false mv_rV 0 _ _ _
  refine mv_aload_n 0 dX5_addBundle_0 rfl rfl rfl ?_
  refine mv_getI fd_X5_4 lk_X5_39 dX5_addBundle_1 rfl (fun v1 => ?_)
  refine mv_if_lt (tgt := 19) dX5_addBundle_4 rfl rfl ?_ ?_
  · refine mv_sub [0] rfl ?_
    exact sJ_X5_addBundle_19 l N0 D dA a0
  · refine mv_aload_n 0 dX5_addBundle_7 rfl rfl rfl ?_
    refine mv_getI fd_X5_4 lk_X5_39 dX5_addBundle_8 rfl (fun v2 => ?_)
    refine mv_aload_n 0 dX5_addBundle_11 rfl rfl rfl ?_
    refine mv_getR fd_X5_2 lk_X5_23 dX5_addBundle_12 rfl (fun v3 => ?_)
    refine mv_alen dX5_addBundle_15 rfl (fun v4 => ?_)
    refine mv_icmp_lt (tgt := 20) dX5_addBundle_16 rfl rfl ?_ ?_
    · refine mv_aload_n 0 dX5_addBundle_20 rfl rfl rfl ?_
      refine mv_getR fd_X5_2 lk_X5_23 dX5_addBundle_21 rfl (fun v5 => ?_)
      refine mv_aload_n 0 dX5_addBundle_24 rfl rfl rfl ?_
      refine mv_getI fd_X5_4 lk_X5_39 dX5_addBundle_25 rfl (fun v6 => ?_)
      refine mv_aald (E := RX0) (fun _ => rfl) (by decide) dX5_addBundle_28 rfl (fun v7 => ?_)
      refine mv_astore [0, 1, 2, 3] no_X5 dX5_addBundle_29 (by decide) rfl rfl rfl ?_
      refine mv_aload 0 dX5_addBundle_31 rfl rfl ?_
      refine mv_ifnull (tgt := 68) dX5_addBundle_33 rfl rfl ?_ ?_
      · refine mv_sub [1] rfl ?_
        exact sJ_X5_addBundle_68 l N0 D dA a0
      · refine mv_aload 0 dX5_addBundle_36 rfl rfl ?_
        refine mv_iload_n 2 dX5_addBundle_38 rfl rfl rfl ?_
        refine mv_iload_n 3 dX5_addBundle_39 rfl rfl rfl ?_
        refine mv_iload_n 4 dX5_addBundle_40 rfl rfl rfl ?_
        refine mv_aload_n 1 dX5_addBundle_41 rfl rfl rfl ?_
        refine mv_getI fd_X5_5 lk_X5_58 dX5_addBundle_42 rfl (fun v8 => ?_)
        refine mv_callVv (st := []) [.int a1, .int a2, .int a3, .int v8] (fun i9 => c_X0_begin l N0 D dA i9 a1 a2 a3 v8) (T := TX0) rfl (by decide) wc_X5_83 ⟨by decide, by decide⟩ rfl (mv_cs (Nat.le_of_ble_eq_true rfl) (fun _ h => absurd h List.not_mem_nil)) dX5_addBundle_45 rfl ?_
        refine mv_aload_n 1 dX5_addBundle_48 rfl rfl rfl ?_
        refine mv_dup dX5_addBundle_49 (mv_cat N0 (some a0)) rfl ?_
        refine mv_getI fd_X5_4 lk_X5_39 dX5_addBundle_50 rfl (fun v10 => ?_)
        refine mv_iconst (v := (1 : Int32)) dX5_addBundle_53 (by decide) rfl ?_
        refine mv_iadd dX5_addBundle_54 rfl ?_
        refine mv_putI fd_X5_4 rfl (tyX5_ok 4 (by decide)) lk_X5_39 dX5_addBundle_55 rfl ?_
        refine mv_aload_n 1 dX5_addBundle_58 rfl rfl rfl ?_
        refine mv_dup dX5_addBundle_59 (mv_cat N0 (some a0)) rfl ?_
        refine mv_getI fd_X5_8 lk_X5_61 dX5_addBundle_60 rfl (fun v11 => ?_)
        refine mv_iconst (v := (1 : Int32)) dX5_addBundle_63 (by decide) rfl ?_
        refine mv_iadd dX5_addBundle_64 rfl ?_
        refine mv_putI fd_X5_8 rfl (tyX5_ok 8 (by decide)) lk_X5_61 dX5_addBundle_65 rfl ?_
        refine mv_sub [1] rfl ?_
        exact sJ_X5_addBundle_68 l N0 D dA a0
    · refine mv_sub [0] rfl ?_
      exact sJ_X5_addBundle_19 l N0 D dA a0

def J_X5_addCarrier_19 (a0 : Nat) : mv_M (Option Nat) :=
  mv_pu none

set_option maxHeartbeats 4000000 in
set_option maxRecDepth 100000 in
theorem sJ_X5_addCarrier_19 (l : Launch) (N0 : Nat) (D : va_G) (dA : Nat → ClassId) (a0 : Nat) : mv_Sim l N0 D dA RX5 cX5_addCarrier 2 1 20 (some (.object "MovedStalls$Carrier")) false (mv_rR N0) 19 [(0, mv_vr N0 (some a0))] [] (J_X5_addCarrier_19 a0) := by
  unfold J_X5_addCarrier_19
  refine mv_null dX5_addCarrier_19 rfl ?_
  exact mv_aret dX5_addCarrier_20

def J_X5_addCarrier_49 (a0 : Nat) (x1 : Option Nat) : mv_M (Option Nat) :=
  mv_pu x1

set_option maxHeartbeats 4000000 in
set_option maxRecDepth 100000 in
theorem sJ_X5_addCarrier_49 (l : Launch) (N0 : Nat) (D : va_G) (dA : Nat → ClassId) (a0 : Nat) (x1 : Option Nat) : mv_Sim l N0 D dA RX5 cX5_addCarrier 2 1 20 (some (.object "MovedStalls$Carrier")) false (mv_rR N0) 49 [(0, mv_vr N0 (some a0)), (1, mv_vr N0 x1)] [] (J_X5_addCarrier_49 a0 x1) := by
  unfold J_X5_addCarrier_49
  refine mv_aload_n 1 dX5_addCarrier_49 rfl rfl rfl ?_
  exact mv_aret dX5_addCarrier_50

def F_X5_addCarrier (a0 : Nat) : mv_M (Option Nat) :=
  mv_bd (mv_gI 5 12 3 (some a0)) fun v1 =>
  if v1 < 0 then
    J_X5_addCarrier_19 a0
  else
    mv_bd (mv_gI 5 12 3 (some a0)) fun v2 =>
    mv_bd (mv_gR 5 12 1 (some a0)) fun v3 =>
    mv_bd (mv_aL v3) fun v4 =>
    if v2 < v4 then
      mv_bd (mv_gR 5 12 1 (some a0)) fun v5 =>
      mv_bd (mv_gI 5 12 3 (some a0)) fun v6 =>
      mv_bd (mv_aR 2 v5 v6) fun v7 =>
      mv_bd (mv_gI 5 12 3 (some a0)) fun v8 =>
      mv_bd (mv_sI 5 12 3 (some a0) (v8 + (1 : Int32))) fun _ =>
      if v7 = none then
        J_X5_addCarrier_49 a0 v7
      else
        mv_bd (mv_rc 1 6 v7) fun i9 => mv_bd (F_X1_begin i9 ) fun _ =>
        J_X5_addCarrier_49 a0 v7
    else
      J_X5_addCarrier_19 a0

set_option maxHeartbeats 4000000 in
set_option maxRecDepth 100000 in
theorem c_X5_addCarrier (l : Launch) (N0 : Nat) (D : va_G) (dA : Nat → ClassId) (a0 : Nat) : mv_SimM l N0 D dA yX5_addCarrier cX5_addCarrier 2 (some (.object "MovedStalls$Carrier")) 1 20 (mv_rR N0) [.ref (N0 + a0)] (F_X5_addCarrier a0) := by
  refine mv_SimM_of (L0 := [(0, mv_vr N0 (some a0))]) false (by decide +kernel) (Nat.le_of_ble_eq_true rfl) rfl (List.forall_mem_cons.mpr ⟨mv_cat N0 (some a0), fun _ h => absurd h List.not_mem_nil⟩) (fun z => by cases z) ?_
  unfold F_X5_addCarrier
  show mv_Sim l N0 D dA RX5 cX5_addCarrier 2 1 20 (some (.object "MovedStalls$Carrier")) false (mv_rR N0) 0 _ _ _
  refine mv_aload_n 0 dX5_addCarrier_0 rfl rfl rfl ?_
  refine mv_getI fd_X5_3 lk_X5_36 dX5_addCarrier_1 rfl (fun v1 => ?_)
  refine mv_if_lt (tgt := 19) dX5_addCarrier_4 rfl rfl ?_ ?_
  · refine mv_sub [0] rfl ?_
    exact sJ_X5_addCarrier_19 l N0 D dA a0
  · refine mv_aload_n 0 dX5_addCarrier_7 rfl rfl rfl ?_
    refine mv_getI fd_X5_3 lk_X5_36 dX5_addCarrier_8 rfl (fun v2 => ?_)
    refine mv_aload_n 0 dX5_addCarrier_11 rfl rfl rfl ?_
    refine mv_getR fd_X5_1 lk_X5_17 dX5_addCarrier_12 rfl (fun v3 => ?_)
    refine mv_alen dX5_addCarrier_15 rfl (fun v4 => ?_)
    refine mv_icmp_lt (tgt := 21) dX5_addCarrier_16 rfl rfl ?_ ?_
    · refine mv_aload_n 0 dX5_addCarrier_21 rfl rfl rfl ?_
      refine mv_getR fd_X5_1 lk_X5_17 dX5_addCarrier_22 rfl (fun v5 => ?_)
      refine mv_aload_n 0 dX5_addCarrier_25 rfl rfl rfl ?_
      refine mv_getI fd_X5_3 lk_X5_36 dX5_addCarrier_26 rfl (fun v6 => ?_)
      refine mv_aald (E := RX1) (fun _ => rfl) (by decide) dX5_addCarrier_29 rfl (fun v7 => ?_)
      refine mv_astore_n [0] no_X5 dX5_addCarrier_30 rfl (by decide) rfl rfl rfl ?_
      refine mv_aload_n 1 dX5_addCarrier_31 rfl rfl rfl ?_
      refine mv_dup dX5_addCarrier_32 (mv_cat N0 (some a0)) rfl ?_
      refine mv_getI fd_X5_3 lk_X5_36 dX5_addCarrier_33 rfl (fun v8 => ?_)
      refine mv_iconst (v := (1 : Int32)) dX5_addCarrier_36 (by decide) rfl ?_
      refine mv_iadd dX5_addCarrier_37 rfl ?_
      refine mv_putI fd_X5_3 rfl (tyX5_ok 3 (by decide)) lk_X5_36 dX5_addCarrier_38 rfl ?_
      refine mv_aload_n 0 dX5_addCarrier_41 rfl rfl rfl ?_
      refine mv_ifnull (tgt := 49) dX5_addCarrier_42 rfl rfl ?_ ?_
      · refine mv_sub [1, 0] rfl ?_
        exact sJ_X5_addCarrier_49 l N0 D dA a0 v7
      · refine mv_aload_n 0 dX5_addCarrier_45 rfl rfl rfl ?_
        refine mv_callVv (st := []) [] (fun i9 => c_X1_begin l N0 D dA i9 ) (T := TX1) rfl (by decide) wc_X5_80 ⟨by decide, by decide⟩ rfl (mv_cs (Nat.le_of_ble_eq_true rfl) (fun _ h => absurd h List.not_mem_nil)) dX5_addCarrier_46 rfl ?_
        refine mv_sub [1, 0] rfl ?_
        exact sJ_X5_addCarrier_49 l N0 D dA a0 v7
    · refine mv_sub [0] rfl ?_
      exact sJ_X5_addCarrier_19 l N0 D dA a0

def J_X5_removeBundle_66 (a0 : Nat) (x2 : Option Nat) (x3 : Int32) : mv_M Unit :=
  mv_bd (mv_gR 5 12 2 (some a0)) fun v1 =>
  mv_bd (mv_aT 3 0 8 v1 x3 x2) fun _ =>
  mv_bd (mv_gI 5 12 4 (some a0)) fun v2 =>
  mv_bd (mv_sI 5 12 4 (some a0) (v2 - (1 : Int32))) fun _ =>
  mv_bd (mv_gI 5 12 10 (some a0)) fun v3 =>
  mv_bd (mv_sI 5 12 10 (some a0) (v3 + (1 : Int32))) fun _ =>
  mv_pu ()

set_option maxHeartbeats 4000000 in
set_option maxRecDepth 100000 in
theorem sJ_X5_removeBundle_66 (l : Launch) (N0 : Nat) (D : va_G) (dA : Nat → ClassId) (a0 : Nat) (x2 : Option Nat) (x3 : Int32) : mv_Sim l N0 D dA RX5 cX5_removeBundle 5 1 22 none false mv_rV 66 [(0, mv_vr N0 (some a0)), (2, mv_vr N0 x2), (3, .int x3)] [] (J_X5_removeBundle_66 a0 x2 x3) := by
  unfold J_X5_removeBundle_66
  refine mv_aload_n 0 dX5_removeBundle_66 rfl rfl rfl ?_
  refine mv_getR fd_X5_2 lk_X5_23 dX5_removeBundle_67 rfl (fun v1 => ?_)
  refine mv_iload_n 2 dX5_removeBundle_70 rfl rfl rfl ?_
  refine mv_aload_n 1 dX5_removeBundle_71 rfl rfl rfl ?_
  refine mv_aast (C := RX0) (T := TX0) (fun _ => rfl) (by decide) rfl (by decide) dX5_removeBundle_72 rfl ?_
  refine mv_aload_n 0 dX5_removeBundle_73 rfl rfl rfl ?_
  refine mv_dup dX5_removeBundle_74 (mv_cat N0 (some a0)) rfl ?_
  refine mv_getI fd_X5_4 lk_X5_39 dX5_removeBundle_75 rfl (fun v2 => ?_)
  refine mv_iconst (v := (1 : Int32)) dX5_removeBundle_78 (by decide) rfl ?_
  refine mv_isub dX5_removeBundle_79 rfl ?_
  refine mv_putI fd_X5_4 rfl (tyX5_ok 4 (by decide)) lk_X5_39 dX5_removeBundle_80 rfl ?_
  refine mv_aload_n 0 dX5_removeBundle_83 rfl rfl rfl ?_
  refine mv_dup dX5_removeBundle_84 (mv_cat N0 (some a0)) rfl ?_
  refine mv_getI fd_X5_10 lk_X5_67 dX5_removeBundle_85 rfl (fun v3 => ?_)
  refine mv_iconst (v := (1 : Int32)) dX5_removeBundle_88 (by decide) rfl ?_
  refine mv_iadd dX5_removeBundle_89 rfl ?_
  refine mv_putI fd_X5_10 rfl (tyX5_ok 10 (by decide)) lk_X5_67 dX5_removeBundle_90 rfl ?_
  exact mv_vret dX5_removeBundle_93

def Lp_X5_removeBundle_16 (a0 : Nat) (x2 : Option Nat) : Nat → Int32 → Int32 → mv_M Unit
  | 0, _, _ => mv_fl
  | n + 1, x3, x4 =>
    mv_bd (mv_gI 5 12 4 (some a0)) fun v4 =>
    if v4 ≤ (x4 + (1 : Int32)) then
      J_X5_removeBundle_66 a0 x2 x3
    else
      mv_bd (mv_gR 5 12 2 (some a0)) fun v5 =>
      mv_bd (mv_aL v5) fun v6 =>
      if v6 ≤ (x4 + (1 : Int32)) then
        J_X5_removeBundle_66 a0 x2 x3
      else
        mv_bd (mv_gR 5 12 2 (some a0)) fun v7 =>
        mv_bd (mv_gR 5 12 2 (some a0)) fun v8 =>
        mv_bd (mv_aR 3 v8 (x4 + (1 : Int32))) fun v9 =>
        mv_bd (mv_aT 3 0 8 v7 x4 v9) fun _ =>
        mv_bd (mv_pu (x4 + (1 : Int32))) fun v10 =>
        Lp_X5_removeBundle_16 a0 x2 n v10 (x4 + (1 : Int32))

set_option maxHeartbeats 4000000 in
set_option maxRecDepth 100000 in
theorem sLp_X5_removeBundle_16 (l : Launch) (N0 : Nat) (D : va_G) (dA : Nat → ClassId) (a0 : Nat) (x2 : Option Nat) : ∀ (n : Nat) (x3 : Int32) (x4 : Int32), mv_Sim l N0 D dA RX5 cX5_removeBundle 5 1 22 none false mv_rV 16 [(0, mv_vr N0 (some a0)), (2, mv_vr N0 x2), (3, .int x3), (4, .int x4)] [] (Lp_X5_removeBundle_16 a0 x2 n x3 x4) := by
  intro n
  induction n with
  | zero => intro x3 x4; rw [Lp_X5_removeBundle_16]; exact mv_fl_sim
  | succ n ih =>
    intro x3 x4
    rw [Lp_X5_removeBundle_16]
    refine mv_iload 3 dX5_removeBundle_16 rfl rfl ?_
    refine mv_iconst (v := (1 : Int32)) dX5_removeBundle_18 (by decide) rfl ?_
    refine mv_iadd dX5_removeBundle_19 rfl ?_
    refine mv_aload_n 0 dX5_removeBundle_20 rfl rfl rfl ?_
    refine mv_getI fd_X5_4 lk_X5_39 dX5_removeBundle_21 rfl (fun v4 => ?_)
    refine mv_icmp_ge (tgt := 66) dX5_removeBundle_24 rfl rfl ?_ ?_
    · refine mv_sub [0, 1, 2] rfl ?_
      exact sJ_X5_removeBundle_66 l N0 D dA a0 x2 x3
    · refine mv_iload 3 dX5_removeBundle_27 rfl rfl ?_
      refine mv_iconst (v := (1 : Int32)) dX5_removeBundle_29 (by decide) rfl ?_
      refine mv_iadd dX5_removeBundle_30 rfl ?_
      refine mv_aload_n 0 dX5_removeBundle_31 rfl rfl rfl ?_
      refine mv_getR fd_X5_2 lk_X5_23 dX5_removeBundle_32 rfl (fun v5 => ?_)
      refine mv_alen dX5_removeBundle_35 rfl (fun v6 => ?_)
      refine mv_icmp_ge (tgt := 66) dX5_removeBundle_36 rfl rfl ?_ ?_
      · refine mv_sub [0, 1, 2] rfl ?_
        exact sJ_X5_removeBundle_66 l N0 D dA a0 x2 x3
      · refine mv_aload_n 0 dX5_removeBundle_39 rfl rfl rfl ?_
        refine mv_getR fd_X5_2 lk_X5_23 dX5_removeBundle_40 rfl (fun v7 => ?_)
        refine mv_iload 3 dX5_removeBundle_43 rfl rfl ?_
        refine mv_aload_n 0 dX5_removeBundle_45 rfl rfl rfl ?_
        refine mv_getR fd_X5_2 lk_X5_23 dX5_removeBundle_46 rfl (fun v8 => ?_)
        refine mv_iload 3 dX5_removeBundle_49 rfl rfl ?_
        refine mv_iconst (v := (1 : Int32)) dX5_removeBundle_51 (by decide) rfl ?_
        refine mv_iadd dX5_removeBundle_52 rfl ?_
        refine mv_aald (E := RX0) (fun _ => rfl) (by decide) dX5_removeBundle_53 rfl (fun v9 => ?_)
        refine mv_aast (C := RX0) (T := TX0) (fun _ => rfl) (by decide) rfl (by decide) dX5_removeBundle_54 rfl ?_
        refine mv_iload 3 dX5_removeBundle_55 rfl rfl ?_
        refine mv_iconst (v := (1 : Int32)) dX5_removeBundle_57 (by decide) rfl ?_
        refine mv_iadd dX5_removeBundle_58 rfl ?_
        refine mv_let (fun v10 => ?_)
        refine mv_istore_n [0, 1, 3] no_X5 dX5_removeBundle_59 rfl (by decide) rfl rfl rfl ?_
        refine mv_iinc (y := (x4 + (1 : Int32))) 3 [0, 1, 2] no_X5 dX5_removeBundle_60 rfl rfl (by decide) rfl rfl rfl ?_
        refine mv_goto (q := 16) dX5_removeBundle_63 rfl ?_
        refine mv_sub [2, 3, 1, 0] rfl ?_
        exact ih v10 (x4 + (1 : Int32))

def F_X5_removeBundle (a0 : Nat) (a1 : Int32) : mv_M Unit :=
  mv_bd (mv_rc 5 12 (some a0)) fun i12 => mv_bd (F_X5_bundleAt i12 a1) fun v11 =>
  if v11 = none then
    mv_pu ()
  else
    Lp_X5_removeBundle_16 a0 v11 mv_FU a1 a1

set_option maxHeartbeats 4000000 in
set_option maxRecDepth 100000 in
theorem c_X5_removeBundle (l : Launch) (N0 : Nat) (D : va_G) (dA : Nat → ClassId) (a0 : Nat) (a1 : Int32) : mv_SimM l N0 D dA yX5_removeBundle cX5_removeBundle 5 none 1 22 mv_rV [.ref (N0 + a0), .int a1] (F_X5_removeBundle a0 a1) := by
  refine mv_SimM_of (L0 := [(0, mv_vr N0 (some a0)), (1, .int a1)]) false (by decide +kernel) (Nat.le_of_ble_eq_true rfl) rfl (List.forall_mem_cons.mpr ⟨mv_cat N0 (some a0), List.forall_mem_cons.mpr ⟨rfl, fun _ h => absurd h List.not_mem_nil⟩⟩) (fun z => by cases z) ?_
  unfold F_X5_removeBundle
  show mv_Sim l N0 D dA RX5 cX5_removeBundle 5 1 22 none false mv_rV 0 _ _ _
  refine mv_aload_n 0 dX5_removeBundle_0 rfl rfl rfl ?_
  refine mv_iload_n 1 dX5_removeBundle_1 rfl rfl rfl ?_
  refine mv_callVr (st := []) [.int a1] (fun i12 => c_X5_bundleAt l N0 D dA i12 a1) (T := TX5) rfl (by decide) wc_X5_50 ⟨by decide, by decide⟩ rfl (mv_cs (Nat.le_of_ble_eq_true rfl) (fun _ h => absurd h List.not_mem_nil)) dX5_removeBundle_2 rfl (fun v11 => ?_)
  refine mv_astore_n [0, 1] no_X5 dX5_removeBundle_5 rfl (by decide) rfl rfl rfl ?_
  refine mv_aload_n 0 dX5_removeBundle_6 rfl rfl rfl ?_
  refine mv_ifnonnull (tgt := 11) dX5_removeBundle_7 rfl rfl ?_ ?_
  · refine mv_iload_n 2 dX5_removeBundle_11 rfl rfl rfl ?_
    refine mv_istore_n [0, 1, 2] no_X5 dX5_removeBundle_12 rfl (by decide) rfl rfl rfl ?_
    refine mv_iload_n 3 dX5_removeBundle_13 rfl rfl rfl ?_
    refine mv_istore [0, 1, 2, 3] no_X5 dX5_removeBundle_14 (by decide) rfl rfl rfl ?_
    refine mv_sub [3, 2, 1, 0] rfl ?_
    exact sLp_X5_removeBundle_16 l N0 D dA a0 v11 mv_FU a1 a1
  · exact mv_vret dX5_removeBundle_10

def J_X2_bestTaker_75 (k31 : Int32 → Int32 → Int32 → mv_M Int32) (a0 : Nat) (x3 : Int32) (x4 : Int32) (x5 : Int32) (x6 : Int32) : mv_M Int32 :=
  k31 x4 x5 (x6 + (1 : Int32))

set_option maxHeartbeats 4000000 in
set_option maxRecDepth 100000 in
theorem sJ_X2_bestTaker_75 (l : Launch) (N0 : Nat) (D : va_G) (dA : Nat → ClassId) (a0 : Nat) (x3 : Int32) (x4 : Int32) (x5 : Int32) (x6 : Int32) (k31 : Int32 → Int32 → Int32 → mv_M Int32) (hk31 : ∀ (y4 : Int32) (y5 : Int32) (y6 : Int32), mv_Sim l N0 D dA RX2 cX2_bestTaker 7 3 77 (some .int) false mv_rI 31 [(0, mv_vr N0 (some a0)), (3, .int x3), (4, .int y4), (5, .int y5), (6, .int y6)] [] (k31 y4 y5 y6)) : mv_Sim l N0 D dA RX2 cX2_bestTaker 7 3 77 (some .int) false mv_rI 75 [(0, mv_vr N0 (some a0)), (3, .int x3), (4, .int x4), (5, .int x5), (6, .int x6)] [] (J_X2_bestTaker_75 k31 a0 x3 x4 x5 x6) := by
  unfold J_X2_bestTaker_75
  refine mv_iinc (y := (x6 + (1 : Int32))) 4 [0, 1, 2, 3] no_X2 dX2_bestTaker_75 rfl rfl (by decide) rfl rfl rfl ?_
  refine mv_goto (q := 31) dX2_bestTaker_78 rfl ?_
  refine mv_sub [1, 2, 3, 4, 0] rfl ?_
  exact hk31 x4 x5 (x6 + (1 : Int32))

def Lp_X2_bestTaker_31 (a0 : Nat) (x3 : Int32) : Nat → Int32 → Int32 → Int32 → mv_M Int32
  | 0, _, _, _ => mv_fl
  | n + 1, x4, x5, x6 =>
    mv_bd (mv_gR 2 4 0 (some a0)) fun v1 =>
    mv_bd (mv_aL v1) fun v2 =>
    if v2 ≤ x6 then
      mv_pu x4
    else
      if (x3 &&& ((1 : Int32) <<< (x6 &&& 31))) = 0 then
        J_X2_bestTaker_75 (Lp_X2_bestTaker_31 a0 x3 n) a0 x3 x4 x5 x6
      else
        mv_bd (mv_gR 2 4 0 (some a0)) fun v3 =>
        mv_bd (mv_aI v3 x6) fun v4 =>
        if x5 ≤ v4 then
          J_X2_bestTaker_75 (Lp_X2_bestTaker_31 a0 x3 n) a0 x3 x4 x5 x6
        else
          mv_bd (mv_gR 2 4 0 (some a0)) fun v5 =>
          mv_bd (mv_aI v5 x6) fun v6 =>
          J_X2_bestTaker_75 (Lp_X2_bestTaker_31 a0 x3 n) a0 x3 x6 v6 x6

set_option maxHeartbeats 4000000 in
set_option maxRecDepth 100000 in
theorem sLp_X2_bestTaker_31 (l : Launch) (N0 : Nat) (D : va_G) (dA : Nat → ClassId) (a0 : Nat) (x3 : Int32) : ∀ (n : Nat) (x4 : Int32) (x5 : Int32) (x6 : Int32), mv_Sim l N0 D dA RX2 cX2_bestTaker 7 3 77 (some .int) false mv_rI 31 [(0, mv_vr N0 (some a0)), (3, .int x3), (4, .int x4), (5, .int x5), (6, .int x6)] [] (Lp_X2_bestTaker_31 a0 x3 n x4 x5 x6) := by
  intro n
  induction n with
  | zero => intro x4 x5 x6; rw [Lp_X2_bestTaker_31]; exact mv_fl_sim
  | succ n ih =>
    intro x4 x5 x6
    rw [Lp_X2_bestTaker_31]
    refine mv_iload 4 dX2_bestTaker_31 rfl rfl ?_
    refine mv_aload_n 0 dX2_bestTaker_33 rfl rfl rfl ?_
    refine mv_getR fd_X2_0 lk_X2_9 dX2_bestTaker_34 rfl (fun v1 => ?_)
    refine mv_alen dX2_bestTaker_37 rfl (fun v2 => ?_)
    refine mv_icmp_ge (tgt := 81) dX2_bestTaker_38 rfl rfl ?_ ?_
    · refine mv_iload 2 dX2_bestTaker_81 rfl rfl ?_
      exact mv_iret dX2_bestTaker_83
    · refine mv_iload_n 1 dX2_bestTaker_41 rfl rfl rfl ?_
      refine mv_iconst (v := (1 : Int32)) dX2_bestTaker_42 (by decide) rfl ?_
      refine mv_iload 4 dX2_bestTaker_43 rfl rfl ?_
      refine mv_ishl dX2_bestTaker_45 rfl ?_
      refine mv_iand dX2_bestTaker_46 rfl ?_
      refine mv_if_eq (tgt := 75) dX2_bestTaker_47 rfl rfl ?_ ?_
      · refine mv_sub [0, 1, 2, 3, 4] rfl ?_
        exact sJ_X2_bestTaker_75 l N0 D dA a0 x3 x4 x5 x6 _ ih
      · refine mv_aload_n 0 dX2_bestTaker_50 rfl rfl rfl ?_
        refine mv_getR fd_X2_0 lk_X2_9 dX2_bestTaker_51 rfl (fun v3 => ?_)
        refine mv_iload 4 dX2_bestTaker_54 rfl rfl ?_
        refine mv_iald dX2_bestTaker_56 rfl (fun v4 => ?_)
        refine mv_iload 3 dX2_bestTaker_57 rfl rfl ?_
        refine mv_icmp_ge (tgt := 75) dX2_bestTaker_59 rfl rfl ?_ ?_
        · refine mv_sub [0, 1, 2, 3, 4] rfl ?_
          exact sJ_X2_bestTaker_75 l N0 D dA a0 x3 x4 x5 x6 _ ih
        · refine mv_aload_n 0 dX2_bestTaker_62 rfl rfl rfl ?_
          refine mv_getR fd_X2_0 lk_X2_9 dX2_bestTaker_63 rfl (fun v5 => ?_)
          refine mv_iload 4 dX2_bestTaker_66 rfl rfl ?_
          refine mv_iald dX2_bestTaker_68 rfl (fun v6 => ?_)
          refine mv_istore [0, 1, 2, 4] no_X2 dX2_bestTaker_69 (by decide) rfl rfl rfl ?_
          refine mv_iload 4 dX2_bestTaker_71 rfl rfl ?_
          refine mv_istore [0, 1, 2, 4] no_X2 dX2_bestTaker_73 (by decide) rfl rfl rfl ?_
          refine mv_sub [2, 3, 0, 1, 4] rfl ?_
          exact sJ_X2_bestTaker_75 l N0 D dA a0 x3 x6 v6 x6 _ ih

def F_X2_bestTaker (a0 : Nat) (a1 : Option Nat) (a2 : Option Nat) (a3 : Int32) : mv_M Int32 :=
  mv_bd (mv_gI 0 8 1 a2) fun v7 =>
  mv_bd (mv_gI 0 8 0 a2) fun v8 =>
  mv_bd (mv_gI 5 12 5 a1) fun v9 =>
  mv_bd (mv_rc 2 4 (some a0)) fun i10 => mv_bd (F_X2_lookBack i10 a1 v7 v8 v9) fun _ =>
  mv_bd (mv_rc 2 4 (some a0)) fun i12 => mv_bd (F_X2_ifStaying i12 a2) fun v11 =>
  Lp_X2_bestTaker_31 a0 a3 mv_FU ((-4) : Int32) v11 (0 : Int32)

set_option maxHeartbeats 4000000 in
set_option maxRecDepth 100000 in
theorem c_X2_bestTaker (l : Launch) (N0 : Nat) (D : va_G) (dA : Nat → ClassId) (a0 : Nat) (a1 : Option Nat) (a2 : Option Nat) (a3 : Int32) : mv_SimM l N0 D dA yX2_bestTaker cX2_bestTaker 7 (some .int) 3 77 mv_rI [.ref (N0 + a0), mv_vr N0 a1, mv_vr N0 a2, .int a3] (F_X2_bestTaker a0 a1 a2 a3) := by
  refine mv_SimM_of (L0 := [(0, mv_vr N0 (some a0)), (1, mv_vr N0 a1), (2, mv_vr N0 a2), (3, .int a3)]) false (by decide +kernel) (by cases a1 <;> cases a2 <;> exact Nat.le_of_ble_eq_true rfl) (by cases a1 <;> cases a2 <;> rfl) (List.forall_mem_cons.mpr ⟨mv_cat N0 (some a0), List.forall_mem_cons.mpr ⟨mv_cat N0 a1, List.forall_mem_cons.mpr ⟨mv_cat N0 a2, List.forall_mem_cons.mpr ⟨rfl, fun _ h => absurd h List.not_mem_nil⟩⟩⟩⟩) (fun z => by cases z) ?_
  unfold F_X2_bestTaker
  show mv_Sim l N0 D dA RX2 cX2_bestTaker 7 3 77 (some .int) false mv_rI 0 _ _ _
  refine mv_aload_n 0 dX2_bestTaker_0 rfl rfl rfl ?_
  refine mv_aload_n 1 dX2_bestTaker_1 rfl rfl rfl ?_
  refine mv_aload_n 2 dX2_bestTaker_2 rfl rfl rfl ?_
  refine mv_getI fd_X0_1 lk_X2_29 dX2_bestTaker_3 rfl (fun v7 => ?_)
  refine mv_aload_n 2 dX2_bestTaker_6 rfl rfl rfl ?_
  refine mv_getI fd_X0_0 lk_X2_32 dX2_bestTaker_7 rfl (fun v8 => ?_)
  refine mv_aload_n 1 dX2_bestTaker_10 rfl rfl rfl ?_
  refine mv_getI fd_X5_5 lk_X2_35 dX2_bestTaker_11 rfl (fun v9 => ?_)
  refine mv_callVv (st := []) [mv_vr N0 a1, .int v7, .int v8, .int v9] (fun i10 => c_X2_lookBack l N0 D dA i10 a1 v7 v8 v9) (T := TX2) rfl (by decide) wc_X2_15 ⟨by decide, by decide⟩ rfl (mv_cs (Nat.le_of_ble_eq_true rfl) (fun _ h => absurd h List.not_mem_nil)) dX2_bestTaker_14 rfl ?_
  refine mv_bipush (v := ((-4) : Int32)) dX2_bestTaker_17 (by decide) rfl ?_
  refine mv_istore [0, 1, 2, 3] no_X2 dX2_bestTaker_19 (by decide) rfl rfl rfl ?_
  refine mv_aload_n 1 dX2_bestTaker_21 rfl rfl rfl ?_
  refine mv_aload_n 3 dX2_bestTaker_22 rfl rfl rfl ?_
  refine mv_callVi (st := []) [mv_vr N0 a2] (fun i12 => c_X2_ifStaying l N0 D dA i12 a2) (T := TX2) rfl (by decide) wc_X2_40 ⟨by decide, by decide⟩ rfl (mv_cs (Nat.le_of_ble_eq_true rfl) (fun _ h => absurd h List.not_mem_nil)) dX2_bestTaker_23 rfl (fun v11 => ?_)
  refine mv_istore [0, 1, 2, 3, 4] no_X2 dX2_bestTaker_26 (by decide) rfl rfl rfl ?_
  refine mv_iconst (v := (0 : Int32)) dX2_bestTaker_28 (by decide) rfl ?_
  refine mv_istore [0, 1, 2, 3, 4, 5] no_X2 dX2_bestTaker_29 (by decide) rfl rfl rfl ?_
  refine mv_sub [3, 6, 2, 1, 0] rfl ?_
  exact sLp_X2_bestTaker_31 l N0 D dA a0 a3 mv_FU ((-4) : Int32) v11 (0 : Int32)

def J_X5_changeHands_108 (a0 : Nat) : mv_M Unit :=
  mv_pu ()

set_option maxHeartbeats 4000000 in
set_option maxRecDepth 100000 in
theorem sJ_X5_changeHands_108 (l : Launch) (N0 : Nat) (D : va_G) (dA : Nat → ClassId) (a0 : Nat) : mv_Sim l N0 D dA RX5 cX5_changeHands 4 1 22 none false mv_rV 108 [(0, mv_vr N0 (some a0))] [] (J_X5_changeHands_108 a0) := by
  unfold J_X5_changeHands_108
  exact mv_vret dX5_changeHands_108

def F_X5_changeHands (a0 : Nat) (a1 : Option Nat) (a2 : Int32) : mv_M Unit :=
  mv_bd (mv_rc 5 12 (some a0)) fun i2 => mv_bd (F_X5_carrierAt i2 a2) fun v1 =>
  if v1 = none then
    mv_pu ()
  else
    mv_bd (mv_sI 0 8 1 a1 ((-4) : Int32)) fun _ =>
    mv_bd (mv_sI 0 8 2 a1 a2) fun _ =>
    mv_bd (mv_gI 0 8 6 a1) fun v3 =>
    mv_bd (mv_sI 0 8 6 a1 (v3 + (1 : Int32))) fun _ =>
    mv_bd (mv_gI 1 6 4 v1) fun v4 =>
    mv_bd (mv_sI 1 6 4 v1 (v4 + (1 : Int32))) fun _ =>
    mv_bd (mv_gI 5 12 11 (some a0)) fun v5 =>
    mv_bd (mv_sI 5 12 11 (some a0) (v5 + (1 : Int32))) fun _ =>
    mv_bd (mv_gI 5 12 7 (some a0)) fun v6 =>
    mv_bd (mv_rm (((421 : Int32) * v6) + (1663 : Int32)) (10000 : Int32)) fun v7 =>
    mv_bd (mv_sI 5 12 7 (some a0) v7) fun _ =>
    mv_bd (mv_gI 5 12 7 (some a0)) fun v8 =>
    mv_bd (mv_rm v8 (10 : Int32)) fun v9 =>
    mv_bd (mv_gI 1 6 2 v1) fun v10 =>
    if v10 ≤ v9 then
      J_X5_changeHands_108 a0
    else
      mv_bd (mv_gI 0 8 5 a1) fun v11 =>
      if v11 = 0 then
        mv_bd (mv_sZ 0 8 5 a1 (1 : Int32)) fun _ =>
        mv_bd (mv_gI 1 6 5 v1) fun v12 =>
        mv_bd (mv_sI 1 6 5 v1 (v12 + (1 : Int32))) fun _ =>
        J_X5_changeHands_108 a0
      else
        J_X5_changeHands_108 a0

set_option maxHeartbeats 4000000 in
set_option maxRecDepth 100000 in
theorem c_X5_changeHands (l : Launch) (N0 : Nat) (D : va_G) (dA : Nat → ClassId) (a0 : Nat) (a1 : Option Nat) (a2 : Int32) : mv_SimM l N0 D dA yX5_changeHands cX5_changeHands 4 none 1 22 mv_rV [.ref (N0 + a0), mv_vr N0 a1, .int a2] (F_X5_changeHands a0 a1 a2) := by
  refine mv_SimM_of (L0 := [(0, mv_vr N0 (some a0)), (1, mv_vr N0 a1), (2, .int a2)]) false (by decide +kernel) (by cases a1 <;> exact Nat.le_of_ble_eq_true rfl) (by cases a1 <;> rfl) (List.forall_mem_cons.mpr ⟨mv_cat N0 (some a0), List.forall_mem_cons.mpr ⟨mv_cat N0 a1, List.forall_mem_cons.mpr ⟨rfl, fun _ h => absurd h List.not_mem_nil⟩⟩⟩) (fun z => by cases z) ?_
  unfold F_X5_changeHands
  show mv_Sim l N0 D dA RX5 cX5_changeHands 4 1 22 none false mv_rV 0 _ _ _
  refine mv_aload_n 0 dX5_changeHands_0 rfl rfl rfl ?_
  refine mv_iload_n 2 dX5_changeHands_1 rfl rfl rfl ?_
  refine mv_callVr (st := []) [.int a2] (fun i2 => c_X5_carrierAt l N0 D dA i2 a2) (T := TX5) rfl (by decide) wc_X5_42 ⟨by decide, by decide⟩ rfl (mv_cs (Nat.le_of_ble_eq_true rfl) (fun _ h => absurd h List.not_mem_nil)) dX5_changeHands_2 rfl (fun v1 => ?_)
  refine mv_astore_n [0, 1, 2] no_X5 dX5_changeHands_5 rfl (by decide) rfl rfl rfl ?_
  refine mv_aload_n 0 dX5_changeHands_6 rfl rfl rfl ?_
  refine mv_ifnonnull (tgt := 11) dX5_changeHands_7 rfl rfl ?_ ?_
  · refine mv_aload_n 2 dX5_changeHands_11 rfl rfl rfl ?_
    refine mv_bipush (v := ((-4) : Int32)) dX5_changeHands_12 (by decide) rfl ?_
    refine mv_putI fd_X0_1 rfl (tyX0_ok 1 (by decide)) lk_X5_106 dX5_changeHands_14 rfl ?_
    refine mv_aload_n 2 dX5_changeHands_17 rfl rfl rfl ?_
    refine mv_iload_n 3 dX5_changeHands_18 rfl rfl rfl ?_
    refine mv_putI fd_X0_2 rfl (tyX0_ok 2 (by decide)) lk_X5_99 dX5_changeHands_19 rfl ?_
    refine mv_aload_n 2 dX5_changeHands_22 rfl rfl rfl ?_
    refine mv_dup dX5_changeHands_23 (mv_cat N0 a1) rfl ?_
    refine mv_getI fd_X0_6 lk_X5_147 dX5_changeHands_24 rfl (fun v3 => ?_)
    refine mv_iconst (v := (1 : Int32)) dX5_changeHands_27 (by decide) rfl ?_
    refine mv_iadd dX5_changeHands_28 rfl ?_
    refine mv_putI fd_X0_6 rfl (tyX0_ok 6 (by decide)) lk_X5_147 dX5_changeHands_29 rfl ?_
    refine mv_aload_n 0 dX5_changeHands_32 rfl rfl rfl ?_
    refine mv_dup dX5_changeHands_33 (mv_cat N0 v1) rfl ?_
    refine mv_getI fd_X1_4 lk_X5_148 dX5_changeHands_34 rfl (fun v4 => ?_)
    refine mv_iconst (v := (1 : Int32)) dX5_changeHands_37 (by decide) rfl ?_
    refine mv_iadd dX5_changeHands_38 rfl ?_
    refine mv_putI fd_X1_4 rfl (tyX1_ok 4 (by decide)) lk_X5_148 dX5_changeHands_39 rfl ?_
    refine mv_aload_n 1 dX5_changeHands_42 rfl rfl rfl ?_
    refine mv_dup dX5_changeHands_43 (mv_cat N0 (some a0)) rfl ?_
    refine mv_getI fd_X5_11 lk_X5_70 dX5_changeHands_44 rfl (fun v5 => ?_)
    refine mv_iconst (v := (1 : Int32)) dX5_changeHands_47 (by decide) rfl ?_
    refine mv_iadd dX5_changeHands_48 rfl ?_
    refine mv_putI fd_X5_11 rfl (tyX5_ok 11 (by decide)) lk_X5_70 dX5_changeHands_49 rfl ?_
    refine mv_aload_n 1 dX5_changeHands_52 rfl rfl rfl ?_
    refine mv_sipush (v := (421 : Int32)) dX5_changeHands_53 (by decide) rfl ?_
    refine mv_aload_n 1 dX5_changeHands_56 rfl rfl rfl ?_
    refine mv_getI fd_X5_7 lk_X5_31 dX5_changeHands_57 rfl (fun v6 => ?_)
    refine mv_imul dX5_changeHands_60 rfl ?_
    refine mv_sipush (v := (1663 : Int32)) dX5_changeHands_61 (by decide) rfl ?_
    refine mv_iadd dX5_changeHands_64 rfl ?_
    refine mv_sipush (v := (10000 : Int32)) dX5_changeHands_65 (by decide) rfl ?_
    refine mv_irem dX5_changeHands_68 rfl (fun v7 => ?_)
    refine mv_putI fd_X5_7 rfl (tyX5_ok 7 (by decide)) lk_X5_31 dX5_changeHands_69 rfl ?_
    refine mv_aload_n 1 dX5_changeHands_72 rfl rfl rfl ?_
    refine mv_getI fd_X5_7 lk_X5_31 dX5_changeHands_73 rfl (fun v8 => ?_)
    refine mv_bipush (v := (10 : Int32)) dX5_changeHands_76 (by decide) rfl ?_
    refine mv_irem dX5_changeHands_78 rfl (fun v9 => ?_)
    refine mv_aload_n 0 dX5_changeHands_79 rfl rfl rfl ?_
    refine mv_getI fd_X1_2 lk_X5_149 dX5_changeHands_80 rfl (fun v10 => ?_)
    refine mv_icmp_ge (tgt := 108) dX5_changeHands_83 rfl rfl ?_ ?_
    · refine mv_sub [1] rfl ?_
      exact sJ_X5_changeHands_108 l N0 D dA a0
    · refine mv_aload_n 2 dX5_changeHands_86 rfl rfl rfl ?_
      refine mv_getI fd_X0_5 lk_X5_112 dX5_changeHands_87 rfl (fun v11 => ?_)
      refine mv_if_ne (tgt := 108) dX5_changeHands_90 rfl rfl ?_ ?_
      · refine mv_sub [1] rfl ?_
        exact sJ_X5_changeHands_108 l N0 D dA a0
      · refine mv_aload_n 2 dX5_changeHands_93 rfl rfl rfl ?_
        refine mv_iconst (v := (1 : Int32)) dX5_changeHands_94 (by decide) rfl ?_
        refine mv_putZ fd_X0_5 rfl (tyX0_ok 5 (by decide)) lk_X5_112 dX5_changeHands_95 rfl ?_
        refine mv_aload_n 0 dX5_changeHands_98 rfl rfl rfl ?_
        refine mv_dup dX5_changeHands_99 (mv_cat N0 v1) rfl ?_
        refine mv_getI fd_X1_5 lk_X5_152 dX5_changeHands_100 rfl (fun v12 => ?_)
        refine mv_iconst (v := (1 : Int32)) dX5_changeHands_103 (by decide) rfl ?_
        refine mv_iadd dX5_changeHands_104 rfl ?_
        refine mv_putI fd_X1_5 rfl (tyX1_ok 5 (by decide)) lk_X5_152 dX5_changeHands_105 rfl ?_
        refine mv_sub [1] rfl ?_
        exact sJ_X5_changeHands_108 l N0 D dA a0
  · exact mv_vret dX5_changeHands_10

def J_X5_carriersIn_32 (k5 : Int32 → Int32 → mv_M Int32) (a0 : Nat) (x1 : Int32) (x2 : Int32) (x3 : Int32) (x4 : Int32) : mv_M Int32 :=
  k5 x3 (x4 + (1 : Int32))

set_option maxHeartbeats 4000000 in
set_option maxRecDepth 100000 in
theorem sJ_X5_carriersIn_32 (l : Launch) (N0 : Nat) (D : va_G) (dA : Nat → ClassId) (a0 : Nat) (x1 : Int32) (x2 : Int32) (x3 : Int32) (x4 : Int32) (k5 : Int32 → Int32 → mv_M Int32) (hk5 : ∀ (y3 : Int32) (y4 : Int32), mv_Sim l N0 D dA RX5 cX5_carriersIn 5 1 24 (some .int) false mv_rI 5 [(0, mv_vr N0 (some a0)), (1, .int x1), (2, .int x2), (3, .int y3), (4, .int y4)] [] (k5 y3 y4)) : mv_Sim l N0 D dA RX5 cX5_carriersIn 5 1 24 (some .int) false mv_rI 32 [(0, mv_vr N0 (some a0)), (1, .int x1), (2, .int x2), (3, .int x3), (4, .int x4)] [] (J_X5_carriersIn_32 k5 a0 x1 x2 x3 x4) := by
  unfold J_X5_carriersIn_32
  refine mv_iinc (y := (x4 + (1 : Int32))) 4 [0, 1, 2, 3] no_X5 dX5_carriersIn_32 rfl rfl (by decide) rfl rfl rfl ?_
  refine mv_goto (q := 5) dX5_carriersIn_35 rfl ?_
  refine mv_sub [1, 2, 3, 4, 0] rfl ?_
  exact hk5 x3 (x4 + (1 : Int32))

def Lp_X5_carriersIn_5 (a0 : Nat) (x1 : Int32) (x2 : Int32) : Nat → Int32 → Int32 → mv_M Int32
  | 0, _, _ => mv_fl
  | n + 1, x3, x4 =>
    mv_bd (mv_gI 5 12 3 (some a0)) fun v1 =>
    if v1 ≤ x4 then
      mv_pu x3
    else
      mv_bd (mv_rc 5 12 (some a0)) fun i3 => mv_bd (F_X5_townOf i3 x4 x2) fun v2 =>
      if v2 = x1 then
        mv_bd (mv_pu (x3 ||| ((1 : Int32) <<< (x4 &&& 31)))) fun v4 =>
        J_X5_carriersIn_32 (Lp_X5_carriersIn_5 a0 x1 x2 n) a0 x1 x2 v4 x4
      else
        J_X5_carriersIn_32 (Lp_X5_carriersIn_5 a0 x1 x2 n) a0 x1 x2 x3 x4

set_option maxHeartbeats 4000000 in
set_option maxRecDepth 100000 in
theorem sLp_X5_carriersIn_5 (l : Launch) (N0 : Nat) (D : va_G) (dA : Nat → ClassId) (a0 : Nat) (x1 : Int32) (x2 : Int32) : ∀ (n : Nat) (x3 : Int32) (x4 : Int32), mv_Sim l N0 D dA RX5 cX5_carriersIn 5 1 24 (some .int) false mv_rI 5 [(0, mv_vr N0 (some a0)), (1, .int x1), (2, .int x2), (3, .int x3), (4, .int x4)] [] (Lp_X5_carriersIn_5 a0 x1 x2 n x3 x4) := by
  intro n
  induction n with
  | zero => intro x3 x4; rw [Lp_X5_carriersIn_5]; exact mv_fl_sim
  | succ n ih =>
    intro x3 x4
    rw [Lp_X5_carriersIn_5]
    refine mv_iload 4 dX5_carriersIn_5 rfl rfl ?_
    refine mv_aload_n 0 dX5_carriersIn_7 rfl rfl rfl ?_
    refine mv_getI fd_X5_3 lk_X5_36 dX5_carriersIn_8 rfl (fun v1 => ?_)
    refine mv_icmp_ge (tgt := 38) dX5_carriersIn_11 rfl rfl ?_ ?_
    · refine mv_iload_n 3 dX5_carriersIn_38 rfl rfl rfl ?_
      exact mv_iret dX5_carriersIn_39
    · refine mv_aload_n 0 dX5_carriersIn_14 rfl rfl rfl ?_
      refine mv_iload 4 dX5_carriersIn_15 rfl rfl ?_
      refine mv_iload_n 2 dX5_carriersIn_17 rfl rfl rfl ?_
      refine mv_callVi (st := []) [.int x4, .int x2] (fun i3 => c_X5_townOf l N0 D dA i3 x4 x2) (T := TX5) rfl (by decide) wc_X5_95 ⟨by decide, by decide⟩ rfl (mv_cs (Nat.le_of_ble_eq_true rfl) (fun _ h => absurd h List.not_mem_nil)) dX5_carriersIn_18 rfl (fun v2 => ?_)
      refine mv_iload_n 1 dX5_carriersIn_21 rfl rfl rfl ?_
      refine mv_icmp_ne (tgt := 32) dX5_carriersIn_22 rfl rfl ?_ ?_
      · refine mv_sub [0, 1, 2, 3, 4] rfl ?_
        exact sJ_X5_carriersIn_32 l N0 D dA a0 x1 x2 x3 x4 _ ih
      · refine mv_iload_n 3 dX5_carriersIn_25 rfl rfl rfl ?_
        refine mv_iconst (v := (1 : Int32)) dX5_carriersIn_26 (by decide) rfl ?_
        refine mv_iload 4 dX5_carriersIn_27 rfl rfl ?_
        refine mv_ishl dX5_carriersIn_29 rfl ?_
        refine mv_ior dX5_carriersIn_30 rfl ?_
        refine mv_let (fun v4 => ?_)
        refine mv_istore_n [0, 1, 2, 4] no_X5 dX5_carriersIn_31 rfl (by decide) rfl rfl rfl ?_
        refine mv_sub [1, 2, 3, 0, 4] rfl ?_
        exact sJ_X5_carriersIn_32 l N0 D dA a0 x1 x2 v4 x4 _ ih

def F_X5_carriersIn (a0 : Nat) (a1 : Int32) (a2 : Int32) : mv_M Int32 :=
  Lp_X5_carriersIn_5 a0 a1 a2 mv_FU (0 : Int32) (0 : Int32)

set_option maxHeartbeats 4000000 in
set_option maxRecDepth 100000 in
theorem c_X5_carriersIn (l : Launch) (N0 : Nat) (D : va_G) (dA : Nat → ClassId) (a0 : Nat) (a1 : Int32) (a2 : Int32) : mv_SimM l N0 D dA yX5_carriersIn cX5_carriersIn 5 (some .int) 1 24 mv_rI [.ref (N0 + a0), .int a1, .int a2] (F_X5_carriersIn a0 a1 a2) := by
  refine mv_SimM_of (L0 := [(0, mv_vr N0 (some a0)), (1, .int a1), (2, .int a2)]) false (by decide +kernel) (Nat.le_of_ble_eq_true rfl) rfl (List.forall_mem_cons.mpr ⟨mv_cat N0 (some a0), List.forall_mem_cons.mpr ⟨rfl, List.forall_mem_cons.mpr ⟨rfl, fun _ h => absurd h List.not_mem_nil⟩⟩⟩) (fun z => by cases z) ?_
  unfold F_X5_carriersIn
  show mv_Sim l N0 D dA RX5 cX5_carriersIn 5 1 24 (some .int) false mv_rI 0 _ _ _
  refine mv_iconst (v := (0 : Int32)) dX5_carriersIn_0 (by decide) rfl ?_
  refine mv_istore_n [0, 1, 2] no_X5 dX5_carriersIn_1 rfl (by decide) rfl rfl rfl ?_
  refine mv_iconst (v := (0 : Int32)) dX5_carriersIn_2 (by decide) rfl ?_
  refine mv_istore [0, 1, 2, 3] no_X5 dX5_carriersIn_3 (by decide) rfl rfl rfl ?_
  refine mv_sub [2, 3, 4, 1, 0] rfl ?_
  exact sLp_X5_carriersIn_5 l N0 D dA a0 a1 a2 mv_FU (0 : Int32) (0 : Int32)

def J_X5_takersOf_101 (k65 : Int32 → Int32 → mv_M Int32) (a0 : Nat) (x1 : Option Nat) (x3 : Int32) (x4 : Int32) : mv_M Int32 :=
  k65 x3 (x4 + (1 : Int32))

set_option maxHeartbeats 4000000 in
set_option maxRecDepth 100000 in
theorem sJ_X5_takersOf_101 (l : Launch) (N0 : Nat) (D : va_G) (dA : Nat → ClassId) (a0 : Nat) (x1 : Option Nat) (x3 : Int32) (x4 : Int32) (k65 : Int32 → Int32 → mv_M Int32) (hk65 : ∀ (y3 : Int32) (y4 : Int32), mv_Sim l N0 D dA RX5 cX5_takersOf 5 3 67 (some .int) false mv_rI 65 [(0, mv_vr N0 (some a0)), (1, mv_vr N0 x1), (3, .int y3), (4, .int y4)] [] (k65 y3 y4)) : mv_Sim l N0 D dA RX5 cX5_takersOf 5 3 67 (some .int) false mv_rI 101 [(0, mv_vr N0 (some a0)), (1, mv_vr N0 x1), (3, .int x3), (4, .int x4)] [] (J_X5_takersOf_101 k65 a0 x1 x3 x4) := by
  unfold J_X5_takersOf_101
  refine mv_iinc (y := (x4 + (1 : Int32))) 3 [0, 1, 2] no_X5 dX5_takersOf_101 rfl rfl (by decide) rfl rfl rfl ?_
  refine mv_goto (q := 65) dX5_takersOf_104 rfl ?_
  refine mv_sub [1, 2, 3, 0] rfl ?_
  exact hk65 x3 (x4 + (1 : Int32))

def J_X5_takersOf_92 (k65 : Int32 → Int32 → mv_M Int32) (a0 : Nat) (x1 : Option Nat) (x3 : Int32) (x4 : Int32) : mv_M Int32 :=
  mv_bd (mv_pu (x3 &&& (((1 : Int32) <<< (x4 &&& 31)) ^^^ ((-1) : Int32)))) fun v1 =>
  J_X5_takersOf_101 k65 a0 x1 v1 x4

set_option maxHeartbeats 4000000 in
set_option maxRecDepth 100000 in
theorem sJ_X5_takersOf_92 (l : Launch) (N0 : Nat) (D : va_G) (dA : Nat → ClassId) (a0 : Nat) (x1 : Option Nat) (x3 : Int32) (x4 : Int32) (k65 : Int32 → Int32 → mv_M Int32) (hk65 : ∀ (y3 : Int32) (y4 : Int32), mv_Sim l N0 D dA RX5 cX5_takersOf 5 3 67 (some .int) false mv_rI 65 [(0, mv_vr N0 (some a0)), (1, mv_vr N0 x1), (3, .int y3), (4, .int y4)] [] (k65 y3 y4)) : mv_Sim l N0 D dA RX5 cX5_takersOf 5 3 67 (some .int) false mv_rI 92 [(0, mv_vr N0 (some a0)), (1, mv_vr N0 x1), (3, .int x3), (4, .int x4)] [] (J_X5_takersOf_92 k65 a0 x1 x3 x4) := by
  unfold J_X5_takersOf_92
  refine mv_iload_n 2 dX5_takersOf_92 rfl rfl rfl ?_
  refine mv_iconst (v := (1 : Int32)) dX5_takersOf_93 (by decide) rfl ?_
  refine mv_iload 3 dX5_takersOf_94 rfl rfl ?_
  refine mv_ishl dX5_takersOf_96 rfl ?_
  refine mv_iconst (v := ((-1) : Int32)) dX5_takersOf_97 (by decide) rfl ?_
  refine mv_ixor dX5_takersOf_98 rfl ?_
  refine mv_iand dX5_takersOf_99 rfl ?_
  refine mv_let (fun v1 => ?_)
  refine mv_istore_n [0, 1, 3] no_X5 dX5_takersOf_100 rfl (by decide) rfl rfl rfl ?_
  refine mv_sub [1, 2, 0, 3] rfl ?_
  exact sJ_X5_takersOf_101 l N0 D dA a0 x1 v1 x4 _ hk65

def Lp_X5_takersOf_65 (a0 : Nat) (x1 : Option Nat) : Nat → Int32 → Int32 → mv_M Int32
  | 0, _, _ => mv_fl
  | n + 1, x3, x4 =>
    mv_bd (mv_gI 5 12 3 (some a0)) fun v2 =>
    if v2 ≤ x4 then
      mv_pu x3
    else
      mv_bd (mv_gI 0 8 2 x1) fun v3 =>
      if x4 = v3 then
        J_X5_takersOf_92 (Lp_X5_takersOf_65 a0 x1 n) a0 x1 x3 x4
      else
        mv_bd (mv_rc 5 12 (some a0)) fun i5 => mv_bd (F_X5_isFull i5 x4) fun v4 =>
        if v4 = 0 then
          J_X5_takersOf_101 (Lp_X5_takersOf_65 a0 x1 n) a0 x1 x3 x4
        else
          J_X5_takersOf_92 (Lp_X5_takersOf_65 a0 x1 n) a0 x1 x3 x4

set_option maxHeartbeats 4000000 in
set_option maxRecDepth 100000 in
theorem sLp_X5_takersOf_65 (l : Launch) (N0 : Nat) (D : va_G) (dA : Nat → ClassId) (a0 : Nat) (x1 : Option Nat) : ∀ (n : Nat) (x3 : Int32) (x4 : Int32), mv_Sim l N0 D dA RX5 cX5_takersOf 5 3 67 (some .int) false mv_rI 65 [(0, mv_vr N0 (some a0)), (1, mv_vr N0 x1), (3, .int x3), (4, .int x4)] [] (Lp_X5_takersOf_65 a0 x1 n x3 x4) := by
  intro n
  induction n with
  | zero => intro x3 x4; rw [Lp_X5_takersOf_65]; exact mv_fl_sim
  | succ n ih =>
    intro x3 x4
    rw [Lp_X5_takersOf_65]
    refine mv_iload 3 dX5_takersOf_65 rfl rfl ?_
    refine mv_aload_n 0 dX5_takersOf_67 rfl rfl rfl ?_
    refine mv_getI fd_X5_3 lk_X5_36 dX5_takersOf_68 rfl (fun v2 => ?_)
    refine mv_icmp_ge (tgt := 107) dX5_takersOf_71 rfl rfl ?_ ?_
    · refine mv_iload_n 2 dX5_takersOf_107 rfl rfl rfl ?_
      exact mv_iret dX5_takersOf_108
    · refine mv_iload 3 dX5_takersOf_74 rfl rfl ?_
      refine mv_aload_n 1 dX5_takersOf_76 rfl rfl rfl ?_
      refine mv_getI fd_X0_2 lk_X5_99 dX5_takersOf_77 rfl (fun v3 => ?_)
      refine mv_icmp_eq (tgt := 92) dX5_takersOf_80 rfl rfl ?_ ?_
      · refine mv_sub [0, 1, 2, 3] rfl ?_
        exact sJ_X5_takersOf_92 l N0 D dA a0 x1 x3 x4 _ ih
      · refine mv_aload_n 0 dX5_takersOf_83 rfl rfl rfl ?_
        refine mv_iload 3 dX5_takersOf_84 rfl rfl ?_
        refine mv_callVi (st := []) [.int x4] (fun i5 => c_X5_isFull l N0 D dA i5 x4) (T := TX5) rfl (by decide) wc_X5_143 ⟨by decide, by decide⟩ rfl (mv_cs (Nat.le_of_ble_eq_true rfl) (fun _ h => absurd h List.not_mem_nil)) dX5_takersOf_86 rfl (fun v4 => ?_)
        refine mv_if_eq (tgt := 101) dX5_takersOf_89 rfl rfl ?_ ?_
        · refine mv_sub [0, 1, 2, 3] rfl ?_
          exact sJ_X5_takersOf_101 l N0 D dA a0 x1 x3 x4 _ ih
        · refine mv_sub [0, 1, 2, 3] rfl ?_
          exact sJ_X5_takersOf_92 l N0 D dA a0 x1 x3 x4 _ ih

def J_X5_takersOf_52 (a0 : Nat) (x1 : Option Nat) (x2 : Int32) : mv_M Int32 :=
  mv_bd (mv_gI 5 12 5 (some a0)) fun v6 =>
  mv_bd (mv_rc 5 12 (some a0)) fun i8 => mv_bd (F_X5_carriersIn i8 x2 v6) fun v7 =>
  Lp_X5_takersOf_65 a0 x1 mv_FU v7 (0 : Int32)

set_option maxHeartbeats 4000000 in
set_option maxRecDepth 100000 in
theorem sJ_X5_takersOf_52 (l : Launch) (N0 : Nat) (D : va_G) (dA : Nat → ClassId) (a0 : Nat) (x1 : Option Nat) (x2 : Int32) : mv_Sim l N0 D dA RX5 cX5_takersOf 5 3 67 (some .int) false mv_rI 52 [(0, mv_vr N0 (some a0)), (1, mv_vr N0 x1), (2, .int x2)] [] (J_X5_takersOf_52 a0 x1 x2) := by
  unfold J_X5_takersOf_52
  refine mv_aload_n 0 dX5_takersOf_52 rfl rfl rfl ?_
  refine mv_iload_n 2 dX5_takersOf_53 rfl rfl rfl ?_
  refine mv_aload_n 0 dX5_takersOf_54 rfl rfl rfl ?_
  refine mv_getI fd_X5_5 lk_X5_58 dX5_takersOf_55 rfl (fun v6 => ?_)
  refine mv_callVi (st := []) [.int x2, .int v6] (fun i8 => c_X5_carriersIn l N0 D dA i8 x2 v6) (T := TX5) rfl (by decide) wc_X5_140 ⟨by decide, by decide⟩ rfl (mv_cs (Nat.le_of_ble_eq_true rfl) (fun _ h => absurd h List.not_mem_nil)) dX5_takersOf_58 rfl (fun v7 => ?_)
  refine mv_istore_n [0, 1, 2] no_X5 dX5_takersOf_61 rfl (by decide) rfl rfl rfl ?_
  refine mv_iconst (v := (0 : Int32)) dX5_takersOf_62 (by decide) rfl ?_
  refine mv_istore [0, 1, 2, 3] no_X5 dX5_takersOf_63 (by decide) rfl rfl rfl ?_
  refine mv_sub [2, 3, 1, 0] rfl ?_
  exact sLp_X5_takersOf_65 l N0 D dA a0 x1 mv_FU v7 (0 : Int32)

def J_X5_takersOf_24 (a0 : Nat) (x1 : Option Nat) (s0 : Int32) : mv_M Int32 :=
  mv_bd (mv_gI 0 8 2 x1) fun v9 =>
  if v9 = ((-4) : Int32) then
    J_X5_takersOf_52 a0 x1 s0
  else
    mv_bd (mv_gI 0 8 2 x1) fun v10 =>
    mv_bd (mv_gI 5 12 5 (some a0)) fun v11 =>
    mv_bd (mv_rc 5 12 (some a0)) fun i13 => mv_bd (F_X5_townOf i13 v10 v11) fun v12 =>
    if v12 = s0 then
      J_X5_takersOf_52 a0 x1 s0
    else
      mv_pu (0 : Int32)

set_option maxHeartbeats 4000000 in
set_option maxRecDepth 100000 in
theorem sJ_X5_takersOf_24 (l : Launch) (N0 : Nat) (D : va_G) (dA : Nat → ClassId) (a0 : Nat) (x1 : Option Nat) (s0 : Int32) : mv_Sim l N0 D dA RX5 cX5_takersOf 5 3 67 (some .int) false mv_rI 24 [(0, mv_vr N0 (some a0)), (1, mv_vr N0 x1)] [.int s0] (J_X5_takersOf_24 a0 x1 s0) := by
  unfold J_X5_takersOf_24
  refine mv_istore_n [0, 1] no_X5 dX5_takersOf_24 rfl (by decide) rfl rfl rfl ?_
  refine mv_aload_n 2 dX5_takersOf_25 rfl rfl rfl ?_
  refine mv_getI fd_X0_2 lk_X5_99 dX5_takersOf_26 rfl (fun v9 => ?_)
  refine mv_bipush (v := ((-4) : Int32)) dX5_takersOf_29 (by decide) rfl ?_
  refine mv_icmp_eq (tgt := 52) dX5_takersOf_31 rfl rfl ?_ ?_
  · refine mv_sub [1, 2, 0] rfl ?_
    exact sJ_X5_takersOf_52 l N0 D dA a0 x1 s0
  · refine mv_aload_n 1 dX5_takersOf_34 rfl rfl rfl ?_
    refine mv_aload_n 2 dX5_takersOf_35 rfl rfl rfl ?_
    refine mv_getI fd_X0_2 lk_X5_99 dX5_takersOf_36 rfl (fun v10 => ?_)
    refine mv_aload_n 1 dX5_takersOf_39 rfl rfl rfl ?_
    refine mv_getI fd_X5_5 lk_X5_58 dX5_takersOf_40 rfl (fun v11 => ?_)
    refine mv_callVi (st := []) [.int v10, .int v11] (fun i13 => c_X5_townOf l N0 D dA i13 v10 v11) (T := TX5) rfl (by decide) wc_X5_95 ⟨by decide, by decide⟩ rfl (mv_cs (Nat.le_of_ble_eq_true rfl) (fun _ h => absurd h List.not_mem_nil)) dX5_takersOf_43 rfl (fun v12 => ?_)
    refine mv_iload_n 0 dX5_takersOf_46 rfl rfl rfl ?_
    refine mv_icmp_eq (tgt := 52) dX5_takersOf_47 rfl rfl ?_ ?_
    · refine mv_sub [1, 2, 0] rfl ?_
      exact sJ_X5_takersOf_52 l N0 D dA a0 x1 s0
    · refine mv_iconst (v := (0 : Int32)) dX5_takersOf_50 (by decide) rfl ?_
      exact mv_iret dX5_takersOf_51

def F_X5_takersOf (a0 : Nat) (a1 : Option Nat) : mv_M Int32 :=
  mv_bd (mv_gI 0 8 1 a1) fun v14 =>
  if v14 = ((-4) : Int32) then
    mv_bd (mv_gI 5 12 5 (some a0)) fun v15 =>
    mv_bd (mv_rc 5 12 (some a0)) fun i17 => mv_bd (F_X5_stallOn i17 v15) fun v16 =>
    J_X5_takersOf_24 a0 a1 v16
  else
    mv_bd (mv_gI 0 8 1 a1) fun v18 =>
    J_X5_takersOf_24 a0 a1 v18

set_option maxHeartbeats 4000000 in
set_option maxRecDepth 100000 in
theorem c_X5_takersOf (l : Launch) (N0 : Nat) (D : va_G) (dA : Nat → ClassId) (a0 : Nat) (a1 : Option Nat) : mv_SimM l N0 D dA yX5_takersOf cX5_takersOf 5 (some .int) 3 67 mv_rI [.ref (N0 + a0), mv_vr N0 a1] (F_X5_takersOf a0 a1) := by
  refine mv_SimM_of (L0 := [(0, mv_vr N0 (some a0)), (1, mv_vr N0 a1)]) false (by decide +kernel) (by cases a1 <;> exact Nat.le_of_ble_eq_true rfl) (by cases a1 <;> rfl) (List.forall_mem_cons.mpr ⟨mv_cat N0 (some a0), List.forall_mem_cons.mpr ⟨mv_cat N0 a1, fun _ h => absurd h List.not_mem_nil⟩⟩) (fun z => by cases z) ?_
  unfold F_X5_takersOf
  show mv_Sim l N0 D dA RX5 cX5_takersOf 5 3 67 (some .int) false mv_rI 0 _ _ _
  refine mv_aload_n 1 dX5_takersOf_0 rfl rfl rfl ?_
  refine mv_getI fd_X0_1 lk_X5_106 dX5_takersOf_1 rfl (fun v14 => ?_)
  refine mv_bipush (v := ((-4) : Int32)) dX5_takersOf_4 (by decide) rfl ?_
  refine mv_icmp_eq (tgt := 16) dX5_takersOf_6 rfl rfl ?_ ?_
  · refine mv_aload_n 0 dX5_takersOf_16 rfl rfl rfl ?_
    refine mv_aload_n 0 dX5_takersOf_17 rfl rfl rfl ?_
    refine mv_getI fd_X5_5 lk_X5_58 dX5_takersOf_18 rfl (fun v15 => ?_)
    refine mv_callVi (st := []) [.int v15] (fun i17 => c_X5_stallOn l N0 D dA i17 v15) (T := TX5) rfl (by decide) wc_X5_137 ⟨by decide, by decide⟩ rfl (mv_cs (Nat.le_of_ble_eq_true rfl) (fun _ h => absurd h List.not_mem_nil)) dX5_takersOf_21 rfl (fun v16 => ?_)
    refine mv_sub [0, 1] rfl ?_
    exact sJ_X5_takersOf_24 l N0 D dA a0 a1 v16
  · refine mv_aload_n 1 dX5_takersOf_9 rfl rfl rfl ?_
    refine mv_getI fd_X0_1 lk_X5_106 dX5_takersOf_10 rfl (fun v18 => ?_)
    refine mv_goto (q := 24) dX5_takersOf_13 rfl ?_
    refine mv_sub [0, 1] rfl ?_
    exact sJ_X5_takersOf_24 l N0 D dA a0 a1 v18

def J_X5_moveOn_78 (a0 : Nat) : mv_M Unit :=
  mv_pu ()

set_option maxHeartbeats 4000000 in
set_option maxRecDepth 100000 in
theorem sJ_X5_moveOn_78 (l : Launch) (N0 : Nat) (D : va_G) (dA : Nat → ClassId) (a0 : Nat) : mv_Sim l N0 D dA RX5 cX5_moveOn 5 4 103 none false mv_rV 78 [(0, mv_vr N0 (some a0))] [] (J_X5_moveOn_78 a0) := by
  unfold J_X5_moveOn_78
  exact mv_vret dX5_moveOn_78

def F_X5_moveOn (a0 : Nat) (a1 : Option Nat) (a2 : Option Nat) : mv_M Unit :=
  mv_bd (mv_gI 0 8 2 a1) fun v1 =>
  mv_bd (mv_gI 5 12 5 (some a0)) fun v2 =>
  mv_bd (mv_rc 5 12 (some a0)) fun i4 => mv_bd (F_X5_townOf i4 v1 v2) fun v3 =>
  mv_bd (mv_gI 0 8 0 a1) fun v5 =>
  if v3 = v5 then
    mv_bd (mv_sI 0 8 2 a1 ((-4) : Int32)) fun _ =>
    mv_bd (mv_gI 5 12 5 (some a0)) fun v11 =>
    mv_bd (mv_sI 0 8 3 a1 v11) fun _ =>
    mv_bd (mv_gI 5 12 9 (some a0)) fun v12 =>
    mv_bd (mv_sI 5 12 9 (some a0) (v12 + (1 : Int32))) fun _ =>
    mv_pu ()
  else
    mv_bd (mv_rc 5 12 (some a0)) fun i7 => mv_bd (F_X5_takersOf i7 a1) fun v6 =>
    if v6 = 0 then
      mv_pu ()
    else
      mv_bd (mv_rc 2 4 a2) fun i9 => mv_bd (F_X2_bestTaker i9 (some a0) a1 v6) fun v8 =>
      if v8 = ((-4) : Int32) then
        J_X5_moveOn_78 a0
      else
        mv_bd (mv_rc 5 12 (some a0)) fun i10 => mv_bd (F_X5_changeHands i10 a1 v8) fun _ =>
        J_X5_moveOn_78 a0

set_option maxHeartbeats 4000000 in
set_option maxRecDepth 100000 in
theorem c_X5_moveOn (l : Launch) (N0 : Nat) (D : va_G) (dA : Nat → ClassId) (a0 : Nat) (a1 : Option Nat) (a2 : Option Nat) : mv_SimM l N0 D dA yX5_moveOn cX5_moveOn 5 none 4 103 mv_rV [.ref (N0 + a0), mv_vr N0 a1, mv_vr N0 a2] (F_X5_moveOn a0 a1 a2) := by
  refine mv_SimM_of (L0 := [(0, mv_vr N0 (some a0)), (1, mv_vr N0 a1), (2, mv_vr N0 a2)]) false (by decide +kernel) (by cases a1 <;> cases a2 <;> exact Nat.le_of_ble_eq_true rfl) (by cases a1 <;> cases a2 <;> rfl) (List.forall_mem_cons.mpr ⟨mv_cat N0 (some a0), List.forall_mem_cons.mpr ⟨mv_cat N0 a1, List.forall_mem_cons.mpr ⟨mv_cat N0 a2, fun _ h => absurd h List.not_mem_nil⟩⟩⟩) (fun z => by cases z) ?_
  unfold F_X5_moveOn
  show mv_Sim l N0 D dA RX5 cX5_moveOn 5 4 103 none false mv_rV 0 _ _ _
  refine mv_aload_n 0 dX5_moveOn_0 rfl rfl rfl ?_
  refine mv_aload_n 1 dX5_moveOn_1 rfl rfl rfl ?_
  refine mv_getI fd_X0_2 lk_X5_99 dX5_moveOn_2 rfl (fun v1 => ?_)
  refine mv_aload_n 0 dX5_moveOn_5 rfl rfl rfl ?_
  refine mv_getI fd_X5_5 lk_X5_58 dX5_moveOn_6 rfl (fun v2 => ?_)
  refine mv_callVi (st := []) [.int v1, .int v2] (fun i4 => c_X5_townOf l N0 D dA i4 v1 v2) (T := TX5) rfl (by decide) wc_X5_95 ⟨by decide, by decide⟩ rfl (mv_cs (Nat.le_of_ble_eq_true rfl) (fun _ h => absurd h List.not_mem_nil)) dX5_moveOn_9 rfl (fun v3 => ?_)
  refine mv_aload_n 1 dX5_moveOn_12 rfl rfl rfl ?_
  refine mv_getI fd_X0_0 lk_X5_120 dX5_moveOn_13 rfl (fun v5 => ?_)
  refine mv_icmp_ne (tgt := 44) dX5_moveOn_16 rfl rfl ?_ ?_
  · refine mv_aload_n 0 dX5_moveOn_44 rfl rfl rfl ?_
    refine mv_aload_n 1 dX5_moveOn_45 rfl rfl rfl ?_
    refine mv_callVi (st := []) [mv_vr N0 a1] (fun i7 => c_X5_takersOf l N0 D dA i7 a1) (T := TX5) rfl (by decide) wc_X5_123 ⟨by decide, by decide⟩ rfl (mv_cs (Nat.le_of_ble_eq_true rfl) (fun _ h => absurd h List.not_mem_nil)) dX5_moveOn_46 rfl (fun v6 => ?_)
    refine mv_istore_n [0, 1, 2] no_X5 dX5_moveOn_49 rfl (by decide) rfl rfl rfl ?_
    refine mv_iload_n 0 dX5_moveOn_50 rfl rfl rfl ?_
    refine mv_if_ne (tgt := 55) dX5_moveOn_51 rfl rfl ?_ ?_
    · refine mv_aload_n 3 dX5_moveOn_55 rfl rfl rfl ?_
      refine mv_aload_n 1 dX5_moveOn_56 rfl rfl rfl ?_
      refine mv_aload_n 2 dX5_moveOn_57 rfl rfl rfl ?_
      refine mv_iload_n 0 dX5_moveOn_58 rfl rfl rfl ?_
      refine mv_callVi (st := []) [mv_vr N0 (some a0), mv_vr N0 a1, .int v6] (fun i9 => c_X2_bestTaker l N0 D dA i9 (some a0) a1 v6) (T := TX2) rfl (by decide) wc_X5_127 ⟨by decide, by decide⟩ rfl (mv_cs (Nat.le_of_ble_eq_true rfl) (fun _ h => absurd h List.not_mem_nil)) dX5_moveOn_59 rfl (fun v8 => ?_)
      refine mv_istore [0, 1, 2, 3] no_X5 dX5_moveOn_62 (by decide) rfl rfl rfl ?_
      refine mv_iload 0 dX5_moveOn_64 rfl rfl ?_
      refine mv_bipush (v := ((-4) : Int32)) dX5_moveOn_66 (by decide) rfl ?_
      refine mv_icmp_eq (tgt := 78) dX5_moveOn_68 rfl rfl ?_ ?_
      · refine mv_sub [2] rfl ?_
        exact sJ_X5_moveOn_78 l N0 D dA a0
      · refine mv_aload_n 2 dX5_moveOn_71 rfl rfl rfl ?_
        refine mv_aload_n 3 dX5_moveOn_72 rfl rfl rfl ?_
        refine mv_iload 0 dX5_moveOn_73 rfl rfl ?_
        refine mv_callVv (st := []) [mv_vr N0 a1, .int v8] (fun i10 => c_X5_changeHands l N0 D dA i10 a1 v8) (T := TX5) rfl (by decide) wc_X5_133 ⟨by decide, by decide⟩ rfl (mv_cs (Nat.le_of_ble_eq_true rfl) (fun _ h => absurd h List.not_mem_nil)) dX5_moveOn_75 rfl ?_
        refine mv_sub [2] rfl ?_
        exact sJ_X5_moveOn_78 l N0 D dA a0
    · exact mv_vret dX5_moveOn_54
  · refine mv_aload_n 1 dX5_moveOn_19 rfl rfl rfl ?_
    refine mv_bipush (v := ((-4) : Int32)) dX5_moveOn_20 (by decide) rfl ?_
    refine mv_putI fd_X0_2 rfl (tyX0_ok 2 (by decide)) lk_X5_99 dX5_moveOn_22 rfl ?_
    refine mv_aload_n 1 dX5_moveOn_25 rfl rfl rfl ?_
    refine mv_aload_n 0 dX5_moveOn_26 rfl rfl rfl ?_
    refine mv_getI fd_X5_5 lk_X5_58 dX5_moveOn_27 rfl (fun v11 => ?_)
    refine mv_putI fd_X0_3 rfl (tyX0_ok 3 (by decide)) lk_X5_109 dX5_moveOn_30 rfl ?_
    refine mv_aload_n 0 dX5_moveOn_33 rfl rfl rfl ?_
    refine mv_dup dX5_moveOn_34 (mv_cat N0 (some a0)) rfl ?_
    refine mv_getI fd_X5_9 lk_X5_64 dX5_moveOn_35 rfl (fun v12 => ?_)
    refine mv_iconst (v := (1 : Int32)) dX5_moveOn_38 (by decide) rfl ?_
    refine mv_iadd dX5_moveOn_39 rfl ?_
    refine mv_putI fd_X5_9 rfl (tyX5_ok 9 (by decide)) lk_X5_64 dX5_moveOn_40 rfl ?_
    exact mv_vret dX5_moveOn_43

def J_X5_passDay_45 (k12 : Int32 → mv_M Unit) (a0 : Nat) (x1 : Option Nat) (x2 : Int32) : mv_M Unit :=
  k12 (x2 + (1 : Int32))

set_option maxHeartbeats 4000000 in
set_option maxRecDepth 100000 in
theorem sJ_X5_passDay_45 (l : Launch) (N0 : Nat) (D : va_G) (dA : Nat → ClassId) (a0 : Nat) (x1 : Option Nat) (x2 : Int32) (k12 : Int32 → mv_M Unit) (hk12 : ∀ (y2 : Int32), mv_Sim l N0 D dA RX5 cX5_passDay 4 5 127 none false mv_rV 12 [(0, mv_vr N0 (some a0)), (1, mv_vr N0 x1), (2, .int y2)] [] (k12 y2)) : mv_Sim l N0 D dA RX5 cX5_passDay 4 5 127 none false mv_rV 45 [(0, mv_vr N0 (some a0)), (1, mv_vr N0 x1), (2, .int x2)] [] (J_X5_passDay_45 k12 a0 x1 x2) := by
  unfold J_X5_passDay_45
  refine mv_iinc (y := (x2 + (1 : Int32))) 2 [0, 1] no_X5 dX5_passDay_45 rfl rfl (by decide) rfl rfl rfl ?_
  refine mv_goto (q := 12) dX5_passDay_48 rfl ?_
  refine mv_sub [1, 2, 0] rfl ?_
  exact hk12 (x2 + (1 : Int32))

def Lp_X5_passDay_12 (a0 : Nat) (x1 : Option Nat) : Nat → Int32 → mv_M Unit
  | 0, _ => mv_fl
  | n + 1, x2 =>
    mv_bd (mv_gI 5 12 4 (some a0)) fun v1 =>
    if v1 ≤ x2 then
      mv_pu ()
    else
      mv_bd (mv_rc 5 12 (some a0)) fun i3 => mv_bd (F_X5_bundleAt i3 x2) fun v2 =>
      if v2 = none then
        J_X5_passDay_45 (Lp_X5_passDay_12 a0 x1 n) a0 x1 x2
      else
        mv_bd (mv_gI 0 8 3 v2) fun v4 =>
        if v4 = ((-4) : Int32) then
          mv_bd (mv_rc 5 12 (some a0)) fun i5 => mv_bd (F_X5_moveOn i5 v2 x1) fun _ =>
          J_X5_passDay_45 (Lp_X5_passDay_12 a0 x1 n) a0 x1 x2
        else
          J_X5_passDay_45 (Lp_X5_passDay_12 a0 x1 n) a0 x1 x2

set_option maxHeartbeats 4000000 in
set_option maxRecDepth 100000 in
theorem sLp_X5_passDay_12 (l : Launch) (N0 : Nat) (D : va_G) (dA : Nat → ClassId) (a0 : Nat) (x1 : Option Nat) : ∀ (n : Nat) (x2 : Int32), mv_Sim l N0 D dA RX5 cX5_passDay 4 5 127 none false mv_rV 12 [(0, mv_vr N0 (some a0)), (1, mv_vr N0 x1), (2, .int x2)] [] (Lp_X5_passDay_12 a0 x1 n x2) := by
  intro n
  induction n with
  | zero => intro x2; rw [Lp_X5_passDay_12]; exact mv_fl_sim
  | succ n ih =>
    intro x2
    rw [Lp_X5_passDay_12]
    refine mv_iload_n 2 dX5_passDay_12 rfl rfl rfl ?_
    refine mv_aload_n 0 dX5_passDay_13 rfl rfl rfl ?_
    refine mv_getI fd_X5_4 lk_X5_39 dX5_passDay_14 rfl (fun v1 => ?_)
    refine mv_icmp_ge (tgt := 51) dX5_passDay_17 rfl rfl ?_ ?_
    · exact mv_vret dX5_passDay_51
    · refine mv_aload_n 0 dX5_passDay_20 rfl rfl rfl ?_
      refine mv_iload_n 2 dX5_passDay_21 rfl rfl rfl ?_
      refine mv_callVr (st := []) [.int x2] (fun i3 => c_X5_bundleAt l N0 D dA i3 x2) (T := TX5) rfl (by decide) wc_X5_50 ⟨by decide, by decide⟩ rfl (mv_cs (Nat.le_of_ble_eq_true rfl) (fun _ h => absurd h List.not_mem_nil)) dX5_passDay_22 rfl (fun v2 => ?_)
      refine mv_astore_n [0, 1, 2] no_X5 dX5_passDay_25 rfl (by decide) rfl rfl rfl ?_
      refine mv_aload_n 0 dX5_passDay_26 rfl rfl rfl ?_
      refine mv_ifnull (tgt := 45) dX5_passDay_27 rfl rfl ?_ ?_
      · refine mv_sub [1, 2, 3] rfl ?_
        exact sJ_X5_passDay_45 l N0 D dA a0 x1 x2 _ ih
      · refine mv_aload_n 0 dX5_passDay_30 rfl rfl rfl ?_
        refine mv_getI fd_X0_3 lk_X5_109 dX5_passDay_31 rfl (fun v4 => ?_)
        refine mv_bipush (v := ((-4) : Int32)) dX5_passDay_34 (by decide) rfl ?_
        refine mv_icmp_ne (tgt := 45) dX5_passDay_36 rfl rfl ?_ ?_
        · refine mv_sub [1, 2, 3] rfl ?_
          exact sJ_X5_passDay_45 l N0 D dA a0 x1 x2 _ ih
        · refine mv_aload_n 1 dX5_passDay_39 rfl rfl rfl ?_
          refine mv_aload_n 0 dX5_passDay_40 rfl rfl rfl ?_
          refine mv_aload_n 2 dX5_passDay_41 rfl rfl rfl ?_
          refine mv_callVv (st := []) [mv_vr N0 v2, mv_vr N0 x1] (fun i5 => c_X5_moveOn l N0 D dA i5 v2 x1) (T := TX5) rfl (by decide) wc_X5_116 ⟨by decide, by decide⟩ rfl (mv_cs (Nat.le_of_ble_eq_true rfl) (fun _ h => absurd h List.not_mem_nil)) dX5_passDay_42 rfl ?_
          refine mv_sub [1, 2, 3] rfl ?_
          exact sJ_X5_passDay_45 l N0 D dA a0 x1 x2 _ ih

def F_X5_passDay (a0 : Nat) (a1 : Option Nat) : mv_M Unit :=
  mv_bd (mv_gI 5 12 5 (some a0)) fun v6 =>
  mv_bd (mv_sI 5 12 5 (some a0) (v6 + (1 : Int32))) fun _ =>
  Lp_X5_passDay_12 a0 a1 mv_FU (0 : Int32)

set_option maxHeartbeats 4000000 in
set_option maxRecDepth 100000 in
theorem c_X5_passDay (l : Launch) (N0 : Nat) (D : va_G) (dA : Nat → ClassId) (a0 : Nat) (a1 : Option Nat) : mv_SimM l N0 D dA yX5_passDay cX5_passDay 4 none 5 127 mv_rV [.ref (N0 + a0), mv_vr N0 a1] (F_X5_passDay a0 a1) := by
  refine mv_SimM_of (L0 := [(0, mv_vr N0 (some a0)), (1, mv_vr N0 a1)]) false (by decide +kernel) (by cases a1 <;> exact Nat.le_of_ble_eq_true rfl) (by cases a1 <;> rfl) (List.forall_mem_cons.mpr ⟨mv_cat N0 (some a0), List.forall_mem_cons.mpr ⟨mv_cat N0 a1, fun _ h => absurd h List.not_mem_nil⟩⟩) (fun z => by cases z) ?_
  unfold F_X5_passDay
  show mv_Sim l N0 D dA RX5 cX5_passDay 4 5 127 none false mv_rV 0 _ _ _
  refine mv_aload_n 0 dX5_passDay_0 rfl rfl rfl ?_
  refine mv_dup dX5_passDay_1 (mv_cat N0 (some a0)) rfl ?_
  refine mv_getI fd_X5_5 lk_X5_58 dX5_passDay_2 rfl (fun v6 => ?_)
  refine mv_iconst (v := (1 : Int32)) dX5_passDay_5 (by decide) rfl ?_
  refine mv_iadd dX5_passDay_6 rfl ?_
  refine mv_putI fd_X5_5 rfl (tyX5_ok 5 (by decide)) lk_X5_58 dX5_passDay_7 rfl ?_
  refine mv_iconst (v := (0 : Int32)) dX5_passDay_10 (by decide) rfl ?_
  refine mv_istore_n [0, 1] no_X5 dX5_passDay_11 rfl (by decide) rfl rfl rfl ?_
  refine mv_sub [1, 2, 0] rfl ?_
  exact sLp_X5_passDay_12 l N0 D dA a0 a1 mv_FU (0 : Int32)

def J_X5_moveStall_20 (a0 : Nat) : mv_M Unit :=
  mv_pu ()

set_option maxHeartbeats 4000000 in
set_option maxRecDepth 100000 in
theorem sJ_X5_moveStall_20 (l : Launch) (N0 : Nat) (D : va_G) (dA : Nat → ClassId) (a0 : Nat) : mv_Sim l N0 D dA RX5 cX5_moveStall 3 0 0 none false mv_rV 20 [(0, mv_vr N0 (some a0))] [] (J_X5_moveStall_20 a0) := by
  unfold J_X5_moveStall_20
  exact mv_vret dX5_moveStall_20

def F_X5_moveStall (a0 : Nat) (a1 : Int32) (a2 : Int32) : mv_M Unit :=
  if a1 < 0 then
    J_X5_moveStall_20 a0
  else
    mv_bd (mv_gR 5 12 0 (some a0)) fun v1 =>
    mv_bd (mv_aL v1) fun v2 =>
    if v2 ≤ a1 then
      J_X5_moveStall_20 a0
    else
      mv_bd (mv_gR 5 12 0 (some a0)) fun v3 =>
      mv_bd (mv_aS v3 a1 a2) fun _ =>
      J_X5_moveStall_20 a0

set_option maxHeartbeats 4000000 in
set_option maxRecDepth 100000 in
theorem c_X5_moveStall (l : Launch) (N0 : Nat) (D : va_G) (dA : Nat → ClassId) (a0 : Nat) (a1 : Int32) (a2 : Int32) : mv_SimM l N0 D dA yX5_moveStall cX5_moveStall 3 none 0 0 mv_rV [.ref (N0 + a0), .int a1, .int a2] (F_X5_moveStall a0 a1 a2) := by
  refine mv_SimM_of (L0 := [(0, mv_vr N0 (some a0)), (1, .int a1), (2, .int a2)]) false (by decide +kernel) (Nat.le_of_ble_eq_true rfl) rfl (List.forall_mem_cons.mpr ⟨mv_cat N0 (some a0), List.forall_mem_cons.mpr ⟨rfl, List.forall_mem_cons.mpr ⟨rfl, fun _ h => absurd h List.not_mem_nil⟩⟩⟩) (fun z => by cases z) ?_
  unfold F_X5_moveStall
  show mv_Sim l N0 D dA RX5 cX5_moveStall 3 0 0 none false mv_rV 0 _ _ _
  refine mv_iload_n 1 dX5_moveStall_0 rfl rfl rfl ?_
  refine mv_if_lt (tgt := 20) dX5_moveStall_1 rfl rfl ?_ ?_
  · refine mv_sub [0] rfl ?_
    exact sJ_X5_moveStall_20 l N0 D dA a0
  · refine mv_iload_n 1 dX5_moveStall_4 rfl rfl rfl ?_
    refine mv_aload_n 0 dX5_moveStall_5 rfl rfl rfl ?_
    refine mv_getR fd_X5_0 lk_X5_9 dX5_moveStall_6 rfl (fun v1 => ?_)
    refine mv_alen dX5_moveStall_9 rfl (fun v2 => ?_)
    refine mv_icmp_ge (tgt := 20) dX5_moveStall_10 rfl rfl ?_ ?_
    · refine mv_sub [0] rfl ?_
      exact sJ_X5_moveStall_20 l N0 D dA a0
    · refine mv_aload_n 0 dX5_moveStall_13 rfl rfl rfl ?_
      refine mv_getR fd_X5_0 lk_X5_9 dX5_moveStall_14 rfl (fun v3 => ?_)
      refine mv_iload_n 1 dX5_moveStall_17 rfl rfl rfl ?_
      refine mv_iload_n 2 dX5_moveStall_18 rfl rfl rfl ?_
      refine mv_iast dX5_moveStall_19 rfl ?_
      refine mv_sub [0] rfl ?_
      exact sJ_X5_moveStall_20 l N0 D dA a0

def J_X2_arrivalByHands_97 (k37 : Int32 → Int32 → mv_M Int32) (a0 : Nat) (x1 : Option Nat) (x2 : Option Nat) (x3 : Int32) (x4 : Int32) (x5 : Int32) : mv_M Int32 :=
  mv_bd (mv_gI 0 8 1 x2) fun v1 =>
  mv_bd (mv_rc 5 12 x1) fun i3 => mv_bd (F_X5_carriersIn i3 v1 x5) fun v2 =>
  mv_bd (mv_pu (x3 ||| v2)) fun v4 =>
  k37 v4 (x4 + (1 : Int32))

set_option maxHeartbeats 4000000 in
set_option maxRecDepth 100000 in
theorem sJ_X2_arrivalByHands_97 (l : Launch) (N0 : Nat) (D : va_G) (dA : Nat → ClassId) (a0 : Nat) (x1 : Option Nat) (x2 : Option Nat) (x3 : Int32) (x4 : Int32) (x5 : Int32) (k37 : Int32 → Int32 → mv_M Int32) (hk37 : ∀ (y3 : Int32) (y4 : Int32), mv_Sim l N0 D dA RX2 cX2_arrivalByHands 7 2 48 (some .int) false mv_rI 37 [(0, mv_vr N0 (some a0)), (1, mv_vr N0 x1), (2, mv_vr N0 x2), (3, .int y3), (4, .int y4)] [] (k37 y3 y4)) : mv_Sim l N0 D dA RX2 cX2_arrivalByHands 7 2 48 (some .int) false mv_rI 97 [(0, mv_vr N0 (some a0)), (1, mv_vr N0 x1), (2, mv_vr N0 x2), (3, .int x3), (4, .int x4), (5, .int x5)] [] (J_X2_arrivalByHands_97 k37 a0 x1 x2 x3 x4 x5) := by
  unfold J_X2_arrivalByHands_97
  refine mv_iload_n 3 dX2_arrivalByHands_97 rfl rfl rfl ?_
  refine mv_aload_n 1 dX2_arrivalByHands_98 rfl rfl rfl ?_
  refine mv_aload_n 2 dX2_arrivalByHands_99 rfl rfl rfl ?_
  refine mv_getI fd_X0_1 lk_X2_29 dX2_arrivalByHands_100 rfl (fun v1 => ?_)
  refine mv_iload 5 dX2_arrivalByHands_103 rfl rfl ?_
  refine mv_callVi (st := [.int x3]) [.int v1, .int x5] (fun i3 => c_X5_carriersIn l N0 D dA i3 v1 x5) (T := TX5) rfl (by decide) wc_X2_86 ⟨by decide, by decide⟩ rfl (mv_cs (Nat.le_of_ble_eq_true rfl) (List.forall_mem_cons.mpr ⟨rfl, fun _ h => absurd h List.not_mem_nil⟩)) dX2_arrivalByHands_105 rfl (fun v2 => ?_)
  refine mv_ior dX2_arrivalByHands_108 rfl ?_
  refine mv_let (fun v4 => ?_)
  refine mv_istore_n [0, 1, 2, 4, 5] no_X2 dX2_arrivalByHands_109 rfl (by decide) rfl rfl rfl ?_
  refine mv_iinc (y := (x4 + (1 : Int32))) 4 [0, 1, 2, 3, 5] no_X2 dX2_arrivalByHands_110 rfl rfl (by decide) rfl rfl rfl ?_
  refine mv_goto (q := 37) dX2_arrivalByHands_113 rfl ?_
  refine mv_sub [2, 3, 4, 1, 0] rfl ?_
  exact hk37 v4 (x4 + (1 : Int32))

def Lp_X2_arrivalByHands_37 (a0 : Nat) (x1 : Option Nat) (x2 : Option Nat) : Nat → Int32 → Int32 → mv_M Int32
  | 0, _, _ => mv_fl
  | n + 1, x3, x4 =>
    if (30 : Int32) < x4 then
      mv_pu ((-4) : Int32)
    else
      mv_bd (mv_gI 5 12 5 x1) fun v5 =>
      mv_bd (mv_pu (v5 + x4)) fun v6 =>
      mv_bd (mv_gI 0 8 0 x2) fun v7 =>
      mv_bd (mv_rc 5 12 x1) fun i9 => mv_bd (F_X5_carriersIn i9 v7 v6) fun v8 =>
      if (x3 &&& v8) = 0 then
        mv_bd (mv_rc 5 12 x1) fun i11 => mv_bd (F_X5_stallOn i11 v6) fun v10 =>
        mv_bd (mv_rc 5 12 x1) fun i13 => mv_bd (F_X5_carriersIn i13 v10 v6) fun v12 =>
        if (x3 &&& v12) = 0 then
          J_X2_arrivalByHands_97 (Lp_X2_arrivalByHands_37 a0 x1 x2 n) a0 x1 x2 x3 x4 v6
        else
          mv_bd (mv_pu (x3 ||| v12)) fun v14 =>
          J_X2_arrivalByHands_97 (Lp_X2_arrivalByHands_37 a0 x1 x2 n) a0 x1 x2 v14 x4 v6
      else
        mv_pu v6

set_option maxHeartbeats 4000000 in
set_option maxRecDepth 100000 in
theorem sLp_X2_arrivalByHands_37 (l : Launch) (N0 : Nat) (D : va_G) (dA : Nat → ClassId) (a0 : Nat) (x1 : Option Nat) (x2 : Option Nat) : ∀ (n : Nat) (x3 : Int32) (x4 : Int32), mv_Sim l N0 D dA RX2 cX2_arrivalByHands 7 2 48 (some .int) false mv_rI 37 [(0, mv_vr N0 (some a0)), (1, mv_vr N0 x1), (2, mv_vr N0 x2), (3, .int x3), (4, .int x4)] [] (Lp_X2_arrivalByHands_37 a0 x1 x2 n x3 x4) := by
  intro n
  induction n with
  | zero => intro x3 x4; rw [Lp_X2_arrivalByHands_37]; exact mv_fl_sim
  | succ n ih =>
    intro x3 x4
    rw [Lp_X2_arrivalByHands_37]
    refine mv_iload 4 dX2_arrivalByHands_37 rfl rfl ?_
    refine mv_bipush (v := (30 : Int32)) dX2_arrivalByHands_39 (by decide) rfl ?_
    refine mv_icmp_gt (tgt := 116) dX2_arrivalByHands_41 rfl rfl ?_ ?_
    · refine mv_bipush (v := ((-4) : Int32)) dX2_arrivalByHands_116 (by decide) rfl ?_
      exact mv_iret dX2_arrivalByHands_118
    · refine mv_aload_n 1 dX2_arrivalByHands_44 rfl rfl rfl ?_
      refine mv_getI fd_X5_5 lk_X2_35 dX2_arrivalByHands_45 rfl (fun v5 => ?_)
      refine mv_iload 4 dX2_arrivalByHands_48 rfl rfl ?_
      refine mv_iadd dX2_arrivalByHands_50 rfl ?_
      refine mv_let (fun v6 => ?_)
      refine mv_istore [0, 1, 2, 3, 4] no_X2 dX2_arrivalByHands_51 (by decide) rfl rfl rfl ?_
      refine mv_iload_n 4 dX2_arrivalByHands_53 rfl rfl rfl ?_
      refine mv_aload_n 2 dX2_arrivalByHands_54 rfl rfl rfl ?_
      refine mv_aload_n 3 dX2_arrivalByHands_55 rfl rfl rfl ?_
      refine mv_getI fd_X0_0 lk_X2_32 dX2_arrivalByHands_56 rfl (fun v7 => ?_)
      refine mv_iload 0 dX2_arrivalByHands_59 rfl rfl ?_
      refine mv_callVi (st := [.int x3]) [.int v7, .int v6] (fun i9 => c_X5_carriersIn l N0 D dA i9 v7 v6) (T := TX5) rfl (by decide) wc_X2_86 ⟨by decide, by decide⟩ rfl (mv_cs (Nat.le_of_ble_eq_true rfl) (List.forall_mem_cons.mpr ⟨rfl, fun _ h => absurd h List.not_mem_nil⟩)) dX2_arrivalByHands_61 rfl (fun v8 => ?_)
      refine mv_iand dX2_arrivalByHands_64 rfl ?_
      refine mv_if_eq (tgt := 71) dX2_arrivalByHands_65 rfl rfl ?_ ?_
      · refine mv_aload_n 2 dX2_arrivalByHands_71 rfl rfl rfl ?_
        refine mv_aload_n 2 dX2_arrivalByHands_72 rfl rfl rfl ?_
        refine mv_iload 0 dX2_arrivalByHands_73 rfl rfl ?_
        refine mv_callVi (st := [mv_vr N0 x1]) [.int v6] (fun i11 => c_X5_stallOn l N0 D dA i11 v6) (T := TX5) rfl (by decide) wc_X2_73 ⟨by decide, by decide⟩ rfl (mv_cs (Nat.le_of_ble_eq_true rfl) (List.forall_mem_cons.mpr ⟨mv_cat N0 x1, fun _ h => absurd h List.not_mem_nil⟩)) dX2_arrivalByHands_75 rfl (fun v10 => ?_)
        refine mv_iload 0 dX2_arrivalByHands_78 rfl rfl ?_
        refine mv_callVi (st := []) [.int v10, .int v6] (fun i13 => c_X5_carriersIn l N0 D dA i13 v10 v6) (T := TX5) rfl (by decide) wc_X2_86 ⟨by decide, by decide⟩ rfl (mv_cs (Nat.le_of_ble_eq_true rfl) (fun _ h => absurd h List.not_mem_nil)) dX2_arrivalByHands_80 rfl (fun v12 => ?_)
        refine mv_istore [0, 1, 2, 3, 4, 5] no_X2 dX2_arrivalByHands_83 (by decide) rfl rfl rfl ?_
        refine mv_iload_n 5 dX2_arrivalByHands_85 rfl rfl rfl ?_
        refine mv_iload 0 dX2_arrivalByHands_86 rfl rfl ?_
        refine mv_iand dX2_arrivalByHands_88 rfl ?_
        refine mv_if_eq (tgt := 97) dX2_arrivalByHands_89 rfl rfl ?_ ?_
        · refine mv_sub [2, 3, 4, 5, 6, 1] rfl ?_
          exact sJ_X2_arrivalByHands_97 l N0 D dA a0 x1 x2 x3 x4 v6 _ ih
        · refine mv_iload_n 5 dX2_arrivalByHands_92 rfl rfl rfl ?_
          refine mv_iload 0 dX2_arrivalByHands_93 rfl rfl ?_
          refine mv_ior dX2_arrivalByHands_95 rfl ?_
          refine mv_let (fun v14 => ?_)
          refine mv_istore_n [0, 1, 2, 3, 4, 6] no_X2 dX2_arrivalByHands_96 rfl (by decide) rfl rfl rfl ?_
          refine mv_sub [3, 4, 5, 0, 6, 2] rfl ?_
          exact sJ_X2_arrivalByHands_97 l N0 D dA a0 x1 x2 v14 x4 v6 _ ih
      · refine mv_iload 0 dX2_arrivalByHands_68 rfl rfl ?_
        exact mv_iret dX2_arrivalByHands_70

def J_X2_arrivalByHands_33 (a0 : Nat) (x1 : Option Nat) (x2 : Option Nat) (s0 : Int32) : mv_M Int32 :=
  Lp_X2_arrivalByHands_37 a0 x1 x2 mv_FU s0 (1 : Int32)

set_option maxHeartbeats 4000000 in
set_option maxRecDepth 100000 in
theorem sJ_X2_arrivalByHands_33 (l : Launch) (N0 : Nat) (D : va_G) (dA : Nat → ClassId) (a0 : Nat) (x1 : Option Nat) (x2 : Option Nat) (s0 : Int32) : mv_Sim l N0 D dA RX2 cX2_arrivalByHands 7 2 48 (some .int) false mv_rI 33 [(0, mv_vr N0 (some a0)), (1, mv_vr N0 x1), (2, mv_vr N0 x2)] [.int s0] (J_X2_arrivalByHands_33 a0 x1 x2 s0) := by
  unfold J_X2_arrivalByHands_33
  refine mv_istore_n [0, 1, 2] no_X2 dX2_arrivalByHands_33 rfl (by decide) rfl rfl rfl ?_
  refine mv_iconst (v := (1 : Int32)) dX2_arrivalByHands_34 (by decide) rfl ?_
  refine mv_istore [0, 1, 2, 3] no_X2 dX2_arrivalByHands_35 (by decide) rfl rfl rfl ?_
  refine mv_sub [2, 3, 4, 1, 0] rfl ?_
  exact sLp_X2_arrivalByHands_37 l N0 D dA a0 x1 x2 mv_FU s0 (1 : Int32)

def F_X2_arrivalByHands (a0 : Nat) (a1 : Option Nat) (a2 : Option Nat) : mv_M Int32 :=
  mv_bd (mv_gI 0 8 3 a2) fun v15 =>
  if v15 = ((-4) : Int32) then
    mv_bd (mv_gI 0 8 2 a2) fun v16 =>
    if v16 = ((-4) : Int32) then
      J_X2_arrivalByHands_33 a0 a1 a2 (0 : Int32)
    else
      mv_bd (mv_gI 0 8 2 a2) fun v17 =>
      J_X2_arrivalByHands_33 a0 a1 a2 ((1 : Int32) <<< (v17 &&& 31))
  else
    mv_bd (mv_gI 0 8 3 a2) fun v18 =>
    mv_pu v18

set_option maxHeartbeats 4000000 in
set_option maxRecDepth 100000 in
theorem c_X2_arrivalByHands (l : Launch) (N0 : Nat) (D : va_G) (dA : Nat → ClassId) (a0 : Nat) (a1 : Option Nat) (a2 : Option Nat) : mv_SimM l N0 D dA yX2_arrivalByHands cX2_arrivalByHands 7 (some .int) 2 48 mv_rI [.ref (N0 + a0), mv_vr N0 a1, mv_vr N0 a2] (F_X2_arrivalByHands a0 a1 a2) := by
  refine mv_SimM_of (L0 := [(0, mv_vr N0 (some a0)), (1, mv_vr N0 a1), (2, mv_vr N0 a2)]) false (by decide +kernel) (by cases a1 <;> cases a2 <;> exact Nat.le_of_ble_eq_true rfl) (by cases a1 <;> cases a2 <;> rfl) (List.forall_mem_cons.mpr ⟨mv_cat N0 (some a0), List.forall_mem_cons.mpr ⟨mv_cat N0 a1, List.forall_mem_cons.mpr ⟨mv_cat N0 a2, fun _ h => absurd h List.not_mem_nil⟩⟩⟩) (fun z => by cases z) ?_
  unfold F_X2_arrivalByHands
  show mv_Sim l N0 D dA RX2 cX2_arrivalByHands 7 2 48 (some .int) false mv_rI 0 _ _ _
  refine mv_aload_n 2 dX2_arrivalByHands_0 rfl rfl rfl ?_
  refine mv_getI fd_X0_3 lk_X2_24 dX2_arrivalByHands_1 rfl (fun v15 => ?_)
  refine mv_bipush (v := ((-4) : Int32)) dX2_arrivalByHands_4 (by decide) rfl ?_
  refine mv_icmp_eq (tgt := 14) dX2_arrivalByHands_6 rfl rfl ?_ ?_
  · refine mv_aload_n 2 dX2_arrivalByHands_14 rfl rfl rfl ?_
    refine mv_getI fd_X0_2 lk_X2_61 dX2_arrivalByHands_15 rfl (fun v16 => ?_)
    refine mv_bipush (v := ((-4) : Int32)) dX2_arrivalByHands_18 (by decide) rfl ?_
    refine mv_icmp_ne (tgt := 27) dX2_arrivalByHands_20 rfl rfl ?_ ?_
    · refine mv_iconst (v := (1 : Int32)) dX2_arrivalByHands_27 (by decide) rfl ?_
      refine mv_aload_n 2 dX2_arrivalByHands_28 rfl rfl rfl ?_
      refine mv_getI fd_X0_2 lk_X2_61 dX2_arrivalByHands_29 rfl (fun v17 => ?_)
      refine mv_ishl dX2_arrivalByHands_32 rfl ?_
      refine mv_sub [0, 1, 2] rfl ?_
      exact sJ_X2_arrivalByHands_33 l N0 D dA a0 a1 a2 ((1 : Int32) <<< (v17 &&& 31))
    · refine mv_iconst (v := (0 : Int32)) dX2_arrivalByHands_23 (by decide) rfl ?_
      refine mv_goto (q := 33) dX2_arrivalByHands_24 rfl ?_
      refine mv_sub [0, 1, 2] rfl ?_
      exact sJ_X2_arrivalByHands_33 l N0 D dA a0 a1 a2 (0 : Int32)
  · refine mv_aload_n 2 dX2_arrivalByHands_9 rfl rfl rfl ?_
    refine mv_getI fd_X0_3 lk_X2_24 dX2_arrivalByHands_10 rfl (fun v18 => ?_)
    exact mv_iret dX2_arrivalByHands_13

def J_X2_addUpArrivals_78 (k12 : Int32 → mv_M Unit) (a0 : Nat) (x1 : Option Nat) (x2 : Int32) : mv_M Unit :=
  k12 (x2 + (1 : Int32))

set_option maxHeartbeats 4000000 in
set_option maxRecDepth 100000 in
theorem sJ_X2_addUpArrivals_78 (l : Launch) (N0 : Nat) (D : va_G) (dA : Nat → ClassId) (a0 : Nat) (x1 : Option Nat) (x2 : Int32) (k12 : Int32 → mv_M Unit) (hk12 : ∀ (y2 : Int32), mv_Sim l N0 D dA RX2 cX2_addUpArrivals 5 4 100 none false mv_rV 12 [(0, mv_vr N0 (some a0)), (1, mv_vr N0 x1), (2, .int y2)] [] (k12 y2)) : mv_Sim l N0 D dA RX2 cX2_addUpArrivals 5 4 100 none false mv_rV 78 [(0, mv_vr N0 (some a0)), (1, mv_vr N0 x1), (2, .int x2)] [] (J_X2_addUpArrivals_78 k12 a0 x1 x2) := by
  unfold J_X2_addUpArrivals_78
  refine mv_iinc (y := (x2 + (1 : Int32))) 2 [0, 1] no_X2 dX2_addUpArrivals_78 rfl rfl (by decide) rfl rfl rfl ?_
  refine mv_goto (q := 12) dX2_addUpArrivals_81 rfl ?_
  refine mv_sub [1, 2, 0] rfl ?_
  exact hk12 (x2 + (1 : Int32))

def Lp_X2_addUpArrivals_12 (a0 : Nat) (x1 : Option Nat) : Nat → Int32 → mv_M Unit
  | 0, _ => mv_fl
  | n + 1, x2 =>
    mv_bd (mv_gI 5 12 4 x1) fun v1 =>
    if v1 ≤ x2 then
      mv_pu ()
    else
      mv_bd (mv_rc 5 12 x1) fun i3 => mv_bd (F_X5_bundleAt i3 x2) fun v2 =>
      if v2 = none then
        J_X2_addUpArrivals_78 (Lp_X2_addUpArrivals_12 a0 x1 n) a0 x1 x2
      else
        mv_bd (mv_gI 0 8 3 v2) fun v4 =>
        if v4 = ((-4) : Int32) then
          mv_bd (mv_rc 2 4 (some a0)) fun i6 => mv_bd (F_X2_arrivalOf i6 x1 v2) fun v5 =>
          if v5 = ((-4) : Int32) then
            J_X2_addUpArrivals_78 (Lp_X2_addUpArrivals_12 a0 x1 n) a0 x1 x2
          else
            mv_bd (mv_gI 2 4 2 (some a0)) fun v7 =>
            mv_bd (mv_sI 2 4 2 (some a0) (v7 + (1 : Int32))) fun _ =>
            mv_bd (mv_gI 2 4 3 (some a0)) fun v8 =>
            mv_bd (mv_sI 2 4 3 (some a0) (v8 + v5)) fun _ =>
            J_X2_addUpArrivals_78 (Lp_X2_addUpArrivals_12 a0 x1 n) a0 x1 x2
        else
          J_X2_addUpArrivals_78 (Lp_X2_addUpArrivals_12 a0 x1 n) a0 x1 x2

set_option maxHeartbeats 4000000 in
set_option maxRecDepth 100000 in
theorem sLp_X2_addUpArrivals_12 (l : Launch) (N0 : Nat) (D : va_G) (dA : Nat → ClassId) (a0 : Nat) (x1 : Option Nat) : ∀ (n : Nat) (x2 : Int32), mv_Sim l N0 D dA RX2 cX2_addUpArrivals 5 4 100 none false mv_rV 12 [(0, mv_vr N0 (some a0)), (1, mv_vr N0 x1), (2, .int x2)] [] (Lp_X2_addUpArrivals_12 a0 x1 n x2) := by
  intro n
  induction n with
  | zero => intro x2; rw [Lp_X2_addUpArrivals_12]; exact mv_fl_sim
  | succ n ih =>
    intro x2
    rw [Lp_X2_addUpArrivals_12]
    refine mv_iload_n 2 dX2_addUpArrivals_12 rfl rfl rfl ?_
    refine mv_aload_n 1 dX2_addUpArrivals_13 rfl rfl rfl ?_
    refine mv_getI fd_X5_4 lk_X2_50 dX2_addUpArrivals_14 rfl (fun v1 => ?_)
    refine mv_icmp_ge (tgt := 84) dX2_addUpArrivals_17 rfl rfl ?_ ?_
    · exact mv_vret dX2_addUpArrivals_84
    · refine mv_aload_n 1 dX2_addUpArrivals_20 rfl rfl rfl ?_
      refine mv_iload_n 2 dX2_addUpArrivals_21 rfl rfl rfl ?_
      refine mv_callVr (st := []) [.int x2] (fun i3 => c_X5_bundleAt l N0 D dA i3 x2) (T := TX5) rfl (by decide) wc_X2_53 ⟨by decide, by decide⟩ rfl (mv_cs (Nat.le_of_ble_eq_true rfl) (fun _ h => absurd h List.not_mem_nil)) dX2_addUpArrivals_22 rfl (fun v2 => ?_)
      refine mv_astore_n [0, 1, 2] no_X2 dX2_addUpArrivals_25 rfl (by decide) rfl rfl rfl ?_
      refine mv_aload_n 0 dX2_addUpArrivals_26 rfl rfl rfl ?_
      refine mv_ifnull (tgt := 78) dX2_addUpArrivals_27 rfl rfl ?_ ?_
      · refine mv_sub [1, 2, 3] rfl ?_
        exact sJ_X2_addUpArrivals_78 l N0 D dA a0 x1 x2 _ ih
      · refine mv_aload_n 0 dX2_addUpArrivals_30 rfl rfl rfl ?_
        refine mv_getI fd_X0_3 lk_X2_24 dX2_addUpArrivals_31 rfl (fun v4 => ?_)
        refine mv_bipush (v := ((-4) : Int32)) dX2_addUpArrivals_34 (by decide) rfl ?_
        refine mv_icmp_eq (tgt := 42) dX2_addUpArrivals_36 rfl rfl ?_ ?_
        · refine mv_aload_n 1 dX2_addUpArrivals_42 rfl rfl rfl ?_
          refine mv_aload_n 2 dX2_addUpArrivals_43 rfl rfl rfl ?_
          refine mv_aload_n 0 dX2_addUpArrivals_44 rfl rfl rfl ?_
          refine mv_callVi (st := []) [mv_vr N0 x1, mv_vr N0 v2] (fun i6 => c_X2_arrivalOf l N0 D dA i6 x1 v2) (T := TX2) rfl (by decide) wc_X2_57 ⟨by decide, by decide⟩ rfl (mv_cs (Nat.le_of_ble_eq_true rfl) (fun _ h => absurd h List.not_mem_nil)) dX2_addUpArrivals_45 rfl (fun v5 => ?_)
          refine mv_istore [0, 1, 2, 3] no_X2 dX2_addUpArrivals_48 (by decide) rfl rfl rfl ?_
          refine mv_iload 0 dX2_addUpArrivals_50 rfl rfl ?_
          refine mv_bipush (v := ((-4) : Int32)) dX2_addUpArrivals_52 (by decide) rfl ?_
          refine mv_icmp_eq (tgt := 78) dX2_addUpArrivals_54 rfl rfl ?_ ?_
          · refine mv_sub [2, 3, 4] rfl ?_
            exact sJ_X2_addUpArrivals_78 l N0 D dA a0 x1 x2 _ ih
          · refine mv_aload_n 2 dX2_addUpArrivals_57 rfl rfl rfl ?_
            refine mv_dup dX2_addUpArrivals_58 (mv_cat N0 (some a0)) rfl ?_
            refine mv_getI fd_X2_2 lk_X2_44 dX2_addUpArrivals_59 rfl (fun v7 => ?_)
            refine mv_iconst (v := (1 : Int32)) dX2_addUpArrivals_62 (by decide) rfl ?_
            refine mv_iadd dX2_addUpArrivals_63 rfl ?_
            refine mv_putI fd_X2_2 rfl (tyX2_ok 2 (by decide)) lk_X2_44 dX2_addUpArrivals_64 rfl ?_
            refine mv_aload_n 2 dX2_addUpArrivals_67 rfl rfl rfl ?_
            refine mv_dup dX2_addUpArrivals_68 (mv_cat N0 (some a0)) rfl ?_
            refine mv_getI fd_X2_3 lk_X2_47 dX2_addUpArrivals_69 rfl (fun v8 => ?_)
            refine mv_iload 0 dX2_addUpArrivals_72 rfl rfl ?_
            refine mv_iadd dX2_addUpArrivals_74 rfl ?_
            refine mv_putI fd_X2_3 rfl (tyX2_ok 3 (by decide)) lk_X2_47 dX2_addUpArrivals_75 rfl ?_
            refine mv_sub [2, 3, 4] rfl ?_
            exact sJ_X2_addUpArrivals_78 l N0 D dA a0 x1 x2 _ ih
        · refine mv_goto (q := 78) dX2_addUpArrivals_39 rfl ?_
          refine mv_sub [1, 2, 3] rfl ?_
          exact sJ_X2_addUpArrivals_78 l N0 D dA a0 x1 x2 _ ih

def F_X2_addUpArrivals (a0 : Nat) (a1 : Option Nat) : mv_M Unit :=
  mv_bd (mv_sI 2 4 2 (some a0) (0 : Int32)) fun _ =>
  mv_bd (mv_sI 2 4 3 (some a0) (0 : Int32)) fun _ =>
  Lp_X2_addUpArrivals_12 a0 a1 mv_FU (0 : Int32)

set_option maxHeartbeats 4000000 in
set_option maxRecDepth 100000 in
theorem c_X2_addUpArrivals (l : Launch) (N0 : Nat) (D : va_G) (dA : Nat → ClassId) (a0 : Nat) (a1 : Option Nat) : mv_SimM l N0 D dA yX2_addUpArrivals cX2_addUpArrivals 5 none 4 100 mv_rV [.ref (N0 + a0), mv_vr N0 a1] (F_X2_addUpArrivals a0 a1) := by
  refine mv_SimM_of (L0 := [(0, mv_vr N0 (some a0)), (1, mv_vr N0 a1)]) false (by decide +kernel) (by cases a1 <;> exact Nat.le_of_ble_eq_true rfl) (by cases a1 <;> rfl) (List.forall_mem_cons.mpr ⟨mv_cat N0 (some a0), List.forall_mem_cons.mpr ⟨mv_cat N0 a1, fun _ h => absurd h List.not_mem_nil⟩⟩) (fun z => by cases z) ?_
  unfold F_X2_addUpArrivals
  show mv_Sim l N0 D dA RX2 cX2_addUpArrivals 5 4 100 none false mv_rV 0 _ _ _
  refine mv_aload_n 0 dX2_addUpArrivals_0 rfl rfl rfl ?_
  refine mv_iconst (v := (0 : Int32)) dX2_addUpArrivals_1 (by decide) rfl ?_
  refine mv_putI fd_X2_2 rfl (tyX2_ok 2 (by decide)) lk_X2_44 dX2_addUpArrivals_2 rfl ?_
  refine mv_aload_n 0 dX2_addUpArrivals_5 rfl rfl rfl ?_
  refine mv_iconst (v := (0 : Int32)) dX2_addUpArrivals_6 (by decide) rfl ?_
  refine mv_putI fd_X2_3 rfl (tyX2_ok 3 (by decide)) lk_X2_47 dX2_addUpArrivals_7 rfl ?_
  refine mv_iconst (v := (0 : Int32)) dX2_addUpArrivals_10 (by decide) rfl ?_
  refine mv_istore_n [0, 1] no_X2 dX2_addUpArrivals_11 rfl (by decide) rfl rfl rfl ?_
  refine mv_sub [1, 2, 0] rfl ?_
  exact sLp_X2_addUpArrivals_12 l N0 D dA a0 a1 mv_FU (0 : Int32)

def F_X2_init (a0 : Nat) : mv_M Unit :=
  mv_bd (mv_nA 8 (4 : Int32)) fun v1 =>
  mv_bd (mv_sR 2 4 0 (some a0) v1) fun _ =>
  mv_pu ()

set_option maxHeartbeats 4000000 in
set_option maxRecDepth 100000 in
theorem c_X2_init (l : Launch) (N0 : Nat) (D : va_G) (dA : Nat → ClassId) (a0 : Nat) : mv_SimM l N0 D dA yX2_init cX2_init 1 none 1 12 mv_rV [.ref (N0 + a0)] (F_X2_init a0) := by
  refine mv_SimM_of (L0 := [(0, mv_vr N0 (some a0))]) true (by decide +kernel) (Nat.le_of_ble_eq_true rfl) rfl (List.forall_mem_cons.mpr ⟨mv_cat N0 (some a0), fun _ h => absurd h List.not_mem_nil⟩) (fun _ => rfl) ?_
  unfold F_X2_init
  show mv_Sim l N0 D dA RX2 cX2_init 1 1 12 none true mv_rV 0 _ _ _
  refine mv_aload_n 0 dX2_init_0 rfl rfl rfl ?_
  refine mv_objInit dX2_init_1 wo_X2 ⟨by decide, by decide⟩ rfl ?_
  refine mv_aload_n 0 dX2_init_4 rfl rfl rfl ?_
  refine mv_iconst (v := (4 : Int32)) dX2_init_5 (by decide) rfl ?_
  refine mv_newa (mv_wA_of (mv_t1 (List.mem_of_getElem? (i := 63) rfl)) rfl) dX2_init_6 rfl (fun v1 => ?_)
  refine mv_putR (t := tyX2 0) fd_X2_0 rfl (tyX2_ok 0 (by decide)) (Or.inr ⟨_, rfl⟩) rfl rfl (mv_wA_of (mv_t1 (List.mem_of_getElem? (i := 197) rfl)) rfl) dX2_init_8 rfl ?_
  exact mv_vret dX2_init_11

def Lp_X5_init_71 (a0 : Nat) : Nat → Int32 → mv_M Unit
  | 0, _ => mv_fl
  | n + 1, x1 =>
    mv_bd (mv_gR 5 12 2 (some a0)) fun v1 =>
    mv_bd (mv_aL v1) fun v2 =>
    if v2 ≤ x1 then
      mv_pu ()
    else
      mv_bd (mv_gR 5 12 2 (some a0)) fun v3 =>
      mv_bd (mv_nw 0 8) fun v4 =>
      mv_bd (mv_rc 0 8 v4) fun i5 => mv_bd (F_X0_init i5 ) fun _ =>
      mv_bd (mv_aT 3 0 8 v3 x1 v4) fun _ =>
      Lp_X5_init_71 a0 n (x1 + (1 : Int32))

set_option maxHeartbeats 4000000 in
set_option maxRecDepth 100000 in
theorem sLp_X5_init_71 (l : Launch) (N0 : Nat) (D : va_G) (dA : Nat → ClassId) (a0 : Nat) : ∀ (n : Nat) (x1 : Int32), mv_Sim l N0 D dA RX5 cX5_init 2 2 32 none true mv_rV 71 [(0, mv_vr N0 (some a0)), (1, .int x1)] [] (Lp_X5_init_71 a0 n x1) := by
  intro n
  induction n with
  | zero => intro x1; rw [Lp_X5_init_71]; exact mv_fl_sim
  | succ n ih =>
    intro x1
    rw [Lp_X5_init_71]
    refine mv_iload_n 1 dX5_init_71 rfl rfl rfl ?_
    refine mv_aload_n 0 dX5_init_72 rfl rfl rfl ?_
    refine mv_getR fd_X5_2 lk_X5_23 dX5_init_73 rfl (fun v1 => ?_)
    refine mv_alen dX5_init_76 rfl (fun v2 => ?_)
    refine mv_icmp_ge (tgt := 99) dX5_init_77 rfl rfl ?_ ?_
    · exact mv_vret dX5_init_99
    · refine mv_aload_n 0 dX5_init_80 rfl rfl rfl ?_
      refine mv_getR fd_X5_2 lk_X5_23 dX5_init_81 rfl (fun v3 => ?_)
      refine mv_iload_n 1 dX5_init_84 rfl rfl rfl ?_
      refine mv_new (T := TX0) (ty := tyX0) rfl (by decide) uw_X0 tyX0_ok df_X0 ⟨mv_wA_of (mv_t1 (List.mem_of_getElem? (i := 26) rfl)) rfl, wn_X0⟩ dX5_init_85 rfl (fun v4 => ?_)
      refine mv_dup dX5_init_88 (mv_cat N0 v4) rfl ?_
      refine mv_callI (st := [mv_vr N0 v4, .int x1, mv_vr N0 v3]) [] (fun i5 => c_X0_init l N0 D dA i5 ) wc_X5_35 ⟨by decide, by decide⟩ rfl (mv_cs (Nat.le_of_ble_eq_true rfl) (List.forall_mem_cons.mpr ⟨mv_cat N0 v4, List.forall_mem_cons.mpr ⟨rfl, List.forall_mem_cons.mpr ⟨mv_cat N0 v3, fun _ h => absurd h List.not_mem_nil⟩⟩⟩)) dX5_init_89 rfl ?_
      refine mv_aast (C := RX0) (T := TX0) (fun _ => rfl) (by decide) rfl (by decide) dX5_init_92 rfl ?_
      refine mv_iinc (y := (x1 + (1 : Int32))) 1 [0] no_X5 dX5_init_93 rfl rfl (by decide) rfl rfl rfl ?_
      refine mv_goto (q := 71) dX5_init_96 rfl ?_
      refine mv_sub [1, 0] rfl ?_
      exact ih (x1 + (1 : Int32))

def Lp_X5_init_41 (a0 : Nat) : Nat → Int32 → mv_M Unit
  | 0, _ => mv_fl
  | n + 1, x1 =>
    mv_bd (mv_gR 5 12 1 (some a0)) fun v6 =>
    mv_bd (mv_aL v6) fun v7 =>
    if v7 ≤ x1 then
      Lp_X5_init_71 a0 mv_FU (0 : Int32)
    else
      mv_bd (mv_gR 5 12 1 (some a0)) fun v8 =>
      mv_bd (mv_nw 1 6) fun v9 =>
      mv_bd (mv_rc 1 6 v9) fun i10 => mv_bd (F_X1_init i10 ) fun _ =>
      mv_bd (mv_aT 2 1 6 v8 x1 v9) fun _ =>
      Lp_X5_init_41 a0 n (x1 + (1 : Int32))

set_option maxHeartbeats 4000000 in
set_option maxRecDepth 100000 in
theorem sLp_X5_init_41 (l : Launch) (N0 : Nat) (D : va_G) (dA : Nat → ClassId) (a0 : Nat) : ∀ (n : Nat) (x1 : Int32), mv_Sim l N0 D dA RX5 cX5_init 2 2 32 none true mv_rV 41 [(0, mv_vr N0 (some a0)), (1, .int x1)] [] (Lp_X5_init_41 a0 n x1) := by
  intro n
  induction n with
  | zero => intro x1; rw [Lp_X5_init_41]; exact mv_fl_sim
  | succ n ih =>
    intro x1
    rw [Lp_X5_init_41]
    refine mv_iload_n 1 dX5_init_41 rfl rfl rfl ?_
    refine mv_aload_n 0 dX5_init_42 rfl rfl rfl ?_
    refine mv_getR fd_X5_1 lk_X5_17 dX5_init_43 rfl (fun v6 => ?_)
    refine mv_alen dX5_init_46 rfl (fun v7 => ?_)
    refine mv_icmp_ge (tgt := 69) dX5_init_47 rfl rfl ?_ ?_
    · refine mv_iconst (v := (0 : Int32)) dX5_init_69 (by decide) rfl ?_
      refine mv_istore_n [0] no_X5 dX5_init_70 rfl (by decide) rfl rfl rfl ?_
      refine mv_sub [1, 0] rfl ?_
      exact sLp_X5_init_71 l N0 D dA a0 mv_FU (0 : Int32)
    · refine mv_aload_n 0 dX5_init_50 rfl rfl rfl ?_
      refine mv_getR fd_X5_1 lk_X5_17 dX5_init_51 rfl (fun v8 => ?_)
      refine mv_iload_n 1 dX5_init_54 rfl rfl rfl ?_
      refine mv_new (T := TX1) (ty := tyX1) rfl (by decide) uw_X1 tyX1_ok df_X1 ⟨mv_wA_of (mv_t1 (List.mem_of_getElem? (i := 24) rfl)) rfl, wn_X1⟩ dX5_init_55 rfl (fun v9 => ?_)
      refine mv_dup dX5_init_58 (mv_cat N0 v9) rfl ?_
      refine mv_callI (st := [mv_vr N0 v9, .int x1, mv_vr N0 v8]) [] (fun i10 => c_X1_init l N0 D dA i10 ) wc_X5_34 ⟨by decide, by decide⟩ rfl (mv_cs (Nat.le_of_ble_eq_true rfl) (List.forall_mem_cons.mpr ⟨mv_cat N0 v9, List.forall_mem_cons.mpr ⟨rfl, List.forall_mem_cons.mpr ⟨mv_cat N0 v8, fun _ h => absurd h List.not_mem_nil⟩⟩⟩)) dX5_init_59 rfl ?_
      refine mv_aast (C := RX1) (T := TX1) (fun _ => rfl) (by decide) rfl (by decide) dX5_init_62 rfl ?_
      refine mv_iinc (y := (x1 + (1 : Int32))) 1 [0] no_X5 dX5_init_63 rfl rfl (by decide) rfl rfl rfl ?_
      refine mv_goto (q := 41) dX5_init_66 rfl ?_
      refine mv_sub [1, 0] rfl ?_
      exact ih (x1 + (1 : Int32))

def F_X5_init (a0 : Nat) : mv_M Unit :=
  mv_bd (mv_nA 8 (7 : Int32)) fun v11 =>
  mv_bd (mv_sR 5 12 0 (some a0) v11) fun _ =>
  mv_bd (mv_nA (8 + 2) (4 : Int32)) fun v12 =>
  mv_bd (mv_sR 5 12 1 (some a0) v12) fun _ =>
  mv_bd (mv_nA (8 + 3) (8 : Int32)) fun v13 =>
  mv_bd (mv_sR 5 12 2 (some a0) v13) fun _ =>
  mv_bd (mv_sI 5 12 6 (some a0) (3 : Int32)) fun _ =>
  mv_bd (mv_sI 5 12 7 (some a0) (1 : Int32)) fun _ =>
  Lp_X5_init_41 a0 mv_FU (0 : Int32)

set_option maxHeartbeats 4000000 in
set_option maxRecDepth 100000 in
theorem c_X5_init (l : Launch) (N0 : Nat) (D : va_G) (dA : Nat → ClassId) (a0 : Nat) : mv_SimM l N0 D dA yX5_init cX5_init 2 none 2 32 mv_rV [.ref (N0 + a0)] (F_X5_init a0) := by
  refine mv_SimM_of (L0 := [(0, mv_vr N0 (some a0))]) true (by decide +kernel) (Nat.le_of_ble_eq_true rfl) rfl (List.forall_mem_cons.mpr ⟨mv_cat N0 (some a0), fun _ h => absurd h List.not_mem_nil⟩) (fun _ => rfl) ?_
  unfold F_X5_init
  show mv_Sim l N0 D dA RX5 cX5_init 2 2 32 none true mv_rV 0 _ _ _
  refine mv_aload_n 0 dX5_init_0 rfl rfl rfl ?_
  refine mv_objInit dX5_init_1 wo_X5 ⟨by decide, by decide⟩ rfl ?_
  refine mv_aload_n 0 dX5_init_4 rfl rfl rfl ?_
  refine mv_bipush (v := (7 : Int32)) dX5_init_5 (by decide) rfl ?_
  refine mv_newa (mv_wA_of (mv_t1 (List.mem_of_getElem? (i := 63) rfl)) rfl) dX5_init_7 rfl (fun v11 => ?_)
  refine mv_putR (t := tyX5 0) fd_X5_0 rfl (tyX5_ok 0 (by decide)) (Or.inr ⟨_, rfl⟩) rfl rfl (mv_wA_of (mv_t1 (List.mem_of_getElem? (i := 112) rfl)) rfl) dX5_init_9 rfl ?_
  refine mv_aload_n 0 dX5_init_12 rfl rfl rfl ?_
  refine mv_iconst (v := (4 : Int32)) dX5_init_13 (by decide) rfl ?_
  refine mv_newq (t := 2) (C := RX1) (fun _ => rfl) (by decide) (fun s hN => hN.2.2.1) (mv_wA_of (mv_t1 (List.mem_of_getElem? (i := 24) rfl)) rfl) dX5_init_14 rfl (fun v12 => ?_)
  refine mv_putR (t := tyX5 1) fd_X5_1 rfl (tyX5_ok 1 (by decide)) (Or.inr ⟨_, rfl⟩) rfl rfl (mv_wA_of (mv_t1 (List.mem_of_getElem? (i := 113) rfl)) rfl) dX5_init_17 rfl ?_
  refine mv_aload_n 0 dX5_init_20 rfl rfl rfl ?_
  refine mv_bipush (v := (8 : Int32)) dX5_init_21 (by decide) rfl ?_
  refine mv_newq (t := 3) (C := RX0) (fun _ => rfl) (by decide) (fun s hN => hN.2.2.2) (mv_wA_of (mv_t1 (List.mem_of_getElem? (i := 26) rfl)) rfl) dX5_init_23 rfl (fun v13 => ?_)
  refine mv_putR (t := tyX5 2) fd_X5_2 rfl (tyX5_ok 2 (by decide)) (Or.inr ⟨_, rfl⟩) rfl rfl (mv_wA_of (mv_t1 (List.mem_of_getElem? (i := 114) rfl)) rfl) dX5_init_26 rfl ?_
  refine mv_aload_n 0 dX5_init_29 rfl rfl rfl ?_
  refine mv_iconst (v := (3 : Int32)) dX5_init_30 (by decide) rfl ?_
  refine mv_putI fd_X5_6 rfl (tyX5_ok 6 (by decide)) lk_X5_27 dX5_init_31 rfl ?_
  refine mv_aload_n 0 dX5_init_34 rfl rfl rfl ?_
  refine mv_iconst (v := (1 : Int32)) dX5_init_35 (by decide) rfl ?_
  refine mv_putI fd_X5_7 rfl (tyX5_ok 7 (by decide)) lk_X5_31 dX5_init_36 rfl ?_
  refine mv_iconst (v := (0 : Int32)) dX5_init_39 (by decide) rfl ?_
  refine mv_istore_n [0] no_X5 dX5_init_40 rfl (by decide) rfl rfl rfl ?_
  refine mv_sub [1, 0] rfl ?_
  exact sLp_X5_init_41 l N0 D dA a0 mv_FU (0 : Int32)

def Lp_X3_init_14 (a0 : Nat) : Nat → Int32 → mv_M Unit
  | 0, _ => mv_fl
  | n + 1, x1 =>
    mv_bd (mv_gR 3 2 0 (some a0)) fun v1 =>
    mv_bd (mv_aL v1) fun v2 =>
    if v2 ≤ x1 then
      mv_pu ()
    else
      mv_bd (mv_gR 3 2 0 (some a0)) fun v3 =>
      mv_bd (mv_nw 5 12) fun v4 =>
      mv_bd (mv_rc 5 12 v4) fun i5 => mv_bd (F_X5_init i5 ) fun _ =>
      mv_bd (mv_aT 1 5 12 v3 x1 v4) fun _ =>
      Lp_X3_init_14 a0 n (x1 + (1 : Int32))

set_option maxHeartbeats 4000000 in
set_option maxRecDepth 100000 in
theorem sLp_X3_init_14 (l : Launch) (N0 : Nat) (D : va_G) (dA : Nat → ClassId) (a0 : Nat) : ∀ (n : Nat) (x1 : Int32), mv_Sim l N0 D dA RX3 cX3_init 2 3 53 none true mv_rV 14 [(0, mv_vr N0 (some a0)), (1, .int x1)] [] (Lp_X3_init_14 a0 n x1) := by
  intro n
  induction n with
  | zero => intro x1; rw [Lp_X3_init_14]; exact mv_fl_sim
  | succ n ih =>
    intro x1
    rw [Lp_X3_init_14]
    refine mv_iload_n 1 dX3_init_14 rfl rfl rfl ?_
    refine mv_aload_n 0 dX3_init_15 rfl rfl rfl ?_
    refine mv_getR fd_X3_0 lk_X3_11 dX3_init_16 rfl (fun v1 => ?_)
    refine mv_alen dX3_init_19 rfl (fun v2 => ?_)
    refine mv_icmp_ge (tgt := 42) dX3_init_20 rfl rfl ?_ ?_
    · exact mv_vret dX3_init_42
    · refine mv_aload_n 0 dX3_init_23 rfl rfl rfl ?_
      refine mv_getR fd_X3_0 lk_X3_11 dX3_init_24 rfl (fun v3 => ?_)
      refine mv_iload_n 1 dX3_init_27 rfl rfl rfl ?_
      refine mv_new (T := TX5) (ty := tyX5) rfl (by decide) uw_X5 tyX5_ok df_X5 ⟨mv_wA_of (mv_t1 (List.mem_of_getElem? (i := 166) rfl)) rfl, wn_X5⟩ dX3_init_28 rfl (fun v4 => ?_)
      refine mv_dup dX3_init_31 (mv_cat N0 v4) rfl ?_
      refine mv_callI (st := [mv_vr N0 v4, .int x1, mv_vr N0 v3]) [] (fun i5 => c_X5_init l N0 D dA i5 ) wc_X3_17 ⟨by decide, by decide⟩ rfl (mv_cs (Nat.le_of_ble_eq_true rfl) (List.forall_mem_cons.mpr ⟨mv_cat N0 v4, List.forall_mem_cons.mpr ⟨rfl, List.forall_mem_cons.mpr ⟨mv_cat N0 v3, fun _ h => absurd h List.not_mem_nil⟩⟩⟩)) dX3_init_32 rfl ?_
      refine mv_aast (C := RX5) (T := TX5) (fun _ => rfl) (by decide) rfl (by decide) dX3_init_35 rfl ?_
      refine mv_iinc (y := (x1 + (1 : Int32))) 1 [0] no_X3 dX3_init_36 rfl rfl (by decide) rfl rfl rfl ?_
      refine mv_goto (q := 14) dX3_init_39 rfl ?_
      refine mv_sub [1, 0] rfl ?_
      exact ih (x1 + (1 : Int32))

def F_X3_init (a0 : Nat) : mv_M Unit :=
  mv_bd (mv_nA (8 + 1) (4 : Int32)) fun v6 =>
  mv_bd (mv_sR 3 2 0 (some a0) v6) fun _ =>
  Lp_X3_init_14 a0 mv_FU (0 : Int32)

set_option maxHeartbeats 4000000 in
set_option maxRecDepth 100000 in
theorem c_X3_init (l : Launch) (N0 : Nat) (D : va_G) (dA : Nat → ClassId) (a0 : Nat) : mv_SimM l N0 D dA yX3_init cX3_init 2 none 3 53 mv_rV [.ref (N0 + a0)] (F_X3_init a0) := by
  refine mv_SimM_of (L0 := [(0, mv_vr N0 (some a0))]) true (by decide +kernel) (Nat.le_of_ble_eq_true rfl) rfl (List.forall_mem_cons.mpr ⟨mv_cat N0 (some a0), fun _ h => absurd h List.not_mem_nil⟩) (fun _ => rfl) ?_
  unfold F_X3_init
  show mv_Sim l N0 D dA RX3 cX3_init 2 3 53 none true mv_rV 0 _ _ _
  refine mv_aload_n 0 dX3_init_0 rfl rfl rfl ?_
  refine mv_objInit dX3_init_1 wo_X3 ⟨by decide, by decide⟩ rfl ?_
  refine mv_aload_n 0 dX3_init_4 rfl rfl rfl ?_
  refine mv_iconst (v := (4 : Int32)) dX3_init_5 (by decide) rfl ?_
  refine mv_newq (t := 1) (C := RX5) (fun _ => rfl) (by decide) (fun s hN => hN.2.1) (mv_wA_of (mv_t1 (List.mem_of_getElem? (i := 166) rfl)) rfl) dX3_init_6 rfl (fun v6 => ?_)
  refine mv_putR (t := tyX3 0) fd_X3_0 rfl (tyX3_ok 0 (by decide)) (Or.inr ⟨_, rfl⟩) rfl rfl (mv_wA_of (mv_t1 (List.mem_of_getElem? (i := 169) rfl)) rfl) dX3_init_9 rfl ?_
  refine mv_iconst (v := (0 : Int32)) dX3_init_12 (by decide) rfl ?_
  refine mv_istore_n [0] no_X3 dX3_init_13 rfl (by decide) rfl rfl rfl ?_
  refine mv_sub [1, 0] rfl ?_
  exact sLp_X3_init_14 l N0 D dA a0 mv_FU (0 : Int32)

def J_X3_takeBack_30 (a0 : Nat) : mv_M Unit :=
  mv_pu ()

set_option maxHeartbeats 4000000 in
set_option maxRecDepth 100000 in
theorem sJ_X3_takeBack_30 (l : Launch) (N0 : Nat) (D : va_G) (dA : Nat → ClassId) (a0 : Nat) : mv_Sim l N0 D dA RX3 cX3_takeBack 3 3 65 none false mv_rV 30 [(0, mv_vr N0 (some a0))] [] (J_X3_takeBack_30 a0) := by
  unfold J_X3_takeBack_30
  exact mv_vret dX3_takeBack_30

def F_X3_takeBack (a0 : Nat) (a1 : Option Nat) : mv_M Unit :=
  mv_bd (mv_gI 3 2 1 (some a0)) fun v1 =>
  mv_bd (mv_rc 3 2 (some a0)) fun i3 => mv_bd (F_X3_stateAt i3 (v1 - (1 : Int32))) fun v2 =>
  if v2 = none then
    J_X3_takeBack_30 a0
  else
    mv_bd (mv_rc 5 12 a1) fun i4 => mv_bd (F_X5_copyFrom i4 v2) fun _ =>
    mv_bd (mv_gI 3 2 1 (some a0)) fun v5 =>
    mv_bd (mv_sI 3 2 1 (some a0) (v5 - (1 : Int32))) fun _ =>
    J_X3_takeBack_30 a0

set_option maxHeartbeats 4000000 in
set_option maxRecDepth 100000 in
theorem c_X3_takeBack (l : Launch) (N0 : Nat) (D : va_G) (dA : Nat → ClassId) (a0 : Nat) (a1 : Option Nat) : mv_SimM l N0 D dA yX3_takeBack cX3_takeBack 3 none 3 65 mv_rV [.ref (N0 + a0), mv_vr N0 a1] (F_X3_takeBack a0 a1) := by
  refine mv_SimM_of (L0 := [(0, mv_vr N0 (some a0)), (1, mv_vr N0 a1)]) false (by decide +kernel) (by cases a1 <;> exact Nat.le_of_ble_eq_true rfl) (by cases a1 <;> rfl) (List.forall_mem_cons.mpr ⟨mv_cat N0 (some a0), List.forall_mem_cons.mpr ⟨mv_cat N0 a1, fun _ h => absurd h List.not_mem_nil⟩⟩) (fun z => by cases z) ?_
  unfold F_X3_takeBack
  show mv_Sim l N0 D dA RX3 cX3_takeBack 3 3 65 none false mv_rV 0 _ _ _
  refine mv_aload_n 0 dX3_takeBack_0 rfl rfl rfl ?_
  refine mv_aload_n 0 dX3_takeBack_1 rfl rfl rfl ?_
  refine mv_getI fd_X3_1 lk_X3_18 dX3_takeBack_2 rfl (fun v1 => ?_)
  refine mv_iconst (v := (1 : Int32)) dX3_takeBack_5 (by decide) rfl ?_
  refine mv_isub dX3_takeBack_6 rfl ?_
  refine mv_callVr (st := []) [.int (v1 - (1 : Int32))] (fun i3 => c_X3_stateAt l N0 D dA i3 (v1 - (1 : Int32))) (T := TX3) rfl (by decide) wc_X3_25 ⟨by decide, by decide⟩ rfl (mv_cs (Nat.le_of_ble_eq_true rfl) (fun _ h => absurd h List.not_mem_nil)) dX3_takeBack_7 rfl (fun v2 => ?_)
  refine mv_astore_n [0, 1] no_X3 dX3_takeBack_10 rfl (by decide) rfl rfl rfl ?_
  refine mv_aload_n 0 dX3_takeBack_11 rfl rfl rfl ?_
  refine mv_ifnull (tgt := 30) dX3_takeBack_12 rfl rfl ?_ ?_
  · refine mv_sub [1] rfl ?_
    exact sJ_X3_takeBack_30 l N0 D dA a0
  · refine mv_aload_n 2 dX3_takeBack_15 rfl rfl rfl ?_
    refine mv_aload_n 0 dX3_takeBack_16 rfl rfl rfl ?_
    refine mv_callVv (st := []) [mv_vr N0 v2] (fun i4 => c_X5_copyFrom l N0 D dA i4 v2) (T := TX5) rfl (by decide) wc_X3_29 ⟨by decide, by decide⟩ rfl (mv_cs (Nat.le_of_ble_eq_true rfl) (fun _ h => absurd h List.not_mem_nil)) dX3_takeBack_17 rfl ?_
    refine mv_aload_n 1 dX3_takeBack_20 rfl rfl rfl ?_
    refine mv_dup dX3_takeBack_21 (mv_cat N0 (some a0)) rfl ?_
    refine mv_getI fd_X3_1 lk_X3_18 dX3_takeBack_22 rfl (fun v5 => ?_)
    refine mv_iconst (v := (1 : Int32)) dX3_takeBack_25 (by decide) rfl ?_
    refine mv_isub dX3_takeBack_26 rfl ?_
    refine mv_putI fd_X3_1 rfl (tyX3_ok 1 (by decide)) lk_X3_18 dX3_takeBack_27 rfl ?_
    refine mv_sub [1] rfl ?_
    exact sJ_X3_takeBack_30 l N0 D dA a0

end
