section
def F_X7_addsCarrier (a0 : Nat) (a1 : Int32) (a2 : Int32) (a3 : Int32) : mv_M Unit :=
  mv_bd (mv_gR 7 12 0 (some a0)) fun v1 =>
  mv_bd (mv_aI v1 (((16 : Int32) + ((12 : Int32) * a1)) + a2)) fun v2 =>
  mv_bd (mv_aS v1 (((16 : Int32) + ((12 : Int32) * a1)) + a2) (v2 + a3)) fun _ =>
  mv_pu ()

set_option maxHeartbeats 4000000 in
set_option maxRecDepth 100000 in
theorem c_X7_addsCarrier (l : Launch) (N0 : Nat) (D : va_G) (dA : Nat → ClassId) (a0 : Nat) (a1 : Int32) (a2 : Int32) (a3 : Int32) : mv_SimM l N0 D dA yX7_addsCarrier cX7_addsCarrier 4 none 0 0 mv_rV [.ref (N0 + a0), .int a1, .int a2, .int a3] (F_X7_addsCarrier a0 a1 a2 a3) := by
  refine mv_SimM_of (L0 := [(0, mv_vr N0 (some a0)), (1, .int a1), (2, .int a2), (3, .int a3)]) false (by decide +kernel) (Nat.le_of_ble_eq_true rfl) rfl (List.forall_mem_cons.mpr ⟨mv_cat N0 (some a0), List.forall_mem_cons.mpr ⟨rfl, List.forall_mem_cons.mpr ⟨rfl, List.forall_mem_cons.mpr ⟨rfl, fun _ h => absurd h List.not_mem_nil⟩⟩⟩⟩) (fun z => by cases z) ?_
  unfold F_X7_addsCarrier
  show mv_Sim l N0 D dA RX7 cX7_addsCarrier 4 0 0 none false mv_rV 0 _ _ _
  refine mv_aload_n 0 dX7_addsCarrier_0 rfl rfl rfl ?_
  refine mv_getR fd_X7_0 lk_X7_7 dX7_addsCarrier_1 rfl (fun v1 => ?_)
  refine mv_bipush (v := (16 : Int32)) dX7_addsCarrier_4 (by decide) rfl ?_
  refine mv_bipush (v := (12 : Int32)) dX7_addsCarrier_6 (by decide) rfl ?_
  refine mv_iload_n 1 dX7_addsCarrier_8 rfl rfl rfl ?_
  refine mv_imul dX7_addsCarrier_9 rfl ?_
  refine mv_iadd dX7_addsCarrier_10 rfl ?_
  refine mv_iload_n 2 dX7_addsCarrier_11 rfl rfl rfl ?_
  refine mv_iadd dX7_addsCarrier_12 rfl ?_
  refine mv_dup2 dX7_addsCarrier_13 rfl (mv_cat N0 v1) rfl ?_
  refine mv_iald dX7_addsCarrier_14 rfl (fun v2 => ?_)
  refine mv_iload_n 3 dX7_addsCarrier_15 rfl rfl rfl ?_
  refine mv_iadd dX7_addsCarrier_16 rfl ?_
  refine mv_iast dX7_addsCarrier_17 rfl ?_
  exact mv_vret dX7_addsCarrier_18

def J_X7_in_15 (s0 : Int32) : mv_M Int32 :=
  mv_rz s0

set_option maxHeartbeats 4000000 in
set_option maxRecDepth 100000 in
theorem sJ_X7_in_15 (l : Launch) (N0 : Nat) (D : va_G) (dA : Nat → ClassId) (s0 : Int32) : mv_Sim l N0 D dA RX7 cX7_in 3 0 0 (some .boolean) false mv_rI 15 [] [.int s0] (J_X7_in_15 s0) := by
  unfold J_X7_in_15
  exact mv_zret dX7_in_15

def J_X7_in_14 : mv_M Int32 :=
  J_X7_in_15 (0 : Int32)

set_option maxHeartbeats 4000000 in
set_option maxRecDepth 100000 in
theorem sJ_X7_in_14 (l : Launch) (N0 : Nat) (D : va_G) (dA : Nat → ClassId) : mv_Sim l N0 D dA RX7 cX7_in 3 0 0 (some .boolean) false mv_rI 14 [] [] (J_X7_in_14) := by
  unfold J_X7_in_14
  refine mv_iconst (v := (0 : Int32)) dX7_in_14 (by decide) rfl ?_
  refine mv_sub [] rfl ?_
  exact sJ_X7_in_15 l N0 D dA (0 : Int32)

def F_X7_in (a0 : Int32) (a1 : Int32) (a2 : Int32) : mv_M Int32 :=
  if a0 < a1 then
    J_X7_in_14
  else
    if a2 < a0 then
      J_X7_in_14
    else
      J_X7_in_15 (1 : Int32)

set_option maxHeartbeats 4000000 in
set_option maxRecDepth 100000 in
theorem c_X7_in (l : Launch) (N0 : Nat) (D : va_G) (dA : Nat → ClassId) (a0 : Int32) (a1 : Int32) (a2 : Int32) : mv_SimM l N0 D dA yX7_in cX7_in 3 (some .boolean) 0 0 mv_rI [.int a0, .int a1, .int a2] (F_X7_in a0 a1 a2) := by
  refine mv_SimM_of (L0 := [(0, .int a0), (1, .int a1), (2, .int a2)]) false (by decide +kernel) (Nat.le_of_ble_eq_true rfl) rfl (List.forall_mem_cons.mpr ⟨rfl, List.forall_mem_cons.mpr ⟨rfl, List.forall_mem_cons.mpr ⟨rfl, fun _ h => absurd h List.not_mem_nil⟩⟩⟩) (fun z => by cases z) ?_
  unfold F_X7_in
  show mv_Sim l N0 D dA RX7 cX7_in 3 0 0 (some .boolean) false mv_rI 0 _ _ _
  refine mv_iload_n 0 dX7_in_0 rfl rfl rfl ?_
  refine mv_iload_n 1 dX7_in_1 rfl rfl rfl ?_
  refine mv_icmp_lt (tgt := 14) dX7_in_2 rfl rfl ?_ ?_
  · refine mv_sub [] rfl ?_
    exact sJ_X7_in_14 l N0 D dA
  · refine mv_iload_n 0 dX7_in_5 rfl rfl rfl ?_
    refine mv_iload_n 2 dX7_in_6 rfl rfl rfl ?_
    refine mv_icmp_gt (tgt := 14) dX7_in_7 rfl rfl ?_ ?_
    · refine mv_sub [] rfl ?_
      exact sJ_X7_in_14 l N0 D dA
    · refine mv_iconst (v := (1 : Int32)) dX7_in_10 (by decide) rfl ?_
      refine mv_goto (q := 15) dX7_in_11 rfl ?_
      refine mv_sub [] rfl ?_
      exact sJ_X7_in_15 l N0 D dA (1 : Int32)

def F_X7_append (a0 : Nat) (a1 : Int32) : mv_M Int32 :=
  mv_bd (F_X7_in a1 (33 : Int32) (126 : Int32)) fun v1 =>
  if v1 = 0 then
    mv_pu ((-1) : Int32)
  else
    mv_bd (mv_gI 7 12 7 (some a0)) fun v2 =>
    if v2 = (60 : Int32) then
      mv_pu ((-3) : Int32)
    else
      mv_bd (mv_gR 7 12 6 (some a0)) fun v3 =>
      mv_bd (mv_gI 7 12 7 (some a0)) fun v4 =>
      mv_bd (mv_aS v3 v4 a1) fun _ =>
      mv_bd (mv_gI 7 12 7 (some a0)) fun v5 =>
      mv_bd (mv_sI 7 12 7 (some a0) (v5 + (1 : Int32))) fun _ =>
      mv_bd (mv_gI 7 12 7 (some a0)) fun v6 =>
      mv_pu v6

set_option maxHeartbeats 4000000 in
set_option maxRecDepth 100000 in
theorem c_X7_append (l : Launch) (N0 : Nat) (D : va_G) (dA : Nat → ClassId) (a0 : Nat) (a1 : Int32) : mv_SimM l N0 D dA yX7_append cX7_append 2 (some .int) 1 22 mv_rI [.ref (N0 + a0), .int a1] (F_X7_append a0 a1) := by
  refine mv_SimM_of (L0 := [(0, mv_vr N0 (some a0)), (1, .int a1)]) false (by decide +kernel) (Nat.le_of_ble_eq_true rfl) rfl (List.forall_mem_cons.mpr ⟨mv_cat N0 (some a0), List.forall_mem_cons.mpr ⟨rfl, fun _ h => absurd h List.not_mem_nil⟩⟩) (fun z => by cases z) ?_
  unfold F_X7_append
  show mv_Sim l N0 D dA RX7 cX7_append 2 1 22 (some .int) false mv_rI 0 _ _ _
  refine mv_iload_n 1 dX7_append_0 rfl rfl rfl ?_
  refine mv_bipush (v := (33 : Int32)) dX7_append_1 (by decide) rfl ?_
  refine mv_bipush (v := (126 : Int32)) dX7_append_3 (by decide) rfl ?_
  refine mv_callSi (st := []) [.int a1, .int (33 : Int32), .int (126 : Int32)] (c_X7_in l N0 D dA a1 (33 : Int32) (126 : Int32)) wc_X7_36 ⟨by decide, by decide⟩ rfl (mv_cs (Nat.le_of_ble_eq_true rfl) (fun _ h => absurd h List.not_mem_nil)) dX7_append_5 rfl (fun v1 => ?_)
  refine mv_if_ne (tgt := 13) dX7_append_8 rfl rfl ?_ ?_
  · refine mv_aload_n 0 dX7_append_13 rfl rfl rfl ?_
    refine mv_getI fd_X7_7 lk_X7_113 dX7_append_14 rfl (fun v2 => ?_)
    refine mv_bipush (v := (60 : Int32)) dX7_append_17 (by decide) rfl ?_
    refine mv_icmp_ne (tgt := 25) dX7_append_19 rfl rfl ?_ ?_
    · refine mv_aload_n 0 dX7_append_25 rfl rfl rfl ?_
      refine mv_getR fd_X7_6 lk_X7_22 dX7_append_26 rfl (fun v3 => ?_)
      refine mv_aload_n 0 dX7_append_29 rfl rfl rfl ?_
      refine mv_getI fd_X7_7 lk_X7_113 dX7_append_30 rfl (fun v4 => ?_)
      refine mv_iload_n 1 dX7_append_33 rfl rfl rfl ?_
      refine mv_iast dX7_append_34 rfl ?_
      refine mv_aload_n 0 dX7_append_35 rfl rfl rfl ?_
      refine mv_dup dX7_append_36 (mv_cat N0 (some a0)) rfl ?_
      refine mv_getI fd_X7_7 lk_X7_113 dX7_append_37 rfl (fun v5 => ?_)
      refine mv_iconst (v := (1 : Int32)) dX7_append_40 (by decide) rfl ?_
      refine mv_iadd dX7_append_41 rfl ?_
      refine mv_putI fd_X7_7 rfl (tyX7_ok 7 (by decide)) lk_X7_113 dX7_append_42 rfl ?_
      refine mv_aload_n 0 dX7_append_45 rfl rfl rfl ?_
      refine mv_getI fd_X7_7 lk_X7_113 dX7_append_46 rfl (fun v6 => ?_)
      exact mv_iret dX7_append_49
    · refine mv_bipush (v := ((-3) : Int32)) dX7_append_22 (by decide) rfl ?_
      exact mv_iret dX7_append_24
  · refine mv_iconst (v := ((-1) : Int32)) dX7_append_11 (by decide) rfl ?_
    exact mv_iret dX7_append_12

def F_X7_stallOn (a0 : Nat) (a1 : Int32) : mv_M Int32 :=
  mv_bd (mv_gR 7 12 0 (some a0)) fun v1 =>
  mv_bd (mv_rm a1 (7 : Int32)) fun v2 =>
  mv_bd (mv_aI v1 ((9 : Int32) + v2)) fun v3 =>
  mv_pu v3

set_option maxHeartbeats 4000000 in
set_option maxRecDepth 100000 in
theorem c_X7_stallOn (l : Launch) (N0 : Nat) (D : va_G) (dA : Nat → ClassId) (a0 : Nat) (a1 : Int32) : mv_SimM l N0 D dA yX7_stallOn cX7_stallOn 2 (some .int) 0 0 mv_rI [.ref (N0 + a0), .int a1] (F_X7_stallOn a0 a1) := by
  refine mv_SimM_of (L0 := [(0, mv_vr N0 (some a0)), (1, .int a1)]) false (by decide +kernel) (Nat.le_of_ble_eq_true rfl) rfl (List.forall_mem_cons.mpr ⟨mv_cat N0 (some a0), List.forall_mem_cons.mpr ⟨rfl, fun _ h => absurd h List.not_mem_nil⟩⟩) (fun z => by cases z) ?_
  unfold F_X7_stallOn
  show mv_Sim l N0 D dA RX7 cX7_stallOn 2 0 0 (some .int) false mv_rI 0 _ _ _
  refine mv_aload_n 0 dX7_stallOn_0 rfl rfl rfl ?_
  refine mv_getR fd_X7_0 lk_X7_7 dX7_stallOn_1 rfl (fun v1 => ?_)
  refine mv_bipush (v := (9 : Int32)) dX7_stallOn_4 (by decide) rfl ?_
  refine mv_iload_n 1 dX7_stallOn_6 rfl rfl rfl ?_
  refine mv_bipush (v := (7 : Int32)) dX7_stallOn_7 (by decide) rfl ?_
  refine mv_irem dX7_stallOn_9 rfl (fun v2 => ?_)
  refine mv_iadd dX7_stallOn_10 rfl ?_
  refine mv_iald dX7_stallOn_11 rfl (fun v3 => ?_)
  exact mv_iret dX7_stallOn_12

def F_X7_ofCarrier (a0 : Nat) (a1 : Int32) (a2 : Int32) : mv_M Int32 :=
  mv_bd (mv_gR 7 12 0 (some a0)) fun v1 =>
  mv_bd (mv_aI v1 (((16 : Int32) + ((12 : Int32) * a1)) + a2)) fun v2 =>
  mv_pu v2

set_option maxHeartbeats 4000000 in
set_option maxRecDepth 100000 in
theorem c_X7_ofCarrier (l : Launch) (N0 : Nat) (D : va_G) (dA : Nat → ClassId) (a0 : Nat) (a1 : Int32) (a2 : Int32) : mv_SimM l N0 D dA yX7_ofCarrier cX7_ofCarrier 3 (some .int) 0 0 mv_rI [.ref (N0 + a0), .int a1, .int a2] (F_X7_ofCarrier a0 a1 a2) := by
  refine mv_SimM_of (L0 := [(0, mv_vr N0 (some a0)), (1, .int a1), (2, .int a2)]) false (by decide +kernel) (Nat.le_of_ble_eq_true rfl) rfl (List.forall_mem_cons.mpr ⟨mv_cat N0 (some a0), List.forall_mem_cons.mpr ⟨rfl, List.forall_mem_cons.mpr ⟨rfl, fun _ h => absurd h List.not_mem_nil⟩⟩⟩) (fun z => by cases z) ?_
  unfold F_X7_ofCarrier
  show mv_Sim l N0 D dA RX7 cX7_ofCarrier 3 0 0 (some .int) false mv_rI 0 _ _ _
  refine mv_aload_n 0 dX7_ofCarrier_0 rfl rfl rfl ?_
  refine mv_getR fd_X7_0 lk_X7_7 dX7_ofCarrier_1 rfl (fun v1 => ?_)
  refine mv_bipush (v := (16 : Int32)) dX7_ofCarrier_4 (by decide) rfl ?_
  refine mv_bipush (v := (12 : Int32)) dX7_ofCarrier_6 (by decide) rfl ?_
  refine mv_iload_n 1 dX7_ofCarrier_8 rfl rfl rfl ?_
  refine mv_imul dX7_ofCarrier_9 rfl ?_
  refine mv_iadd dX7_ofCarrier_10 rfl ?_
  refine mv_iload_n 2 dX7_ofCarrier_11 rfl rfl rfl ?_
  refine mv_iadd dX7_ofCarrier_12 rfl ?_
  refine mv_iald dX7_ofCarrier_13 rfl (fun v2 => ?_)
  exact mv_iret dX7_ofCarrier_14

def J_X7_townOf_31 (a0 : Nat) (s0 : Int32) : mv_M Int32 :=
  mv_pu s0

set_option maxHeartbeats 4000000 in
set_option maxRecDepth 100000 in
theorem sJ_X7_townOf_31 (l : Launch) (N0 : Nat) (D : va_G) (dA : Nat → ClassId) (a0 : Nat) (s0 : Int32) : mv_Sim l N0 D dA RX7 cX7_townOf 3 1 22 (some .int) false mv_rI 31 [(0, mv_vr N0 (some a0))] [.int s0] (J_X7_townOf_31 a0 s0) := by
  unfold J_X7_townOf_31
  exact mv_iret dX7_townOf_31

def F_X7_townOf (a0 : Nat) (a1 : Int32) (a2 : Int32) : mv_M Int32 :=
  mv_bd (mv_rc 7 12 (some a0)) fun i2 => mv_bd (F_X7_ofCarrier i2 a1 (9 : Int32)) fun v1 =>
  if v1 ≤ a2 then
    mv_bd (mv_rc 7 12 (some a0)) fun i4 => mv_bd (F_X7_ofCarrier i4 a1 (0 : Int32)) fun v3 =>
    mv_bd (mv_rm a2 v3) fun v5 =>
    mv_bd (mv_rc 7 12 (some a0)) fun i7 => mv_bd (F_X7_ofCarrier i7 a1 ((1 : Int32) + v5)) fun v6 =>
    J_X7_townOf_31 a0 v6
  else
    J_X7_townOf_31 a0 ((-4) : Int32)

set_option maxHeartbeats 4000000 in
set_option maxRecDepth 100000 in
theorem c_X7_townOf (l : Launch) (N0 : Nat) (D : va_G) (dA : Nat → ClassId) (a0 : Nat) (a1 : Int32) (a2 : Int32) : mv_SimM l N0 D dA yX7_townOf cX7_townOf 3 (some .int) 1 22 mv_rI [.ref (N0 + a0), .int a1, .int a2] (F_X7_townOf a0 a1 a2) := by
  refine mv_SimM_of (L0 := [(0, mv_vr N0 (some a0)), (1, .int a1), (2, .int a2)]) false (by decide +kernel) (Nat.le_of_ble_eq_true rfl) rfl (List.forall_mem_cons.mpr ⟨mv_cat N0 (some a0), List.forall_mem_cons.mpr ⟨rfl, List.forall_mem_cons.mpr ⟨rfl, fun _ h => absurd h List.not_mem_nil⟩⟩⟩) (fun z => by cases z) ?_
  unfold F_X7_townOf
  show mv_Sim l N0 D dA RX7 cX7_townOf 3 1 22 (some .int) false mv_rI 0 _ _ _
  refine mv_iload_n 2 dX7_townOf_0 rfl rfl rfl ?_
  refine mv_aload_n 0 dX7_townOf_1 rfl rfl rfl ?_
  refine mv_iload_n 1 dX7_townOf_2 rfl rfl rfl ?_
  refine mv_bipush (v := (9 : Int32)) dX7_townOf_3 (by decide) rfl ?_
  refine mv_callVi (st := [.int a2]) [.int a1, .int (9 : Int32)] (fun i2 => c_X7_ofCarrier l N0 D dA i2 a1 (9 : Int32)) (T := TX7) rfl (by decide) wc_X7_40 ⟨by decide, by decide⟩ rfl (mv_cs (Nat.le_of_ble_eq_true rfl) (List.forall_mem_cons.mpr ⟨rfl, fun _ h => absurd h List.not_mem_nil⟩)) dX7_townOf_5 rfl (fun v1 => ?_)
  refine mv_icmp_ge (tgt := 16) dX7_townOf_8 rfl rfl ?_ ?_
  · refine mv_aload_n 0 dX7_townOf_16 rfl rfl rfl ?_
    refine mv_iload_n 1 dX7_townOf_17 rfl rfl rfl ?_
    refine mv_iconst (v := (1 : Int32)) dX7_townOf_18 (by decide) rfl ?_
    refine mv_iload_n 2 dX7_townOf_19 rfl rfl rfl ?_
    refine mv_aload_n 0 dX7_townOf_20 rfl rfl rfl ?_
    refine mv_iload_n 1 dX7_townOf_21 rfl rfl rfl ?_
    refine mv_iconst (v := (0 : Int32)) dX7_townOf_22 (by decide) rfl ?_
    refine mv_callVi (st := [.int a2, .int (1 : Int32), .int a1, mv_vr N0 (some a0)]) [.int a1, .int (0 : Int32)] (fun i4 => c_X7_ofCarrier l N0 D dA i4 a1 (0 : Int32)) (T := TX7) rfl (by decide) wc_X7_40 ⟨by decide, by decide⟩ rfl (mv_cs (Nat.le_of_ble_eq_true rfl) (List.forall_mem_cons.mpr ⟨rfl, List.forall_mem_cons.mpr ⟨rfl, List.forall_mem_cons.mpr ⟨rfl, List.forall_mem_cons.mpr ⟨mv_cat N0 (some a0), fun _ h => absurd h List.not_mem_nil⟩⟩⟩⟩)) dX7_townOf_23 rfl (fun v3 => ?_)
    refine mv_irem dX7_townOf_26 rfl (fun v5 => ?_)
    refine mv_iadd dX7_townOf_27 rfl ?_
    refine mv_callVi (st := []) [.int a1, .int ((1 : Int32) + v5)] (fun i7 => c_X7_ofCarrier l N0 D dA i7 a1 ((1 : Int32) + v5)) (T := TX7) rfl (by decide) wc_X7_40 ⟨by decide, by decide⟩ rfl (mv_cs (Nat.le_of_ble_eq_true rfl) (fun _ h => absurd h List.not_mem_nil)) dX7_townOf_28 rfl (fun v6 => ?_)
    refine mv_sub [0] rfl ?_
    exact sJ_X7_townOf_31 l N0 D dA a0 v6
  · refine mv_bipush (v := ((-4) : Int32)) dX7_townOf_11 (by decide) rfl ?_
    refine mv_goto (q := 31) dX7_townOf_13 rfl ?_
    refine mv_sub [0] rfl ?_
    exact sJ_X7_townOf_31 l N0 D dA a0 ((-4) : Int32)

def J_X7_thereOn_36 (k5 : Int32 → Int32 → mv_M Int32) (a0 : Nat) (x1 : Int32) (x2 : Int32) (x4 : Int32) (s0 : Int32) (s1 : Int32) : mv_M Int32 :=
  mv_bd (mv_pu (s0 ||| s1)) fun v1 =>
  k5 v1 (x4 + (1 : Int32))

set_option maxHeartbeats 4000000 in
set_option maxRecDepth 100000 in
theorem sJ_X7_thereOn_36 (l : Launch) (N0 : Nat) (D : va_G) (dA : Nat → ClassId) (a0 : Nat) (x1 : Int32) (x2 : Int32) (x4 : Int32) (s0 : Int32) (s1 : Int32) (k5 : Int32 → Int32 → mv_M Int32) (hk5 : ∀ (y3 : Int32) (y4 : Int32), mv_Sim l N0 D dA RX7 cX7_thereOn 5 2 44 (some .int) false mv_rI 5 [(0, mv_vr N0 (some a0)), (1, .int x1), (2, .int x2), (3, .int y3), (4, .int y4)] [] (k5 y3 y4)) : mv_Sim l N0 D dA RX7 cX7_thereOn 5 2 44 (some .int) false mv_rI 36 [(0, mv_vr N0 (some a0)), (1, .int x1), (2, .int x2), (4, .int x4)] [.int s1, .int s0] (J_X7_thereOn_36 k5 a0 x1 x2 x4 s0 s1) := by
  unfold J_X7_thereOn_36
  refine mv_ior dX7_thereOn_36 rfl ?_
  refine mv_let (fun v1 => ?_)
  refine mv_istore_n [0, 1, 2, 3] dX7_thereOn_37 rfl (by decide) rfl rfl rfl ?_
  refine mv_iinc (y := (x4 + (1 : Int32))) 4 [0, 1, 2, 3] dX7_thereOn_38 rfl rfl (by decide) rfl rfl rfl ?_
  refine mv_goto (q := 5) dX7_thereOn_41 rfl ?_
  refine mv_sub [2, 3, 4, 1, 0] rfl ?_
  exact hk5 v1 (x4 + (1 : Int32))

def Lp_X7_thereOn_5 (a0 : Nat) (x1 : Int32) (x2 : Int32) : Nat → Int32 → Int32 → mv_M Int32
  | 0, _, _ => mv_fl
  | n + 1, x3, x4 =>
    mv_bd (mv_gR 7 12 0 (some a0)) fun v2 =>
    mv_bd (mv_aI v2 (3 : Int32)) fun v3 =>
    if v3 ≤ x4 then
      mv_pu x3
    else
      mv_bd (mv_rc 7 12 (some a0)) fun i5 => mv_bd (F_X7_townOf i5 x4 x2) fun v4 =>
      if v4 = x1 then
        J_X7_thereOn_36 (Lp_X7_thereOn_5 a0 x1 x2 n) a0 x1 x2 x4 x3 ((1 : Int32) <<< (x4 &&& 31))
      else
        J_X7_thereOn_36 (Lp_X7_thereOn_5 a0 x1 x2 n) a0 x1 x2 x4 x3 (0 : Int32)

set_option maxHeartbeats 4000000 in
set_option maxRecDepth 100000 in
theorem sLp_X7_thereOn_5 (l : Launch) (N0 : Nat) (D : va_G) (dA : Nat → ClassId) (a0 : Nat) (x1 : Int32) (x2 : Int32) : ∀ (n : Nat) (x3 : Int32) (x4 : Int32), mv_Sim l N0 D dA RX7 cX7_thereOn 5 2 44 (some .int) false mv_rI 5 [(0, mv_vr N0 (some a0)), (1, .int x1), (2, .int x2), (3, .int x3), (4, .int x4)] [] (Lp_X7_thereOn_5 a0 x1 x2 n x3 x4) := by
  intro n
  induction n with
  | zero => intro x3 x4; rw [Lp_X7_thereOn_5]; exact mv_fl_sim
  | succ n ih =>
    intro x3 x4
    rw [Lp_X7_thereOn_5]
    refine mv_iload 4 dX7_thereOn_5 rfl rfl ?_
    refine mv_aload_n 0 dX7_thereOn_7 rfl rfl rfl ?_
    refine mv_getR fd_X7_0 lk_X7_7 dX7_thereOn_8 rfl (fun v2 => ?_)
    refine mv_iconst (v := (3 : Int32)) dX7_thereOn_11 (by decide) rfl ?_
    refine mv_iald dX7_thereOn_12 rfl (fun v3 => ?_)
    refine mv_icmp_ge (tgt := 44) dX7_thereOn_13 rfl rfl ?_ ?_
    · refine mv_iload_n 3 dX7_thereOn_44 rfl rfl rfl ?_
      exact mv_iret dX7_thereOn_45
    · refine mv_iload_n 3 dX7_thereOn_16 rfl rfl rfl ?_
      refine mv_aload_n 0 dX7_thereOn_17 rfl rfl rfl ?_
      refine mv_iload 4 dX7_thereOn_18 rfl rfl ?_
      refine mv_iload_n 2 dX7_thereOn_20 rfl rfl rfl ?_
      refine mv_callVi (st := [.int x3]) [.int x4, .int x2] (fun i5 => c_X7_townOf l N0 D dA i5 x4 x2) (T := TX7) rfl (by decide) wc_X7_47 ⟨by decide, by decide⟩ rfl (mv_cs (Nat.le_of_ble_eq_true rfl) (List.forall_mem_cons.mpr ⟨rfl, fun _ h => absurd h List.not_mem_nil⟩)) dX7_thereOn_21 rfl (fun v4 => ?_)
      refine mv_iload_n 1 dX7_thereOn_24 rfl rfl rfl ?_
      refine mv_icmp_ne (tgt := 35) dX7_thereOn_25 rfl rfl ?_ ?_
      · refine mv_iconst (v := (0 : Int32)) dX7_thereOn_35 (by decide) rfl ?_
        refine mv_sub [0, 1, 2, 4] rfl ?_
        exact sJ_X7_thereOn_36 l N0 D dA a0 x1 x2 x4 x3 (0 : Int32) _ ih
      · refine mv_iconst (v := (1 : Int32)) dX7_thereOn_28 (by decide) rfl ?_
        refine mv_iload 4 dX7_thereOn_29 rfl rfl ?_
        refine mv_ishl dX7_thereOn_31 rfl ?_
        refine mv_goto (q := 36) dX7_thereOn_32 rfl ?_
        refine mv_sub [0, 1, 2, 4] rfl ?_
        exact sJ_X7_thereOn_36 l N0 D dA a0 x1 x2 x4 x3 ((1 : Int32) <<< (x4 &&& 31)) _ ih

def F_X7_thereOn (a0 : Nat) (a1 : Int32) (a2 : Int32) : mv_M Int32 :=
  Lp_X7_thereOn_5 a0 a1 a2 mv_FU (0 : Int32) (0 : Int32)

set_option maxHeartbeats 4000000 in
set_option maxRecDepth 100000 in
theorem c_X7_thereOn (l : Launch) (N0 : Nat) (D : va_G) (dA : Nat → ClassId) (a0 : Nat) (a1 : Int32) (a2 : Int32) : mv_SimM l N0 D dA yX7_thereOn cX7_thereOn 5 (some .int) 2 44 mv_rI [.ref (N0 + a0), .int a1, .int a2] (F_X7_thereOn a0 a1 a2) := by
  refine mv_SimM_of (L0 := [(0, mv_vr N0 (some a0)), (1, .int a1), (2, .int a2)]) false (by decide +kernel) (Nat.le_of_ble_eq_true rfl) rfl (List.forall_mem_cons.mpr ⟨mv_cat N0 (some a0), List.forall_mem_cons.mpr ⟨rfl, List.forall_mem_cons.mpr ⟨rfl, fun _ h => absurd h List.not_mem_nil⟩⟩⟩) (fun z => by cases z) ?_
  unfold F_X7_thereOn
  show mv_Sim l N0 D dA RX7 cX7_thereOn 5 2 44 (some .int) false mv_rI 0 _ _ _
  refine mv_iconst (v := (0 : Int32)) dX7_thereOn_0 (by decide) rfl ?_
  refine mv_istore_n [0, 1, 2] dX7_thereOn_1 rfl (by decide) rfl rfl rfl ?_
  refine mv_iconst (v := (0 : Int32)) dX7_thereOn_2 (by decide) rfl ?_
  refine mv_istore [0, 1, 2, 3] dX7_thereOn_3 (by decide) rfl rfl rfl ?_
  refine mv_sub [2, 3, 4, 1, 0] rfl ?_
  exact sLp_X7_thereOn_5 l N0 D dA a0 a1 a2 mv_FU (0 : Int32) (0 : Int32)

def J_X7_arrivalOf_97 (k13 : Int32 → Int32 → Int32 → mv_M Int32) (a0 : Nat) (x1 : Int32) (x2 : Int32) (x4 : Int32) (x5 : Int32) (x7 : Int32) (s0 : Int32) (s1 : Int32) : mv_M Int32 :=
  mv_bd (mv_pu (s0 ||| s1)) fun v1 =>
  k13 x5 v1 (x7 + (1 : Int32))

set_option maxHeartbeats 4000000 in
set_option maxRecDepth 100000 in
theorem sJ_X7_arrivalOf_97 (l : Launch) (N0 : Nat) (D : va_G) (dA : Nat → ClassId) (a0 : Nat) (x1 : Int32) (x2 : Int32) (x4 : Int32) (x5 : Int32) (x7 : Int32) (s0 : Int32) (s1 : Int32) (k13 : Int32 → Int32 → Int32 → mv_M Int32) (hk13 : ∀ (y5 : Int32) (y6 : Int32) (y7 : Int32), mv_Sim l N0 D dA RX7 cX7_arrivalOf 9 3 68 (some .int) false mv_rI 13 [(0, mv_vr N0 (some a0)), (1, .int x1), (2, .int x2), (4, .int x4), (5, .int y5), (6, .int y6), (7, .int y7)] [] (k13 y5 y6 y7)) : mv_Sim l N0 D dA RX7 cX7_arrivalOf 9 3 68 (some .int) false mv_rI 97 [(0, mv_vr N0 (some a0)), (1, .int x1), (2, .int x2), (4, .int x4), (5, .int x5), (7, .int x7)] [.int s1, .int s0] (J_X7_arrivalOf_97 k13 a0 x1 x2 x4 x5 x7 s0 s1) := by
  unfold J_X7_arrivalOf_97
  refine mv_ior dX7_arrivalOf_97 rfl ?_
  refine mv_let (fun v1 => ?_)
  refine mv_istore [0, 1, 2, 3, 4, 5] dX7_arrivalOf_98 (by decide) rfl rfl rfl ?_
  refine mv_iinc (y := (x7 + (1 : Int32))) 6 [0, 1, 2, 3, 4, 5] dX7_arrivalOf_100 rfl rfl (by decide) rfl rfl rfl ?_
  refine mv_goto (q := 13) dX7_arrivalOf_103 rfl ?_
  refine mv_sub [2, 3, 4, 5, 6, 1, 0] rfl ?_
  exact hk13 x5 v1 (x7 + (1 : Int32))

def J_X7_arrivalOf_77 (k13 : Int32 → Int32 → Int32 → mv_M Int32) (a0 : Nat) (x1 : Int32) (x2 : Int32) (x4 : Int32) (x5 : Int32) (x7 : Int32) (s0 : Int32) (s1 : Int32) : mv_M Int32 :=
  mv_bd (mv_pu (s0 ||| s1)) fun v2 =>
  if x2 < 0 then
    J_X7_arrivalOf_97 k13 a0 x1 x2 x4 x5 x7 v2 (0 : Int32)
  else
    mv_bd (mv_rc 7 12 (some a0)) fun i4 => mv_bd (F_X7_thereOn i4 x2 x7) fun v3 =>
    J_X7_arrivalOf_97 k13 a0 x1 x2 x4 x5 x7 v2 v3

set_option maxHeartbeats 4000000 in
set_option maxRecDepth 100000 in
theorem sJ_X7_arrivalOf_77 (l : Launch) (N0 : Nat) (D : va_G) (dA : Nat → ClassId) (a0 : Nat) (x1 : Int32) (x2 : Int32) (x4 : Int32) (x5 : Int32) (x7 : Int32) (s0 : Int32) (s1 : Int32) (k13 : Int32 → Int32 → Int32 → mv_M Int32) (hk13 : ∀ (y5 : Int32) (y6 : Int32) (y7 : Int32), mv_Sim l N0 D dA RX7 cX7_arrivalOf 9 3 68 (some .int) false mv_rI 13 [(0, mv_vr N0 (some a0)), (1, .int x1), (2, .int x2), (4, .int x4), (5, .int y5), (6, .int y6), (7, .int y7)] [] (k13 y5 y6 y7)) : mv_Sim l N0 D dA RX7 cX7_arrivalOf 9 3 68 (some .int) false mv_rI 77 [(0, mv_vr N0 (some a0)), (1, .int x1), (2, .int x2), (4, .int x4), (5, .int x5), (7, .int x7)] [.int s1, .int s0] (J_X7_arrivalOf_77 k13 a0 x1 x2 x4 x5 x7 s0 s1) := by
  unfold J_X7_arrivalOf_77
  refine mv_ior dX7_arrivalOf_77 rfl ?_
  refine mv_let (fun v2 => ?_)
  refine mv_istore [0, 1, 2, 3, 4, 5] dX7_arrivalOf_78 (by decide) rfl rfl rfl ?_
  refine mv_iload 0 dX7_arrivalOf_80 rfl rfl ?_
  refine mv_iload_n 3 dX7_arrivalOf_82 rfl rfl rfl ?_
  refine mv_if_lt (tgt := 96) dX7_arrivalOf_83 rfl rfl ?_ ?_
  · refine mv_iconst (v := (0 : Int32)) dX7_arrivalOf_96 (by decide) rfl ?_
    refine mv_sub [1, 2, 3, 4, 5, 6] rfl ?_
    exact sJ_X7_arrivalOf_97 l N0 D dA a0 x1 x2 x4 x5 x7 v2 (0 : Int32) _ hk13
  · refine mv_aload_n 1 dX7_arrivalOf_86 rfl rfl rfl ?_
    refine mv_iload_n 3 dX7_arrivalOf_87 rfl rfl rfl ?_
    refine mv_iload 6 dX7_arrivalOf_88 rfl rfl ?_
    refine mv_callVi (st := [.int v2]) [.int x2, .int x7] (fun i4 => c_X7_thereOn l N0 D dA i4 x2 x7) (T := TX7) rfl (by decide) wc_X7_51 ⟨by decide, by decide⟩ rfl (mv_cs (Nat.le_of_ble_eq_true rfl) (List.forall_mem_cons.mpr ⟨rfl, fun _ h => absurd h List.not_mem_nil⟩)) dX7_arrivalOf_90 rfl (fun v3 => ?_)
    refine mv_goto (q := 97) dX7_arrivalOf_93 rfl ?_
    refine mv_sub [1, 2, 3, 4, 5, 6] rfl ?_
    exact sJ_X7_arrivalOf_97 l N0 D dA a0 x1 x2 x4 x5 x7 v2 v3 _ hk13

def J_X7_arrivalOf_47 (k13 : Int32 → Int32 → Int32 → mv_M Int32) (a0 : Nat) (x1 : Int32) (x2 : Int32) (x4 : Int32) (x5 : Int32) (x6 : Int32) (x7 : Int32) : mv_M Int32 :=
  mv_bd (mv_rc 7 12 (some a0)) fun i6 => mv_bd (F_X7_stallOn i6 x7) fun v5 =>
  mv_bd (mv_rc 7 12 (some a0)) fun i8 => mv_bd (F_X7_thereOn i8 v5 x7) fun v7 =>
  if (x6 &&& v7) = 0 then
    J_X7_arrivalOf_77 k13 a0 x1 x2 x4 x5 x7 x6 (0 : Int32)
  else
    J_X7_arrivalOf_77 k13 a0 x1 x2 x4 x5 x7 x6 v7

set_option maxHeartbeats 4000000 in
set_option maxRecDepth 100000 in
theorem sJ_X7_arrivalOf_47 (l : Launch) (N0 : Nat) (D : va_G) (dA : Nat → ClassId) (a0 : Nat) (x1 : Int32) (x2 : Int32) (x4 : Int32) (x5 : Int32) (x6 : Int32) (x7 : Int32) (k13 : Int32 → Int32 → Int32 → mv_M Int32) (hk13 : ∀ (y5 : Int32) (y6 : Int32) (y7 : Int32), mv_Sim l N0 D dA RX7 cX7_arrivalOf 9 3 68 (some .int) false mv_rI 13 [(0, mv_vr N0 (some a0)), (1, .int x1), (2, .int x2), (4, .int x4), (5, .int y5), (6, .int y6), (7, .int y7)] [] (k13 y5 y6 y7)) : mv_Sim l N0 D dA RX7 cX7_arrivalOf 9 3 68 (some .int) false mv_rI 47 [(0, mv_vr N0 (some a0)), (1, .int x1), (2, .int x2), (4, .int x4), (5, .int x5), (6, .int x6), (7, .int x7)] [] (J_X7_arrivalOf_47 k13 a0 x1 x2 x4 x5 x6 x7) := by
  unfold J_X7_arrivalOf_47
  refine mv_aload_n 0 dX7_arrivalOf_47 rfl rfl rfl ?_
  refine mv_aload_n 0 dX7_arrivalOf_48 rfl rfl rfl ?_
  refine mv_iload 6 dX7_arrivalOf_49 rfl rfl ?_
  refine mv_callVi (st := [mv_vr N0 (some a0)]) [.int x7] (fun i6 => c_X7_stallOn l N0 D dA i6 x7) (T := TX7) rfl (by decide) wc_X7_54 ⟨by decide, by decide⟩ rfl (mv_cs (Nat.le_of_ble_eq_true rfl) (List.forall_mem_cons.mpr ⟨mv_cat N0 (some a0), fun _ h => absurd h List.not_mem_nil⟩)) dX7_arrivalOf_51 rfl (fun v5 => ?_)
  refine mv_iload 6 dX7_arrivalOf_54 rfl rfl ?_
  refine mv_callVi (st := []) [.int v5, .int x7] (fun i8 => c_X7_thereOn l N0 D dA i8 v5 x7) (T := TX7) rfl (by decide) wc_X7_51 ⟨by decide, by decide⟩ rfl (mv_cs (Nat.le_of_ble_eq_true rfl) (fun _ h => absurd h List.not_mem_nil)) dX7_arrivalOf_56 rfl (fun v7 => ?_)
  refine mv_istore [0, 1, 2, 3, 4, 5, 6] dX7_arrivalOf_59 (by decide) rfl rfl rfl ?_
  refine mv_iload 6 dX7_arrivalOf_61 rfl rfl ?_
  refine mv_iload 6 dX7_arrivalOf_63 rfl rfl ?_
  refine mv_iload 0 dX7_arrivalOf_65 rfl rfl ?_
  refine mv_iand dX7_arrivalOf_67 rfl ?_
  refine mv_if_eq (tgt := 76) dX7_arrivalOf_68 rfl rfl ?_ ?_
  · refine mv_iconst (v := (0 : Int32)) dX7_arrivalOf_76 (by decide) rfl ?_
    refine mv_sub [1, 2, 3, 4, 5, 7] rfl ?_
    exact sJ_X7_arrivalOf_77 l N0 D dA a0 x1 x2 x4 x5 x7 x6 (0 : Int32) _ hk13
  · refine mv_iload 0 dX7_arrivalOf_71 rfl rfl ?_
    refine mv_goto (q := 77) dX7_arrivalOf_73 rfl ?_
    refine mv_sub [1, 2, 3, 4, 5, 7] rfl ?_
    exact sJ_X7_arrivalOf_77 l N0 D dA a0 x1 x2 x4 x5 x7 x6 v7 _ hk13

def J_X7_arrivalOf_106 (a0 : Nat) (x5 : Int32) : mv_M Int32 :=
  mv_pu x5

set_option maxHeartbeats 4000000 in
set_option maxRecDepth 100000 in
theorem sJ_X7_arrivalOf_106 (l : Launch) (N0 : Nat) (D : va_G) (dA : Nat → ClassId) (a0 : Nat) (x5 : Int32) : mv_Sim l N0 D dA RX7 cX7_arrivalOf 9 3 68 (some .int) false mv_rI 106 [(0, mv_vr N0 (some a0)), (5, .int x5)] [] (J_X7_arrivalOf_106 a0 x5) := by
  unfold J_X7_arrivalOf_106
  refine mv_iload 1 dX7_arrivalOf_106 rfl rfl ?_
  exact mv_iret dX7_arrivalOf_108

def Lp_X7_arrivalOf_13 (a0 : Nat) (x1 : Int32) (x2 : Int32) (x4 : Int32) : Nat → Int32 → Int32 → Int32 → mv_M Int32
  | 0, _, _, _ => mv_fl
  | n + 1, x5, x6, x7 =>
    if (x4 + (30 : Int32)) < x7 then
      J_X7_arrivalOf_106 a0 x5
    else
      if x5 = (1000000 : Int32) then
        mv_bd (mv_rc 7 12 (some a0)) fun i10 => mv_bd (F_X7_thereOn i10 x1 x7) fun v9 =>
        if (x6 &&& v9) = 0 then
          J_X7_arrivalOf_47 (Lp_X7_arrivalOf_13 a0 x1 x2 x4 n) a0 x1 x2 x4 x5 x6 x7
        else
          J_X7_arrivalOf_47 (Lp_X7_arrivalOf_13 a0 x1 x2 x4 n) a0 x1 x2 x4 x7 x6 x7
      else
        J_X7_arrivalOf_106 a0 x5

set_option maxHeartbeats 4000000 in
set_option maxRecDepth 100000 in
theorem sLp_X7_arrivalOf_13 (l : Launch) (N0 : Nat) (D : va_G) (dA : Nat → ClassId) (a0 : Nat) (x1 : Int32) (x2 : Int32) (x4 : Int32) : ∀ (n : Nat) (x5 : Int32) (x6 : Int32) (x7 : Int32), mv_Sim l N0 D dA RX7 cX7_arrivalOf 9 3 68 (some .int) false mv_rI 13 [(0, mv_vr N0 (some a0)), (1, .int x1), (2, .int x2), (4, .int x4), (5, .int x5), (6, .int x6), (7, .int x7)] [] (Lp_X7_arrivalOf_13 a0 x1 x2 x4 n x5 x6 x7) := by
  intro n
  induction n with
  | zero => intro x5 x6 x7; rw [Lp_X7_arrivalOf_13]; exact mv_fl_sim
  | succ n ih =>
    intro x5 x6 x7
    rw [Lp_X7_arrivalOf_13]
    refine mv_iload 6 dX7_arrivalOf_13 rfl rfl ?_
    refine mv_iload 3 dX7_arrivalOf_15 rfl rfl ?_
    refine mv_bipush (v := (30 : Int32)) dX7_arrivalOf_17 (by decide) rfl ?_
    refine mv_iadd dX7_arrivalOf_19 rfl ?_
    refine mv_icmp_gt (tgt := 106) dX7_arrivalOf_20 rfl rfl ?_ ?_
    · refine mv_sub [0, 4] rfl ?_
      exact sJ_X7_arrivalOf_106 l N0 D dA a0 x5
    · refine mv_iload 4 dX7_arrivalOf_23 rfl rfl ?_
      refine mv_ldc (v := (1000000 : Int32)) dX7_arrivalOf_25 (mv_wA_of (mv_t3 (List.mem_of_getElem? (i := 185) rfl)) rfl) rfl ?_
      refine mv_icmp_ne (tgt := 106) dX7_arrivalOf_27 rfl rfl ?_ ?_
      · refine mv_sub [0, 4] rfl ?_
        exact sJ_X7_arrivalOf_106 l N0 D dA a0 x5
      · refine mv_iload 5 dX7_arrivalOf_30 rfl rfl ?_
        refine mv_aload_n 0 dX7_arrivalOf_32 rfl rfl rfl ?_
        refine mv_iload_n 1 dX7_arrivalOf_33 rfl rfl rfl ?_
        refine mv_iload 6 dX7_arrivalOf_34 rfl rfl ?_
        refine mv_callVi (st := [.int x6]) [.int x1, .int x7] (fun i10 => c_X7_thereOn l N0 D dA i10 x1 x7) (T := TX7) rfl (by decide) wc_X7_51 ⟨by decide, by decide⟩ rfl (mv_cs (Nat.le_of_ble_eq_true rfl) (List.forall_mem_cons.mpr ⟨rfl, fun _ h => absurd h List.not_mem_nil⟩)) dX7_arrivalOf_36 rfl (fun v9 => ?_)
        refine mv_iand dX7_arrivalOf_39 rfl ?_
        refine mv_if_eq (tgt := 47) dX7_arrivalOf_40 rfl rfl ?_ ?_
        · refine mv_sub [0, 1, 2, 3, 4, 5, 6] rfl ?_
          exact sJ_X7_arrivalOf_47 l N0 D dA a0 x1 x2 x4 x5 x6 x7 _ ih
        · refine mv_iload 6 dX7_arrivalOf_43 rfl rfl ?_
          refine mv_istore [0, 1, 2, 3, 5, 6] dX7_arrivalOf_45 (by decide) rfl rfl rfl ?_
          refine mv_sub [1, 2, 3, 4, 0, 5, 6] rfl ?_
          exact sJ_X7_arrivalOf_47 l N0 D dA a0 x1 x2 x4 x7 x6 x7 _ ih

def F_X7_arrivalOf (a0 : Nat) (a1 : Int32) (a2 : Int32) (a3 : Int32) (a4 : Int32) : mv_M Int32 :=
  mv_bd (mv_pu (a4 + (1 : Int32))) fun v11 =>
  Lp_X7_arrivalOf_13 a0 a1 a2 a4 mv_FU (1000000 : Int32) a3 v11

set_option maxHeartbeats 4000000 in
set_option maxRecDepth 100000 in
theorem c_X7_arrivalOf (l : Launch) (N0 : Nat) (D : va_G) (dA : Nat → ClassId) (a0 : Nat) (a1 : Int32) (a2 : Int32) (a3 : Int32) (a4 : Int32) : mv_SimM l N0 D dA yX7_arrivalOf cX7_arrivalOf 9 (some .int) 3 68 mv_rI [.ref (N0 + a0), .int a1, .int a2, .int a3, .int a4] (F_X7_arrivalOf a0 a1 a2 a3 a4) := by
  refine mv_SimM_of (L0 := [(0, mv_vr N0 (some a0)), (1, .int a1), (2, .int a2), (3, .int a3), (4, .int a4)]) false (by decide +kernel) (Nat.le_of_ble_eq_true rfl) rfl (List.forall_mem_cons.mpr ⟨mv_cat N0 (some a0), List.forall_mem_cons.mpr ⟨rfl, List.forall_mem_cons.mpr ⟨rfl, List.forall_mem_cons.mpr ⟨rfl, List.forall_mem_cons.mpr ⟨rfl, fun _ h => absurd h List.not_mem_nil⟩⟩⟩⟩⟩) (fun z => by cases z) ?_
  unfold F_X7_arrivalOf
  show mv_Sim l N0 D dA RX7 cX7_arrivalOf 9 3 68 (some .int) false mv_rI 0 _ _ _
  refine mv_ldc (v := (1000000 : Int32)) dX7_arrivalOf_0 (mv_wA_of (mv_t3 (List.mem_of_getElem? (i := 185) rfl)) rfl) rfl ?_
  refine mv_istore [0, 1, 2, 3, 4] dX7_arrivalOf_2 (by decide) rfl rfl rfl ?_
  refine mv_iload_n 4 dX7_arrivalOf_4 rfl rfl rfl ?_
  refine mv_istore [0, 1, 2, 3, 4, 5] dX7_arrivalOf_5 (by decide) rfl rfl rfl ?_
  refine mv_iload 6 dX7_arrivalOf_7 rfl rfl ?_
  refine mv_iconst (v := (1 : Int32)) dX7_arrivalOf_9 (by decide) rfl ?_
  refine mv_iadd dX7_arrivalOf_10 rfl ?_
  refine mv_let (fun v11 => ?_)
  refine mv_istore [0, 1, 2, 3, 4, 5, 6] dX7_arrivalOf_11 (by decide) rfl rfl rfl ?_
  refine mv_sub [3, 4, 5, 7, 2, 1, 0] rfl ?_
  exact sLp_X7_arrivalOf_13 l N0 D dA a0 a1 a2 a4 mv_FU (1000000 : Int32) a3 v11

def F_X7_of (a0 : Nat) (a1 : Int32) (a2 : Int32) : mv_M Int32 :=
  mv_bd (mv_gR 7 12 0 (some a0)) fun v1 =>
  mv_bd (mv_aI v1 (((64 : Int32) + ((8 : Int32) * a1)) + a2)) fun v2 =>
  mv_pu v2

set_option maxHeartbeats 4000000 in
set_option maxRecDepth 100000 in
theorem c_X7_of (l : Launch) (N0 : Nat) (D : va_G) (dA : Nat → ClassId) (a0 : Nat) (a1 : Int32) (a2 : Int32) : mv_SimM l N0 D dA yX7_of cX7_of 3 (some .int) 0 0 mv_rI [.ref (N0 + a0), .int a1, .int a2] (F_X7_of a0 a1 a2) := by
  refine mv_SimM_of (L0 := [(0, mv_vr N0 (some a0)), (1, .int a1), (2, .int a2)]) false (by decide +kernel) (Nat.le_of_ble_eq_true rfl) rfl (List.forall_mem_cons.mpr ⟨mv_cat N0 (some a0), List.forall_mem_cons.mpr ⟨rfl, List.forall_mem_cons.mpr ⟨rfl, fun _ h => absurd h List.not_mem_nil⟩⟩⟩) (fun z => by cases z) ?_
  unfold F_X7_of
  show mv_Sim l N0 D dA RX7 cX7_of 3 0 0 (some .int) false mv_rI 0 _ _ _
  refine mv_aload_n 0 dX7_of_0 rfl rfl rfl ?_
  refine mv_getR fd_X7_0 lk_X7_7 dX7_of_1 rfl (fun v1 => ?_)
  refine mv_bipush (v := (64 : Int32)) dX7_of_4 (by decide) rfl ?_
  refine mv_bipush (v := (8 : Int32)) dX7_of_6 (by decide) rfl ?_
  refine mv_iload_n 1 dX7_of_8 rfl rfl rfl ?_
  refine mv_imul dX7_of_9 rfl ?_
  refine mv_iadd dX7_of_10 rfl ?_
  refine mv_iload_n 2 dX7_of_11 rfl rfl rfl ?_
  refine mv_iadd dX7_of_12 rfl ?_
  refine mv_iald dX7_of_13 rfl (fun v2 => ?_)
  exact mv_iret dX7_of_14

def J_X7_arrivalBehind_38 (a0 : Nat) (x2 : Int32) (s1 : Int32) (s2 : Int32) (s3 : Int32) : mv_M Int32 :=
  mv_bd (mv_rc 7 12 (some a0)) fun i2 => mv_bd (F_X7_arrivalOf i2 s1 s2 s3 x2) fun v1 =>
  mv_pu v1

set_option maxHeartbeats 4000000 in
set_option maxRecDepth 100000 in
theorem sJ_X7_arrivalBehind_38 (l : Launch) (N0 : Nat) (D : va_G) (dA : Nat → ClassId) (a0 : Nat) (x2 : Int32) (s1 : Int32) (s2 : Int32) (s3 : Int32) : mv_Sim l N0 D dA RX7 cX7_arrivalBehind 3 4 96 (some .int) false mv_rI 38 [(0, mv_vr N0 (some a0)), (2, .int x2)] [.int s3, .int s2, .int s1, mv_vr N0 (some a0)] (J_X7_arrivalBehind_38 a0 x2 s1 s2 s3) := by
  unfold J_X7_arrivalBehind_38
  refine mv_iload_n 1 dX7_arrivalBehind_38 rfl rfl rfl ?_
  refine mv_callVi (st := []) [.int s1, .int s2, .int s3, .int x2] (fun i2 => c_X7_arrivalOf l N0 D dA i2 s1 s2 s3 x2) (T := TX7) rfl (by decide) wc_X7_58 ⟨by decide, by decide⟩ rfl (mv_cs (Nat.le_of_ble_eq_true rfl) (fun _ h => absurd h List.not_mem_nil)) dX7_arrivalBehind_39 rfl (fun v1 => ?_)
  exact mv_iret dX7_arrivalBehind_42

def F_X7_arrivalBehind (a0 : Nat) (a1 : Int32) (a2 : Int32) : mv_M Int32 :=
  mv_bd (mv_rc 7 12 (some a0)) fun i4 => mv_bd (F_X7_of i4 a1 (0 : Int32)) fun v3 =>
  mv_bd (mv_rc 7 12 (some a0)) fun i6 => mv_bd (F_X7_of i6 a1 (1 : Int32)) fun v5 =>
  mv_bd (mv_rc 7 12 (some a0)) fun i8 => mv_bd (F_X7_of i8 a1 (2 : Int32)) fun v7 =>
  if v7 = 0 then
    J_X7_arrivalBehind_38 a0 a2 v3 (v5 - (1 : Int32)) (0 : Int32)
  else
    mv_bd (mv_rc 7 12 (some a0)) fun i10 => mv_bd (F_X7_of i10 a1 (2 : Int32)) fun v9 =>
    J_X7_arrivalBehind_38 a0 a2 v3 (v5 - (1 : Int32)) ((1 : Int32) <<< ((v9 - (1 : Int32)) &&& 31))

set_option maxHeartbeats 4000000 in
set_option maxRecDepth 100000 in
theorem c_X7_arrivalBehind (l : Launch) (N0 : Nat) (D : va_G) (dA : Nat → ClassId) (a0 : Nat) (a1 : Int32) (a2 : Int32) : mv_SimM l N0 D dA yX7_arrivalBehind cX7_arrivalBehind 3 (some .int) 4 96 mv_rI [.ref (N0 + a0), .int a1, .int a2] (F_X7_arrivalBehind a0 a1 a2) := by
  refine mv_SimM_of (L0 := [(0, mv_vr N0 (some a0)), (1, .int a1), (2, .int a2)]) false (by decide +kernel) (Nat.le_of_ble_eq_true rfl) rfl (List.forall_mem_cons.mpr ⟨mv_cat N0 (some a0), List.forall_mem_cons.mpr ⟨rfl, List.forall_mem_cons.mpr ⟨rfl, fun _ h => absurd h List.not_mem_nil⟩⟩⟩) (fun z => by cases z) ?_
  unfold F_X7_arrivalBehind
  show mv_Sim l N0 D dA RX7 cX7_arrivalBehind 3 4 96 (some .int) false mv_rI 0 _ _ _
  refine mv_aload_n 0 dX7_arrivalBehind_0 rfl rfl rfl ?_
  refine mv_aload_n 0 dX7_arrivalBehind_1 rfl rfl rfl ?_
  refine mv_iload_n 1 dX7_arrivalBehind_2 rfl rfl rfl ?_
  refine mv_iconst (v := (0 : Int32)) dX7_arrivalBehind_3 (by decide) rfl ?_
  refine mv_callVi (st := [mv_vr N0 (some a0)]) [.int a1, .int (0 : Int32)] (fun i4 => c_X7_of l N0 D dA i4 a1 (0 : Int32)) (T := TX7) rfl (by decide) wc_X7_44 ⟨by decide, by decide⟩ rfl (mv_cs (Nat.le_of_ble_eq_true rfl) (List.forall_mem_cons.mpr ⟨mv_cat N0 (some a0), fun _ h => absurd h List.not_mem_nil⟩)) dX7_arrivalBehind_4 rfl (fun v3 => ?_)
  refine mv_aload_n 0 dX7_arrivalBehind_7 rfl rfl rfl ?_
  refine mv_iload_n 1 dX7_arrivalBehind_8 rfl rfl rfl ?_
  refine mv_iconst (v := (1 : Int32)) dX7_arrivalBehind_9 (by decide) rfl ?_
  refine mv_callVi (st := [.int v3, mv_vr N0 (some a0)]) [.int a1, .int (1 : Int32)] (fun i6 => c_X7_of l N0 D dA i6 a1 (1 : Int32)) (T := TX7) rfl (by decide) wc_X7_44 ⟨by decide, by decide⟩ rfl (mv_cs (Nat.le_of_ble_eq_true rfl) (List.forall_mem_cons.mpr ⟨rfl, List.forall_mem_cons.mpr ⟨mv_cat N0 (some a0), fun _ h => absurd h List.not_mem_nil⟩⟩)) dX7_arrivalBehind_10 rfl (fun v5 => ?_)
  refine mv_iconst (v := (1 : Int32)) dX7_arrivalBehind_13 (by decide) rfl ?_
  refine mv_isub dX7_arrivalBehind_14 rfl ?_
  refine mv_aload_n 0 dX7_arrivalBehind_15 rfl rfl rfl ?_
  refine mv_iload_n 1 dX7_arrivalBehind_16 rfl rfl rfl ?_
  refine mv_iconst (v := (2 : Int32)) dX7_arrivalBehind_17 (by decide) rfl ?_
  refine mv_callVi (st := [.int (v5 - (1 : Int32)), .int v3, mv_vr N0 (some a0)]) [.int a1, .int (2 : Int32)] (fun i8 => c_X7_of l N0 D dA i8 a1 (2 : Int32)) (T := TX7) rfl (by decide) wc_X7_44 ⟨by decide, by decide⟩ rfl (mv_cs (Nat.le_of_ble_eq_true rfl) (List.forall_mem_cons.mpr ⟨rfl, List.forall_mem_cons.mpr ⟨rfl, List.forall_mem_cons.mpr ⟨mv_cat N0 (some a0), fun _ h => absurd h List.not_mem_nil⟩⟩⟩)) dX7_arrivalBehind_18 rfl (fun v7 => ?_)
  refine mv_if_ne (tgt := 28) dX7_arrivalBehind_21 rfl rfl ?_ ?_
  · refine mv_iconst (v := (1 : Int32)) dX7_arrivalBehind_28 (by decide) rfl ?_
    refine mv_aload_n 0 dX7_arrivalBehind_29 rfl rfl rfl ?_
    refine mv_iload_n 1 dX7_arrivalBehind_30 rfl rfl rfl ?_
    refine mv_iconst (v := (2 : Int32)) dX7_arrivalBehind_31 (by decide) rfl ?_
    refine mv_callVi (st := [.int (1 : Int32), .int (v5 - (1 : Int32)), .int v3, mv_vr N0 (some a0)]) [.int a1, .int (2 : Int32)] (fun i10 => c_X7_of l N0 D dA i10 a1 (2 : Int32)) (T := TX7) rfl (by decide) wc_X7_44 ⟨by decide, by decide⟩ rfl (mv_cs (Nat.le_of_ble_eq_true rfl) (List.forall_mem_cons.mpr ⟨rfl, List.forall_mem_cons.mpr ⟨rfl, List.forall_mem_cons.mpr ⟨rfl, List.forall_mem_cons.mpr ⟨mv_cat N0 (some a0), fun _ h => absurd h List.not_mem_nil⟩⟩⟩⟩)) dX7_arrivalBehind_32 rfl (fun v9 => ?_)
    refine mv_iconst (v := (1 : Int32)) dX7_arrivalBehind_35 (by decide) rfl ?_
    refine mv_isub dX7_arrivalBehind_36 rfl ?_
    refine mv_ishl dX7_arrivalBehind_37 rfl ?_
    refine mv_sub [0, 2] rfl ?_
    exact sJ_X7_arrivalBehind_38 l N0 D dA a0 a2 v3 (v5 - (1 : Int32)) ((1 : Int32) <<< ((v9 - (1 : Int32)) &&& 31))
  · refine mv_iconst (v := (0 : Int32)) dX7_arrivalBehind_24 (by decide) rfl ?_
    refine mv_goto (q := 38) dX7_arrivalBehind_25 rfl ?_
    refine mv_sub [0, 2] rfl ?_
    exact sJ_X7_arrivalBehind_38 l N0 D dA a0 a2 v3 (v5 - (1 : Int32)) (0 : Int32)

def J_X7_arrivalNow_31 (a0 : Nat) (s0 : Int32) : mv_M Int32 :=
  mv_pu s0

set_option maxHeartbeats 4000000 in
set_option maxRecDepth 100000 in
theorem sJ_X7_arrivalNow_31 (l : Launch) (N0 : Nat) (D : va_G) (dA : Nat → ClassId) (a0 : Nat) (s0 : Int32) : mv_Sim l N0 D dA RX7 cX7_arrivalNow 2 5 118 (some .int) false mv_rI 31 [(0, mv_vr N0 (some a0))] [.int s0] (J_X7_arrivalNow_31 a0 s0) := by
  unfold J_X7_arrivalNow_31
  exact mv_iret dX7_arrivalNow_31

def F_X7_arrivalNow (a0 : Nat) (a1 : Int32) : mv_M Int32 :=
  mv_bd (mv_rc 7 12 (some a0)) fun i2 => mv_bd (F_X7_of i2 a1 (3 : Int32)) fun v1 =>
  if v1 ≤ 0 then
    mv_bd (mv_gR 7 12 0 (some a0)) fun v3 =>
    mv_bd (mv_aI v3 (0 : Int32)) fun v4 =>
    mv_bd (mv_rc 7 12 (some a0)) fun i6 => mv_bd (F_X7_arrivalBehind i6 a1 v4) fun v5 =>
    J_X7_arrivalNow_31 a0 v5
  else
    mv_bd (mv_rc 7 12 (some a0)) fun i8 => mv_bd (F_X7_of i8 a1 (3 : Int32)) fun v7 =>
    J_X7_arrivalNow_31 a0 (v7 - (1 : Int32))

set_option maxHeartbeats 4000000 in
set_option maxRecDepth 100000 in
theorem c_X7_arrivalNow (l : Launch) (N0 : Nat) (D : va_G) (dA : Nat → ClassId) (a0 : Nat) (a1 : Int32) : mv_SimM l N0 D dA yX7_arrivalNow cX7_arrivalNow 2 (some .int) 5 118 mv_rI [.ref (N0 + a0), .int a1] (F_X7_arrivalNow a0 a1) := by
  refine mv_SimM_of (L0 := [(0, mv_vr N0 (some a0)), (1, .int a1)]) false (by decide +kernel) (Nat.le_of_ble_eq_true rfl) rfl (List.forall_mem_cons.mpr ⟨mv_cat N0 (some a0), List.forall_mem_cons.mpr ⟨rfl, fun _ h => absurd h List.not_mem_nil⟩⟩) (fun z => by cases z) ?_
  unfold F_X7_arrivalNow
  show mv_Sim l N0 D dA RX7 cX7_arrivalNow 2 5 118 (some .int) false mv_rI 0 _ _ _
  refine mv_aload_n 0 dX7_arrivalNow_0 rfl rfl rfl ?_
  refine mv_iload_n 1 dX7_arrivalNow_1 rfl rfl rfl ?_
  refine mv_iconst (v := (3 : Int32)) dX7_arrivalNow_2 (by decide) rfl ?_
  refine mv_callVi (st := []) [.int a1, .int (3 : Int32)] (fun i2 => c_X7_of l N0 D dA i2 a1 (3 : Int32)) (T := TX7) rfl (by decide) wc_X7_44 ⟨by decide, by decide⟩ rfl (mv_cs (Nat.le_of_ble_eq_true rfl) (fun _ h => absurd h List.not_mem_nil)) dX7_arrivalNow_3 rfl (fun v1 => ?_)
  refine mv_if_le (tgt := 20) dX7_arrivalNow_6 rfl rfl ?_ ?_
  · refine mv_aload_n 0 dX7_arrivalNow_20 rfl rfl rfl ?_
    refine mv_iload_n 1 dX7_arrivalNow_21 rfl rfl rfl ?_
    refine mv_aload_n 0 dX7_arrivalNow_22 rfl rfl rfl ?_
    refine mv_getR fd_X7_0 lk_X7_7 dX7_arrivalNow_23 rfl (fun v3 => ?_)
    refine mv_iconst (v := (0 : Int32)) dX7_arrivalNow_26 (by decide) rfl ?_
    refine mv_iald dX7_arrivalNow_27 rfl (fun v4 => ?_)
    refine mv_callVi (st := []) [.int a1, .int v4] (fun i6 => c_X7_arrivalBehind l N0 D dA i6 a1 v4) (T := TX7) rfl (by decide) wc_X7_62 ⟨by decide, by decide⟩ rfl (mv_cs (Nat.le_of_ble_eq_true rfl) (fun _ h => absurd h List.not_mem_nil)) dX7_arrivalNow_28 rfl (fun v5 => ?_)
    refine mv_sub [0] rfl ?_
    exact sJ_X7_arrivalNow_31 l N0 D dA a0 v5
  · refine mv_aload_n 0 dX7_arrivalNow_9 rfl rfl rfl ?_
    refine mv_iload_n 1 dX7_arrivalNow_10 rfl rfl rfl ?_
    refine mv_iconst (v := (3 : Int32)) dX7_arrivalNow_11 (by decide) rfl ?_
    refine mv_callVi (st := []) [.int a1, .int (3 : Int32)] (fun i8 => c_X7_of l N0 D dA i8 a1 (3 : Int32)) (T := TX7) rfl (by decide) wc_X7_44 ⟨by decide, by decide⟩ rfl (mv_cs (Nat.le_of_ble_eq_true rfl) (fun _ h => absurd h List.not_mem_nil)) dX7_arrivalNow_12 rfl (fun v7 => ?_)
    refine mv_iconst (v := (1 : Int32)) dX7_arrivalNow_15 (by decide) rfl ?_
    refine mv_isub dX7_arrivalNow_16 rfl ?_
    refine mv_goto (q := 31) dX7_arrivalNow_17 rfl ?_
    refine mv_sub [0] rfl ?_
    exact sJ_X7_arrivalNow_31 l N0 D dA a0 (v7 - (1 : Int32))

def F_X7_isBundle (a0 : Nat) (a1 : Int32) : mv_M Int32 :=
  mv_bd (mv_gR 7 12 0 (some a0)) fun v1 =>
  mv_bd (mv_aI v1 (4 : Int32)) fun v2 =>
  mv_bd (F_X7_in a1 (0 : Int32) (v2 - (1 : Int32))) fun v3 =>
  mv_rz v3

set_option maxHeartbeats 4000000 in
set_option maxRecDepth 100000 in
theorem c_X7_isBundle (l : Launch) (N0 : Nat) (D : va_G) (dA : Nat → ClassId) (a0 : Nat) (a1 : Int32) : mv_SimM l N0 D dA yX7_isBundle cX7_isBundle 2 (some .boolean) 1 22 mv_rI [.ref (N0 + a0), .int a1] (F_X7_isBundle a0 a1) := by
  refine mv_SimM_of (L0 := [(0, mv_vr N0 (some a0)), (1, .int a1)]) false (by decide +kernel) (Nat.le_of_ble_eq_true rfl) rfl (List.forall_mem_cons.mpr ⟨mv_cat N0 (some a0), List.forall_mem_cons.mpr ⟨rfl, fun _ h => absurd h List.not_mem_nil⟩⟩) (fun z => by cases z) ?_
  unfold F_X7_isBundle
  show mv_Sim l N0 D dA RX7 cX7_isBundle 2 1 22 (some .boolean) false mv_rI 0 _ _ _
  refine mv_iload_n 1 dX7_isBundle_0 rfl rfl rfl ?_
  refine mv_iconst (v := (0 : Int32)) dX7_isBundle_1 (by decide) rfl ?_
  refine mv_aload_n 0 dX7_isBundle_2 rfl rfl rfl ?_
  refine mv_getR fd_X7_0 lk_X7_7 dX7_isBundle_3 rfl (fun v1 => ?_)
  refine mv_iconst (v := (4 : Int32)) dX7_isBundle_6 (by decide) rfl ?_
  refine mv_iald dX7_isBundle_7 rfl (fun v2 => ?_)
  refine mv_iconst (v := (1 : Int32)) dX7_isBundle_8 (by decide) rfl ?_
  refine mv_isub dX7_isBundle_9 rfl ?_
  refine mv_callSi (st := []) [.int a1, .int (0 : Int32), .int (v2 - (1 : Int32))] (c_X7_in l N0 D dA a1 (0 : Int32) (v2 - (1 : Int32))) wc_X7_36 ⟨by decide, by decide⟩ rfl (mv_cs (Nat.le_of_ble_eq_true rfl) (fun _ h => absurd h List.not_mem_nil)) dX7_isBundle_10 rfl (fun v3 => ?_)
  exact mv_zret dX7_isBundle_13

def J_X7_orNone_12 (s0 : Int32) : mv_M Int32 :=
  mv_pu s0

set_option maxHeartbeats 4000000 in
set_option maxRecDepth 100000 in
theorem sJ_X7_orNone_12 (l : Launch) (N0 : Nat) (D : va_G) (dA : Nat → ClassId) (s0 : Int32) : mv_Sim l N0 D dA RX7 cX7_orNone 1 0 0 (some .int) false mv_rI 12 [] [.int s0] (J_X7_orNone_12 s0) := by
  unfold J_X7_orNone_12
  exact mv_iret dX7_orNone_12

def F_X7_orNone (a0 : Int32) : mv_M Int32 :=
  if a0 = (1000000 : Int32) then
    J_X7_orNone_12 ((-4) : Int32)
  else
    J_X7_orNone_12 a0

set_option maxHeartbeats 4000000 in
set_option maxRecDepth 100000 in
theorem c_X7_orNone (l : Launch) (N0 : Nat) (D : va_G) (dA : Nat → ClassId) (a0 : Int32) : mv_SimM l N0 D dA yX7_orNone cX7_orNone 1 (some .int) 0 0 mv_rI [.int a0] (F_X7_orNone a0) := by
  refine mv_SimM_of (L0 := [(0, .int a0)]) false (by decide +kernel) (Nat.le_of_ble_eq_true rfl) rfl (List.forall_mem_cons.mpr ⟨rfl, fun _ h => absurd h List.not_mem_nil⟩) (fun z => by cases z) ?_
  unfold F_X7_orNone
  show mv_Sim l N0 D dA RX7 cX7_orNone 1 0 0 (some .int) false mv_rI 0 _ _ _
  refine mv_iload_n 0 dX7_orNone_0 rfl rfl rfl ?_
  refine mv_ldc (v := (1000000 : Int32)) dX7_orNone_1 (mv_wA_of (mv_t3 (List.mem_of_getElem? (i := 185) rfl)) rfl) rfl ?_
  refine mv_icmp_ne (tgt := 11) dX7_orNone_3 rfl rfl ?_ ?_
  · refine mv_iload_n 0 dX7_orNone_11 rfl rfl rfl ?_
    refine mv_sub [] rfl ?_
    exact sJ_X7_orNone_12 l N0 D dA a0
  · refine mv_bipush (v := ((-4) : Int32)) dX7_orNone_6 (by decide) rfl ?_
    refine mv_goto (q := 12) dX7_orNone_8 rfl ?_
    refine mv_sub [] rfl ?_
    exact sJ_X7_orNone_12 l N0 D dA ((-4) : Int32)

def J_X7_arrival_29 (a0 : Nat) (s0 : Int32) : mv_M Int32 :=
  mv_pu s0

set_option maxHeartbeats 4000000 in
set_option maxRecDepth 100000 in
theorem sJ_X7_arrival_29 (l : Launch) (N0 : Nat) (D : va_G) (dA : Nat → ClassId) (a0 : Nat) (s0 : Int32) : mv_Sim l N0 D dA RX7 cX7_arrival 3 6 139 (some .int) false mv_rI 29 [(0, mv_vr N0 (some a0))] [.int s0] (J_X7_arrival_29 a0 s0) := by
  unfold J_X7_arrival_29
  exact mv_iret dX7_arrival_29

def J_X7_arrival_28 (a0 : Nat) : mv_M Int32 :=
  J_X7_arrival_29 a0 ((-1) : Int32)

set_option maxHeartbeats 4000000 in
set_option maxRecDepth 100000 in
theorem sJ_X7_arrival_28 (l : Launch) (N0 : Nat) (D : va_G) (dA : Nat → ClassId) (a0 : Nat) : mv_Sim l N0 D dA RX7 cX7_arrival 3 6 139 (some .int) false mv_rI 28 [(0, mv_vr N0 (some a0))] [] (J_X7_arrival_28 a0) := by
  unfold J_X7_arrival_28
  refine mv_iconst (v := ((-1) : Int32)) dX7_arrival_28 (by decide) rfl ?_
  refine mv_sub [0] rfl ?_
  exact sJ_X7_arrival_29 l N0 D dA a0 ((-1) : Int32)

def F_X7_arrival (a0 : Nat) (a1 : Int32) (a2 : Int32) : mv_M Int32 :=
  mv_bd (mv_rc 7 12 (some a0)) fun i2 => mv_bd (F_X7_isBundle i2 a1) fun v1 =>
  if v1 = 0 then
    J_X7_arrival_28 a0
  else
    mv_bd (F_X7_in a2 (0 : Int32) (1 : Int32)) fun v3 =>
    if v3 = 0 then
      J_X7_arrival_28 a0
    else
      mv_bd (mv_rc 7 12 (some a0)) fun i5 => mv_bd (F_X7_arrivalNow i5 a1) fun v4 =>
      mv_bd (F_X7_orNone v4) fun v6 =>
      J_X7_arrival_29 a0 v6

set_option maxHeartbeats 4000000 in
set_option maxRecDepth 100000 in
theorem c_X7_arrival (l : Launch) (N0 : Nat) (D : va_G) (dA : Nat → ClassId) (a0 : Nat) (a1 : Int32) (a2 : Int32) : mv_SimM l N0 D dA yX7_arrival cX7_arrival 3 (some .int) 6 139 mv_rI [.ref (N0 + a0), .int a1, .int a2] (F_X7_arrival a0 a1 a2) := by
  refine mv_SimM_of (L0 := [(0, mv_vr N0 (some a0)), (1, .int a1), (2, .int a2)]) false (by decide +kernel) (Nat.le_of_ble_eq_true rfl) rfl (List.forall_mem_cons.mpr ⟨mv_cat N0 (some a0), List.forall_mem_cons.mpr ⟨rfl, List.forall_mem_cons.mpr ⟨rfl, fun _ h => absurd h List.not_mem_nil⟩⟩⟩) (fun z => by cases z) ?_
  unfold F_X7_arrival
  show mv_Sim l N0 D dA RX7 cX7_arrival 3 6 139 (some .int) false mv_rI 0 _ _ _
  refine mv_aload_n 0 dX7_arrival_0 rfl rfl rfl ?_
  refine mv_iload_n 1 dX7_arrival_1 rfl rfl rfl ?_
  refine mv_callVi (st := []) [.int a1] (fun i2 => c_X7_isBundle l N0 D dA i2 a1) (T := TX7) rfl (by decide) wc_X7_107 ⟨by decide, by decide⟩ rfl (mv_cs (Nat.le_of_ble_eq_true rfl) (fun _ h => absurd h List.not_mem_nil)) dX7_arrival_2 rfl (fun v1 => ?_)
  refine mv_if_eq (tgt := 28) dX7_arrival_5 rfl rfl ?_ ?_
  · refine mv_sub [0] rfl ?_
    exact sJ_X7_arrival_28 l N0 D dA a0
  · refine mv_iload_n 2 dX7_arrival_8 rfl rfl rfl ?_
    refine mv_iconst (v := (0 : Int32)) dX7_arrival_9 (by decide) rfl ?_
    refine mv_iconst (v := (1 : Int32)) dX7_arrival_10 (by decide) rfl ?_
    refine mv_callSi (st := []) [.int a2, .int (0 : Int32), .int (1 : Int32)] (c_X7_in l N0 D dA a2 (0 : Int32) (1 : Int32)) wc_X7_36 ⟨by decide, by decide⟩ rfl (mv_cs (Nat.le_of_ble_eq_true rfl) (fun _ h => absurd h List.not_mem_nil)) dX7_arrival_11 rfl (fun v3 => ?_)
    refine mv_if_eq (tgt := 28) dX7_arrival_14 rfl rfl ?_ ?_
    · refine mv_sub [0] rfl ?_
      exact sJ_X7_arrival_28 l N0 D dA a0
    · refine mv_aload_n 0 dX7_arrival_17 rfl rfl rfl ?_
      refine mv_iload_n 1 dX7_arrival_18 rfl rfl rfl ?_
      refine mv_callVi (st := []) [.int a1] (fun i5 => c_X7_arrivalNow l N0 D dA i5 a1) (T := TX7) rfl (by decide) wc_X7_146 ⟨by decide, by decide⟩ rfl (mv_cs (Nat.le_of_ble_eq_true rfl) (fun _ h => absurd h List.not_mem_nil)) dX7_arrival_19 rfl (fun v4 => ?_)
      refine mv_callSi (st := []) [.int v4] (c_X7_orNone l N0 D dA v4) wc_X7_65 ⟨by decide, by decide⟩ rfl (mv_cs (Nat.le_of_ble_eq_true rfl) (fun _ h => absurd h List.not_mem_nil)) dX7_arrival_22 rfl (fun v6 => ?_)
      refine mv_goto (q := 29) dX7_arrival_25 rfl ?_
      refine mv_sub [0] rfl ?_
      exact sJ_X7_arrival_29 l N0 D dA a0 v6

def F_X7_isTown (a0 : Int32) : mv_M Int32 :=
  mv_bd (F_X7_in a0 (0 : Int32) (5 : Int32)) fun v1 =>
  mv_rz v1

set_option maxHeartbeats 4000000 in
set_option maxRecDepth 100000 in
theorem c_X7_isTown (l : Launch) (N0 : Nat) (D : va_G) (dA : Nat → ClassId) (a0 : Int32) : mv_SimM l N0 D dA yX7_isTown cX7_isTown 1 (some .boolean) 1 22 mv_rI [.int a0] (F_X7_isTown a0) := by
  refine mv_SimM_of (L0 := [(0, .int a0)]) false (by decide +kernel) (Nat.le_of_ble_eq_true rfl) rfl (List.forall_mem_cons.mpr ⟨rfl, fun _ h => absurd h List.not_mem_nil⟩) (fun z => by cases z) ?_
  unfold F_X7_isTown
  show mv_Sim l N0 D dA RX7 cX7_isTown 1 1 22 (some .boolean) false mv_rI 0 _ _ _
  refine mv_iload_n 0 dX7_isTown_0 rfl rfl rfl ?_
  refine mv_iconst (v := (0 : Int32)) dX7_isTown_1 (by decide) rfl ?_
  refine mv_iconst (v := (5 : Int32)) dX7_isTown_2 (by decide) rfl ?_
  refine mv_callSi (st := []) [.int a0, .int (0 : Int32), .int (5 : Int32)] (c_X7_in l N0 D dA a0 (0 : Int32) (5 : Int32)) wc_X7_36 ⟨by decide, by decide⟩ rfl (mv_cs (Nat.le_of_ble_eq_true rfl) (fun _ h => absurd h List.not_mem_nil)) dX7_isTown_3 rfl (fun v1 => ?_)
  exact mv_zret dX7_isTown_6

def J_X7_isWay_24 (s0 : Int32) : mv_M Int32 :=
  mv_rz s0

set_option maxHeartbeats 4000000 in
set_option maxRecDepth 100000 in
theorem sJ_X7_isWay_24 (l : Launch) (N0 : Nat) (D : va_G) (dA : Nat → ClassId) (s0 : Int32) : mv_Sim l N0 D dA RX7 cX7_isWay 2 2 42 (some .boolean) false mv_rI 24 [] [.int s0] (J_X7_isWay_24 s0) := by
  unfold J_X7_isWay_24
  exact mv_zret dX7_isWay_24

def J_X7_isWay_23 : mv_M Int32 :=
  J_X7_isWay_24 (0 : Int32)

set_option maxHeartbeats 4000000 in
set_option maxRecDepth 100000 in
theorem sJ_X7_isWay_23 (l : Launch) (N0 : Nat) (D : va_G) (dA : Nat → ClassId) : mv_Sim l N0 D dA RX7 cX7_isWay 2 2 42 (some .boolean) false mv_rI 23 [] [] (J_X7_isWay_23) := by
  unfold J_X7_isWay_23
  refine mv_iconst (v := (0 : Int32)) dX7_isWay_23 (by decide) rfl ?_
  refine mv_sub [] rfl ?_
  exact sJ_X7_isWay_24 l N0 D dA (0 : Int32)

def F_X7_isWay (a0 : Int32) (a1 : Int32) : mv_M Int32 :=
  mv_bd (F_X7_isTown a0) fun v1 =>
  if v1 = 0 then
    J_X7_isWay_23
  else
    mv_bd (F_X7_isTown a1) fun v2 =>
    if v2 = 0 then
      J_X7_isWay_23
    else
      if a0 = a1 then
        J_X7_isWay_23
      else
        J_X7_isWay_24 (1 : Int32)

set_option maxHeartbeats 4000000 in
set_option maxRecDepth 100000 in
theorem c_X7_isWay (l : Launch) (N0 : Nat) (D : va_G) (dA : Nat → ClassId) (a0 : Int32) (a1 : Int32) : mv_SimM l N0 D dA yX7_isWay cX7_isWay 2 (some .boolean) 2 42 mv_rI [.int a0, .int a1] (F_X7_isWay a0 a1) := by
  refine mv_SimM_of (L0 := [(0, .int a0), (1, .int a1)]) false (by decide +kernel) (Nat.le_of_ble_eq_true rfl) rfl (List.forall_mem_cons.mpr ⟨rfl, List.forall_mem_cons.mpr ⟨rfl, fun _ h => absurd h List.not_mem_nil⟩⟩) (fun z => by cases z) ?_
  unfold F_X7_isWay
  show mv_Sim l N0 D dA RX7 cX7_isWay 2 2 42 (some .boolean) false mv_rI 0 _ _ _
  refine mv_iload_n 0 dX7_isWay_0 rfl rfl rfl ?_
  refine mv_callSi (st := []) [.int a0] (c_X7_isTown l N0 D dA a0) wc_X7_97 ⟨by decide, by decide⟩ rfl (mv_cs (Nat.le_of_ble_eq_true rfl) (fun _ h => absurd h List.not_mem_nil)) dX7_isWay_1 rfl (fun v1 => ?_)
  refine mv_if_eq (tgt := 23) dX7_isWay_4 rfl rfl ?_ ?_
  · refine mv_sub [] rfl ?_
    exact sJ_X7_isWay_23 l N0 D dA
  · refine mv_iload_n 1 dX7_isWay_7 rfl rfl rfl ?_
    refine mv_callSi (st := []) [.int a1] (c_X7_isTown l N0 D dA a1) wc_X7_97 ⟨by decide, by decide⟩ rfl (mv_cs (Nat.le_of_ble_eq_true rfl) (fun _ h => absurd h List.not_mem_nil)) dX7_isWay_8 rfl (fun v2 => ?_)
    refine mv_if_eq (tgt := 23) dX7_isWay_11 rfl rfl ?_ ?_
    · refine mv_sub [] rfl ?_
      exact sJ_X7_isWay_23 l N0 D dA
    · refine mv_iload_n 0 dX7_isWay_14 rfl rfl rfl ?_
      refine mv_iload_n 1 dX7_isWay_15 rfl rfl rfl ?_
      refine mv_icmp_eq (tgt := 23) dX7_isWay_16 rfl rfl ?_ ?_
      · refine mv_sub [] rfl ?_
        exact sJ_X7_isWay_23 l N0 D dA
      · refine mv_iconst (v := (1 : Int32)) dX7_isWay_19 (by decide) rfl ?_
        refine mv_goto (q := 24) dX7_isWay_20 rfl ?_
        refine mv_sub [] rfl ?_
        exact sJ_X7_isWay_24 l N0 D dA (1 : Int32)

def J_X7_bestDay_83 (k20 : Int32 → Int32 → Int32 → mv_M Int32) (a0 : Nat) (x1 : Int32) (x2 : Int32) (x3 : Int32) (x5 : Int32) (s0 : Int32) : mv_M Int32 :=
  k20 x3 s0 (x5 + (1 : Int32))

set_option maxHeartbeats 4000000 in
set_option maxRecDepth 100000 in
theorem sJ_X7_bestDay_83 (l : Launch) (N0 : Nat) (D : va_G) (dA : Nat → ClassId) (a0 : Nat) (x1 : Int32) (x2 : Int32) (x3 : Int32) (x5 : Int32) (s0 : Int32) (k20 : Int32 → Int32 → Int32 → mv_M Int32) (hk20 : ∀ (y3 : Int32) (y4 : Int32) (y5 : Int32), mv_Sim l N0 D dA RX7 cX7_bestDay 7 4 96 (some .int) false mv_rI 20 [(0, mv_vr N0 (some a0)), (1, .int x1), (2, .int x2), (3, .int y3), (4, .int y4), (5, .int y5)] [] (k20 y3 y4 y5)) : mv_Sim l N0 D dA RX7 cX7_bestDay 7 4 96 (some .int) false mv_rI 83 [(0, mv_vr N0 (some a0)), (1, .int x1), (2, .int x2), (3, .int x3), (5, .int x5)] [.int s0] (J_X7_bestDay_83 k20 a0 x1 x2 x3 x5 s0) := by
  unfold J_X7_bestDay_83
  refine mv_istore [0, 1, 2, 3, 4] dX7_bestDay_83 (by decide) rfl rfl rfl ?_
  refine mv_iinc (y := (x5 + (1 : Int32))) 5 [0, 1, 2, 3, 4] dX7_bestDay_85 rfl rfl (by decide) rfl rfl rfl ?_
  refine mv_goto (q := 20) dX7_bestDay_88 rfl ?_
  refine mv_sub [2, 3, 4, 5, 1, 0] rfl ?_
  exact hk20 x3 s0 (x5 + (1 : Int32))

def J_X7_bestDay_68 (k20 : Int32 → Int32 → Int32 → mv_M Int32) (a0 : Nat) (x1 : Int32) (x2 : Int32) (x4 : Int32) (x5 : Int32) (x6 : Int32) (s0 : Int32) : mv_M Int32 :=
  if x4 ≤ x6 then
    J_X7_bestDay_83 k20 a0 x1 x2 s0 x5 x4
  else
    J_X7_bestDay_83 k20 a0 x1 x2 s0 x5 x6

set_option maxHeartbeats 4000000 in
set_option maxRecDepth 100000 in
theorem sJ_X7_bestDay_68 (l : Launch) (N0 : Nat) (D : va_G) (dA : Nat → ClassId) (a0 : Nat) (x1 : Int32) (x2 : Int32) (x4 : Int32) (x5 : Int32) (x6 : Int32) (s0 : Int32) (k20 : Int32 → Int32 → Int32 → mv_M Int32) (hk20 : ∀ (y3 : Int32) (y4 : Int32) (y5 : Int32), mv_Sim l N0 D dA RX7 cX7_bestDay 7 4 96 (some .int) false mv_rI 20 [(0, mv_vr N0 (some a0)), (1, .int x1), (2, .int x2), (3, .int y3), (4, .int y4), (5, .int y5)] [] (k20 y3 y4 y5)) : mv_Sim l N0 D dA RX7 cX7_bestDay 7 4 96 (some .int) false mv_rI 68 [(0, mv_vr N0 (some a0)), (1, .int x1), (2, .int x2), (4, .int x4), (5, .int x5), (6, .int x6)] [.int s0] (J_X7_bestDay_68 k20 a0 x1 x2 x4 x5 x6 s0) := by
  unfold J_X7_bestDay_68
  refine mv_istore_n [0, 1, 2, 3, 4, 5] dX7_bestDay_68 rfl (by decide) rfl rfl rfl ?_
  refine mv_iload 6 dX7_bestDay_69 rfl rfl ?_
  refine mv_iload 4 dX7_bestDay_71 rfl rfl ?_
  refine mv_icmp_ge (tgt := 81) dX7_bestDay_73 rfl rfl ?_ ?_
  · refine mv_iload 4 dX7_bestDay_81 rfl rfl ?_
    refine mv_sub [1, 2, 3, 0, 5] rfl ?_
    exact sJ_X7_bestDay_83 l N0 D dA a0 x1 x2 s0 x5 x4 _ hk20
  · refine mv_iload 6 dX7_bestDay_76 rfl rfl ?_
    refine mv_goto (q := 83) dX7_bestDay_78 rfl ?_
    refine mv_sub [1, 2, 3, 0, 5] rfl ?_
    exact sJ_X7_bestDay_83 l N0 D dA a0 x1 x2 s0 x5 x6 _ hk20

def Lp_X7_bestDay_20 (a0 : Nat) (x1 : Int32) (x2 : Int32) : Nat → Int32 → Int32 → Int32 → mv_M Int32
  | 0, _, _, _ => mv_fl
  | n + 1, x3, x4, x5 =>
    if (14 : Int32) ≤ x5 then
      mv_pu x3
    else
      mv_bd (mv_gR 7 12 0 (some a0)) fun v1 =>
      mv_bd (mv_aI v1 (0 : Int32)) fun v2 =>
      mv_bd (mv_rc 7 12 (some a0)) fun i4 => mv_bd (F_X7_arrivalOf i4 x2 x1 (0 : Int32) (v2 + x5)) fun v3 =>
      mv_bd (mv_gR 7 12 0 (some a0)) fun v5 =>
      mv_bd (mv_aI v5 (0 : Int32)) fun v6 =>
      mv_bd (mv_pu ((v3 - v6) - x5)) fun v7 =>
      if x4 ≤ v7 then
        J_X7_bestDay_68 (Lp_X7_bestDay_20 a0 x1 x2 n) a0 x1 x2 x4 x5 v7 x3
      else
        J_X7_bestDay_68 (Lp_X7_bestDay_20 a0 x1 x2 n) a0 x1 x2 x4 x5 v7 x5

set_option maxHeartbeats 4000000 in
set_option maxRecDepth 100000 in
theorem sLp_X7_bestDay_20 (l : Launch) (N0 : Nat) (D : va_G) (dA : Nat → ClassId) (a0 : Nat) (x1 : Int32) (x2 : Int32) : ∀ (n : Nat) (x3 : Int32) (x4 : Int32) (x5 : Int32), mv_Sim l N0 D dA RX7 cX7_bestDay 7 4 96 (some .int) false mv_rI 20 [(0, mv_vr N0 (some a0)), (1, .int x1), (2, .int x2), (3, .int x3), (4, .int x4), (5, .int x5)] [] (Lp_X7_bestDay_20 a0 x1 x2 n x3 x4 x5) := by
  intro n
  induction n with
  | zero => intro x3 x4 x5; rw [Lp_X7_bestDay_20]; exact mv_fl_sim
  | succ n ih =>
    intro x3 x4 x5
    rw [Lp_X7_bestDay_20]
    refine mv_iload 5 dX7_bestDay_20 rfl rfl ?_
    refine mv_bipush (v := (14 : Int32)) dX7_bestDay_22 (by decide) rfl ?_
    refine mv_icmp_ge (tgt := 91) dX7_bestDay_24 rfl rfl ?_ ?_
    · refine mv_iload_n 3 dX7_bestDay_91 rfl rfl rfl ?_
      exact mv_iret dX7_bestDay_92
    · refine mv_aload_n 0 dX7_bestDay_27 rfl rfl rfl ?_
      refine mv_iload_n 2 dX7_bestDay_28 rfl rfl rfl ?_
      refine mv_iload_n 1 dX7_bestDay_29 rfl rfl rfl ?_
      refine mv_iconst (v := (0 : Int32)) dX7_bestDay_30 (by decide) rfl ?_
      refine mv_aload_n 0 dX7_bestDay_31 rfl rfl rfl ?_
      refine mv_getR fd_X7_0 lk_X7_7 dX7_bestDay_32 rfl (fun v1 => ?_)
      refine mv_iconst (v := (0 : Int32)) dX7_bestDay_35 (by decide) rfl ?_
      refine mv_iald dX7_bestDay_36 rfl (fun v2 => ?_)
      refine mv_iload 5 dX7_bestDay_37 rfl rfl ?_
      refine mv_iadd dX7_bestDay_39 rfl ?_
      refine mv_callVi (st := []) [.int x2, .int x1, .int (0 : Int32), .int (v2 + x5)] (fun i4 => c_X7_arrivalOf l N0 D dA i4 x2 x1 (0 : Int32) (v2 + x5)) (T := TX7) rfl (by decide) wc_X7_58 ⟨by decide, by decide⟩ rfl (mv_cs (Nat.le_of_ble_eq_true rfl) (fun _ h => absurd h List.not_mem_nil)) dX7_bestDay_40 rfl (fun v3 => ?_)
      refine mv_aload_n 0 dX7_bestDay_43 rfl rfl rfl ?_
      refine mv_getR fd_X7_0 lk_X7_7 dX7_bestDay_44 rfl (fun v5 => ?_)
      refine mv_iconst (v := (0 : Int32)) dX7_bestDay_47 (by decide) rfl ?_
      refine mv_iald dX7_bestDay_48 rfl (fun v6 => ?_)
      refine mv_isub dX7_bestDay_49 rfl ?_
      refine mv_iload 5 dX7_bestDay_50 rfl rfl ?_
      refine mv_isub dX7_bestDay_52 rfl ?_
      refine mv_let (fun v7 => ?_)
      refine mv_istore [0, 1, 2, 3, 4, 5] dX7_bestDay_53 (by decide) rfl rfl rfl ?_
      refine mv_iload 0 dX7_bestDay_55 rfl rfl ?_
      refine mv_iload 5 dX7_bestDay_57 rfl rfl ?_
      refine mv_icmp_ge (tgt := 67) dX7_bestDay_59 rfl rfl ?_ ?_
      · refine mv_iload_n 4 dX7_bestDay_67 rfl rfl rfl ?_
        refine mv_sub [1, 2, 3, 5, 6, 0] rfl ?_
        exact sJ_X7_bestDay_68 l N0 D dA a0 x1 x2 x4 x5 v7 x3 _ ih
      · refine mv_iload 6 dX7_bestDay_62 rfl rfl ?_
        refine mv_goto (q := 68) dX7_bestDay_64 rfl ?_
        refine mv_sub [1, 2, 3, 5, 6, 0] rfl ?_
        exact sJ_X7_bestDay_68 l N0 D dA a0 x1 x2 x4 x5 v7 x5 _ ih

def F_X7_bestDay (a0 : Nat) (a1 : Int32) (a2 : Int32) : mv_M Int32 :=
  mv_bd (F_X7_isWay a1 a2) fun v8 =>
  if v8 = 0 then
    mv_pu ((-1) : Int32)
  else
    Lp_X7_bestDay_20 a0 a1 a2 mv_FU ((-4) : Int32) (31 : Int32) (0 : Int32)

set_option maxHeartbeats 4000000 in
set_option maxRecDepth 100000 in
theorem c_X7_bestDay (l : Launch) (N0 : Nat) (D : va_G) (dA : Nat → ClassId) (a0 : Nat) (a1 : Int32) (a2 : Int32) : mv_SimM l N0 D dA yX7_bestDay cX7_bestDay 7 (some .int) 4 96 mv_rI [.ref (N0 + a0), .int a1, .int a2] (F_X7_bestDay a0 a1 a2) := by
  refine mv_SimM_of (L0 := [(0, mv_vr N0 (some a0)), (1, .int a1), (2, .int a2)]) false (by decide +kernel) (Nat.le_of_ble_eq_true rfl) rfl (List.forall_mem_cons.mpr ⟨mv_cat N0 (some a0), List.forall_mem_cons.mpr ⟨rfl, List.forall_mem_cons.mpr ⟨rfl, fun _ h => absurd h List.not_mem_nil⟩⟩⟩) (fun z => by cases z) ?_
  unfold F_X7_bestDay
  show mv_Sim l N0 D dA RX7 cX7_bestDay 7 4 96 (some .int) false mv_rI 0 _ _ _
  refine mv_iload_n 1 dX7_bestDay_0 rfl rfl rfl ?_
  refine mv_iload_n 2 dX7_bestDay_1 rfl rfl rfl ?_
  refine mv_callSi (st := []) [.int a1, .int a2] (c_X7_isWay l N0 D dA a1 a2) wc_X7_100 ⟨by decide, by decide⟩ rfl (mv_cs (Nat.le_of_ble_eq_true rfl) (fun _ h => absurd h List.not_mem_nil)) dX7_bestDay_2 rfl (fun v8 => ?_)
  refine mv_if_ne (tgt := 10) dX7_bestDay_5 rfl rfl ?_ ?_
  · refine mv_bipush (v := ((-4) : Int32)) dX7_bestDay_10 (by decide) rfl ?_
    refine mv_istore_n [0, 1, 2] dX7_bestDay_12 rfl (by decide) rfl rfl rfl ?_
    refine mv_bipush (v := (31 : Int32)) dX7_bestDay_13 (by decide) rfl ?_
    refine mv_istore [0, 1, 2, 3] dX7_bestDay_15 (by decide) rfl rfl rfl ?_
    refine mv_iconst (v := (0 : Int32)) dX7_bestDay_17 (by decide) rfl ?_
    refine mv_istore [0, 1, 2, 3, 4] dX7_bestDay_18 (by decide) rfl rfl rfl ?_
    refine mv_sub [3, 4, 5, 2, 1, 0] rfl ?_
    exact sLp_X7_bestDay_20 l N0 D dA a0 a1 a2 mv_FU ((-4) : Int32) (31 : Int32) (0 : Int32)
  · refine mv_iconst (v := ((-1) : Int32)) dX7_bestDay_8 (by decide) rfl ?_
    exact mv_iret dX7_bestDay_9

def J_X7_bestTown_132 (k60 : Int32 → Int32 → Int32 → mv_M Int32) (a0 : Nat) (x1 : Int32) (x2 : Int32) (x3 : Int32) (x4 : Int32) (x5 : Int32) (x6 : Int32) (x7 : Int32) (x9 : Int32) (s0 : Int32) (s1 : Int32) : mv_M Int32 :=
  mv_bd (mv_pu (s0 + s1)) fun v1 =>
  k60 x7 v1 (x9 + (1 : Int32))

set_option maxHeartbeats 4000000 in
set_option maxRecDepth 100000 in
theorem sJ_X7_bestTown_132 (l : Launch) (N0 : Nat) (D : va_G) (dA : Nat → ClassId) (a0 : Nat) (x1 : Int32) (x2 : Int32) (x3 : Int32) (x4 : Int32) (x5 : Int32) (x6 : Int32) (x7 : Int32) (x9 : Int32) (s0 : Int32) (s1 : Int32) (k60 : Int32 → Int32 → Int32 → mv_M Int32) (hk60 : ∀ (y7 : Int32) (y8 : Int32) (y9 : Int32), mv_Sim l N0 D dA RX7 cX7_bestTown 11 5 118 (some .int) false mv_rI 60 [(0, mv_vr N0 (some a0)), (1, .int x1), (2, .int x2), (3, .int x3), (4, .int x4), (5, .int x5), (6, .int x6), (7, .int y7), (8, .int y8), (9, .int y9)] [] (k60 y7 y8 y9)) : mv_Sim l N0 D dA RX7 cX7_bestTown 11 5 118 (some .int) false mv_rI 132 [(0, mv_vr N0 (some a0)), (1, .int x1), (2, .int x2), (3, .int x3), (4, .int x4), (5, .int x5), (6, .int x6), (7, .int x7), (9, .int x9)] [.int s1, .int s0] (J_X7_bestTown_132 k60 a0 x1 x2 x3 x4 x5 x6 x7 x9 s0 s1) := by
  unfold J_X7_bestTown_132
  refine mv_iadd dX7_bestTown_132 rfl ?_
  refine mv_let (fun v1 => ?_)
  refine mv_istore [0, 1, 2, 3, 4, 5, 6, 7, 8] dX7_bestTown_133 (by decide) rfl rfl rfl ?_
  refine mv_iinc (y := (x9 + (1 : Int32))) 9 [0, 1, 2, 3, 4, 5, 6, 7, 8] dX7_bestTown_135 rfl rfl (by decide) rfl rfl rfl ?_
  refine mv_goto (q := 60) dX7_bestTown_138 rfl ?_
  refine mv_sub [2, 3, 4, 5, 6, 7, 8, 9, 1, 0] rfl ?_
  exact hk60 x7 v1 (x9 + (1 : Int32))

def J_X7_bestTown_114 (k60 : Int32 → Int32 → Int32 → mv_M Int32) (a0 : Nat) (x1 : Int32) (x2 : Int32) (x3 : Int32) (x4 : Int32) (x5 : Int32) (x6 : Int32) (x8 : Int32) (x9 : Int32) (x10 : Int32) (s0 : Int32) (s1 : Int32) : mv_M Int32 :=
  mv_bd (mv_pu (s0 + s1)) fun v2 =>
  if x10 = (1000000 : Int32) then
    J_X7_bestTown_132 k60 a0 x1 x2 x3 x4 x5 x6 v2 x9 x8 (0 : Int32)
  else
    J_X7_bestTown_132 k60 a0 x1 x2 x3 x4 x5 x6 v2 x9 x8 x10

set_option maxHeartbeats 4000000 in
set_option maxRecDepth 100000 in
theorem sJ_X7_bestTown_114 (l : Launch) (N0 : Nat) (D : va_G) (dA : Nat → ClassId) (a0 : Nat) (x1 : Int32) (x2 : Int32) (x3 : Int32) (x4 : Int32) (x5 : Int32) (x6 : Int32) (x8 : Int32) (x9 : Int32) (x10 : Int32) (s0 : Int32) (s1 : Int32) (k60 : Int32 → Int32 → Int32 → mv_M Int32) (hk60 : ∀ (y7 : Int32) (y8 : Int32) (y9 : Int32), mv_Sim l N0 D dA RX7 cX7_bestTown 11 5 118 (some .int) false mv_rI 60 [(0, mv_vr N0 (some a0)), (1, .int x1), (2, .int x2), (3, .int x3), (4, .int x4), (5, .int x5), (6, .int x6), (7, .int y7), (8, .int y8), (9, .int y9)] [] (k60 y7 y8 y9)) : mv_Sim l N0 D dA RX7 cX7_bestTown 11 5 118 (some .int) false mv_rI 114 [(0, mv_vr N0 (some a0)), (1, .int x1), (2, .int x2), (3, .int x3), (4, .int x4), (5, .int x5), (6, .int x6), (8, .int x8), (9, .int x9), (10, .int x10)] [.int s1, .int s0] (J_X7_bestTown_114 k60 a0 x1 x2 x3 x4 x5 x6 x8 x9 x10 s0 s1) := by
  unfold J_X7_bestTown_114
  refine mv_iadd dX7_bestTown_114 rfl ?_
  refine mv_let (fun v2 => ?_)
  refine mv_istore [0, 1, 2, 3, 4, 5, 6, 7, 8, 9] dX7_bestTown_115 (by decide) rfl rfl rfl ?_
  refine mv_iload 8 dX7_bestTown_117 rfl rfl ?_
  refine mv_iload 10 dX7_bestTown_119 rfl rfl ?_
  refine mv_ldc (v := (1000000 : Int32)) dX7_bestTown_121 (mv_wA_of (mv_t3 (List.mem_of_getElem? (i := 185) rfl)) rfl) rfl ?_
  refine mv_icmp_ne (tgt := 130) dX7_bestTown_123 rfl rfl ?_ ?_
  · refine mv_iload 10 dX7_bestTown_130 rfl rfl ?_
    refine mv_sub [1, 2, 3, 4, 5, 6, 7, 0, 9] rfl ?_
    exact sJ_X7_bestTown_132 l N0 D dA a0 x1 x2 x3 x4 x5 x6 v2 x9 x8 x10 _ hk60
  · refine mv_iconst (v := (0 : Int32)) dX7_bestTown_126 (by decide) rfl ?_
    refine mv_goto (q := 132) dX7_bestTown_127 rfl ?_
    refine mv_sub [1, 2, 3, 4, 5, 6, 7, 0, 9] rfl ?_
    exact sJ_X7_bestTown_132 l N0 D dA a0 x1 x2 x3 x4 x5 x6 v2 x9 x8 (0 : Int32) _ hk60

def J_X7_bestTown_98 (k60 : Int32 → Int32 → Int32 → mv_M Int32) (a0 : Nat) (x1 : Int32) (x2 : Int32) (x3 : Int32) (x4 : Int32) (x5 : Int32) (x6 : Int32) (x7 : Int32) (x8 : Int32) (x9 : Int32) (s0 : Int32) : mv_M Int32 :=
  if s0 = (1000000 : Int32) then
    J_X7_bestTown_114 k60 a0 x1 x2 x3 x4 x5 x6 x8 x9 s0 x7 (0 : Int32)
  else
    J_X7_bestTown_114 k60 a0 x1 x2 x3 x4 x5 x6 x8 x9 s0 x7 (1 : Int32)

set_option maxHeartbeats 4000000 in
set_option maxRecDepth 100000 in
theorem sJ_X7_bestTown_98 (l : Launch) (N0 : Nat) (D : va_G) (dA : Nat → ClassId) (a0 : Nat) (x1 : Int32) (x2 : Int32) (x3 : Int32) (x4 : Int32) (x5 : Int32) (x6 : Int32) (x7 : Int32) (x8 : Int32) (x9 : Int32) (s0 : Int32) (k60 : Int32 → Int32 → Int32 → mv_M Int32) (hk60 : ∀ (y7 : Int32) (y8 : Int32) (y9 : Int32), mv_Sim l N0 D dA RX7 cX7_bestTown 11 5 118 (some .int) false mv_rI 60 [(0, mv_vr N0 (some a0)), (1, .int x1), (2, .int x2), (3, .int x3), (4, .int x4), (5, .int x5), (6, .int x6), (7, .int y7), (8, .int y8), (9, .int y9)] [] (k60 y7 y8 y9)) : mv_Sim l N0 D dA RX7 cX7_bestTown 11 5 118 (some .int) false mv_rI 98 [(0, mv_vr N0 (some a0)), (1, .int x1), (2, .int x2), (3, .int x3), (4, .int x4), (5, .int x5), (6, .int x6), (7, .int x7), (8, .int x8), (9, .int x9)] [.int s0] (J_X7_bestTown_98 k60 a0 x1 x2 x3 x4 x5 x6 x7 x8 x9 s0) := by
  unfold J_X7_bestTown_98
  refine mv_istore [0, 1, 2, 3, 4, 5, 6, 7, 8, 9] dX7_bestTown_98 (by decide) rfl rfl rfl ?_
  refine mv_iload 8 dX7_bestTown_100 rfl rfl ?_
  refine mv_iload 0 dX7_bestTown_102 rfl rfl ?_
  refine mv_ldc (v := (1000000 : Int32)) dX7_bestTown_104 (mv_wA_of (mv_t3 (List.mem_of_getElem? (i := 185) rfl)) rfl) rfl ?_
  refine mv_icmp_ne (tgt := 113) dX7_bestTown_106 rfl rfl ?_ ?_
  · refine mv_iconst (v := (1 : Int32)) dX7_bestTown_113 (by decide) rfl ?_
    refine mv_sub [1, 2, 3, 4, 5, 6, 7, 9, 10, 0] rfl ?_
    exact sJ_X7_bestTown_114 l N0 D dA a0 x1 x2 x3 x4 x5 x6 x8 x9 s0 x7 (1 : Int32) _ hk60
  · refine mv_iconst (v := (0 : Int32)) dX7_bestTown_109 (by decide) rfl ?_
    refine mv_goto (q := 114) dX7_bestTown_110 rfl ?_
    refine mv_sub [1, 2, 3, 4, 5, 6, 7, 9, 10, 0] rfl ?_
    exact sJ_X7_bestTown_114 l N0 D dA a0 x1 x2 x3 x4 x5 x6 x8 x9 s0 x7 (0 : Int32) _ hk60

def J_X7_bestTown_207 (k33 : Int32 → Int32 → Int32 → Int32 → mv_M Int32) (a0 : Nat) (x1 : Int32) (x2 : Int32) (x3 : Int32) (x4 : Int32) (x6 : Int32) (s0 : Int32) : mv_M Int32 :=
  k33 x3 x4 s0 (x6 + (1 : Int32))

set_option maxHeartbeats 4000000 in
set_option maxRecDepth 100000 in
theorem sJ_X7_bestTown_207 (l : Launch) (N0 : Nat) (D : va_G) (dA : Nat → ClassId) (a0 : Nat) (x1 : Int32) (x2 : Int32) (x3 : Int32) (x4 : Int32) (x6 : Int32) (s0 : Int32) (k33 : Int32 → Int32 → Int32 → Int32 → mv_M Int32) (hk33 : ∀ (y3 : Int32) (y4 : Int32) (y5 : Int32) (y6 : Int32), mv_Sim l N0 D dA RX7 cX7_bestTown 11 5 118 (some .int) false mv_rI 33 [(0, mv_vr N0 (some a0)), (1, .int x1), (2, .int x2), (3, .int y3), (4, .int y4), (5, .int y5), (6, .int y6)] [] (k33 y3 y4 y5 y6)) : mv_Sim l N0 D dA RX7 cX7_bestTown 11 5 118 (some .int) false mv_rI 207 [(0, mv_vr N0 (some a0)), (1, .int x1), (2, .int x2), (3, .int x3), (4, .int x4), (6, .int x6)] [.int s0] (J_X7_bestTown_207 k33 a0 x1 x2 x3 x4 x6 s0) := by
  unfold J_X7_bestTown_207
  refine mv_istore [0, 1, 2, 3, 4, 5] dX7_bestTown_207 (by decide) rfl rfl rfl ?_
  refine mv_iinc (y := (x6 + (1 : Int32))) 6 [0, 1, 2, 3, 4, 5] dX7_bestTown_209 rfl rfl (by decide) rfl rfl rfl ?_
  refine mv_goto (q := 33) dX7_bestTown_212 rfl ?_
  refine mv_sub [2, 3, 4, 5, 6, 1, 0] rfl ?_
  exact hk33 x3 x4 s0 (x6 + (1 : Int32))

def J_X7_bestTown_193 (k33 : Int32 → Int32 → Int32 → Int32 → mv_M Int32) (a0 : Nat) (x1 : Int32) (x2 : Int32) (x3 : Int32) (x5 : Int32) (x6 : Int32) (x8 : Int32) (x9 : Int32) (s0 : Int32) : mv_M Int32 :=
  if x9 = 0 then
    J_X7_bestTown_207 k33 a0 x1 x2 x3 s0 x6 x5
  else
    J_X7_bestTown_207 k33 a0 x1 x2 x3 s0 x6 x8

set_option maxHeartbeats 4000000 in
set_option maxRecDepth 100000 in
theorem sJ_X7_bestTown_193 (l : Launch) (N0 : Nat) (D : va_G) (dA : Nat → ClassId) (a0 : Nat) (x1 : Int32) (x2 : Int32) (x3 : Int32) (x5 : Int32) (x6 : Int32) (x8 : Int32) (x9 : Int32) (s0 : Int32) (k33 : Int32 → Int32 → Int32 → Int32 → mv_M Int32) (hk33 : ∀ (y3 : Int32) (y4 : Int32) (y5 : Int32) (y6 : Int32), mv_Sim l N0 D dA RX7 cX7_bestTown 11 5 118 (some .int) false mv_rI 33 [(0, mv_vr N0 (some a0)), (1, .int x1), (2, .int x2), (3, .int y3), (4, .int y4), (5, .int y5), (6, .int y6)] [] (k33 y3 y4 y5 y6)) : mv_Sim l N0 D dA RX7 cX7_bestTown 11 5 118 (some .int) false mv_rI 193 [(0, mv_vr N0 (some a0)), (1, .int x1), (2, .int x2), (3, .int x3), (5, .int x5), (6, .int x6), (8, .int x8), (9, .int x9)] [.int s0] (J_X7_bestTown_193 k33 a0 x1 x2 x3 x5 x6 x8 x9 s0) := by
  unfold J_X7_bestTown_193
  refine mv_istore [0, 1, 2, 3, 4, 5, 6, 7] dX7_bestTown_193 (by decide) rfl rfl rfl ?_
  refine mv_iload 8 dX7_bestTown_195 rfl rfl ?_
  refine mv_if_eq (tgt := 205) dX7_bestTown_197 rfl rfl ?_ ?_
  · refine mv_iload 5 dX7_bestTown_205 rfl rfl ?_
    refine mv_sub [1, 2, 3, 4, 0, 6] rfl ?_
    exact sJ_X7_bestTown_207 l N0 D dA a0 x1 x2 x3 s0 x6 x5 _ hk33
  · refine mv_iload 7 dX7_bestTown_200 rfl rfl ?_
    refine mv_goto (q := 207) dX7_bestTown_202 rfl ?_
    refine mv_sub [1, 2, 3, 4, 0, 6] rfl ?_
    exact sJ_X7_bestTown_207 l N0 D dA a0 x1 x2 x3 s0 x6 x8 _ hk33

def J_X7_bestTown_180 (k33 : Int32 → Int32 → Int32 → Int32 → mv_M Int32) (a0 : Nat) (x1 : Int32) (x2 : Int32) (x4 : Int32) (x5 : Int32) (x6 : Int32) (x7 : Int32) (x8 : Int32) (x9 : Int32) (s0 : Int32) : mv_M Int32 :=
  if x9 = 0 then
    J_X7_bestTown_193 k33 a0 x1 x2 s0 x5 x6 x8 x9 x4
  else
    J_X7_bestTown_193 k33 a0 x1 x2 s0 x5 x6 x8 x9 x7

set_option maxHeartbeats 4000000 in
set_option maxRecDepth 100000 in
theorem sJ_X7_bestTown_180 (l : Launch) (N0 : Nat) (D : va_G) (dA : Nat → ClassId) (a0 : Nat) (x1 : Int32) (x2 : Int32) (x4 : Int32) (x5 : Int32) (x6 : Int32) (x7 : Int32) (x8 : Int32) (x9 : Int32) (s0 : Int32) (k33 : Int32 → Int32 → Int32 → Int32 → mv_M Int32) (hk33 : ∀ (y3 : Int32) (y4 : Int32) (y5 : Int32) (y6 : Int32), mv_Sim l N0 D dA RX7 cX7_bestTown 11 5 118 (some .int) false mv_rI 33 [(0, mv_vr N0 (some a0)), (1, .int x1), (2, .int x2), (3, .int y3), (4, .int y4), (5, .int y5), (6, .int y6)] [] (k33 y3 y4 y5 y6)) : mv_Sim l N0 D dA RX7 cX7_bestTown 11 5 118 (some .int) false mv_rI 180 [(0, mv_vr N0 (some a0)), (1, .int x1), (2, .int x2), (4, .int x4), (5, .int x5), (6, .int x6), (7, .int x7), (8, .int x8), (9, .int x9)] [.int s0] (J_X7_bestTown_180 k33 a0 x1 x2 x4 x5 x6 x7 x8 x9 s0) := by
  unfold J_X7_bestTown_180
  refine mv_istore_n [0, 1, 2, 3, 4, 5, 6, 7, 8] dX7_bestTown_180 rfl (by decide) rfl rfl rfl ?_
  refine mv_iload 9 dX7_bestTown_181 rfl rfl ?_
  refine mv_if_eq (tgt := 191) dX7_bestTown_183 rfl rfl ?_ ?_
  · refine mv_iload 4 dX7_bestTown_191 rfl rfl ?_
    refine mv_sub [1, 2, 3, 0, 5, 6, 8, 9] rfl ?_
    exact sJ_X7_bestTown_193 l N0 D dA a0 x1 x2 s0 x5 x6 x8 x9 x4 _ hk33
  · refine mv_iload 7 dX7_bestTown_186 rfl rfl ?_
    refine mv_goto (q := 193) dX7_bestTown_188 rfl ?_
    refine mv_sub [1, 2, 3, 0, 5, 6, 8, 9] rfl ?_
    exact sJ_X7_bestTown_193 l N0 D dA a0 x1 x2 s0 x5 x6 x8 x9 x7 _ hk33

def J_X7_bestTown_167 (k33 : Int32 → Int32 → Int32 → Int32 → mv_M Int32) (a0 : Nat) (x1 : Int32) (x2 : Int32) (x3 : Int32) (x4 : Int32) (x5 : Int32) (x6 : Int32) (x7 : Int32) (x8 : Int32) (s0 : Int32) : mv_M Int32 :=
  if s0 = 0 then
    J_X7_bestTown_180 k33 a0 x1 x2 x4 x5 x6 x7 x8 s0 x3
  else
    J_X7_bestTown_180 k33 a0 x1 x2 x4 x5 x6 x7 x8 s0 x6

set_option maxHeartbeats 4000000 in
set_option maxRecDepth 100000 in
theorem sJ_X7_bestTown_167 (l : Launch) (N0 : Nat) (D : va_G) (dA : Nat → ClassId) (a0 : Nat) (x1 : Int32) (x2 : Int32) (x3 : Int32) (x4 : Int32) (x5 : Int32) (x6 : Int32) (x7 : Int32) (x8 : Int32) (s0 : Int32) (k33 : Int32 → Int32 → Int32 → Int32 → mv_M Int32) (hk33 : ∀ (y3 : Int32) (y4 : Int32) (y5 : Int32) (y6 : Int32), mv_Sim l N0 D dA RX7 cX7_bestTown 11 5 118 (some .int) false mv_rI 33 [(0, mv_vr N0 (some a0)), (1, .int x1), (2, .int x2), (3, .int y3), (4, .int y4), (5, .int y5), (6, .int y6)] [] (k33 y3 y4 y5 y6)) : mv_Sim l N0 D dA RX7 cX7_bestTown 11 5 118 (some .int) false mv_rI 167 [(0, mv_vr N0 (some a0)), (1, .int x1), (2, .int x2), (3, .int x3), (4, .int x4), (5, .int x5), (6, .int x6), (7, .int x7), (8, .int x8)] [.int s0] (J_X7_bestTown_167 k33 a0 x1 x2 x3 x4 x5 x6 x7 x8 s0) := by
  unfold J_X7_bestTown_167
  refine mv_istore [0, 1, 2, 3, 4, 5, 6, 7, 8] dX7_bestTown_167 (by decide) rfl rfl rfl ?_
  refine mv_iload 0 dX7_bestTown_169 rfl rfl ?_
  refine mv_if_eq (tgt := 179) dX7_bestTown_171 rfl rfl ?_ ?_
  · refine mv_iload_n 4 dX7_bestTown_179 rfl rfl rfl ?_
    refine mv_sub [1, 2, 3, 5, 6, 7, 8, 9, 0] rfl ?_
    exact sJ_X7_bestTown_180 l N0 D dA a0 x1 x2 x4 x5 x6 x7 x8 s0 x3 _ hk33
  · refine mv_iload 7 dX7_bestTown_174 rfl rfl ?_
    refine mv_goto (q := 180) dX7_bestTown_176 rfl ?_
    refine mv_sub [1, 2, 3, 5, 6, 7, 8, 9, 0] rfl ?_
    exact sJ_X7_bestTown_180 l N0 D dA a0 x1 x2 x4 x5 x6 x7 x8 s0 x6 _ hk33

def J_X7_bestTown_162 (k33 : Int32 → Int32 → Int32 → Int32 → mv_M Int32) (a0 : Nat) (x1 : Int32) (x2 : Int32) (x3 : Int32) (x4 : Int32) (x5 : Int32) (x6 : Int32) (x7 : Int32) (x8 : Int32) : mv_M Int32 :=
  J_X7_bestTown_167 k33 a0 x1 x2 x3 x4 x5 x6 x7 x8 (1 : Int32)

set_option maxHeartbeats 4000000 in
set_option maxRecDepth 100000 in
theorem sJ_X7_bestTown_162 (l : Launch) (N0 : Nat) (D : va_G) (dA : Nat → ClassId) (a0 : Nat) (x1 : Int32) (x2 : Int32) (x3 : Int32) (x4 : Int32) (x5 : Int32) (x6 : Int32) (x7 : Int32) (x8 : Int32) (k33 : Int32 → Int32 → Int32 → Int32 → mv_M Int32) (hk33 : ∀ (y3 : Int32) (y4 : Int32) (y5 : Int32) (y6 : Int32), mv_Sim l N0 D dA RX7 cX7_bestTown 11 5 118 (some .int) false mv_rI 33 [(0, mv_vr N0 (some a0)), (1, .int x1), (2, .int x2), (3, .int y3), (4, .int y4), (5, .int y5), (6, .int y6)] [] (k33 y3 y4 y5 y6)) : mv_Sim l N0 D dA RX7 cX7_bestTown 11 5 118 (some .int) false mv_rI 162 [(0, mv_vr N0 (some a0)), (1, .int x1), (2, .int x2), (3, .int x3), (4, .int x4), (5, .int x5), (6, .int x6), (7, .int x7), (8, .int x8)] [] (J_X7_bestTown_162 k33 a0 x1 x2 x3 x4 x5 x6 x7 x8) := by
  unfold J_X7_bestTown_162
  refine mv_iconst (v := (1 : Int32)) dX7_bestTown_162 (by decide) rfl ?_
  refine mv_goto (q := 167) dX7_bestTown_163 rfl ?_
  refine mv_sub [0, 1, 2, 3, 4, 5, 6, 7, 8] rfl ?_
  exact sJ_X7_bestTown_167 l N0 D dA a0 x1 x2 x3 x4 x5 x6 x7 x8 (1 : Int32) _ hk33

def J_X7_bestTown_166 (k33 : Int32 → Int32 → Int32 → Int32 → mv_M Int32) (a0 : Nat) (x1 : Int32) (x2 : Int32) (x3 : Int32) (x4 : Int32) (x5 : Int32) (x6 : Int32) (x7 : Int32) (x8 : Int32) : mv_M Int32 :=
  J_X7_bestTown_167 k33 a0 x1 x2 x3 x4 x5 x6 x7 x8 (0 : Int32)

set_option maxHeartbeats 4000000 in
set_option maxRecDepth 100000 in
theorem sJ_X7_bestTown_166 (l : Launch) (N0 : Nat) (D : va_G) (dA : Nat → ClassId) (a0 : Nat) (x1 : Int32) (x2 : Int32) (x3 : Int32) (x4 : Int32) (x5 : Int32) (x6 : Int32) (x7 : Int32) (x8 : Int32) (k33 : Int32 → Int32 → Int32 → Int32 → mv_M Int32) (hk33 : ∀ (y3 : Int32) (y4 : Int32) (y5 : Int32) (y6 : Int32), mv_Sim l N0 D dA RX7 cX7_bestTown 11 5 118 (some .int) false mv_rI 33 [(0, mv_vr N0 (some a0)), (1, .int x1), (2, .int x2), (3, .int y3), (4, .int y4), (5, .int y5), (6, .int y6)] [] (k33 y3 y4 y5 y6)) : mv_Sim l N0 D dA RX7 cX7_bestTown 11 5 118 (some .int) false mv_rI 166 [(0, mv_vr N0 (some a0)), (1, .int x1), (2, .int x2), (3, .int x3), (4, .int x4), (5, .int x5), (6, .int x6), (7, .int x7), (8, .int x8)] [] (J_X7_bestTown_166 k33 a0 x1 x2 x3 x4 x5 x6 x7 x8) := by
  unfold J_X7_bestTown_166
  refine mv_iconst (v := (0 : Int32)) dX7_bestTown_166 (by decide) rfl ?_
  refine mv_sub [0, 1, 2, 3, 4, 5, 6, 7, 8] rfl ?_
  exact sJ_X7_bestTown_167 l N0 D dA a0 x1 x2 x3 x4 x5 x6 x7 x8 (0 : Int32) _ hk33

def Lp_X7_bestTown_60 (k33 : Int32 → Int32 → Int32 → Int32 → mv_M Int32) (a0 : Nat) (x1 : Int32) (x2 : Int32) (x3 : Int32) (x4 : Int32) (x5 : Int32) (x6 : Int32) : Nat → Int32 → Int32 → Int32 → mv_M Int32
  | 0, _, _, _ => mv_fl
  | n + 1, x7, x8, x9 =>
    mv_bd (mv_gR 7 12 0 (some a0)) fun v3 =>
    mv_bd (mv_aI v3 (4 : Int32)) fun v4 =>
    if v4 ≤ x9 then
      if x4 < x7 then
        J_X7_bestTown_162 k33 a0 x1 x2 x3 x4 x5 x6 x7 x8
      else
        if x7 = x4 then
          if x5 ≤ x8 then
            J_X7_bestTown_166 k33 a0 x1 x2 x3 x4 x5 x6 x7 x8
          else
            J_X7_bestTown_162 k33 a0 x1 x2 x3 x4 x5 x6 x7 x8
        else
          J_X7_bestTown_166 k33 a0 x1 x2 x3 x4 x5 x6 x7 x8
    else
      mv_bd (mv_rc 7 12 (some a0)) fun i6 => mv_bd (F_X7_of i6 x9 (3 : Int32)) fun v5 =>
      if v5 ≤ 0 then
        mv_bd (mv_gR 7 12 0 (some a0)) fun v7 =>
        mv_bd (mv_aI v7 (0 : Int32)) fun v8 =>
        mv_bd (mv_rc 7 12 (some a0)) fun i10 => mv_bd (F_X7_arrivalBehind i10 x9 v8) fun v9 =>
        J_X7_bestTown_98 (Lp_X7_bestTown_60 k33 a0 x1 x2 x3 x4 x5 x6 n) a0 x1 x2 x3 x4 x5 x6 x7 x8 x9 v9
      else
        J_X7_bestTown_98 (Lp_X7_bestTown_60 k33 a0 x1 x2 x3 x4 x5 x6 n) a0 x1 x2 x3 x4 x5 x6 x7 x8 x9 (1000000 : Int32)

set_option maxHeartbeats 4000000 in
set_option maxRecDepth 100000 in
theorem sLp_X7_bestTown_60 (l : Launch) (N0 : Nat) (D : va_G) (dA : Nat → ClassId) (a0 : Nat) (x1 : Int32) (x2 : Int32) (x3 : Int32) (x4 : Int32) (x5 : Int32) (x6 : Int32) (k33 : Int32 → Int32 → Int32 → Int32 → mv_M Int32) (hk33 : ∀ (y3 : Int32) (y4 : Int32) (y5 : Int32) (y6 : Int32), mv_Sim l N0 D dA RX7 cX7_bestTown 11 5 118 (some .int) false mv_rI 33 [(0, mv_vr N0 (some a0)), (1, .int x1), (2, .int x2), (3, .int y3), (4, .int y4), (5, .int y5), (6, .int y6)] [] (k33 y3 y4 y5 y6)) : ∀ (n : Nat) (x7 : Int32) (x8 : Int32) (x9 : Int32), mv_Sim l N0 D dA RX7 cX7_bestTown 11 5 118 (some .int) false mv_rI 60 [(0, mv_vr N0 (some a0)), (1, .int x1), (2, .int x2), (3, .int x3), (4, .int x4), (5, .int x5), (6, .int x6), (7, .int x7), (8, .int x8), (9, .int x9)] [] (Lp_X7_bestTown_60 k33 a0 x1 x2 x3 x4 x5 x6 n x7 x8 x9) := by
  intro n
  induction n with
  | zero => intro x7 x8 x9; rw [Lp_X7_bestTown_60]; exact mv_fl_sim
  | succ n ih =>
    intro x7 x8 x9
    rw [Lp_X7_bestTown_60]
    refine mv_iload 9 dX7_bestTown_60 rfl rfl ?_
    refine mv_aload_n 0 dX7_bestTown_62 rfl rfl rfl ?_
    refine mv_getR fd_X7_0 lk_X7_7 dX7_bestTown_63 rfl (fun v3 => ?_)
    refine mv_iconst (v := (4 : Int32)) dX7_bestTown_66 (by decide) rfl ?_
    refine mv_iald dX7_bestTown_67 rfl (fun v4 => ?_)
    refine mv_icmp_ge (tgt := 141) dX7_bestTown_68 rfl rfl ?_ ?_
    · refine mv_iload 7 dX7_bestTown_141 rfl rfl ?_
      refine mv_iload 4 dX7_bestTown_143 rfl rfl ?_
      refine mv_icmp_gt (tgt := 162) dX7_bestTown_145 rfl rfl ?_ ?_
      · refine mv_sub [0, 1, 2, 3, 4, 5, 6, 7, 8] rfl ?_
        exact sJ_X7_bestTown_162 l N0 D dA a0 x1 x2 x3 x4 x5 x6 x7 x8 _ hk33
      · refine mv_iload 7 dX7_bestTown_148 rfl rfl ?_
        refine mv_iload 4 dX7_bestTown_150 rfl rfl ?_
        refine mv_icmp_ne (tgt := 166) dX7_bestTown_152 rfl rfl ?_ ?_
        · refine mv_sub [0, 1, 2, 3, 4, 5, 6, 7, 8] rfl ?_
          exact sJ_X7_bestTown_166 l N0 D dA a0 x1 x2 x3 x4 x5 x6 x7 x8 _ hk33
        · refine mv_iload 8 dX7_bestTown_155 rfl rfl ?_
          refine mv_iload 5 dX7_bestTown_157 rfl rfl ?_
          refine mv_icmp_ge (tgt := 166) dX7_bestTown_159 rfl rfl ?_ ?_
          · refine mv_sub [0, 1, 2, 3, 4, 5, 6, 7, 8] rfl ?_
            exact sJ_X7_bestTown_166 l N0 D dA a0 x1 x2 x3 x4 x5 x6 x7 x8 _ hk33
          · refine mv_sub [0, 1, 2, 3, 4, 5, 6, 7, 8] rfl ?_
            exact sJ_X7_bestTown_162 l N0 D dA a0 x1 x2 x3 x4 x5 x6 x7 x8 _ hk33
    · refine mv_aload_n 0 dX7_bestTown_71 rfl rfl rfl ?_
      refine mv_iload 9 dX7_bestTown_72 rfl rfl ?_
      refine mv_iconst (v := (3 : Int32)) dX7_bestTown_74 (by decide) rfl ?_
      refine mv_callVi (st := []) [.int x9, .int (3 : Int32)] (fun i6 => c_X7_of l N0 D dA i6 x9 (3 : Int32)) (T := TX7) rfl (by decide) wc_X7_44 ⟨by decide, by decide⟩ rfl (mv_cs (Nat.le_of_ble_eq_true rfl) (fun _ h => absurd h List.not_mem_nil)) dX7_bestTown_75 rfl (fun v5 => ?_)
      refine mv_if_le (tgt := 86) dX7_bestTown_78 rfl rfl ?_ ?_
      · refine mv_aload_n 0 dX7_bestTown_86 rfl rfl rfl ?_
        refine mv_iload 9 dX7_bestTown_87 rfl rfl ?_
        refine mv_aload_n 0 dX7_bestTown_89 rfl rfl rfl ?_
        refine mv_getR fd_X7_0 lk_X7_7 dX7_bestTown_90 rfl (fun v7 => ?_)
        refine mv_iconst (v := (0 : Int32)) dX7_bestTown_93 (by decide) rfl ?_
        refine mv_iald dX7_bestTown_94 rfl (fun v8 => ?_)
        refine mv_callVi (st := []) [.int x9, .int v8] (fun i10 => c_X7_arrivalBehind l N0 D dA i10 x9 v8) (T := TX7) rfl (by decide) wc_X7_62 ⟨by decide, by decide⟩ rfl (mv_cs (Nat.le_of_ble_eq_true rfl) (fun _ h => absurd h List.not_mem_nil)) dX7_bestTown_95 rfl (fun v9 => ?_)
        refine mv_sub [0, 1, 2, 3, 4, 5, 6, 7, 8, 9] rfl ?_
        exact sJ_X7_bestTown_98 l N0 D dA a0 x1 x2 x3 x4 x5 x6 x7 x8 x9 v9 _ ih
      · refine mv_ldc (v := (1000000 : Int32)) dX7_bestTown_81 (mv_wA_of (mv_t3 (List.mem_of_getElem? (i := 185) rfl)) rfl) rfl ?_
        refine mv_goto (q := 98) dX7_bestTown_83 rfl ?_
        refine mv_sub [0, 1, 2, 3, 4, 5, 6, 7, 8, 9] rfl ?_
        exact sJ_X7_bestTown_98 l N0 D dA a0 x1 x2 x3 x4 x5 x6 x7 x8 x9 (1000000 : Int32) _ ih

def Lp_X7_bestTown_33 (a0 : Nat) (x1 : Int32) (x2 : Int32) : Nat → Int32 → Int32 → Int32 → Int32 → mv_M Int32
  | 0, _, _, _, _ => mv_fl
  | n + 1, x3, x4, x5, x6 =>
    if (6 : Int32) < x6 then
      mv_bd (mv_gR 7 12 0 (some a0)) fun v11 =>
      mv_bd (mv_aS v11 ((9 : Int32) + x1) x2) fun _ =>
      mv_pu x3
    else
      mv_bd (mv_gR 7 12 0 (some a0)) fun v12 =>
      mv_bd (mv_aS v12 ((9 : Int32) + x1) x6) fun _ =>
      Lp_X7_bestTown_60 (Lp_X7_bestTown_33 a0 x1 x2 n) a0 x1 x2 x3 x4 x5 x6 mv_FU (0 : Int32) (0 : Int32) (0 : Int32)

set_option maxHeartbeats 4000000 in
set_option maxRecDepth 100000 in
theorem sLp_X7_bestTown_33 (l : Launch) (N0 : Nat) (D : va_G) (dA : Nat → ClassId) (a0 : Nat) (x1 : Int32) (x2 : Int32) : ∀ (n : Nat) (x3 : Int32) (x4 : Int32) (x5 : Int32) (x6 : Int32), mv_Sim l N0 D dA RX7 cX7_bestTown 11 5 118 (some .int) false mv_rI 33 [(0, mv_vr N0 (some a0)), (1, .int x1), (2, .int x2), (3, .int x3), (4, .int x4), (5, .int x5), (6, .int x6)] [] (Lp_X7_bestTown_33 a0 x1 x2 n x3 x4 x5 x6) := by
  intro n
  induction n with
  | zero => intro x3 x4 x5 x6; rw [Lp_X7_bestTown_33]; exact mv_fl_sim
  | succ n ih =>
    intro x3 x4 x5 x6
    rw [Lp_X7_bestTown_33]
    refine mv_iload 6 dX7_bestTown_33 rfl rfl ?_
    refine mv_bipush (v := (6 : Int32)) dX7_bestTown_35 (by decide) rfl ?_
    refine mv_icmp_gt (tgt := 215) dX7_bestTown_37 rfl rfl ?_ ?_
    · refine mv_aload_n 0 dX7_bestTown_215 rfl rfl rfl ?_
      refine mv_getR fd_X7_0 lk_X7_7 dX7_bestTown_216 rfl (fun v11 => ?_)
      refine mv_bipush (v := (9 : Int32)) dX7_bestTown_219 (by decide) rfl ?_
      refine mv_iload_n 1 dX7_bestTown_221 rfl rfl rfl ?_
      refine mv_iadd dX7_bestTown_222 rfl ?_
      refine mv_iload_n 2 dX7_bestTown_223 rfl rfl rfl ?_
      refine mv_iast dX7_bestTown_224 rfl ?_
      refine mv_iload_n 3 dX7_bestTown_225 rfl rfl rfl ?_
      exact mv_iret dX7_bestTown_226
    · refine mv_aload_n 0 dX7_bestTown_40 rfl rfl rfl ?_
      refine mv_getR fd_X7_0 lk_X7_7 dX7_bestTown_41 rfl (fun v12 => ?_)
      refine mv_bipush (v := (9 : Int32)) dX7_bestTown_44 (by decide) rfl ?_
      refine mv_iload_n 1 dX7_bestTown_46 rfl rfl rfl ?_
      refine mv_iadd dX7_bestTown_47 rfl ?_
      refine mv_iload 6 dX7_bestTown_48 rfl rfl ?_
      refine mv_iast dX7_bestTown_50 rfl ?_
      refine mv_iconst (v := (0 : Int32)) dX7_bestTown_51 (by decide) rfl ?_
      refine mv_istore [0, 1, 2, 3, 4, 5, 6] dX7_bestTown_52 (by decide) rfl rfl rfl ?_
      refine mv_iconst (v := (0 : Int32)) dX7_bestTown_54 (by decide) rfl ?_
      refine mv_istore [0, 1, 2, 3, 4, 5, 6, 7] dX7_bestTown_55 (by decide) rfl rfl rfl ?_
      refine mv_iconst (v := (0 : Int32)) dX7_bestTown_57 (by decide) rfl ?_
      refine mv_istore [0, 1, 2, 3, 4, 5, 6, 7, 8] dX7_bestTown_58 (by decide) rfl rfl rfl ?_
      refine mv_sub [3, 4, 5, 6, 7, 8, 9, 2, 1, 0] rfl ?_
      exact sLp_X7_bestTown_60 l N0 D dA a0 x1 x2 x3 x4 x5 x6 _ ih mv_FU (0 : Int32) (0 : Int32) (0 : Int32)

def F_X7_bestTown (a0 : Nat) (a1 : Int32) : mv_M Int32 :=
  mv_bd (F_X7_in a1 (0 : Int32) (6 : Int32)) fun v13 =>
  if v13 = 0 then
    mv_pu ((-1) : Int32)
  else
    mv_bd (mv_gR 7 12 0 (some a0)) fun v14 =>
    mv_bd (mv_aI v14 ((9 : Int32) + a1)) fun v15 =>
    Lp_X7_bestTown_33 a0 a1 v15 mv_FU (0 : Int32) ((-1) : Int32) (0 : Int32) (0 : Int32)

set_option maxHeartbeats 4000000 in
set_option maxRecDepth 100000 in
theorem c_X7_bestTown (l : Launch) (N0 : Nat) (D : va_G) (dA : Nat → ClassId) (a0 : Nat) (a1 : Int32) : mv_SimM l N0 D dA yX7_bestTown cX7_bestTown 11 (some .int) 5 118 mv_rI [.ref (N0 + a0), .int a1] (F_X7_bestTown a0 a1) := by
  refine mv_SimM_of (L0 := [(0, mv_vr N0 (some a0)), (1, .int a1)]) false (by decide +kernel) (Nat.le_of_ble_eq_true rfl) rfl (List.forall_mem_cons.mpr ⟨mv_cat N0 (some a0), List.forall_mem_cons.mpr ⟨rfl, fun _ h => absurd h List.not_mem_nil⟩⟩) (fun z => by cases z) ?_
  unfold F_X7_bestTown
  show mv_Sim l N0 D dA RX7 cX7_bestTown 11 5 118 (some .int) false mv_rI 0 _ _ _
  refine mv_iload_n 1 dX7_bestTown_0 rfl rfl rfl ?_
  refine mv_iconst (v := (0 : Int32)) dX7_bestTown_1 (by decide) rfl ?_
  refine mv_bipush (v := (6 : Int32)) dX7_bestTown_2 (by decide) rfl ?_
  refine mv_callSi (st := []) [.int a1, .int (0 : Int32), .int (6 : Int32)] (c_X7_in l N0 D dA a1 (0 : Int32) (6 : Int32)) wc_X7_36 ⟨by decide, by decide⟩ rfl (mv_cs (Nat.le_of_ble_eq_true rfl) (fun _ h => absurd h List.not_mem_nil)) dX7_bestTown_4 rfl (fun v13 => ?_)
  refine mv_if_ne (tgt := 12) dX7_bestTown_7 rfl rfl ?_ ?_
  · refine mv_aload_n 0 dX7_bestTown_12 rfl rfl rfl ?_
    refine mv_getR fd_X7_0 lk_X7_7 dX7_bestTown_13 rfl (fun v14 => ?_)
    refine mv_bipush (v := (9 : Int32)) dX7_bestTown_16 (by decide) rfl ?_
    refine mv_iload_n 1 dX7_bestTown_18 rfl rfl rfl ?_
    refine mv_iadd dX7_bestTown_19 rfl ?_
    refine mv_iald dX7_bestTown_20 rfl (fun v15 => ?_)
    refine mv_istore_n [0, 1] dX7_bestTown_21 rfl (by decide) rfl rfl rfl ?_
    refine mv_iconst (v := (0 : Int32)) dX7_bestTown_22 (by decide) rfl ?_
    refine mv_istore_n [0, 1, 2] dX7_bestTown_23 rfl (by decide) rfl rfl rfl ?_
    refine mv_iconst (v := ((-1) : Int32)) dX7_bestTown_24 (by decide) rfl ?_
    refine mv_istore [0, 1, 2, 3] dX7_bestTown_25 (by decide) rfl rfl rfl ?_
    refine mv_iconst (v := (0 : Int32)) dX7_bestTown_27 (by decide) rfl ?_
    refine mv_istore [0, 1, 2, 3, 4] dX7_bestTown_28 (by decide) rfl rfl rfl ?_
    refine mv_iconst (v := (0 : Int32)) dX7_bestTown_30 (by decide) rfl ?_
    refine mv_istore [0, 1, 2, 3, 4, 5] dX7_bestTown_31 (by decide) rfl rfl rfl ?_
    refine mv_sub [5, 6, 4, 3, 2, 1, 0] rfl ?_
    exact sLp_X7_bestTown_33 l N0 D dA a0 a1 v15 mv_FU (0 : Int32) ((-1) : Int32) (0 : Int32) (0 : Int32)
  · refine mv_iconst (v := ((-1) : Int32)) dX7_bestTown_10 (by decide) rfl ?_
    exact mv_iret dX7_bestTown_11

def F_X7_delayOf (a0 : Nat) (a1 : Int32) : mv_M Int32 :=
  mv_bd (mv_rc 7 12 (some a0)) fun i2 => mv_bd (F_X7_arrivalNow i2 a1) fun v1 =>
  mv_bd (mv_rc 7 12 (some a0)) fun i4 => mv_bd (F_X7_of i4 a1 (4 : Int32)) fun v3 =>
  mv_pu (v1 - v3)

set_option maxHeartbeats 4000000 in
set_option maxRecDepth 100000 in
theorem c_X7_delayOf (l : Launch) (N0 : Nat) (D : va_G) (dA : Nat → ClassId) (a0 : Nat) (a1 : Int32) : mv_SimM l N0 D dA yX7_delayOf cX7_delayOf 2 (some .int) 6 139 mv_rI [.ref (N0 + a0), .int a1] (F_X7_delayOf a0 a1) := by
  refine mv_SimM_of (L0 := [(0, mv_vr N0 (some a0)), (1, .int a1)]) false (by decide +kernel) (Nat.le_of_ble_eq_true rfl) rfl (List.forall_mem_cons.mpr ⟨mv_cat N0 (some a0), List.forall_mem_cons.mpr ⟨rfl, fun _ h => absurd h List.not_mem_nil⟩⟩) (fun z => by cases z) ?_
  unfold F_X7_delayOf
  show mv_Sim l N0 D dA RX7 cX7_delayOf 2 6 139 (some .int) false mv_rI 0 _ _ _
  refine mv_aload_n 0 dX7_delayOf_0 rfl rfl rfl ?_
  refine mv_iload_n 1 dX7_delayOf_1 rfl rfl rfl ?_
  refine mv_callVi (st := []) [.int a1] (fun i2 => c_X7_arrivalNow l N0 D dA i2 a1) (T := TX7) rfl (by decide) wc_X7_146 ⟨by decide, by decide⟩ rfl (mv_cs (Nat.le_of_ble_eq_true rfl) (fun _ h => absurd h List.not_mem_nil)) dX7_delayOf_2 rfl (fun v1 => ?_)
  refine mv_aload_n 0 dX7_delayOf_5 rfl rfl rfl ?_
  refine mv_iload_n 1 dX7_delayOf_6 rfl rfl rfl ?_
  refine mv_iconst (v := (4 : Int32)) dX7_delayOf_7 (by decide) rfl ?_
  refine mv_callVi (st := [.int v1]) [.int a1, .int (4 : Int32)] (fun i4 => c_X7_of l N0 D dA i4 a1 (4 : Int32)) (T := TX7) rfl (by decide) wc_X7_44 ⟨by decide, by decide⟩ rfl (mv_cs (Nat.le_of_ble_eq_true rfl) (List.forall_mem_cons.mpr ⟨rfl, fun _ h => absurd h List.not_mem_nil⟩)) dX7_delayOf_8 rfl (fun v3 => ?_)
  refine mv_isub dX7_delayOf_11 rfl ?_
  exact mv_iret dX7_delayOf_12

def J_X7_hasDelay_26 (a0 : Nat) (s0 : Int32) : mv_M Int32 :=
  mv_rz s0

set_option maxHeartbeats 4000000 in
set_option maxRecDepth 100000 in
theorem sJ_X7_hasDelay_26 (l : Launch) (N0 : Nat) (D : va_G) (dA : Nat → ClassId) (a0 : Nat) (s0 : Int32) : mv_Sim l N0 D dA RX7 cX7_hasDelay 2 6 139 (some .boolean) false mv_rI 26 [(0, mv_vr N0 (some a0))] [.int s0] (J_X7_hasDelay_26 a0 s0) := by
  unfold J_X7_hasDelay_26
  exact mv_zret dX7_hasDelay_26

def J_X7_hasDelay_25 (a0 : Nat) : mv_M Int32 :=
  J_X7_hasDelay_26 a0 (0 : Int32)

set_option maxHeartbeats 4000000 in
set_option maxRecDepth 100000 in
theorem sJ_X7_hasDelay_25 (l : Launch) (N0 : Nat) (D : va_G) (dA : Nat → ClassId) (a0 : Nat) : mv_Sim l N0 D dA RX7 cX7_hasDelay 2 6 139 (some .boolean) false mv_rI 25 [(0, mv_vr N0 (some a0))] [] (J_X7_hasDelay_25 a0) := by
  unfold J_X7_hasDelay_25
  refine mv_iconst (v := (0 : Int32)) dX7_hasDelay_25 (by decide) rfl ?_
  refine mv_sub [0] rfl ?_
  exact sJ_X7_hasDelay_26 l N0 D dA a0 (0 : Int32)

def F_X7_hasDelay (a0 : Nat) (a1 : Int32) : mv_M Int32 :=
  mv_bd (mv_rc 7 12 (some a0)) fun i2 => mv_bd (F_X7_of i2 a1 (4 : Int32)) fun v1 =>
  if v1 = ((-4) : Int32) then
    J_X7_hasDelay_25 a0
  else
    mv_bd (mv_rc 7 12 (some a0)) fun i4 => mv_bd (F_X7_arrivalNow i4 a1) fun v3 =>
    if v3 = (1000000 : Int32) then
      J_X7_hasDelay_25 a0
    else
      J_X7_hasDelay_26 a0 (1 : Int32)

set_option maxHeartbeats 4000000 in
set_option maxRecDepth 100000 in
theorem c_X7_hasDelay (l : Launch) (N0 : Nat) (D : va_G) (dA : Nat → ClassId) (a0 : Nat) (a1 : Int32) : mv_SimM l N0 D dA yX7_hasDelay cX7_hasDelay 2 (some .boolean) 6 139 mv_rI [.ref (N0 + a0), .int a1] (F_X7_hasDelay a0 a1) := by
  refine mv_SimM_of (L0 := [(0, mv_vr N0 (some a0)), (1, .int a1)]) false (by decide +kernel) (Nat.le_of_ble_eq_true rfl) rfl (List.forall_mem_cons.mpr ⟨mv_cat N0 (some a0), List.forall_mem_cons.mpr ⟨rfl, fun _ h => absurd h List.not_mem_nil⟩⟩) (fun z => by cases z) ?_
  unfold F_X7_hasDelay
  show mv_Sim l N0 D dA RX7 cX7_hasDelay 2 6 139 (some .boolean) false mv_rI 0 _ _ _
  refine mv_aload_n 0 dX7_hasDelay_0 rfl rfl rfl ?_
  refine mv_iload_n 1 dX7_hasDelay_1 rfl rfl rfl ?_
  refine mv_iconst (v := (4 : Int32)) dX7_hasDelay_2 (by decide) rfl ?_
  refine mv_callVi (st := []) [.int a1, .int (4 : Int32)] (fun i2 => c_X7_of l N0 D dA i2 a1 (4 : Int32)) (T := TX7) rfl (by decide) wc_X7_44 ⟨by decide, by decide⟩ rfl (mv_cs (Nat.le_of_ble_eq_true rfl) (fun _ h => absurd h List.not_mem_nil)) dX7_hasDelay_3 rfl (fun v1 => ?_)
  refine mv_bipush (v := ((-4) : Int32)) dX7_hasDelay_6 (by decide) rfl ?_
  refine mv_icmp_eq (tgt := 25) dX7_hasDelay_8 rfl rfl ?_ ?_
  · refine mv_sub [0] rfl ?_
    exact sJ_X7_hasDelay_25 l N0 D dA a0
  · refine mv_aload_n 0 dX7_hasDelay_11 rfl rfl rfl ?_
    refine mv_iload_n 1 dX7_hasDelay_12 rfl rfl rfl ?_
    refine mv_callVi (st := []) [.int a1] (fun i4 => c_X7_arrivalNow l N0 D dA i4 a1) (T := TX7) rfl (by decide) wc_X7_146 ⟨by decide, by decide⟩ rfl (mv_cs (Nat.le_of_ble_eq_true rfl) (fun _ h => absurd h List.not_mem_nil)) dX7_hasDelay_13 rfl (fun v3 => ?_)
    refine mv_ldc (v := (1000000 : Int32)) dX7_hasDelay_16 (mv_wA_of (mv_t3 (List.mem_of_getElem? (i := 185) rfl)) rfl) rfl ?_
    refine mv_icmp_eq (tgt := 25) dX7_hasDelay_18 rfl rfl ?_ ?_
    · refine mv_sub [0] rfl ?_
      exact sJ_X7_hasDelay_25 l N0 D dA a0
    · refine mv_iconst (v := (1 : Int32)) dX7_hasDelay_21 (by decide) rfl ?_
      refine mv_goto (q := 26) dX7_hasDelay_22 rfl ?_
      refine mv_sub [0] rfl ?_
      exact sJ_X7_hasDelay_26 l N0 D dA a0 (1 : Int32)

def J_X7_less_12 (s0 : Int32) : mv_M Int32 :=
  mv_pu s0

set_option maxHeartbeats 4000000 in
set_option maxRecDepth 100000 in
theorem sJ_X7_less_12 (l : Launch) (N0 : Nat) (D : va_G) (dA : Nat → ClassId) (s0 : Int32) : mv_Sim l N0 D dA RX7 cX7_less 1 0 0 (some .int) false mv_rI 12 [] [.int s0] (J_X7_less_12 s0) := by
  unfold J_X7_less_12
  exact mv_iret dX7_less_12

def F_X7_less (a0 : Int32) : mv_M Int32 :=
  if a0 = 0 then
    J_X7_less_12 ((-4) : Int32)
  else
    J_X7_less_12 (a0 - (1 : Int32))

set_option maxHeartbeats 4000000 in
set_option maxRecDepth 100000 in
theorem c_X7_less (l : Launch) (N0 : Nat) (D : va_G) (dA : Nat → ClassId) (a0 : Int32) : mv_SimM l N0 D dA yX7_less cX7_less 1 (some .int) 0 0 mv_rI [.int a0] (F_X7_less a0) := by
  refine mv_SimM_of (L0 := [(0, .int a0)]) false (by decide +kernel) (Nat.le_of_ble_eq_true rfl) rfl (List.forall_mem_cons.mpr ⟨rfl, fun _ h => absurd h List.not_mem_nil⟩) (fun z => by cases z) ?_
  unfold F_X7_less
  show mv_Sim l N0 D dA RX7 cX7_less 1 0 0 (some .int) false mv_rI 0 _ _ _
  refine mv_iload_n 0 dX7_less_0 rfl rfl rfl ?_
  refine mv_if_ne (tgt := 9) dX7_less_1 rfl rfl ?_ ?_
  · refine mv_iload_n 0 dX7_less_9 rfl rfl rfl ?_
    refine mv_iconst (v := (1 : Int32)) dX7_less_10 (by decide) rfl ?_
    refine mv_isub dX7_less_11 rfl ?_
    refine mv_sub [] rfl ?_
    exact sJ_X7_less_12 l N0 D dA (a0 - (1 : Int32))
  · refine mv_bipush (v := ((-4) : Int32)) dX7_less_4 (by decide) rfl ?_
    refine mv_goto (q := 12) dX7_less_6 rfl ?_
    refine mv_sub [] rfl ?_
    exact sJ_X7_less_12 l N0 D dA ((-4) : Int32)

def J_X7_bundle_126 (a0 : Nat) (s0 : Int32) : mv_M Int32 :=
  mv_pu s0

set_option maxHeartbeats 4000000 in
set_option maxRecDepth 100000 in
theorem sJ_X7_bundle_126 (l : Launch) (N0 : Nat) (D : va_G) (dA : Nat → ClassId) (a0 : Nat) (s0 : Int32) : mv_Sim l N0 D dA RX7 cX7_bundle 3 7 160 (some .int) false mv_rI 126 [(0, mv_vr N0 (some a0))] [.int s0] (J_X7_bundle_126 a0 s0) := by
  unfold J_X7_bundle_126
  exact mv_iret dX7_bundle_126

def F_X7_bundle (a0 : Nat) (a1 : Int32) (a2 : Int32) : mv_M Int32 :=
  mv_bd (mv_rc 7 12 (some a0)) fun i2 => mv_bd (F_X7_isBundle i2 a1) fun v1 =>
  if v1 = 0 then
    mv_pu ((-1) : Int32)
  else
    if a2 = (0 : Int32) then
      mv_bd (mv_rc 7 12 (some a0)) fun i4 => mv_bd (F_X7_of i4 a1 (0 : Int32)) fun v3 =>
      mv_pu v3
    else
    if a2 = (1 : Int32) then
      mv_bd (mv_rc 7 12 (some a0)) fun i6 => mv_bd (F_X7_of i6 a1 (1 : Int32)) fun v5 =>
      mv_bd (F_X7_less v5) fun v7 =>
      mv_pu v7
    else
    if a2 = (2 : Int32) then
      mv_bd (mv_rc 7 12 (some a0)) fun i9 => mv_bd (F_X7_of i9 a1 (2 : Int32)) fun v8 =>
      mv_bd (F_X7_less v8) fun v10 =>
      mv_pu v10
    else
    if a2 = (3 : Int32) then
      mv_bd (mv_rc 7 12 (some a0)) fun i12 => mv_bd (F_X7_of i12 a1 (3 : Int32)) fun v11 =>
      mv_bd (F_X7_less v11) fun v13 =>
      mv_pu v13
    else
    if a2 = (4 : Int32) then
      mv_bd (mv_rc 7 12 (some a0)) fun i15 => mv_bd (F_X7_of i15 a1 (4 : Int32)) fun v14 =>
      mv_pu v14
    else
    if a2 = (5 : Int32) then
      mv_bd (mv_rc 7 12 (some a0)) fun i17 => mv_bd (F_X7_hasDelay i17 a1) fun v16 =>
      if v16 = 0 then
        J_X7_bundle_126 a0 ((-4) : Int32)
      else
        mv_bd (mv_rc 7 12 (some a0)) fun i19 => mv_bd (F_X7_delayOf i19 a1) fun v18 =>
        J_X7_bundle_126 a0 ((1000 : Int32) + v18)
    else
    if a2 = (6 : Int32) then
      mv_bd (mv_rc 7 12 (some a0)) fun i21 => mv_bd (F_X7_of i21 a1 (5 : Int32)) fun v20 =>
      mv_pu v20
    else
    if a2 = (7 : Int32) then
      mv_bd (mv_rc 7 12 (some a0)) fun i23 => mv_bd (F_X7_of i23 a1 (6 : Int32)) fun v22 =>
      mv_pu v22
    else
    if a2 = (8 : Int32) then
      mv_bd (mv_rc 7 12 (some a0)) fun i25 => mv_bd (F_X7_of i25 a1 (7 : Int32)) fun v24 =>
      mv_pu v24
    else
    mv_pu ((-1) : Int32)

set_option maxHeartbeats 4000000 in
set_option maxRecDepth 100000 in
theorem c_X7_bundle (l : Launch) (N0 : Nat) (D : va_G) (dA : Nat → ClassId) (a0 : Nat) (a1 : Int32) (a2 : Int32) : mv_SimM l N0 D dA yX7_bundle cX7_bundle 3 (some .int) 7 160 mv_rI [.ref (N0 + a0), .int a1, .int a2] (F_X7_bundle a0 a1 a2) := by
  refine mv_SimM_of (L0 := [(0, mv_vr N0 (some a0)), (1, .int a1), (2, .int a2)]) false (by decide +kernel) (Nat.le_of_ble_eq_true rfl) rfl (List.forall_mem_cons.mpr ⟨mv_cat N0 (some a0), List.forall_mem_cons.mpr ⟨rfl, List.forall_mem_cons.mpr ⟨rfl, fun _ h => absurd h List.not_mem_nil⟩⟩⟩) (fun z => by cases z) ?_
  unfold F_X7_bundle
  show mv_Sim l N0 D dA RX7 cX7_bundle 3 7 160 (some .int) false mv_rI 0 _ _ _
  refine mv_aload_n 0 dX7_bundle_0 rfl rfl rfl ?_
  refine mv_iload_n 1 dX7_bundle_1 rfl rfl rfl ?_
  refine mv_callVi (st := []) [.int a1] (fun i2 => c_X7_isBundle l N0 D dA i2 a1) (T := TX7) rfl (by decide) wc_X7_107 ⟨by decide, by decide⟩ rfl (mv_cs (Nat.le_of_ble_eq_true rfl) (fun _ h => absurd h List.not_mem_nil)) dX7_bundle_2 rfl (fun v1 => ?_)
  refine mv_if_ne (tgt := 10) dX7_bundle_5 rfl rfl ?_ ?_
  · refine mv_iload_n 2 dX7_bundle_10 rfl rfl rfl ?_
    refine mv_ite (fun hs0 => ?_) (fun hs0 => ?_)
    · refine mv_tabIn (q := 60) dX7_bundle_11 (by rw [hs0]; decide) (by rw [hs0]; decide) (by rw [hs0]; rfl) rfl ?_
      refine mv_aload_n 0 dX7_bundle_60 rfl rfl rfl ?_
      refine mv_iload_n 1 dX7_bundle_61 rfl rfl rfl ?_
      refine mv_iconst (v := (0 : Int32)) dX7_bundle_62 (by decide) rfl ?_
      refine mv_callVi (st := []) [.int a1, .int (0 : Int32)] (fun i4 => c_X7_of l N0 D dA i4 a1 (0 : Int32)) (T := TX7) rfl (by decide) wc_X7_44 ⟨by decide, by decide⟩ rfl (mv_cs (Nat.le_of_ble_eq_true rfl) (fun _ h => absurd h List.not_mem_nil)) dX7_bundle_63 rfl (fun v3 => ?_)
      exact mv_iret dX7_bundle_66
    refine mv_ite (fun hs1 => ?_) (fun hs1 => ?_)
    · refine mv_tabIn (q := 67) dX7_bundle_11 (by rw [hs1]; decide) (by rw [hs1]; decide) (by rw [hs1]; rfl) rfl ?_
      refine mv_aload_n 0 dX7_bundle_67 rfl rfl rfl ?_
      refine mv_iload_n 1 dX7_bundle_68 rfl rfl rfl ?_
      refine mv_iconst (v := (1 : Int32)) dX7_bundle_69 (by decide) rfl ?_
      refine mv_callVi (st := []) [.int a1, .int (1 : Int32)] (fun i6 => c_X7_of l N0 D dA i6 a1 (1 : Int32)) (T := TX7) rfl (by decide) wc_X7_44 ⟨by decide, by decide⟩ rfl (mv_cs (Nat.le_of_ble_eq_true rfl) (fun _ h => absurd h List.not_mem_nil)) dX7_bundle_70 rfl (fun v5 => ?_)
      refine mv_callSi (st := []) [.int v5] (c_X7_less l N0 D dA v5) wc_X7_149 ⟨by decide, by decide⟩ rfl (mv_cs (Nat.le_of_ble_eq_true rfl) (fun _ h => absurd h List.not_mem_nil)) dX7_bundle_73 rfl (fun v7 => ?_)
      exact mv_iret dX7_bundle_76
    refine mv_ite (fun hs2 => ?_) (fun hs2 => ?_)
    · refine mv_tabIn (q := 77) dX7_bundle_11 (by rw [hs2]; decide) (by rw [hs2]; decide) (by rw [hs2]; rfl) rfl ?_
      refine mv_aload_n 0 dX7_bundle_77 rfl rfl rfl ?_
      refine mv_iload_n 1 dX7_bundle_78 rfl rfl rfl ?_
      refine mv_iconst (v := (2 : Int32)) dX7_bundle_79 (by decide) rfl ?_
      refine mv_callVi (st := []) [.int a1, .int (2 : Int32)] (fun i9 => c_X7_of l N0 D dA i9 a1 (2 : Int32)) (T := TX7) rfl (by decide) wc_X7_44 ⟨by decide, by decide⟩ rfl (mv_cs (Nat.le_of_ble_eq_true rfl) (fun _ h => absurd h List.not_mem_nil)) dX7_bundle_80 rfl (fun v8 => ?_)
      refine mv_callSi (st := []) [.int v8] (c_X7_less l N0 D dA v8) wc_X7_149 ⟨by decide, by decide⟩ rfl (mv_cs (Nat.le_of_ble_eq_true rfl) (fun _ h => absurd h List.not_mem_nil)) dX7_bundle_83 rfl (fun v10 => ?_)
      exact mv_iret dX7_bundle_86
    refine mv_ite (fun hs3 => ?_) (fun hs3 => ?_)
    · refine mv_tabIn (q := 87) dX7_bundle_11 (by rw [hs3]; decide) (by rw [hs3]; decide) (by rw [hs3]; rfl) rfl ?_
      refine mv_aload_n 0 dX7_bundle_87 rfl rfl rfl ?_
      refine mv_iload_n 1 dX7_bundle_88 rfl rfl rfl ?_
      refine mv_iconst (v := (3 : Int32)) dX7_bundle_89 (by decide) rfl ?_
      refine mv_callVi (st := []) [.int a1, .int (3 : Int32)] (fun i12 => c_X7_of l N0 D dA i12 a1 (3 : Int32)) (T := TX7) rfl (by decide) wc_X7_44 ⟨by decide, by decide⟩ rfl (mv_cs (Nat.le_of_ble_eq_true rfl) (fun _ h => absurd h List.not_mem_nil)) dX7_bundle_90 rfl (fun v11 => ?_)
      refine mv_callSi (st := []) [.int v11] (c_X7_less l N0 D dA v11) wc_X7_149 ⟨by decide, by decide⟩ rfl (mv_cs (Nat.le_of_ble_eq_true rfl) (fun _ h => absurd h List.not_mem_nil)) dX7_bundle_93 rfl (fun v13 => ?_)
      exact mv_iret dX7_bundle_96
    refine mv_ite (fun hs4 => ?_) (fun hs4 => ?_)
    · refine mv_tabIn (q := 97) dX7_bundle_11 (by rw [hs4]; decide) (by rw [hs4]; decide) (by rw [hs4]; rfl) rfl ?_
      refine mv_aload_n 0 dX7_bundle_97 rfl rfl rfl ?_
      refine mv_iload_n 1 dX7_bundle_98 rfl rfl rfl ?_
      refine mv_iconst (v := (4 : Int32)) dX7_bundle_99 (by decide) rfl ?_
      refine mv_callVi (st := []) [.int a1, .int (4 : Int32)] (fun i15 => c_X7_of l N0 D dA i15 a1 (4 : Int32)) (T := TX7) rfl (by decide) wc_X7_44 ⟨by decide, by decide⟩ rfl (mv_cs (Nat.le_of_ble_eq_true rfl) (fun _ h => absurd h List.not_mem_nil)) dX7_bundle_100 rfl (fun v14 => ?_)
      exact mv_iret dX7_bundle_103
    refine mv_ite (fun hs5 => ?_) (fun hs5 => ?_)
    · refine mv_tabIn (q := 104) dX7_bundle_11 (by rw [hs5]; decide) (by rw [hs5]; decide) (by rw [hs5]; rfl) rfl ?_
      refine mv_aload_n 0 dX7_bundle_104 rfl rfl rfl ?_
      refine mv_iload_n 1 dX7_bundle_105 rfl rfl rfl ?_
      refine mv_callVi (st := []) [.int a1] (fun i17 => c_X7_hasDelay l N0 D dA i17 a1) (T := TX7) rfl (by decide) wc_X7_152 ⟨by decide, by decide⟩ rfl (mv_cs (Nat.le_of_ble_eq_true rfl) (fun _ h => absurd h List.not_mem_nil)) dX7_bundle_106 rfl (fun v16 => ?_)
      refine mv_if_eq (tgt := 124) dX7_bundle_109 rfl rfl ?_ ?_
      · refine mv_bipush (v := ((-4) : Int32)) dX7_bundle_124 (by decide) rfl ?_
        refine mv_sub [0] rfl ?_
        exact sJ_X7_bundle_126 l N0 D dA a0 ((-4) : Int32)
      · refine mv_sipush (v := (1000 : Int32)) dX7_bundle_112 (by decide) rfl ?_
        refine mv_aload_n 0 dX7_bundle_115 rfl rfl rfl ?_
        refine mv_iload_n 1 dX7_bundle_116 rfl rfl rfl ?_
        refine mv_callVi (st := [.int (1000 : Int32)]) [.int a1] (fun i19 => c_X7_delayOf l N0 D dA i19 a1) (T := TX7) rfl (by decide) wc_X7_155 ⟨by decide, by decide⟩ rfl (mv_cs (Nat.le_of_ble_eq_true rfl) (List.forall_mem_cons.mpr ⟨rfl, fun _ h => absurd h List.not_mem_nil⟩)) dX7_bundle_117 rfl (fun v18 => ?_)
        refine mv_iadd dX7_bundle_120 rfl ?_
        refine mv_goto (q := 126) dX7_bundle_121 rfl ?_
        refine mv_sub [0] rfl ?_
        exact sJ_X7_bundle_126 l N0 D dA a0 ((1000 : Int32) + v18)
    refine mv_ite (fun hs6 => ?_) (fun hs6 => ?_)
    · refine mv_tabIn (q := 127) dX7_bundle_11 (by rw [hs6]; decide) (by rw [hs6]; decide) (by rw [hs6]; rfl) rfl ?_
      refine mv_aload_n 0 dX7_bundle_127 rfl rfl rfl ?_
      refine mv_iload_n 1 dX7_bundle_128 rfl rfl rfl ?_
      refine mv_iconst (v := (5 : Int32)) dX7_bundle_129 (by decide) rfl ?_
      refine mv_callVi (st := []) [.int a1, .int (5 : Int32)] (fun i21 => c_X7_of l N0 D dA i21 a1 (5 : Int32)) (T := TX7) rfl (by decide) wc_X7_44 ⟨by decide, by decide⟩ rfl (mv_cs (Nat.le_of_ble_eq_true rfl) (fun _ h => absurd h List.not_mem_nil)) dX7_bundle_130 rfl (fun v20 => ?_)
      exact mv_iret dX7_bundle_133
    refine mv_ite (fun hs7 => ?_) (fun hs7 => ?_)
    · refine mv_tabIn (q := 134) dX7_bundle_11 (by rw [hs7]; decide) (by rw [hs7]; decide) (by rw [hs7]; rfl) rfl ?_
      refine mv_aload_n 0 dX7_bundle_134 rfl rfl rfl ?_
      refine mv_iload_n 1 dX7_bundle_135 rfl rfl rfl ?_
      refine mv_bipush (v := (6 : Int32)) dX7_bundle_136 (by decide) rfl ?_
      refine mv_callVi (st := []) [.int a1, .int (6 : Int32)] (fun i23 => c_X7_of l N0 D dA i23 a1 (6 : Int32)) (T := TX7) rfl (by decide) wc_X7_44 ⟨by decide, by decide⟩ rfl (mv_cs (Nat.le_of_ble_eq_true rfl) (fun _ h => absurd h List.not_mem_nil)) dX7_bundle_138 rfl (fun v22 => ?_)
      exact mv_iret dX7_bundle_141
    refine mv_ite (fun hs8 => ?_) (fun hs8 => ?_)
    · refine mv_tabIn (q := 142) dX7_bundle_11 (by rw [hs8]; decide) (by rw [hs8]; decide) (by rw [hs8]; rfl) rfl ?_
      refine mv_aload_n 0 dX7_bundle_142 rfl rfl rfl ?_
      refine mv_iload_n 1 dX7_bundle_143 rfl rfl rfl ?_
      refine mv_bipush (v := (7 : Int32)) dX7_bundle_144 (by decide) rfl ?_
      refine mv_callVi (st := []) [.int a1, .int (7 : Int32)] (fun i25 => c_X7_of l N0 D dA i25 a1 (7 : Int32)) (T := TX7) rfl (by decide) wc_X7_44 ⟨by decide, by decide⟩ rfl (mv_cs (Nat.le_of_ble_eq_true rfl) (fun _ h => absurd h List.not_mem_nil)) dX7_bundle_146 rfl (fun v24 => ?_)
      exact mv_iret dX7_bundle_149
    refine mv_tabOut (q := 150) dX7_bundle_11 (by have z0 := lv_neT hs0 (show ((0 : Int32)).toInt = 0 by decide); have z1 := lv_neT hs1 (show ((1 : Int32)).toInt = 1 by decide); have z2 := lv_neT hs2 (show ((2 : Int32)).toInt = 2 by decide); have z3 := lv_neT hs3 (show ((3 : Int32)).toInt = 3 by decide); have z4 := lv_neT hs4 (show ((4 : Int32)).toInt = 4 by decide); have z5 := lv_neT hs5 (show ((5 : Int32)).toInt = 5 by decide); have z6 := lv_neT hs6 (show ((6 : Int32)).toInt = 6 by decide); have z7 := lv_neT hs7 (show ((7 : Int32)).toInt = 7 by decide); have z8 := lv_neT hs8 (show ((8 : Int32)).toInt = 8 by decide); omega) rfl ?_
    refine mv_iconst (v := ((-1) : Int32)) dX7_bundle_150 (by decide) rfl ?_
    exact mv_iret dX7_bundle_151
  · refine mv_iconst (v := ((-1) : Int32)) dX7_bundle_8 (by decide) rfl ?_
    exact mv_iret dX7_bundle_9

def J_X7_bundlesBy_29 (k4 : Int32 → Int32 → mv_M Int32) (a0 : Nat) (x1 : Int32) (x3 : Int32) (s0 : Int32) (s1 : Int32) : mv_M Int32 :=
  mv_bd (mv_pu (s0 + s1)) fun v1 =>
  k4 v1 (x3 + (1 : Int32))

set_option maxHeartbeats 4000000 in
set_option maxRecDepth 100000 in
theorem sJ_X7_bundlesBy_29 (l : Launch) (N0 : Nat) (D : va_G) (dA : Nat → ClassId) (a0 : Nat) (x1 : Int32) (x3 : Int32) (s0 : Int32) (s1 : Int32) (k4 : Int32 → Int32 → mv_M Int32) (hk4 : ∀ (y2 : Int32) (y3 : Int32), mv_Sim l N0 D dA RX7 cX7_bundlesBy 4 1 22 (some .int) false mv_rI 4 [(0, mv_vr N0 (some a0)), (1, .int x1), (2, .int y2), (3, .int y3)] [] (k4 y2 y3)) : mv_Sim l N0 D dA RX7 cX7_bundlesBy 4 1 22 (some .int) false mv_rI 29 [(0, mv_vr N0 (some a0)), (1, .int x1), (3, .int x3)] [.int s1, .int s0] (J_X7_bundlesBy_29 k4 a0 x1 x3 s0 s1) := by
  unfold J_X7_bundlesBy_29
  refine mv_iadd dX7_bundlesBy_29 rfl ?_
  refine mv_let (fun v1 => ?_)
  refine mv_istore_n [0, 1, 2] dX7_bundlesBy_30 rfl (by decide) rfl rfl rfl ?_
  refine mv_iinc (y := (x3 + (1 : Int32))) 3 [0, 1, 2] dX7_bundlesBy_31 rfl rfl (by decide) rfl rfl rfl ?_
  refine mv_goto (q := 4) dX7_bundlesBy_34 rfl ?_
  refine mv_sub [2, 3, 1, 0] rfl ?_
  exact hk4 v1 (x3 + (1 : Int32))

def Lp_X7_bundlesBy_4 (a0 : Nat) (x1 : Int32) : Nat → Int32 → Int32 → mv_M Int32
  | 0, _, _ => mv_fl
  | n + 1, x2, x3 =>
    mv_bd (mv_gR 7 12 0 (some a0)) fun v2 =>
    mv_bd (mv_aI v2 (4 : Int32)) fun v3 =>
    if v3 ≤ x3 then
      mv_pu x2
    else
      mv_bd (mv_rc 7 12 (some a0)) fun i5 => mv_bd (F_X7_of i5 x3 x1) fun v4 =>
      if v4 ≤ 0 then
        J_X7_bundlesBy_29 (Lp_X7_bundlesBy_4 a0 x1 n) a0 x1 x3 x2 (0 : Int32)
      else
        J_X7_bundlesBy_29 (Lp_X7_bundlesBy_4 a0 x1 n) a0 x1 x3 x2 (1 : Int32)

set_option maxHeartbeats 4000000 in
set_option maxRecDepth 100000 in
theorem sLp_X7_bundlesBy_4 (l : Launch) (N0 : Nat) (D : va_G) (dA : Nat → ClassId) (a0 : Nat) (x1 : Int32) : ∀ (n : Nat) (x2 : Int32) (x3 : Int32), mv_Sim l N0 D dA RX7 cX7_bundlesBy 4 1 22 (some .int) false mv_rI 4 [(0, mv_vr N0 (some a0)), (1, .int x1), (2, .int x2), (3, .int x3)] [] (Lp_X7_bundlesBy_4 a0 x1 n x2 x3) := by
  intro n
  induction n with
  | zero => intro x2 x3; rw [Lp_X7_bundlesBy_4]; exact mv_fl_sim
  | succ n ih =>
    intro x2 x3
    rw [Lp_X7_bundlesBy_4]
    refine mv_iload_n 3 dX7_bundlesBy_4 rfl rfl rfl ?_
    refine mv_aload_n 0 dX7_bundlesBy_5 rfl rfl rfl ?_
    refine mv_getR fd_X7_0 lk_X7_7 dX7_bundlesBy_6 rfl (fun v2 => ?_)
    refine mv_iconst (v := (4 : Int32)) dX7_bundlesBy_9 (by decide) rfl ?_
    refine mv_iald dX7_bundlesBy_10 rfl (fun v3 => ?_)
    refine mv_icmp_ge (tgt := 37) dX7_bundlesBy_11 rfl rfl ?_ ?_
    · refine mv_iload_n 2 dX7_bundlesBy_37 rfl rfl rfl ?_
      exact mv_iret dX7_bundlesBy_38
    · refine mv_iload_n 2 dX7_bundlesBy_14 rfl rfl rfl ?_
      refine mv_aload_n 0 dX7_bundlesBy_15 rfl rfl rfl ?_
      refine mv_iload_n 3 dX7_bundlesBy_16 rfl rfl rfl ?_
      refine mv_iload_n 1 dX7_bundlesBy_17 rfl rfl rfl ?_
      refine mv_callVi (st := [.int x2]) [.int x3, .int x1] (fun i5 => c_X7_of l N0 D dA i5 x3 x1) (T := TX7) rfl (by decide) wc_X7_44 ⟨by decide, by decide⟩ rfl (mv_cs (Nat.le_of_ble_eq_true rfl) (List.forall_mem_cons.mpr ⟨rfl, fun _ h => absurd h List.not_mem_nil⟩)) dX7_bundlesBy_18 rfl (fun v4 => ?_)
      refine mv_if_le (tgt := 28) dX7_bundlesBy_21 rfl rfl ?_ ?_
      · refine mv_iconst (v := (0 : Int32)) dX7_bundlesBy_28 (by decide) rfl ?_
        refine mv_sub [0, 1, 3] rfl ?_
        exact sJ_X7_bundlesBy_29 l N0 D dA a0 x1 x3 x2 (0 : Int32) _ ih
      · refine mv_iconst (v := (1 : Int32)) dX7_bundlesBy_24 (by decide) rfl ?_
        refine mv_goto (q := 29) dX7_bundlesBy_25 rfl ?_
        refine mv_sub [0, 1, 3] rfl ?_
        exact sJ_X7_bundlesBy_29 l N0 D dA a0 x1 x3 x2 (1 : Int32) _ ih

def F_X7_bundlesBy (a0 : Nat) (a1 : Int32) : mv_M Int32 :=
  Lp_X7_bundlesBy_4 a0 a1 mv_FU (0 : Int32) (0 : Int32)

set_option maxHeartbeats 4000000 in
set_option maxRecDepth 100000 in
theorem c_X7_bundlesBy (l : Launch) (N0 : Nat) (D : va_G) (dA : Nat → ClassId) (a0 : Nat) (a1 : Int32) : mv_SimM l N0 D dA yX7_bundlesBy cX7_bundlesBy 4 (some .int) 1 22 mv_rI [.ref (N0 + a0), .int a1] (F_X7_bundlesBy a0 a1) := by
  refine mv_SimM_of (L0 := [(0, mv_vr N0 (some a0)), (1, .int a1)]) false (by decide +kernel) (Nat.le_of_ble_eq_true rfl) rfl (List.forall_mem_cons.mpr ⟨mv_cat N0 (some a0), List.forall_mem_cons.mpr ⟨rfl, fun _ h => absurd h List.not_mem_nil⟩⟩) (fun z => by cases z) ?_
  unfold F_X7_bundlesBy
  show mv_Sim l N0 D dA RX7 cX7_bundlesBy 4 1 22 (some .int) false mv_rI 0 _ _ _
  refine mv_iconst (v := (0 : Int32)) dX7_bundlesBy_0 (by decide) rfl ?_
  refine mv_istore_n [0, 1] dX7_bundlesBy_1 rfl (by decide) rfl rfl rfl ?_
  refine mv_iconst (v := (0 : Int32)) dX7_bundlesBy_2 (by decide) rfl ?_
  refine mv_istore_n [0, 1, 2] dX7_bundlesBy_3 rfl (by decide) rfl rfl rfl ?_
  refine mv_sub [2, 3, 1, 0] rfl ?_
  exact sLp_X7_bundlesBy_4 l N0 D dA a0 a1 mv_FU (0 : Int32) (0 : Int32)

def J_X7_has_32 (k4 : Int32 → Int32 → mv_M Int32) (a0 : Nat) (x1 : Int32) (x3 : Int32) (s0 : Int32) (s1 : Int32) : mv_M Int32 :=
  mv_bd (mv_pu (s0 + s1)) fun v1 =>
  k4 v1 (x3 + (1 : Int32))

set_option maxHeartbeats 4000000 in
set_option maxRecDepth 100000 in
theorem sJ_X7_has_32 (l : Launch) (N0 : Nat) (D : va_G) (dA : Nat → ClassId) (a0 : Nat) (x1 : Int32) (x3 : Int32) (s0 : Int32) (s1 : Int32) (k4 : Int32 → Int32 → mv_M Int32) (hk4 : ∀ (y2 : Int32) (y3 : Int32), mv_Sim l N0 D dA RX7 cX7_has 4 1 22 (some .int) false mv_rI 4 [(0, mv_vr N0 (some a0)), (1, .int x1), (2, .int y2), (3, .int y3)] [] (k4 y2 y3)) : mv_Sim l N0 D dA RX7 cX7_has 4 1 22 (some .int) false mv_rI 32 [(0, mv_vr N0 (some a0)), (1, .int x1), (3, .int x3)] [.int s1, .int s0] (J_X7_has_32 k4 a0 x1 x3 s0 s1) := by
  unfold J_X7_has_32
  refine mv_iadd dX7_has_32 rfl ?_
  refine mv_let (fun v1 => ?_)
  refine mv_istore_n [0, 1, 2] dX7_has_33 rfl (by decide) rfl rfl rfl ?_
  refine mv_iinc (y := (x3 + (1 : Int32))) 3 [0, 1, 2] dX7_has_34 rfl rfl (by decide) rfl rfl rfl ?_
  refine mv_goto (q := 4) dX7_has_37 rfl ?_
  refine mv_sub [2, 3, 1, 0] rfl ?_
  exact hk4 v1 (x3 + (1 : Int32))

def Lp_X7_has_4 (a0 : Nat) (x1 : Int32) : Nat → Int32 → Int32 → mv_M Int32
  | 0, _, _ => mv_fl
  | n + 1, x2, x3 =>
    mv_bd (mv_gR 7 12 0 (some a0)) fun v2 =>
    mv_bd (mv_aI v2 (4 : Int32)) fun v3 =>
    if v3 ≤ x3 then
      mv_pu x2
    else
      mv_bd (mv_rc 7 12 (some a0)) fun i5 => mv_bd (F_X7_of i5 x3 (2 : Int32)) fun v4 =>
      if v4 = (x1 + (1 : Int32)) then
        J_X7_has_32 (Lp_X7_has_4 a0 x1 n) a0 x1 x3 x2 (1 : Int32)
      else
        J_X7_has_32 (Lp_X7_has_4 a0 x1 n) a0 x1 x3 x2 (0 : Int32)

set_option maxHeartbeats 4000000 in
set_option maxRecDepth 100000 in
theorem sLp_X7_has_4 (l : Launch) (N0 : Nat) (D : va_G) (dA : Nat → ClassId) (a0 : Nat) (x1 : Int32) : ∀ (n : Nat) (x2 : Int32) (x3 : Int32), mv_Sim l N0 D dA RX7 cX7_has 4 1 22 (some .int) false mv_rI 4 [(0, mv_vr N0 (some a0)), (1, .int x1), (2, .int x2), (3, .int x3)] [] (Lp_X7_has_4 a0 x1 n x2 x3) := by
  intro n
  induction n with
  | zero => intro x2 x3; rw [Lp_X7_has_4]; exact mv_fl_sim
  | succ n ih =>
    intro x2 x3
    rw [Lp_X7_has_4]
    refine mv_iload_n 3 dX7_has_4 rfl rfl rfl ?_
    refine mv_aload_n 0 dX7_has_5 rfl rfl rfl ?_
    refine mv_getR fd_X7_0 lk_X7_7 dX7_has_6 rfl (fun v2 => ?_)
    refine mv_iconst (v := (4 : Int32)) dX7_has_9 (by decide) rfl ?_
    refine mv_iald dX7_has_10 rfl (fun v3 => ?_)
    refine mv_icmp_ge (tgt := 40) dX7_has_11 rfl rfl ?_ ?_
    · refine mv_iload_n 2 dX7_has_40 rfl rfl rfl ?_
      exact mv_iret dX7_has_41
    · refine mv_iload_n 2 dX7_has_14 rfl rfl rfl ?_
      refine mv_aload_n 0 dX7_has_15 rfl rfl rfl ?_
      refine mv_iload_n 3 dX7_has_16 rfl rfl rfl ?_
      refine mv_iconst (v := (2 : Int32)) dX7_has_17 (by decide) rfl ?_
      refine mv_callVi (st := [.int x2]) [.int x3, .int (2 : Int32)] (fun i5 => c_X7_of l N0 D dA i5 x3 (2 : Int32)) (T := TX7) rfl (by decide) wc_X7_44 ⟨by decide, by decide⟩ rfl (mv_cs (Nat.le_of_ble_eq_true rfl) (List.forall_mem_cons.mpr ⟨rfl, fun _ h => absurd h List.not_mem_nil⟩)) dX7_has_18 rfl (fun v4 => ?_)
      refine mv_iload_n 1 dX7_has_21 rfl rfl rfl ?_
      refine mv_iconst (v := (1 : Int32)) dX7_has_22 (by decide) rfl ?_
      refine mv_iadd dX7_has_23 rfl ?_
      refine mv_icmp_ne (tgt := 31) dX7_has_24 rfl rfl ?_ ?_
      · refine mv_iconst (v := (0 : Int32)) dX7_has_31 (by decide) rfl ?_
        refine mv_sub [0, 1, 3] rfl ?_
        exact sJ_X7_has_32 l N0 D dA a0 x1 x3 x2 (0 : Int32) _ ih
      · refine mv_iconst (v := (1 : Int32)) dX7_has_27 (by decide) rfl ?_
        refine mv_goto (q := 32) dX7_has_28 rfl ?_
        refine mv_sub [0, 1, 3] rfl ?_
        exact sJ_X7_has_32 l N0 D dA a0 x1 x3 x2 (1 : Int32) _ ih

def F_X7_has (a0 : Nat) (a1 : Int32) : mv_M Int32 :=
  Lp_X7_has_4 a0 a1 mv_FU (0 : Int32) (0 : Int32)

set_option maxHeartbeats 4000000 in
set_option maxRecDepth 100000 in
theorem c_X7_has (l : Launch) (N0 : Nat) (D : va_G) (dA : Nat → ClassId) (a0 : Nat) (a1 : Int32) : mv_SimM l N0 D dA yX7_has cX7_has 4 (some .int) 1 22 mv_rI [.ref (N0 + a0), .int a1] (F_X7_has a0 a1) := by
  refine mv_SimM_of (L0 := [(0, mv_vr N0 (some a0)), (1, .int a1)]) false (by decide +kernel) (Nat.le_of_ble_eq_true rfl) rfl (List.forall_mem_cons.mpr ⟨mv_cat N0 (some a0), List.forall_mem_cons.mpr ⟨rfl, fun _ h => absurd h List.not_mem_nil⟩⟩) (fun z => by cases z) ?_
  unfold F_X7_has
  show mv_Sim l N0 D dA RX7 cX7_has 4 1 22 (some .int) false mv_rI 0 _ _ _
  refine mv_iconst (v := (0 : Int32)) dX7_has_0 (by decide) rfl ?_
  refine mv_istore_n [0, 1] dX7_has_1 rfl (by decide) rfl rfl rfl ?_
  refine mv_iconst (v := (0 : Int32)) dX7_has_2 (by decide) rfl ?_
  refine mv_istore_n [0, 1, 2] dX7_has_3 rfl (by decide) rfl rfl rfl ?_
  refine mv_sub [2, 3, 1, 0] rfl ?_
  exact sLp_X7_has_4 l N0 D dA a0 a1 mv_FU (0 : Int32) (0 : Int32)

def F_X7_isCarrier (a0 : Nat) (a1 : Int32) : mv_M Int32 :=
  mv_bd (mv_gR 7 12 0 (some a0)) fun v1 =>
  mv_bd (mv_aI v1 (3 : Int32)) fun v2 =>
  mv_bd (F_X7_in a1 (0 : Int32) (v2 - (1 : Int32))) fun v3 =>
  mv_rz v3

set_option maxHeartbeats 4000000 in
set_option maxRecDepth 100000 in
theorem c_X7_isCarrier (l : Launch) (N0 : Nat) (D : va_G) (dA : Nat → ClassId) (a0 : Nat) (a1 : Int32) : mv_SimM l N0 D dA yX7_isCarrier cX7_isCarrier 2 (some .boolean) 1 22 mv_rI [.ref (N0 + a0), .int a1] (F_X7_isCarrier a0 a1) := by
  refine mv_SimM_of (L0 := [(0, mv_vr N0 (some a0)), (1, .int a1)]) false (by decide +kernel) (Nat.le_of_ble_eq_true rfl) rfl (List.forall_mem_cons.mpr ⟨mv_cat N0 (some a0), List.forall_mem_cons.mpr ⟨rfl, fun _ h => absurd h List.not_mem_nil⟩⟩) (fun z => by cases z) ?_
  unfold F_X7_isCarrier
  show mv_Sim l N0 D dA RX7 cX7_isCarrier 2 1 22 (some .boolean) false mv_rI 0 _ _ _
  refine mv_iload_n 1 dX7_isCarrier_0 rfl rfl rfl ?_
  refine mv_iconst (v := (0 : Int32)) dX7_isCarrier_1 (by decide) rfl ?_
  refine mv_aload_n 0 dX7_isCarrier_2 rfl rfl rfl ?_
  refine mv_getR fd_X7_0 lk_X7_7 dX7_isCarrier_3 rfl (fun v1 => ?_)
  refine mv_iconst (v := (3 : Int32)) dX7_isCarrier_6 (by decide) rfl ?_
  refine mv_iald dX7_isCarrier_7 rfl (fun v2 => ?_)
  refine mv_iconst (v := (1 : Int32)) dX7_isCarrier_8 (by decide) rfl ?_
  refine mv_isub dX7_isCarrier_9 rfl ?_
  refine mv_callSi (st := []) [.int a1, .int (0 : Int32), .int (v2 - (1 : Int32))] (c_X7_in l N0 D dA a1 (0 : Int32) (v2 - (1 : Int32))) wc_X7_36 ⟨by decide, by decide⟩ rfl (mv_cs (Nat.le_of_ble_eq_true rfl) (fun _ h => absurd h List.not_mem_nil)) dX7_isCarrier_10 rfl (fun v3 => ?_)
  exact mv_zret dX7_isCarrier_13

def J_X7_carrier_92 (a0 : Nat) (s0 : Int32) : mv_M Int32 :=
  mv_pu s0

set_option maxHeartbeats 4000000 in
set_option maxRecDepth 100000 in
theorem sJ_X7_carrier_92 (l : Launch) (N0 : Nat) (D : va_G) (dA : Nat → ClassId) (a0 : Nat) (s0 : Int32) : mv_Sim l N0 D dA RX7 cX7_carrier 3 2 45 (some .int) false mv_rI 92 [(0, mv_vr N0 (some a0))] [.int s0] (J_X7_carrier_92 a0 s0) := by
  unfold J_X7_carrier_92
  exact mv_iret dX7_carrier_92

def F_X7_carrier (a0 : Nat) (a1 : Int32) (a2 : Int32) : mv_M Int32 :=
  mv_bd (mv_rc 7 12 (some a0)) fun i2 => mv_bd (F_X7_isCarrier i2 a1) fun v1 =>
  if v1 = 0 then
    mv_pu ((-1) : Int32)
  else
    if a2 = (0 : Int32) then
      mv_bd (mv_rc 7 12 (some a0)) fun i4 => mv_bd (F_X7_ofCarrier i4 a1 (0 : Int32)) fun v3 =>
      mv_pu v3
    else
    if a2 = (1 : Int32) then
      mv_bd (mv_rc 7 12 (some a0)) fun i6 => mv_bd (F_X7_ofCarrier i6 a1 (8 : Int32)) fun v5 =>
      mv_pu v5
    else
    if a2 = (2 : Int32) then
      mv_bd (mv_rc 7 12 (some a0)) fun i8 => mv_bd (F_X7_has i8 a1) fun v7 =>
      mv_pu v7
    else
    if a2 = (3 : Int32) then
      mv_bd (mv_rc 7 12 (some a0)) fun i10 => mv_bd (F_X7_has i10 a1) fun v9 =>
      mv_bd (mv_gR 7 12 0 (some a0)) fun v11 =>
      mv_bd (mv_aI v11 (1 : Int32)) fun v12 =>
      if v9 < v12 then
        J_X7_carrier_92 a0 (0 : Int32)
      else
        J_X7_carrier_92 a0 (1 : Int32)
    else
    if a2 = (4 : Int32) then
      mv_bd (mv_rc 7 12 (some a0)) fun i14 => mv_bd (F_X7_ofCarrier i14 a1 (9 : Int32)) fun v13 =>
      mv_pu v13
    else
    if a2 = (5 : Int32) then
      mv_bd (mv_rc 7 12 (some a0)) fun i16 => mv_bd (F_X7_ofCarrier i16 a1 (10 : Int32)) fun v15 =>
      mv_pu v15
    else
    if a2 = (6 : Int32) then
      mv_bd (mv_rc 7 12 (some a0)) fun i18 => mv_bd (F_X7_ofCarrier i18 a1 (11 : Int32)) fun v17 =>
      mv_pu v17
    else
    mv_pu ((-1) : Int32)

set_option maxHeartbeats 4000000 in
set_option maxRecDepth 100000 in
theorem c_X7_carrier (l : Launch) (N0 : Nat) (D : va_G) (dA : Nat → ClassId) (a0 : Nat) (a1 : Int32) (a2 : Int32) : mv_SimM l N0 D dA yX7_carrier cX7_carrier 3 (some .int) 2 45 mv_rI [.ref (N0 + a0), .int a1, .int a2] (F_X7_carrier a0 a1 a2) := by
  refine mv_SimM_of (L0 := [(0, mv_vr N0 (some a0)), (1, .int a1), (2, .int a2)]) false (by decide +kernel) (Nat.le_of_ble_eq_true rfl) rfl (List.forall_mem_cons.mpr ⟨mv_cat N0 (some a0), List.forall_mem_cons.mpr ⟨rfl, List.forall_mem_cons.mpr ⟨rfl, fun _ h => absurd h List.not_mem_nil⟩⟩⟩) (fun z => by cases z) ?_
  unfold F_X7_carrier
  show mv_Sim l N0 D dA RX7 cX7_carrier 3 2 45 (some .int) false mv_rI 0 _ _ _
  refine mv_aload_n 0 dX7_carrier_0 rfl rfl rfl ?_
  refine mv_iload_n 1 dX7_carrier_1 rfl rfl rfl ?_
  refine mv_callVi (st := []) [.int a1] (fun i2 => c_X7_isCarrier l N0 D dA i2 a1) (T := TX7) rfl (by decide) wc_X7_93 ⟨by decide, by decide⟩ rfl (mv_cs (Nat.le_of_ble_eq_true rfl) (fun _ h => absurd h List.not_mem_nil)) dX7_carrier_2 rfl (fun v1 => ?_)
  refine mv_if_ne (tgt := 10) dX7_carrier_5 rfl rfl ?_ ?_
  · refine mv_iload_n 2 dX7_carrier_10 rfl rfl rfl ?_
    refine mv_ite (fun hs0 => ?_) (fun hs0 => ?_)
    · refine mv_tabIn (q := 52) dX7_carrier_11 (by rw [hs0]; decide) (by rw [hs0]; decide) (by rw [hs0]; rfl) rfl ?_
      refine mv_aload_n 0 dX7_carrier_52 rfl rfl rfl ?_
      refine mv_iload_n 1 dX7_carrier_53 rfl rfl rfl ?_
      refine mv_iconst (v := (0 : Int32)) dX7_carrier_54 (by decide) rfl ?_
      refine mv_callVi (st := []) [.int a1, .int (0 : Int32)] (fun i4 => c_X7_ofCarrier l N0 D dA i4 a1 (0 : Int32)) (T := TX7) rfl (by decide) wc_X7_40 ⟨by decide, by decide⟩ rfl (mv_cs (Nat.le_of_ble_eq_true rfl) (fun _ h => absurd h List.not_mem_nil)) dX7_carrier_55 rfl (fun v3 => ?_)
      exact mv_iret dX7_carrier_58
    refine mv_ite (fun hs1 => ?_) (fun hs1 => ?_)
    · refine mv_tabIn (q := 59) dX7_carrier_11 (by rw [hs1]; decide) (by rw [hs1]; decide) (by rw [hs1]; rfl) rfl ?_
      refine mv_aload_n 0 dX7_carrier_59 rfl rfl rfl ?_
      refine mv_iload_n 1 dX7_carrier_60 rfl rfl rfl ?_
      refine mv_bipush (v := (8 : Int32)) dX7_carrier_61 (by decide) rfl ?_
      refine mv_callVi (st := []) [.int a1, .int (8 : Int32)] (fun i6 => c_X7_ofCarrier l N0 D dA i6 a1 (8 : Int32)) (T := TX7) rfl (by decide) wc_X7_40 ⟨by decide, by decide⟩ rfl (mv_cs (Nat.le_of_ble_eq_true rfl) (fun _ h => absurd h List.not_mem_nil)) dX7_carrier_63 rfl (fun v5 => ?_)
      exact mv_iret dX7_carrier_66
    refine mv_ite (fun hs2 => ?_) (fun hs2 => ?_)
    · refine mv_tabIn (q := 67) dX7_carrier_11 (by rw [hs2]; decide) (by rw [hs2]; decide) (by rw [hs2]; rfl) rfl ?_
      refine mv_aload_n 0 dX7_carrier_67 rfl rfl rfl ?_
      refine mv_iload_n 1 dX7_carrier_68 rfl rfl rfl ?_
      refine mv_callVi (st := []) [.int a1] (fun i8 => c_X7_has l N0 D dA i8 a1) (T := TX7) rfl (by decide) wc_X7_75 ⟨by decide, by decide⟩ rfl (mv_cs (Nat.le_of_ble_eq_true rfl) (fun _ h => absurd h List.not_mem_nil)) dX7_carrier_69 rfl (fun v7 => ?_)
      exact mv_iret dX7_carrier_72
    refine mv_ite (fun hs3 => ?_) (fun hs3 => ?_)
    · refine mv_tabIn (q := 73) dX7_carrier_11 (by rw [hs3]; decide) (by rw [hs3]; decide) (by rw [hs3]; rfl) rfl ?_
      refine mv_aload_n 0 dX7_carrier_73 rfl rfl rfl ?_
      refine mv_iload_n 1 dX7_carrier_74 rfl rfl rfl ?_
      refine mv_callVi (st := []) [.int a1] (fun i10 => c_X7_has l N0 D dA i10 a1) (T := TX7) rfl (by decide) wc_X7_75 ⟨by decide, by decide⟩ rfl (mv_cs (Nat.le_of_ble_eq_true rfl) (fun _ h => absurd h List.not_mem_nil)) dX7_carrier_75 rfl (fun v9 => ?_)
      refine mv_aload_n 0 dX7_carrier_78 rfl rfl rfl ?_
      refine mv_getR fd_X7_0 lk_X7_7 dX7_carrier_79 rfl (fun v11 => ?_)
      refine mv_iconst (v := (1 : Int32)) dX7_carrier_82 (by decide) rfl ?_
      refine mv_iald dX7_carrier_83 rfl (fun v12 => ?_)
      refine mv_icmp_lt (tgt := 91) dX7_carrier_84 rfl rfl ?_ ?_
      · refine mv_iconst (v := (0 : Int32)) dX7_carrier_91 (by decide) rfl ?_
        refine mv_sub [0] rfl ?_
        exact sJ_X7_carrier_92 l N0 D dA a0 (0 : Int32)
      · refine mv_iconst (v := (1 : Int32)) dX7_carrier_87 (by decide) rfl ?_
        refine mv_goto (q := 92) dX7_carrier_88 rfl ?_
        refine mv_sub [0] rfl ?_
        exact sJ_X7_carrier_92 l N0 D dA a0 (1 : Int32)
    refine mv_ite (fun hs4 => ?_) (fun hs4 => ?_)
    · refine mv_tabIn (q := 93) dX7_carrier_11 (by rw [hs4]; decide) (by rw [hs4]; decide) (by rw [hs4]; rfl) rfl ?_
      refine mv_aload_n 0 dX7_carrier_93 rfl rfl rfl ?_
      refine mv_iload_n 1 dX7_carrier_94 rfl rfl rfl ?_
      refine mv_bipush (v := (9 : Int32)) dX7_carrier_95 (by decide) rfl ?_
      refine mv_callVi (st := []) [.int a1, .int (9 : Int32)] (fun i14 => c_X7_ofCarrier l N0 D dA i14 a1 (9 : Int32)) (T := TX7) rfl (by decide) wc_X7_40 ⟨by decide, by decide⟩ rfl (mv_cs (Nat.le_of_ble_eq_true rfl) (fun _ h => absurd h List.not_mem_nil)) dX7_carrier_97 rfl (fun v13 => ?_)
      exact mv_iret dX7_carrier_100
    refine mv_ite (fun hs5 => ?_) (fun hs5 => ?_)
    · refine mv_tabIn (q := 101) dX7_carrier_11 (by rw [hs5]; decide) (by rw [hs5]; decide) (by rw [hs5]; rfl) rfl ?_
      refine mv_aload_n 0 dX7_carrier_101 rfl rfl rfl ?_
      refine mv_iload_n 1 dX7_carrier_102 rfl rfl rfl ?_
      refine mv_bipush (v := (10 : Int32)) dX7_carrier_103 (by decide) rfl ?_
      refine mv_callVi (st := []) [.int a1, .int (10 : Int32)] (fun i16 => c_X7_ofCarrier l N0 D dA i16 a1 (10 : Int32)) (T := TX7) rfl (by decide) wc_X7_40 ⟨by decide, by decide⟩ rfl (mv_cs (Nat.le_of_ble_eq_true rfl) (fun _ h => absurd h List.not_mem_nil)) dX7_carrier_105 rfl (fun v15 => ?_)
      exact mv_iret dX7_carrier_108
    refine mv_ite (fun hs6 => ?_) (fun hs6 => ?_)
    · refine mv_tabIn (q := 109) dX7_carrier_11 (by rw [hs6]; decide) (by rw [hs6]; decide) (by rw [hs6]; rfl) rfl ?_
      refine mv_aload_n 0 dX7_carrier_109 rfl rfl rfl ?_
      refine mv_iload_n 1 dX7_carrier_110 rfl rfl rfl ?_
      refine mv_bipush (v := (11 : Int32)) dX7_carrier_111 (by decide) rfl ?_
      refine mv_callVi (st := []) [.int a1, .int (11 : Int32)] (fun i18 => c_X7_ofCarrier l N0 D dA i18 a1 (11 : Int32)) (T := TX7) rfl (by decide) wc_X7_40 ⟨by decide, by decide⟩ rfl (mv_cs (Nat.le_of_ble_eq_true rfl) (fun _ h => absurd h List.not_mem_nil)) dX7_carrier_113 rfl (fun v17 => ?_)
      exact mv_iret dX7_carrier_116
    refine mv_tabOut (q := 117) dX7_carrier_11 (by have z0 := lv_neT hs0 (show ((0 : Int32)).toInt = 0 by decide); have z1 := lv_neT hs1 (show ((1 : Int32)).toInt = 1 by decide); have z2 := lv_neT hs2 (show ((2 : Int32)).toInt = 2 by decide); have z3 := lv_neT hs3 (show ((3 : Int32)).toInt = 3 by decide); have z4 := lv_neT hs4 (show ((4 : Int32)).toInt = 4 by decide); have z5 := lv_neT hs5 (show ((5 : Int32)).toInt = 5 by decide); have z6 := lv_neT hs6 (show ((6 : Int32)).toInt = 6 by decide); omega) rfl ?_
    refine mv_iconst (v := ((-1) : Int32)) dX7_carrier_117 (by decide) rfl ?_
    exact mv_iret dX7_carrier_118
  · refine mv_iconst (v := ((-1) : Int32)) dX7_carrier_8 (by decide) rfl ?_
    exact mv_iret dX7_carrier_9

def F_X7_lays (a0 : Nat) (a1 : Int32) (a2 : Int32) (a3 : Int32) : mv_M Unit :=
  mv_bd (mv_gR 7 12 0 (some a0)) fun v1 =>
  mv_bd (mv_aS v1 (((64 : Int32) + ((8 : Int32) * a1)) + a2) a3) fun _ =>
  mv_pu ()

set_option maxHeartbeats 4000000 in
set_option maxRecDepth 100000 in
theorem c_X7_lays (l : Launch) (N0 : Nat) (D : va_G) (dA : Nat → ClassId) (a0 : Nat) (a1 : Int32) (a2 : Int32) (a3 : Int32) : mv_SimM l N0 D dA yX7_lays cX7_lays 4 none 0 0 mv_rV [.ref (N0 + a0), .int a1, .int a2, .int a3] (F_X7_lays a0 a1 a2 a3) := by
  refine mv_SimM_of (L0 := [(0, mv_vr N0 (some a0)), (1, .int a1), (2, .int a2), (3, .int a3)]) false (by decide +kernel) (Nat.le_of_ble_eq_true rfl) rfl (List.forall_mem_cons.mpr ⟨mv_cat N0 (some a0), List.forall_mem_cons.mpr ⟨rfl, List.forall_mem_cons.mpr ⟨rfl, List.forall_mem_cons.mpr ⟨rfl, fun _ h => absurd h List.not_mem_nil⟩⟩⟩⟩) (fun z => by cases z) ?_
  unfold F_X7_lays
  show mv_Sim l N0 D dA RX7 cX7_lays 4 0 0 none false mv_rV 0 _ _ _
  refine mv_aload_n 0 dX7_lays_0 rfl rfl rfl ?_
  refine mv_getR fd_X7_0 lk_X7_7 dX7_lays_1 rfl (fun v1 => ?_)
  refine mv_bipush (v := (64 : Int32)) dX7_lays_4 (by decide) rfl ?_
  refine mv_bipush (v := (8 : Int32)) dX7_lays_6 (by decide) rfl ?_
  refine mv_iload_n 1 dX7_lays_8 rfl rfl rfl ?_
  refine mv_imul dX7_lays_9 rfl ?_
  refine mv_iadd dX7_lays_10 rfl ?_
  refine mv_iload_n 2 dX7_lays_11 rfl rfl rfl ?_
  refine mv_iadd dX7_lays_12 rfl ?_
  refine mv_iload_n 3 dX7_lays_13 rfl rfl rfl ?_
  refine mv_iast dX7_lays_14 rfl ?_
  exact mv_vret dX7_lays_15

def J_X7_changes_118 (a0 : Nat) : mv_M Unit :=
  mv_pu ()

set_option maxHeartbeats 4000000 in
set_option maxRecDepth 100000 in
theorem sJ_X7_changes_118 (l : Launch) (N0 : Nat) (D : va_G) (dA : Nat → ClassId) (a0 : Nat) : mv_Sim l N0 D dA RX7 cX7_changes 3 1 23 none false mv_rV 118 [(0, mv_vr N0 (some a0))] [] (J_X7_changes_118 a0) := by
  unfold J_X7_changes_118
  exact mv_vret dX7_changes_118

def F_X7_changes (a0 : Nat) (a1 : Int32) (a2 : Int32) : mv_M Unit :=
  mv_bd (mv_rc 7 12 (some a0)) fun i1 => mv_bd (F_X7_lays i1 a1 (1 : Int32) (0 : Int32)) fun _ =>
  mv_bd (mv_rc 7 12 (some a0)) fun i2 => mv_bd (F_X7_lays i2 a1 (2 : Int32) (a2 + (1 : Int32))) fun _ =>
  mv_bd (mv_rc 7 12 (some a0)) fun i4 => mv_bd (F_X7_of i4 a1 (6 : Int32)) fun v3 =>
  mv_bd (mv_rc 7 12 (some a0)) fun i5 => mv_bd (F_X7_lays i5 a1 (6 : Int32) (v3 + (1 : Int32))) fun _ =>
  mv_bd (mv_gR 7 12 0 (some a0)) fun v6 =>
  mv_bd (mv_aI v6 (8 : Int32)) fun v7 =>
  mv_bd (mv_aS v6 (8 : Int32) (v7 + (1 : Int32))) fun _ =>
  mv_bd (mv_rc 7 12 (some a0)) fun i8 => mv_bd (F_X7_addsCarrier i8 a2 (10 : Int32) (1 : Int32)) fun _ =>
  mv_bd (mv_gR 7 12 0 (some a0)) fun v9 =>
  mv_bd (mv_gR 7 12 0 (some a0)) fun v10 =>
  mv_bd (mv_aI v10 (2 : Int32)) fun v11 =>
  mv_bd (mv_rm (((421 : Int32) * v11) + (1663 : Int32)) (10000 : Int32)) fun v12 =>
  mv_bd (mv_aS v9 (2 : Int32) v12) fun _ =>
  mv_bd (mv_gR 7 12 0 (some a0)) fun v13 =>
  mv_bd (mv_aI v13 (2 : Int32)) fun v14 =>
  mv_bd (mv_rm v14 (10 : Int32)) fun v15 =>
  mv_bd (mv_rc 7 12 (some a0)) fun i17 => mv_bd (F_X7_ofCarrier i17 a2 (8 : Int32)) fun v16 =>
  if v16 ≤ v15 then
    J_X7_changes_118 a0
  else
    mv_bd (mv_rc 7 12 (some a0)) fun i19 => mv_bd (F_X7_of i19 a1 (5 : Int32)) fun v18 =>
    if v18 = 0 then
      mv_bd (mv_rc 7 12 (some a0)) fun i20 => mv_bd (F_X7_lays i20 a1 (5 : Int32) (1 : Int32)) fun _ =>
      mv_bd (mv_rc 7 12 (some a0)) fun i21 => mv_bd (F_X7_addsCarrier i21 a2 (11 : Int32) (1 : Int32)) fun _ =>
      J_X7_changes_118 a0
    else
      J_X7_changes_118 a0

set_option maxHeartbeats 4000000 in
set_option maxRecDepth 100000 in
theorem c_X7_changes (l : Launch) (N0 : Nat) (D : va_G) (dA : Nat → ClassId) (a0 : Nat) (a1 : Int32) (a2 : Int32) : mv_SimM l N0 D dA yX7_changes cX7_changes 3 none 1 23 mv_rV [.ref (N0 + a0), .int a1, .int a2] (F_X7_changes a0 a1 a2) := by
  refine mv_SimM_of (L0 := [(0, mv_vr N0 (some a0)), (1, .int a1), (2, .int a2)]) false (by decide +kernel) (Nat.le_of_ble_eq_true rfl) rfl (List.forall_mem_cons.mpr ⟨mv_cat N0 (some a0), List.forall_mem_cons.mpr ⟨rfl, List.forall_mem_cons.mpr ⟨rfl, fun _ h => absurd h List.not_mem_nil⟩⟩⟩) (fun z => by cases z) ?_
  unfold F_X7_changes
  show mv_Sim l N0 D dA RX7 cX7_changes 3 1 23 none false mv_rV 0 _ _ _
  refine mv_aload_n 0 dX7_changes_0 rfl rfl rfl ?_
  refine mv_iload_n 1 dX7_changes_1 rfl rfl rfl ?_
  refine mv_iconst (v := (1 : Int32)) dX7_changes_2 (by decide) rfl ?_
  refine mv_iconst (v := (0 : Int32)) dX7_changes_3 (by decide) rfl ?_
  refine mv_callVv (st := []) [.int a1, .int (1 : Int32), .int (0 : Int32)] (fun i1 => c_X7_lays l N0 D dA i1 a1 (1 : Int32) (0 : Int32)) (T := TX7) rfl (by decide) wc_X7_68 ⟨by decide, by decide⟩ rfl (mv_cs (Nat.le_of_ble_eq_true rfl) (fun _ h => absurd h List.not_mem_nil)) dX7_changes_4 rfl ?_
  refine mv_aload_n 0 dX7_changes_7 rfl rfl rfl ?_
  refine mv_iload_n 1 dX7_changes_8 rfl rfl rfl ?_
  refine mv_iconst (v := (2 : Int32)) dX7_changes_9 (by decide) rfl ?_
  refine mv_iload_n 2 dX7_changes_10 rfl rfl rfl ?_
  refine mv_iconst (v := (1 : Int32)) dX7_changes_11 (by decide) rfl ?_
  refine mv_iadd dX7_changes_12 rfl ?_
  refine mv_callVv (st := []) [.int a1, .int (2 : Int32), .int (a2 + (1 : Int32))] (fun i2 => c_X7_lays l N0 D dA i2 a1 (2 : Int32) (a2 + (1 : Int32))) (T := TX7) rfl (by decide) wc_X7_68 ⟨by decide, by decide⟩ rfl (mv_cs (Nat.le_of_ble_eq_true rfl) (fun _ h => absurd h List.not_mem_nil)) dX7_changes_13 rfl ?_
  refine mv_aload_n 0 dX7_changes_16 rfl rfl rfl ?_
  refine mv_iload_n 1 dX7_changes_17 rfl rfl rfl ?_
  refine mv_bipush (v := (6 : Int32)) dX7_changes_18 (by decide) rfl ?_
  refine mv_aload_n 0 dX7_changes_20 rfl rfl rfl ?_
  refine mv_iload_n 1 dX7_changes_21 rfl rfl rfl ?_
  refine mv_bipush (v := (6 : Int32)) dX7_changes_22 (by decide) rfl ?_
  refine mv_callVi (st := [.int (6 : Int32), .int a1, mv_vr N0 (some a0)]) [.int a1, .int (6 : Int32)] (fun i4 => c_X7_of l N0 D dA i4 a1 (6 : Int32)) (T := TX7) rfl (by decide) wc_X7_44 ⟨by decide, by decide⟩ rfl (mv_cs (Nat.le_of_ble_eq_true rfl) (List.forall_mem_cons.mpr ⟨rfl, List.forall_mem_cons.mpr ⟨rfl, List.forall_mem_cons.mpr ⟨mv_cat N0 (some a0), fun _ h => absurd h List.not_mem_nil⟩⟩⟩)) dX7_changes_24 rfl (fun v3 => ?_)
  refine mv_iconst (v := (1 : Int32)) dX7_changes_27 (by decide) rfl ?_
  refine mv_iadd dX7_changes_28 rfl ?_
  refine mv_callVv (st := []) [.int a1, .int (6 : Int32), .int (v3 + (1 : Int32))] (fun i5 => c_X7_lays l N0 D dA i5 a1 (6 : Int32) (v3 + (1 : Int32))) (T := TX7) rfl (by decide) wc_X7_68 ⟨by decide, by decide⟩ rfl (mv_cs (Nat.le_of_ble_eq_true rfl) (fun _ h => absurd h List.not_mem_nil)) dX7_changes_29 rfl ?_
  refine mv_aload_n 0 dX7_changes_32 rfl rfl rfl ?_
  refine mv_getR fd_X7_0 lk_X7_7 dX7_changes_33 rfl (fun v6 => ?_)
  refine mv_bipush (v := (8 : Int32)) dX7_changes_36 (by decide) rfl ?_
  refine mv_dup2 dX7_changes_38 rfl (mv_cat N0 v6) rfl ?_
  refine mv_iald dX7_changes_39 rfl (fun v7 => ?_)
  refine mv_iconst (v := (1 : Int32)) dX7_changes_40 (by decide) rfl ?_
  refine mv_iadd dX7_changes_41 rfl ?_
  refine mv_iast dX7_changes_42 rfl ?_
  refine mv_aload_n 0 dX7_changes_43 rfl rfl rfl ?_
  refine mv_iload_n 2 dX7_changes_44 rfl rfl rfl ?_
  refine mv_bipush (v := (10 : Int32)) dX7_changes_45 (by decide) rfl ?_
  refine mv_iconst (v := (1 : Int32)) dX7_changes_47 (by decide) rfl ?_
  refine mv_callVv (st := []) [.int a2, .int (10 : Int32), .int (1 : Int32)] (fun i8 => c_X7_addsCarrier l N0 D dA i8 a2 (10 : Int32) (1 : Int32)) (T := TX7) rfl (by decide) wc_X7_72 ⟨by decide, by decide⟩ rfl (mv_cs (Nat.le_of_ble_eq_true rfl) (fun _ h => absurd h List.not_mem_nil)) dX7_changes_48 rfl ?_
  refine mv_aload_n 0 dX7_changes_51 rfl rfl rfl ?_
  refine mv_getR fd_X7_0 lk_X7_7 dX7_changes_52 rfl (fun v9 => ?_)
  refine mv_iconst (v := (2 : Int32)) dX7_changes_55 (by decide) rfl ?_
  refine mv_sipush (v := (421 : Int32)) dX7_changes_56 (by decide) rfl ?_
  refine mv_aload_n 0 dX7_changes_59 rfl rfl rfl ?_
  refine mv_getR fd_X7_0 lk_X7_7 dX7_changes_60 rfl (fun v10 => ?_)
  refine mv_iconst (v := (2 : Int32)) dX7_changes_63 (by decide) rfl ?_
  refine mv_iald dX7_changes_64 rfl (fun v11 => ?_)
  refine mv_imul dX7_changes_65 rfl ?_
  refine mv_sipush (v := (1663 : Int32)) dX7_changes_66 (by decide) rfl ?_
  refine mv_iadd dX7_changes_69 rfl ?_
  refine mv_sipush (v := (10000 : Int32)) dX7_changes_70 (by decide) rfl ?_
  refine mv_irem dX7_changes_73 rfl (fun v12 => ?_)
  refine mv_iast dX7_changes_74 rfl ?_
  refine mv_aload_n 0 dX7_changes_75 rfl rfl rfl ?_
  refine mv_getR fd_X7_0 lk_X7_7 dX7_changes_76 rfl (fun v13 => ?_)
  refine mv_iconst (v := (2 : Int32)) dX7_changes_79 (by decide) rfl ?_
  refine mv_iald dX7_changes_80 rfl (fun v14 => ?_)
  refine mv_bipush (v := (10 : Int32)) dX7_changes_81 (by decide) rfl ?_
  refine mv_irem dX7_changes_83 rfl (fun v15 => ?_)
  refine mv_aload_n 0 dX7_changes_84 rfl rfl rfl ?_
  refine mv_iload_n 2 dX7_changes_85 rfl rfl rfl ?_
  refine mv_bipush (v := (8 : Int32)) dX7_changes_86 (by decide) rfl ?_
  refine mv_callVi (st := [.int v15]) [.int a2, .int (8 : Int32)] (fun i17 => c_X7_ofCarrier l N0 D dA i17 a2 (8 : Int32)) (T := TX7) rfl (by decide) wc_X7_40 ⟨by decide, by decide⟩ rfl (mv_cs (Nat.le_of_ble_eq_true rfl) (List.forall_mem_cons.mpr ⟨rfl, fun _ h => absurd h List.not_mem_nil⟩)) dX7_changes_88 rfl (fun v16 => ?_)
  refine mv_icmp_ge (tgt := 118) dX7_changes_91 rfl rfl ?_ ?_
  · refine mv_sub [0] rfl ?_
    exact sJ_X7_changes_118 l N0 D dA a0
  · refine mv_aload_n 0 dX7_changes_94 rfl rfl rfl ?_
    refine mv_iload_n 1 dX7_changes_95 rfl rfl rfl ?_
    refine mv_iconst (v := (5 : Int32)) dX7_changes_96 (by decide) rfl ?_
    refine mv_callVi (st := []) [.int a1, .int (5 : Int32)] (fun i19 => c_X7_of l N0 D dA i19 a1 (5 : Int32)) (T := TX7) rfl (by decide) wc_X7_44 ⟨by decide, by decide⟩ rfl (mv_cs (Nat.le_of_ble_eq_true rfl) (fun _ h => absurd h List.not_mem_nil)) dX7_changes_97 rfl (fun v18 => ?_)
    refine mv_if_ne (tgt := 118) dX7_changes_100 rfl rfl ?_ ?_
    · refine mv_sub [0] rfl ?_
      exact sJ_X7_changes_118 l N0 D dA a0
    · refine mv_aload_n 0 dX7_changes_103 rfl rfl rfl ?_
      refine mv_iload_n 1 dX7_changes_104 rfl rfl rfl ?_
      refine mv_iconst (v := (5 : Int32)) dX7_changes_105 (by decide) rfl ?_
      refine mv_iconst (v := (1 : Int32)) dX7_changes_106 (by decide) rfl ?_
      refine mv_callVv (st := []) [.int a1, .int (5 : Int32), .int (1 : Int32)] (fun i20 => c_X7_lays l N0 D dA i20 a1 (5 : Int32) (1 : Int32)) (T := TX7) rfl (by decide) wc_X7_68 ⟨by decide, by decide⟩ rfl (mv_cs (Nat.le_of_ble_eq_true rfl) (fun _ h => absurd h List.not_mem_nil)) dX7_changes_107 rfl ?_
      refine mv_aload_n 0 dX7_changes_110 rfl rfl rfl ?_
      refine mv_iload_n 2 dX7_changes_111 rfl rfl rfl ?_
      refine mv_bipush (v := (11 : Int32)) dX7_changes_112 (by decide) rfl ?_
      refine mv_iconst (v := (1 : Int32)) dX7_changes_114 (by decide) rfl ?_
      refine mv_callVv (st := []) [.int a2, .int (11 : Int32), .int (1 : Int32)] (fun i21 => c_X7_addsCarrier l N0 D dA i21 a2 (11 : Int32) (1 : Int32)) (T := TX7) rfl (by decide) wc_X7_72 ⟨by decide, by decide⟩ rfl (mv_cs (Nat.le_of_ble_eq_true rfl) (fun _ h => absurd h List.not_mem_nil)) dX7_changes_115 rfl ?_
      refine mv_sub [0] rfl ?_
      exact sJ_X7_changes_118 l N0 D dA a0

def F_X7_clear (a0 : Nat) : mv_M Int32 :=
  mv_bd (mv_gI 7 12 7 (some a0)) fun v1 =>
  mv_bd (mv_sI 7 12 7 (some a0) (0 : Int32)) fun _ =>
  mv_pu v1

set_option maxHeartbeats 4000000 in
set_option maxRecDepth 100000 in
theorem c_X7_clear (l : Launch) (N0 : Nat) (D : va_G) (dA : Nat → ClassId) (a0 : Nat) : mv_SimM l N0 D dA yX7_clear cX7_clear 2 (some .int) 0 0 mv_rI [.ref (N0 + a0)] (F_X7_clear a0) := by
  refine mv_SimM_of (L0 := [(0, mv_vr N0 (some a0))]) false (by decide +kernel) (Nat.le_of_ble_eq_true rfl) rfl (List.forall_mem_cons.mpr ⟨mv_cat N0 (some a0), fun _ h => absurd h List.not_mem_nil⟩) (fun z => by cases z) ?_
  unfold F_X7_clear
  show mv_Sim l N0 D dA RX7 cX7_clear 2 0 0 (some .int) false mv_rI 0 _ _ _
  refine mv_aload_n 0 dX7_clear_0 rfl rfl rfl ?_
  refine mv_getI fd_X7_7 lk_X7_113 dX7_clear_1 rfl (fun v1 => ?_)
  refine mv_istore_n [0] dX7_clear_4 rfl (by decide) rfl rfl rfl ?_
  refine mv_aload_n 1 dX7_clear_5 rfl rfl rfl ?_
  refine mv_iconst (v := (0 : Int32)) dX7_clear_6 (by decide) rfl ?_
  refine mv_putI fd_X7_7 rfl (tyX7_ok 7 (by decide)) lk_X7_113 dX7_clear_7 rfl ?_
  refine mv_iload_n 0 dX7_clear_10 rfl rfl rfl ?_
  exact mv_iret dX7_clear_11

def Lp_X7_copies_3 (x0 : Option Nat) (x1 : Int32) (x2 : Option Nat) (x3 : Int32) : Nat → Int32 → mv_M Unit
  | 0, _ => mv_fl
  | n + 1, x4 =>
    if (128 : Int32) ≤ x4 then
      mv_pu ()
    else
      mv_bd (mv_aI x0 (x1 + x4)) fun v1 =>
      mv_bd (mv_aS x2 (x3 + x4) v1) fun _ =>
      Lp_X7_copies_3 x0 x1 x2 x3 n (x4 + (1 : Int32))

set_option maxHeartbeats 4000000 in
set_option maxRecDepth 100000 in
theorem sLp_X7_copies_3 (l : Launch) (N0 : Nat) (D : va_G) (dA : Nat → ClassId) (x0 : Option Nat) (x1 : Int32) (x2 : Option Nat) (x3 : Int32) : ∀ (n : Nat) (x4 : Int32), mv_Sim l N0 D dA RX7 cX7_copies 5 0 0 none false mv_rV 3 [(0, mv_vr N0 x0), (1, .int x1), (2, mv_vr N0 x2), (3, .int x3), (4, .int x4)] [] (Lp_X7_copies_3 x0 x1 x2 x3 n x4) := by
  intro n
  induction n with
  | zero => intro x4; rw [Lp_X7_copies_3]; exact mv_fl_sim
  | succ n ih =>
    intro x4
    rw [Lp_X7_copies_3]
    refine mv_iload 4 dX7_copies_3 rfl rfl ?_
    refine mv_sipush (v := (128 : Int32)) dX7_copies_5 (by decide) rfl ?_
    refine mv_icmp_ge (tgt := 29) dX7_copies_8 rfl rfl ?_ ?_
    · exact mv_vret dX7_copies_29
    · refine mv_aload_n 2 dX7_copies_11 rfl rfl rfl ?_
      refine mv_iload_n 3 dX7_copies_12 rfl rfl rfl ?_
      refine mv_iload 4 dX7_copies_13 rfl rfl ?_
      refine mv_iadd dX7_copies_15 rfl ?_
      refine mv_aload_n 0 dX7_copies_16 rfl rfl rfl ?_
      refine mv_iload_n 1 dX7_copies_17 rfl rfl rfl ?_
      refine mv_iload 4 dX7_copies_18 rfl rfl ?_
      refine mv_iadd dX7_copies_20 rfl ?_
      refine mv_iald dX7_copies_21 rfl (fun v1 => ?_)
      refine mv_iast dX7_copies_22 rfl ?_
      refine mv_iinc (y := (x4 + (1 : Int32))) 4 [0, 1, 2, 3] dX7_copies_23 rfl rfl (by decide) rfl rfl rfl ?_
      refine mv_goto (q := 3) dX7_copies_26 rfl ?_
      refine mv_sub [1, 2, 3, 4, 0] rfl ?_
      exact ih (x4 + (1 : Int32))

def F_X7_copies (a0 : Option Nat) (a1 : Int32) (a2 : Option Nat) (a3 : Int32) : mv_M Unit :=
  Lp_X7_copies_3 a0 a1 a2 a3 mv_FU (0 : Int32)

set_option maxHeartbeats 4000000 in
set_option maxRecDepth 100000 in
theorem c_X7_copies (l : Launch) (N0 : Nat) (D : va_G) (dA : Nat → ClassId) (a0 : Option Nat) (a1 : Int32) (a2 : Option Nat) (a3 : Int32) : mv_SimM l N0 D dA yX7_copies cX7_copies 5 none 0 0 mv_rV [mv_vr N0 a0, .int a1, mv_vr N0 a2, .int a3] (F_X7_copies a0 a1 a2 a3) := by
  refine mv_SimM_of (L0 := [(0, mv_vr N0 a0), (1, .int a1), (2, mv_vr N0 a2), (3, .int a3)]) false (by decide +kernel) (by cases a0 <;> cases a2 <;> exact Nat.le_of_ble_eq_true rfl) (by cases a0 <;> cases a2 <;> rfl) (List.forall_mem_cons.mpr ⟨mv_cat N0 a0, List.forall_mem_cons.mpr ⟨rfl, List.forall_mem_cons.mpr ⟨mv_cat N0 a2, List.forall_mem_cons.mpr ⟨rfl, fun _ h => absurd h List.not_mem_nil⟩⟩⟩⟩) (fun z => by cases z) ?_
  unfold F_X7_copies
  show mv_Sim l N0 D dA RX7 cX7_copies 5 0 0 none false mv_rV 0 _ _ _
  refine mv_iconst (v := (0 : Int32)) dX7_copies_0 (by decide) rfl ?_
  refine mv_istore [0, 1, 2, 3] dX7_copies_1 (by decide) rfl rfl rfl ?_
  refine mv_sub [1, 2, 3, 4, 0] rfl ?_
  exact sLp_X7_copies_3 l N0 D dA a0 a1 a2 a3 mv_FU (0 : Int32)

def J_X7_illOnes_36 (k4 : Int32 → Int32 → mv_M Int32) (a0 : Nat) (x2 : Int32) (s0 : Int32) (s1 : Int32) : mv_M Int32 :=
  mv_bd (mv_pu (s0 + s1)) fun v1 =>
  k4 v1 (x2 + (1 : Int32))

set_option maxHeartbeats 4000000 in
set_option maxRecDepth 100000 in
theorem sJ_X7_illOnes_36 (l : Launch) (N0 : Nat) (D : va_G) (dA : Nat → ClassId) (a0 : Nat) (x2 : Int32) (s0 : Int32) (s1 : Int32) (k4 : Int32 → Int32 → mv_M Int32) (hk4 : ∀ (y1 : Int32) (y2 : Int32), mv_Sim l N0 D dA RX7 cX7_illOnes 3 2 44 (some .int) false mv_rI 4 [(0, mv_vr N0 (some a0)), (1, .int y1), (2, .int y2)] [] (k4 y1 y2)) : mv_Sim l N0 D dA RX7 cX7_illOnes 3 2 44 (some .int) false mv_rI 36 [(0, mv_vr N0 (some a0)), (2, .int x2)] [.int s1, .int s0] (J_X7_illOnes_36 k4 a0 x2 s0 s1) := by
  unfold J_X7_illOnes_36
  refine mv_iadd dX7_illOnes_36 rfl ?_
  refine mv_let (fun v1 => ?_)
  refine mv_istore_n [0, 1] dX7_illOnes_37 rfl (by decide) rfl rfl rfl ?_
  refine mv_iinc (y := (x2 + (1 : Int32))) 2 [0, 1] dX7_illOnes_38 rfl rfl (by decide) rfl rfl rfl ?_
  refine mv_goto (q := 4) dX7_illOnes_41 rfl ?_
  refine mv_sub [2, 1, 0] rfl ?_
  exact hk4 v1 (x2 + (1 : Int32))

def Lp_X7_illOnes_4 (a0 : Nat) : Nat → Int32 → Int32 → mv_M Int32
  | 0, _, _ => mv_fl
  | n + 1, x1, x2 =>
    mv_bd (mv_gR 7 12 0 (some a0)) fun v2 =>
    mv_bd (mv_aI v2 (3 : Int32)) fun v3 =>
    if v3 ≤ x2 then
      mv_pu x1
    else
      mv_bd (mv_gR 7 12 0 (some a0)) fun v4 =>
      mv_bd (mv_aI v4 (0 : Int32)) fun v5 =>
      mv_bd (mv_rc 7 12 (some a0)) fun i7 => mv_bd (F_X7_townOf i7 x2 v5) fun v6 =>
      if v6 = ((-4) : Int32) then
        J_X7_illOnes_36 (Lp_X7_illOnes_4 a0 n) a0 x2 x1 (1 : Int32)
      else
        J_X7_illOnes_36 (Lp_X7_illOnes_4 a0 n) a0 x2 x1 (0 : Int32)

set_option maxHeartbeats 4000000 in
set_option maxRecDepth 100000 in
theorem sLp_X7_illOnes_4 (l : Launch) (N0 : Nat) (D : va_G) (dA : Nat → ClassId) (a0 : Nat) : ∀ (n : Nat) (x1 : Int32) (x2 : Int32), mv_Sim l N0 D dA RX7 cX7_illOnes 3 2 44 (some .int) false mv_rI 4 [(0, mv_vr N0 (some a0)), (1, .int x1), (2, .int x2)] [] (Lp_X7_illOnes_4 a0 n x1 x2) := by
  intro n
  induction n with
  | zero => intro x1 x2; rw [Lp_X7_illOnes_4]; exact mv_fl_sim
  | succ n ih =>
    intro x1 x2
    rw [Lp_X7_illOnes_4]
    refine mv_iload_n 2 dX7_illOnes_4 rfl rfl rfl ?_
    refine mv_aload_n 0 dX7_illOnes_5 rfl rfl rfl ?_
    refine mv_getR fd_X7_0 lk_X7_7 dX7_illOnes_6 rfl (fun v2 => ?_)
    refine mv_iconst (v := (3 : Int32)) dX7_illOnes_9 (by decide) rfl ?_
    refine mv_iald dX7_illOnes_10 rfl (fun v3 => ?_)
    refine mv_icmp_ge (tgt := 44) dX7_illOnes_11 rfl rfl ?_ ?_
    · refine mv_iload_n 1 dX7_illOnes_44 rfl rfl rfl ?_
      exact mv_iret dX7_illOnes_45
    · refine mv_iload_n 1 dX7_illOnes_14 rfl rfl rfl ?_
      refine mv_aload_n 0 dX7_illOnes_15 rfl rfl rfl ?_
      refine mv_iload_n 2 dX7_illOnes_16 rfl rfl rfl ?_
      refine mv_aload_n 0 dX7_illOnes_17 rfl rfl rfl ?_
      refine mv_getR fd_X7_0 lk_X7_7 dX7_illOnes_18 rfl (fun v4 => ?_)
      refine mv_iconst (v := (0 : Int32)) dX7_illOnes_21 (by decide) rfl ?_
      refine mv_iald dX7_illOnes_22 rfl (fun v5 => ?_)
      refine mv_callVi (st := [.int x1]) [.int x2, .int v5] (fun i7 => c_X7_townOf l N0 D dA i7 x2 v5) (T := TX7) rfl (by decide) wc_X7_47 ⟨by decide, by decide⟩ rfl (mv_cs (Nat.le_of_ble_eq_true rfl) (List.forall_mem_cons.mpr ⟨rfl, fun _ h => absurd h List.not_mem_nil⟩)) dX7_illOnes_23 rfl (fun v6 => ?_)
      refine mv_bipush (v := ((-4) : Int32)) dX7_illOnes_26 (by decide) rfl ?_
      refine mv_icmp_ne (tgt := 35) dX7_illOnes_28 rfl rfl ?_ ?_
      · refine mv_iconst (v := (0 : Int32)) dX7_illOnes_35 (by decide) rfl ?_
        refine mv_sub [0, 2] rfl ?_
        exact sJ_X7_illOnes_36 l N0 D dA a0 x2 x1 (0 : Int32) _ ih
      · refine mv_iconst (v := (1 : Int32)) dX7_illOnes_31 (by decide) rfl ?_
        refine mv_goto (q := 36) dX7_illOnes_32 rfl ?_
        refine mv_sub [0, 2] rfl ?_
        exact sJ_X7_illOnes_36 l N0 D dA a0 x2 x1 (1 : Int32) _ ih

def F_X7_illOnes (a0 : Nat) : mv_M Int32 :=
  Lp_X7_illOnes_4 a0 mv_FU (0 : Int32) (0 : Int32)

set_option maxHeartbeats 4000000 in
set_option maxRecDepth 100000 in
theorem c_X7_illOnes (l : Launch) (N0 : Nat) (D : va_G) (dA : Nat → ClassId) (a0 : Nat) : mv_SimM l N0 D dA yX7_illOnes cX7_illOnes 3 (some .int) 2 44 mv_rI [.ref (N0 + a0)] (F_X7_illOnes a0) := by
  refine mv_SimM_of (L0 := [(0, mv_vr N0 (some a0))]) false (by decide +kernel) (Nat.le_of_ble_eq_true rfl) rfl (List.forall_mem_cons.mpr ⟨mv_cat N0 (some a0), fun _ h => absurd h List.not_mem_nil⟩) (fun z => by cases z) ?_
  unfold F_X7_illOnes
  show mv_Sim l N0 D dA RX7 cX7_illOnes 3 2 44 (some .int) false mv_rI 0 _ _ _
  refine mv_iconst (v := (0 : Int32)) dX7_illOnes_0 (by decide) rfl ?_
  refine mv_istore_n [0] dX7_illOnes_1 rfl (by decide) rfl rfl rfl ?_
  refine mv_iconst (v := (0 : Int32)) dX7_illOnes_2 (by decide) rfl ?_
  refine mv_istore_n [0, 1] dX7_illOnes_3 rfl (by decide) rfl rfl rfl ?_
  refine mv_sub [2, 1, 0] rfl ?_
  exact sLp_X7_illOnes_4 l N0 D dA a0 mv_FU (0 : Int32) (0 : Int32)

def J_X7_count_121 (a0 : Nat) (s0 : Int32) : mv_M Int32 :=
  mv_pu s0

set_option maxHeartbeats 4000000 in
set_option maxRecDepth 100000 in
theorem sJ_X7_count_121 (l : Launch) (N0 : Nat) (D : va_G) (dA : Nat → ClassId) (a0 : Nat) (s0 : Int32) : mv_Sim l N0 D dA RX7 cX7_count 2 3 66 (some .int) false mv_rI 121 [(0, mv_vr N0 (some a0))] [.int s0] (J_X7_count_121 a0 s0) := by
  unfold J_X7_count_121
  exact mv_iret dX7_count_121

def J_X7_count_165 (a0 : Nat) (x1 : Int32) : mv_M Int32 :=
  mv_bd (mv_gR 7 12 0 (some a0)) fun v1 =>
  mv_bd (mv_aI v1 (((5 : Int32) + x1) - (9 : Int32))) fun v2 =>
  mv_pu v2

set_option maxHeartbeats 4000000 in
set_option maxRecDepth 100000 in
theorem sJ_X7_count_165 (l : Launch) (N0 : Nat) (D : va_G) (dA : Nat → ClassId) (a0 : Nat) (x1 : Int32) : mv_Sim l N0 D dA RX7 cX7_count 2 3 66 (some .int) false mv_rI 165 [(0, mv_vr N0 (some a0)), (1, .int x1)] [] (J_X7_count_165 a0 x1) := by
  unfold J_X7_count_165
  refine mv_aload_n 0 dX7_count_165 rfl rfl rfl ?_
  refine mv_getR fd_X7_0 lk_X7_7 dX7_count_166 rfl (fun v1 => ?_)
  refine mv_iconst (v := (5 : Int32)) dX7_count_169 (by decide) rfl ?_
  refine mv_iload_n 1 dX7_count_170 rfl rfl rfl ?_
  refine mv_iadd dX7_count_171 rfl ?_
  refine mv_bipush (v := (9 : Int32)) dX7_count_172 (by decide) rfl ?_
  refine mv_isub dX7_count_174 rfl ?_
  refine mv_iald dX7_count_175 rfl (fun v2 => ?_)
  exact mv_iret dX7_count_176

def F_X7_count (a0 : Nat) (a1 : Int32) : mv_M Int32 :=
  if a1 = (0 : Int32) then
    mv_bd (mv_gR 7 12 0 (some a0)) fun v3 =>
    mv_bd (mv_aI v3 (0 : Int32)) fun v4 =>
    mv_pu v4
  else
  if a1 = (1 : Int32) then
    mv_bd (mv_gR 7 12 0 (some a0)) fun v5 =>
    mv_bd (mv_aI v5 (0 : Int32)) fun v6 =>
    mv_bd (mv_rc 7 12 (some a0)) fun i8 => mv_bd (F_X7_stallOn i8 v6) fun v7 =>
    if v7 = (6 : Int32) then
      J_X7_count_121 a0 ((-4) : Int32)
    else
      mv_bd (mv_gR 7 12 0 (some a0)) fun v9 =>
      mv_bd (mv_aI v9 (0 : Int32)) fun v10 =>
      mv_bd (mv_rc 7 12 (some a0)) fun i12 => mv_bd (F_X7_stallOn i12 v10) fun v11 =>
      J_X7_count_121 a0 v11
  else
  if a1 = (2 : Int32) then
    mv_bd (mv_gR 7 12 0 (some a0)) fun v13 =>
    mv_bd (mv_aI v13 (3 : Int32)) fun v14 =>
    mv_pu v14
  else
  if a1 = (3 : Int32) then
    mv_bd (mv_rc 7 12 (some a0)) fun i16 => mv_bd (F_X7_illOnes i16 ) fun v15 =>
    mv_pu v15
  else
  if a1 = (4 : Int32) then
    mv_bd (mv_gR 7 12 0 (some a0)) fun v17 =>
    mv_bd (mv_aI v17 (4 : Int32)) fun v18 =>
    mv_pu v18
  else
  if a1 = (5 : Int32) then
    mv_bd (mv_rc 7 12 (some a0)) fun i20 => mv_bd (F_X7_bundlesBy i20 (1 : Int32)) fun v19 =>
    mv_pu v19
  else
  if a1 = (6 : Int32) then
    mv_bd (mv_rc 7 12 (some a0)) fun i22 => mv_bd (F_X7_bundlesBy i22 (2 : Int32)) fun v21 =>
    mv_pu v21
  else
  if a1 = (7 : Int32) then
    mv_bd (mv_rc 7 12 (some a0)) fun i24 => mv_bd (F_X7_bundlesBy i24 (3 : Int32)) fun v23 =>
    mv_pu v23
  else
  if a1 = (8 : Int32) then
    mv_bd (mv_rc 7 12 (some a0)) fun i26 => mv_bd (F_X7_bundlesBy i26 (5 : Int32)) fun v25 =>
    mv_pu v25
  else
  if a1 = (9 : Int32) then
    J_X7_count_165 a0 a1
  else
  if a1 = (10 : Int32) then
    J_X7_count_165 a0 a1
  else
  if a1 = (11 : Int32) then
    J_X7_count_165 a0 a1
  else
  if a1 = (12 : Int32) then
    J_X7_count_165 a0 a1
  else
  if a1 = (13 : Int32) then
    mv_bd (mv_gR 7 12 0 (some a0)) fun v27 =>
    mv_bd (mv_aI v27 (1 : Int32)) fun v28 =>
    mv_pu v28
  else
  if a1 = (14 : Int32) then
    mv_bd (mv_gR 7 12 0 (some a0)) fun v29 =>
    mv_bd (mv_aI v29 (2 : Int32)) fun v30 =>
    mv_pu v30
  else
  if a1 = (15 : Int32) then
    mv_bd (mv_gI 7 12 7 (some a0)) fun v31 =>
    mv_pu v31
  else
  if a1 = (16 : Int32) then
    mv_bd (mv_gI 7 12 3 (some a0)) fun v32 =>
    mv_pu v32
  else
  mv_pu ((-1) : Int32)

set_option maxHeartbeats 4000000 in
set_option maxRecDepth 100000 in
theorem c_X7_count (l : Launch) (N0 : Nat) (D : va_G) (dA : Nat → ClassId) (a0 : Nat) (a1 : Int32) : mv_SimM l N0 D dA yX7_count cX7_count 2 (some .int) 3 66 mv_rI [.ref (N0 + a0), .int a1] (F_X7_count a0 a1) := by
  refine mv_SimM_of (L0 := [(0, mv_vr N0 (some a0)), (1, .int a1)]) false (by decide +kernel) (Nat.le_of_ble_eq_true rfl) rfl (List.forall_mem_cons.mpr ⟨mv_cat N0 (some a0), List.forall_mem_cons.mpr ⟨rfl, fun _ h => absurd h List.not_mem_nil⟩⟩) (fun z => by cases z) ?_
  unfold F_X7_count
  show mv_Sim l N0 D dA RX7 cX7_count 2 3 66 (some .int) false mv_rI 0 _ _ _
  refine mv_iload_n 1 dX7_count_0 rfl rfl rfl ?_
  refine mv_ite (fun hs0 => ?_) (fun hs0 => ?_)
  · refine mv_tabIn (q := 84) dX7_count_1 (by rw [hs0]; decide) (by rw [hs0]; decide) (by rw [hs0]; rfl) rfl ?_
    refine mv_aload_n 0 dX7_count_84 rfl rfl rfl ?_
    refine mv_getR fd_X7_0 lk_X7_7 dX7_count_85 rfl (fun v3 => ?_)
    refine mv_iconst (v := (0 : Int32)) dX7_count_88 (by decide) rfl ?_
    refine mv_iald dX7_count_89 rfl (fun v4 => ?_)
    exact mv_iret dX7_count_90
  refine mv_ite (fun hs1 => ?_) (fun hs1 => ?_)
  · refine mv_tabIn (q := 91) dX7_count_1 (by rw [hs1]; decide) (by rw [hs1]; decide) (by rw [hs1]; rfl) rfl ?_
    refine mv_aload_n 0 dX7_count_91 rfl rfl rfl ?_
    refine mv_aload_n 0 dX7_count_92 rfl rfl rfl ?_
    refine mv_getR fd_X7_0 lk_X7_7 dX7_count_93 rfl (fun v5 => ?_)
    refine mv_iconst (v := (0 : Int32)) dX7_count_96 (by decide) rfl ?_
    refine mv_iald dX7_count_97 rfl (fun v6 => ?_)
    refine mv_callVi (st := []) [.int v6] (fun i8 => c_X7_stallOn l N0 D dA i8 v6) (T := TX7) rfl (by decide) wc_X7_54 ⟨by decide, by decide⟩ rfl (mv_cs (Nat.le_of_ble_eq_true rfl) (fun _ h => absurd h List.not_mem_nil)) dX7_count_98 rfl (fun v7 => ?_)
    refine mv_bipush (v := (6 : Int32)) dX7_count_101 (by decide) rfl ?_
    refine mv_icmp_ne (tgt := 111) dX7_count_103 rfl rfl ?_ ?_
    · refine mv_aload_n 0 dX7_count_111 rfl rfl rfl ?_
      refine mv_aload_n 0 dX7_count_112 rfl rfl rfl ?_
      refine mv_getR fd_X7_0 lk_X7_7 dX7_count_113 rfl (fun v9 => ?_)
      refine mv_iconst (v := (0 : Int32)) dX7_count_116 (by decide) rfl ?_
      refine mv_iald dX7_count_117 rfl (fun v10 => ?_)
      refine mv_callVi (st := []) [.int v10] (fun i12 => c_X7_stallOn l N0 D dA i12 v10) (T := TX7) rfl (by decide) wc_X7_54 ⟨by decide, by decide⟩ rfl (mv_cs (Nat.le_of_ble_eq_true rfl) (fun _ h => absurd h List.not_mem_nil)) dX7_count_118 rfl (fun v11 => ?_)
      refine mv_sub [0] rfl ?_
      exact sJ_X7_count_121 l N0 D dA a0 v11
    · refine mv_bipush (v := ((-4) : Int32)) dX7_count_106 (by decide) rfl ?_
      refine mv_goto (q := 121) dX7_count_108 rfl ?_
      refine mv_sub [0] rfl ?_
      exact sJ_X7_count_121 l N0 D dA a0 ((-4) : Int32)
  refine mv_ite (fun hs2 => ?_) (fun hs2 => ?_)
  · refine mv_tabIn (q := 122) dX7_count_1 (by rw [hs2]; decide) (by rw [hs2]; decide) (by rw [hs2]; rfl) rfl ?_
    refine mv_aload_n 0 dX7_count_122 rfl rfl rfl ?_
    refine mv_getR fd_X7_0 lk_X7_7 dX7_count_123 rfl (fun v13 => ?_)
    refine mv_iconst (v := (3 : Int32)) dX7_count_126 (by decide) rfl ?_
    refine mv_iald dX7_count_127 rfl (fun v14 => ?_)
    exact mv_iret dX7_count_128
  refine mv_ite (fun hs3 => ?_) (fun hs3 => ?_)
  · refine mv_tabIn (q := 129) dX7_count_1 (by rw [hs3]; decide) (by rw [hs3]; decide) (by rw [hs3]; rfl) rfl ?_
    refine mv_aload_n 0 dX7_count_129 rfl rfl rfl ?_
    refine mv_callVi (st := []) [] (fun i16 => c_X7_illOnes l N0 D dA i16 ) (T := TX7) rfl (by decide) wc_X7_158 ⟨by decide, by decide⟩ rfl (mv_cs (Nat.le_of_ble_eq_true rfl) (fun _ h => absurd h List.not_mem_nil)) dX7_count_130 rfl (fun v15 => ?_)
    exact mv_iret dX7_count_133
  refine mv_ite (fun hs4 => ?_) (fun hs4 => ?_)
  · refine mv_tabIn (q := 134) dX7_count_1 (by rw [hs4]; decide) (by rw [hs4]; decide) (by rw [hs4]; rfl) rfl ?_
    refine mv_aload_n 0 dX7_count_134 rfl rfl rfl ?_
    refine mv_getR fd_X7_0 lk_X7_7 dX7_count_135 rfl (fun v17 => ?_)
    refine mv_iconst (v := (4 : Int32)) dX7_count_138 (by decide) rfl ?_
    refine mv_iald dX7_count_139 rfl (fun v18 => ?_)
    exact mv_iret dX7_count_140
  refine mv_ite (fun hs5 => ?_) (fun hs5 => ?_)
  · refine mv_tabIn (q := 141) dX7_count_1 (by rw [hs5]; decide) (by rw [hs5]; decide) (by rw [hs5]; rfl) rfl ?_
    refine mv_aload_n 0 dX7_count_141 rfl rfl rfl ?_
    refine mv_iconst (v := (1 : Int32)) dX7_count_142 (by decide) rfl ?_
    refine mv_callVi (st := []) [.int (1 : Int32)] (fun i20 => c_X7_bundlesBy l N0 D dA i20 (1 : Int32)) (T := TX7) rfl (by decide) wc_X7_161 ⟨by decide, by decide⟩ rfl (mv_cs (Nat.le_of_ble_eq_true rfl) (fun _ h => absurd h List.not_mem_nil)) dX7_count_143 rfl (fun v19 => ?_)
    exact mv_iret dX7_count_146
  refine mv_ite (fun hs6 => ?_) (fun hs6 => ?_)
  · refine mv_tabIn (q := 147) dX7_count_1 (by rw [hs6]; decide) (by rw [hs6]; decide) (by rw [hs6]; rfl) rfl ?_
    refine mv_aload_n 0 dX7_count_147 rfl rfl rfl ?_
    refine mv_iconst (v := (2 : Int32)) dX7_count_148 (by decide) rfl ?_
    refine mv_callVi (st := []) [.int (2 : Int32)] (fun i22 => c_X7_bundlesBy l N0 D dA i22 (2 : Int32)) (T := TX7) rfl (by decide) wc_X7_161 ⟨by decide, by decide⟩ rfl (mv_cs (Nat.le_of_ble_eq_true rfl) (fun _ h => absurd h List.not_mem_nil)) dX7_count_149 rfl (fun v21 => ?_)
    exact mv_iret dX7_count_152
  refine mv_ite (fun hs7 => ?_) (fun hs7 => ?_)
  · refine mv_tabIn (q := 153) dX7_count_1 (by rw [hs7]; decide) (by rw [hs7]; decide) (by rw [hs7]; rfl) rfl ?_
    refine mv_aload_n 0 dX7_count_153 rfl rfl rfl ?_
    refine mv_iconst (v := (3 : Int32)) dX7_count_154 (by decide) rfl ?_
    refine mv_callVi (st := []) [.int (3 : Int32)] (fun i24 => c_X7_bundlesBy l N0 D dA i24 (3 : Int32)) (T := TX7) rfl (by decide) wc_X7_161 ⟨by decide, by decide⟩ rfl (mv_cs (Nat.le_of_ble_eq_true rfl) (fun _ h => absurd h List.not_mem_nil)) dX7_count_155 rfl (fun v23 => ?_)
    exact mv_iret dX7_count_158
  refine mv_ite (fun hs8 => ?_) (fun hs8 => ?_)
  · refine mv_tabIn (q := 159) dX7_count_1 (by rw [hs8]; decide) (by rw [hs8]; decide) (by rw [hs8]; rfl) rfl ?_
    refine mv_aload_n 0 dX7_count_159 rfl rfl rfl ?_
    refine mv_iconst (v := (5 : Int32)) dX7_count_160 (by decide) rfl ?_
    refine mv_callVi (st := []) [.int (5 : Int32)] (fun i26 => c_X7_bundlesBy l N0 D dA i26 (5 : Int32)) (T := TX7) rfl (by decide) wc_X7_161 ⟨by decide, by decide⟩ rfl (mv_cs (Nat.le_of_ble_eq_true rfl) (fun _ h => absurd h List.not_mem_nil)) dX7_count_161 rfl (fun v25 => ?_)
    exact mv_iret dX7_count_164
  refine mv_ite (fun hs9 => ?_) (fun hs9 => ?_)
  · refine mv_tabIn (q := 165) dX7_count_1 (by rw [hs9]; decide) (by rw [hs9]; decide) (by rw [hs9]; rfl) rfl ?_
    refine mv_sub [0, 1] rfl ?_
    exact sJ_X7_count_165 l N0 D dA a0 a1
  refine mv_ite (fun hs10 => ?_) (fun hs10 => ?_)
  · refine mv_tabIn (q := 165) dX7_count_1 (by rw [hs10]; decide) (by rw [hs10]; decide) (by rw [hs10]; rfl) rfl ?_
    refine mv_sub [0, 1] rfl ?_
    exact sJ_X7_count_165 l N0 D dA a0 a1
  refine mv_ite (fun hs11 => ?_) (fun hs11 => ?_)
  · refine mv_tabIn (q := 165) dX7_count_1 (by rw [hs11]; decide) (by rw [hs11]; decide) (by rw [hs11]; rfl) rfl ?_
    refine mv_sub [0, 1] rfl ?_
    exact sJ_X7_count_165 l N0 D dA a0 a1
  refine mv_ite (fun hs12 => ?_) (fun hs12 => ?_)
  · refine mv_tabIn (q := 165) dX7_count_1 (by rw [hs12]; decide) (by rw [hs12]; decide) (by rw [hs12]; rfl) rfl ?_
    refine mv_sub [0, 1] rfl ?_
    exact sJ_X7_count_165 l N0 D dA a0 a1
  refine mv_ite (fun hs13 => ?_) (fun hs13 => ?_)
  · refine mv_tabIn (q := 177) dX7_count_1 (by rw [hs13]; decide) (by rw [hs13]; decide) (by rw [hs13]; rfl) rfl ?_
    refine mv_aload_n 0 dX7_count_177 rfl rfl rfl ?_
    refine mv_getR fd_X7_0 lk_X7_7 dX7_count_178 rfl (fun v27 => ?_)
    refine mv_iconst (v := (1 : Int32)) dX7_count_181 (by decide) rfl ?_
    refine mv_iald dX7_count_182 rfl (fun v28 => ?_)
    exact mv_iret dX7_count_183
  refine mv_ite (fun hs14 => ?_) (fun hs14 => ?_)
  · refine mv_tabIn (q := 184) dX7_count_1 (by rw [hs14]; decide) (by rw [hs14]; decide) (by rw [hs14]; rfl) rfl ?_
    refine mv_aload_n 0 dX7_count_184 rfl rfl rfl ?_
    refine mv_getR fd_X7_0 lk_X7_7 dX7_count_185 rfl (fun v29 => ?_)
    refine mv_iconst (v := (2 : Int32)) dX7_count_188 (by decide) rfl ?_
    refine mv_iald dX7_count_189 rfl (fun v30 => ?_)
    exact mv_iret dX7_count_190
  refine mv_ite (fun hs15 => ?_) (fun hs15 => ?_)
  · refine mv_tabIn (q := 191) dX7_count_1 (by rw [hs15]; decide) (by rw [hs15]; decide) (by rw [hs15]; rfl) rfl ?_
    refine mv_aload_n 0 dX7_count_191 rfl rfl rfl ?_
    refine mv_getI fd_X7_7 lk_X7_113 dX7_count_192 rfl (fun v31 => ?_)
    exact mv_iret dX7_count_195
  refine mv_ite (fun hs16 => ?_) (fun hs16 => ?_)
  · refine mv_tabIn (q := 196) dX7_count_1 (by rw [hs16]; decide) (by rw [hs16]; decide) (by rw [hs16]; rfl) rfl ?_
    refine mv_aload_n 0 dX7_count_196 rfl rfl rfl ?_
    refine mv_getI fd_X7_3 lk_X7_28 dX7_count_197 rfl (fun v32 => ?_)
    exact mv_iret dX7_count_200
  refine mv_tabOut (q := 201) dX7_count_1 (by have z0 := lv_neT hs0 (show ((0 : Int32)).toInt = 0 by decide); have z1 := lv_neT hs1 (show ((1 : Int32)).toInt = 1 by decide); have z2 := lv_neT hs2 (show ((2 : Int32)).toInt = 2 by decide); have z3 := lv_neT hs3 (show ((3 : Int32)).toInt = 3 by decide); have z4 := lv_neT hs4 (show ((4 : Int32)).toInt = 4 by decide); have z5 := lv_neT hs5 (show ((5 : Int32)).toInt = 5 by decide); have z6 := lv_neT hs6 (show ((6 : Int32)).toInt = 6 by decide); have z7 := lv_neT hs7 (show ((7 : Int32)).toInt = 7 by decide); have z8 := lv_neT hs8 (show ((8 : Int32)).toInt = 8 by decide); have z9 := lv_neT hs9 (show ((9 : Int32)).toInt = 9 by decide); have z10 := lv_neT hs10 (show ((10 : Int32)).toInt = 10 by decide); have z11 := lv_neT hs11 (show ((11 : Int32)).toInt = 11 by decide); have z12 := lv_neT hs12 (show ((12 : Int32)).toInt = 12 by decide); have z13 := lv_neT hs13 (show ((13 : Int32)).toInt = 13 by decide); have z14 := lv_neT hs14 (show ((14 : Int32)).toInt = 14 by decide); have z15 := lv_neT hs15 (show ((15 : Int32)).toInt = 15 by decide); have z16 := lv_neT hs16 (show ((16 : Int32)).toInt = 16 by decide); omega) rfl ?_
  refine mv_iconst (v := ((-1) : Int32)) dX7_count_201 (by decide) rfl ?_
  exact mv_iret dX7_count_202

def J_X7_here_24 (a0 : Nat) (s0 : Int32) : mv_M Int32 :=
  mv_pu s0

set_option maxHeartbeats 4000000 in
set_option maxRecDepth 100000 in
theorem sJ_X7_here_24 (l : Launch) (N0 : Nat) (D : va_G) (dA : Nat → ClassId) (a0 : Nat) (s0 : Int32) : mv_Sim l N0 D dA RX7 cX7_here 1 0 0 (some .int) false mv_rI 24 [(0, mv_vr N0 (some a0))] [.int s0] (J_X7_here_24 a0 s0) := by
  unfold J_X7_here_24
  exact mv_iret dX7_here_24

def F_X7_here (a0 : Nat) : mv_M Int32 :=
  mv_bd (mv_gI 7 12 8 (some a0)) fun v1 =>
  mv_bd (mv_gI 7 12 7 (some a0)) fun v2 =>
  if v2 ≤ v1 then
    J_X7_here_24 a0 (0 : Int32)
  else
    mv_bd (mv_gR 7 12 6 (some a0)) fun v3 =>
    mv_bd (mv_gI 7 12 8 (some a0)) fun v4 =>
    mv_bd (mv_aI v3 v4) fun v5 =>
    J_X7_here_24 a0 v5

set_option maxHeartbeats 4000000 in
set_option maxRecDepth 100000 in
theorem c_X7_here (l : Launch) (N0 : Nat) (D : va_G) (dA : Nat → ClassId) (a0 : Nat) : mv_SimM l N0 D dA yX7_here cX7_here 1 (some .int) 0 0 mv_rI [.ref (N0 + a0)] (F_X7_here a0) := by
  refine mv_SimM_of (L0 := [(0, mv_vr N0 (some a0))]) false (by decide +kernel) (Nat.le_of_ble_eq_true rfl) rfl (List.forall_mem_cons.mpr ⟨mv_cat N0 (some a0), fun _ h => absurd h List.not_mem_nil⟩) (fun z => by cases z) ?_
  unfold F_X7_here
  show mv_Sim l N0 D dA RX7 cX7_here 1 0 0 (some .int) false mv_rI 0 _ _ _
  refine mv_aload_n 0 dX7_here_0 rfl rfl rfl ?_
  refine mv_getI fd_X7_8 lk_X7_116 dX7_here_1 rfl (fun v1 => ?_)
  refine mv_aload_n 0 dX7_here_4 rfl rfl rfl ?_
  refine mv_getI fd_X7_7 lk_X7_113 dX7_here_5 rfl (fun v2 => ?_)
  refine mv_icmp_ge (tgt := 23) dX7_here_8 rfl rfl ?_ ?_
  · refine mv_iconst (v := (0 : Int32)) dX7_here_23 (by decide) rfl ?_
    refine mv_sub [0] rfl ?_
    exact sJ_X7_here_24 l N0 D dA a0 (0 : Int32)
  · refine mv_aload_n 0 dX7_here_11 rfl rfl rfl ?_
    refine mv_getR fd_X7_6 lk_X7_22 dX7_here_12 rfl (fun v3 => ?_)
    refine mv_aload_n 0 dX7_here_15 rfl rfl rfl ?_
    refine mv_getI fd_X7_8 lk_X7_116 dX7_here_16 rfl (fun v4 => ?_)
    refine mv_iald dX7_here_19 rfl (fun v5 => ?_)
    refine mv_goto (q := 24) dX7_here_20 rfl ?_
    refine mv_sub [0] rfl ?_
    exact sJ_X7_here_24 l N0 D dA a0 v5

def J_X7_takes_37 (a0 : Nat) (s1 : Int32) (s2 : Int32) : mv_M Unit :=
  mv_bd (mv_sI 7 12 8 (some a0) (s1 + s2)) fun _ =>
  mv_pu ()

set_option maxHeartbeats 4000000 in
set_option maxRecDepth 100000 in
theorem sJ_X7_takes_37 (l : Launch) (N0 : Nat) (D : va_G) (dA : Nat → ClassId) (a0 : Nat) (s1 : Int32) (s2 : Int32) : mv_Sim l N0 D dA RX7 cX7_takes 2 0 0 none false mv_rV 37 [(0, mv_vr N0 (some a0))] [.int s2, .int s1, mv_vr N0 (some a0)] (J_X7_takes_37 a0 s1 s2) := by
  unfold J_X7_takes_37
  refine mv_iadd dX7_takes_37 rfl ?_
  refine mv_putI fd_X7_8 rfl (tyX7_ok 8 (by decide)) lk_X7_116 dX7_takes_38 rfl ?_
  exact mv_vret dX7_takes_41

def J_X7_takes_17 (a0 : Nat) (s1 : Int32) : mv_M Unit :=
  mv_bd (mv_sZ 7 12 9 (some a0) s1) fun _ =>
  mv_bd (mv_gI 7 12 8 (some a0)) fun v1 =>
  mv_bd (mv_gI 7 12 9 (some a0)) fun v2 =>
  if v2 = 0 then
    J_X7_takes_37 a0 v1 (0 : Int32)
  else
    J_X7_takes_37 a0 v1 (1 : Int32)

set_option maxHeartbeats 4000000 in
set_option maxRecDepth 100000 in
theorem sJ_X7_takes_17 (l : Launch) (N0 : Nat) (D : va_G) (dA : Nat → ClassId) (a0 : Nat) (s1 : Int32) : mv_Sim l N0 D dA RX7 cX7_takes 2 0 0 none false mv_rV 17 [(0, mv_vr N0 (some a0))] [.int s1, mv_vr N0 (some a0)] (J_X7_takes_17 a0 s1) := by
  unfold J_X7_takes_17
  refine mv_putZ fd_X7_9 rfl (tyX7_ok 9 (by decide)) lk_X7_119 dX7_takes_17 rfl ?_
  refine mv_aload_n 0 dX7_takes_20 rfl rfl rfl ?_
  refine mv_dup dX7_takes_21 (mv_cat N0 (some a0)) rfl ?_
  refine mv_getI fd_X7_8 lk_X7_116 dX7_takes_22 rfl (fun v1 => ?_)
  refine mv_aload_n 0 dX7_takes_25 rfl rfl rfl ?_
  refine mv_getI fd_X7_9 lk_X7_119 dX7_takes_26 rfl (fun v2 => ?_)
  refine mv_if_eq (tgt := 36) dX7_takes_29 rfl rfl ?_ ?_
  · refine mv_iconst (v := (0 : Int32)) dX7_takes_36 (by decide) rfl ?_
    refine mv_sub [0] rfl ?_
    exact sJ_X7_takes_37 l N0 D dA a0 v1 (0 : Int32)
  · refine mv_iconst (v := (1 : Int32)) dX7_takes_32 (by decide) rfl ?_
    refine mv_goto (q := 37) dX7_takes_33 rfl ?_
    refine mv_sub [0] rfl ?_
    exact sJ_X7_takes_37 l N0 D dA a0 v1 (1 : Int32)

def J_X7_takes_16 (a0 : Nat) : mv_M Unit :=
  J_X7_takes_17 a0 (0 : Int32)

set_option maxHeartbeats 4000000 in
set_option maxRecDepth 100000 in
theorem sJ_X7_takes_16 (l : Launch) (N0 : Nat) (D : va_G) (dA : Nat → ClassId) (a0 : Nat) : mv_Sim l N0 D dA RX7 cX7_takes 2 0 0 none false mv_rV 16 [(0, mv_vr N0 (some a0))] [mv_vr N0 (some a0)] (J_X7_takes_16 a0) := by
  unfold J_X7_takes_16
  refine mv_iconst (v := (0 : Int32)) dX7_takes_16 (by decide) rfl ?_
  refine mv_sub [0] rfl ?_
  exact sJ_X7_takes_17 l N0 D dA a0 (0 : Int32)

def F_X7_takes (a0 : Nat) (a1 : Int32) : mv_M Unit :=
  mv_bd (mv_gI 7 12 9 (some a0)) fun v3 =>
  if v3 = 0 then
    J_X7_takes_16 a0
  else
    if a1 = 0 then
      J_X7_takes_16 a0
    else
      J_X7_takes_17 a0 (1 : Int32)

set_option maxHeartbeats 4000000 in
set_option maxRecDepth 100000 in
theorem c_X7_takes (l : Launch) (N0 : Nat) (D : va_G) (dA : Nat → ClassId) (a0 : Nat) (a1 : Int32) : mv_SimM l N0 D dA yX7_takes cX7_takes 2 none 0 0 mv_rV [.ref (N0 + a0), .int a1] (F_X7_takes a0 a1) := by
  refine mv_SimM_of (L0 := [(0, mv_vr N0 (some a0)), (1, .int a1)]) false (by decide +kernel) (Nat.le_of_ble_eq_true rfl) rfl (List.forall_mem_cons.mpr ⟨mv_cat N0 (some a0), List.forall_mem_cons.mpr ⟨rfl, fun _ h => absurd h List.not_mem_nil⟩⟩) (fun z => by cases z) ?_
  unfold F_X7_takes
  show mv_Sim l N0 D dA RX7 cX7_takes 2 0 0 none false mv_rV 0 _ _ _
  refine mv_aload_n 0 dX7_takes_0 rfl rfl rfl ?_
  refine mv_aload_n 0 dX7_takes_1 rfl rfl rfl ?_
  refine mv_getI fd_X7_9 lk_X7_119 dX7_takes_2 rfl (fun v3 => ?_)
  refine mv_if_eq (tgt := 16) dX7_takes_5 rfl rfl ?_ ?_
  · refine mv_sub [0] rfl ?_
    exact sJ_X7_takes_16 l N0 D dA a0
  · refine mv_iload_n 1 dX7_takes_8 rfl rfl rfl ?_
    refine mv_if_eq (tgt := 16) dX7_takes_9 rfl rfl ?_ ?_
    · refine mv_sub [0] rfl ?_
      exact sJ_X7_takes_16 l N0 D dA a0
    · refine mv_iconst (v := (1 : Int32)) dX7_takes_12 (by decide) rfl ?_
      refine mv_goto (q := 17) dX7_takes_13 rfl ?_
      refine mv_sub [0] rfl ?_
      exact sJ_X7_takes_17 l N0 D dA a0 (1 : Int32)

end
